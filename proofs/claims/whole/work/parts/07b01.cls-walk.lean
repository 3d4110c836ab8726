set_option maxRecDepth 100000 in
set_option maxHeartbeats 4000000 in
theorem M_X6_init (l : Launch) (bs : Nat) (D : va_G) (ct : Nat → ClassId) (n : Nat) (h : jq_H) (a : Nat) (res : jq_H) (he : X6_init n h a = some res) : jq_M l yX6_init cX6_init 1 none rm_X6_init (jq_P [.ref a] bs D ct h) (jq_Qv bs D ct res) bs := by
  refine jq_start2 (by decide +kernel) (Nat.le_of_ble_eq_true rfl) ?_
  intro p e s m args below meth c ls H locs C hr hlk hin hl X
  have C : jq_C p s m args c cX6_init 1 RX6 D ct bs := C
  have hin : meth.name = "<init>" := hin
  have hl : lv_has ls 1 [(0, .ref a)] := hl
  unfold X6_init at he
  refine lv_aload_n C.1 C.2.1 dX6_init_0 rfl (lv_at hl 0 rfl) ?_
  refine W.objInit C.1 C.2.1 C.2.2.2.1 (C.2.2.2.2.1 _ gw_29) (C.2.2.2.2.1 _ gw_22) (C.2.2.2.2.1 _ gw_23) rfl (hl.1.trans C.2.2.1.symm) rfl dX6_init_1 (by decide) (Nat.le_of_ble_eq_true rfl) ?_
  refine W.eq (g2 := F0 m 4 ls []) rfl ?_
  refine lv_aload_n C.1 C.2.1 dX6_init_4 rfl (lv_at hl 0 rfl) ?_
  refine lv_bipush (v := 64) C.1 C.2.1 dX6_init_5 (by decide) ?_
  refine jq_rnewI (aty := .int) C X (Or.inl ⟨rfl, rfl⟩) gw_61 (by decide) he (by decide) (by decide) dX6_init_7 (fun z1 H he X => ?_)
  refine jq_rpF (ty := .array .int) C X fs_X6_9 hin rfl (by decide +kernel) rfl rfl he dX6_init_9 (fun h2 H locs he X => ?_)
  refine lv_aload_n C.1 C.2.1 dX6_init_12 rfl (lv_at hl 0 rfl) ?_
  refine lv_bipush (v := 64) C.1 C.2.1 dX6_init_13 (by decide) ?_
  refine jq_rnewI (aty := .int) C X (Or.inl ⟨rfl, rfl⟩) gw_61 (by decide) he (by decide) (by decide) dX6_init_15 (fun z3 H he X => ?_)
  refine jq_rpF (ty := .array .int) C X fs_X6_15 hin rfl (by decide +kernel) rfl rfl he dX6_init_17 (fun h4 H locs he X => ?_)
  refine lv_aload_n C.1 C.2.1 dX6_init_20 rfl (lv_at hl 0 rfl) ?_
  refine lv_bipush (v := 64) C.1 C.2.1 dX6_init_21 (by decide) ?_
  refine jq_rnewI (aty := .int) C X (Or.inl ⟨rfl, rfl⟩) gw_61 (by decide) he (by decide) (by decide) dX6_init_23 (fun z5 H he X => ?_)
  refine jq_rpF (ty := .array .int) C X fs_X6_18 hin rfl (by decide +kernel) rfl rfl he dX6_init_25 (fun h6 H locs he X => ?_)
  refine lv_aload_n C.1 C.2.1 dX6_init_28 rfl (lv_at hl 0 rfl) ?_
  refine lv_bipush (v := 64) C.1 C.2.1 dX6_init_29 (by decide) ?_
  refine jq_rnewI (aty := .int) C X (Or.inl ⟨rfl, rfl⟩) gw_61 (by decide) he (by decide) (by decide) dX6_init_31 (fun z7 H he X => ?_)
  refine jq_rpF (ty := .array .int) C X fs_X6_21 hin rfl (by decide +kernel) rfl rfl he dX6_init_33 (fun h8 H locs he X => ?_)
  refine lv_aload_n C.1 C.2.1 dX6_init_36 rfl (lv_at hl 0 rfl) ?_
  refine lv_bipush (v := 8) C.1 C.2.1 dX6_init_37 (by decide) ?_
  refine jq_rnewI (aty := .int) C X (Or.inl ⟨rfl, rfl⟩) gw_61 (by decide) he (by decide) (by decide) dX6_init_39 (fun z9 H he X => ?_)
  refine jq_rpF (ty := .array .int) C X fs_X6_24 hin rfl (by decide +kernel) rfl rfl he dX6_init_41 (fun h10 H locs he X => ?_)
  refine lv_aload_n C.1 C.2.1 dX6_init_44 rfl (lv_at hl 0 rfl) ?_
  refine lv_bipush (v := 32) C.1 C.2.1 dX6_init_45 (by decide) ?_
  refine jq_rnewI (aty := .int) C X (Or.inl ⟨rfl, rfl⟩) gw_61 (by decide) he (by decide) (by decide) dX6_init_47 (fun z11 H he X => ?_)
  refine jq_rpF (ty := .array .int) C X fs_X6_27 hin rfl (by decide +kernel) rfl rfl he dX6_init_49 (fun h12 H locs he X => ?_)
  exact jq_vret C X hr hlk he (by decide) (by decide) dX6_init_52
set_option maxRecDepth 100000 in
set_option maxHeartbeats 4000000 in
theorem M_X7_init (l : Launch) (bs : Nat) (D : va_G) (ct : Nat → ClassId) (n : Nat) (h : jq_H) (a : Nat) (res : jq_H) (he : X7_init n h a = some res) : jq_M l yX7_init cX7_init 1 none rm_X7_init (jq_P [.ref a] bs D ct h) (jq_Qv bs D ct res) bs := by
  refine jq_start2 (by decide +kernel) (Nat.le_of_ble_eq_true rfl) ?_
  intro p e s m args below meth c ls H locs C hr hlk hin hl X
  have C : jq_C p s m args c cX7_init 1 RX7 D ct bs := C
  have hin : meth.name = "<init>" := hin
  have hl : lv_has ls 1 [(0, .ref a)] := hl
  unfold X7_init at he
  refine lv_aload_n C.1 C.2.1 dX7_init_0 rfl (lv_at hl 0 rfl) ?_
  refine W.objInit C.1 C.2.1 C.2.2.2.1 (C.2.2.2.2.1 _ gw_67) (C.2.2.2.2.1 _ gw_22) (C.2.2.2.2.1 _ gw_23) rfl (hl.1.trans C.2.2.1.symm) rfl dX7_init_1 (by decide) (Nat.le_of_ble_eq_true rfl) ?_
  refine W.eq (g2 := F0 m 4 ls []) rfl ?_
  refine lv_aload_n C.1 C.2.1 dX7_init_4 rfl (lv_at hl 0 rfl) ?_
  refine lv_sipush (v := 3000) C.1 C.2.1 dX7_init_5 (by decide) ?_
  refine jq_rnewI (aty := .int) C X (Or.inl ⟨rfl, rfl⟩) gw_61 (by decide) he (by decide) (by decide) dX7_init_8 (fun z1 H he X => ?_)
  refine jq_rpF (ty := .array .int) C X fs_X7_11 hin rfl (by decide +kernel) rfl rfl he dX7_init_10 (fun h2 H locs he X => ?_)
  refine lv_aload_n C.1 C.2.1 dX7_init_13 rfl (lv_at hl 0 rfl) ?_
  refine lv_sipush (v := 128) C.1 C.2.1 dX7_init_14 (by decide) ?_
  refine jq_rnewI (aty := .int) C X (Or.inl ⟨rfl, rfl⟩) gw_61 (by decide) he (by decide) (by decide) dX7_init_17 (fun z3 H he X => ?_)
  refine jq_rpF (ty := .array .int) C X fs_X7_15 hin rfl (by decide +kernel) rfl rfl he dX7_init_19 (fun h4 H locs he X => ?_)
  refine lv_aload_n C.1 C.2.1 dX7_init_22 rfl (lv_at hl 0 rfl) ?_
  refine lv_sipush (v := 16384) C.1 C.2.1 dX7_init_23 (by decide) ?_
  refine jq_rnewI (aty := .int) C X (Or.inl ⟨rfl, rfl⟩) gw_61 (by decide) he (by decide) (by decide) dX7_init_26 (fun z5 H he X => ?_)
  refine jq_rpF (ty := .array .int) C X fs_X7_18 hin rfl (by decide +kernel) rfl rfl he dX7_init_28 (fun h6 H locs he X => ?_)
  refine lv_aload_n C.1 C.2.1 dX7_init_31 rfl (lv_at hl 0 rfl) ?_
  refine lv_sipush (v := 3000) C.1 C.2.1 dX7_init_32 (by decide) ?_
  refine jq_rnewI (aty := .int) C X (Or.inl ⟨rfl, rfl⟩) gw_61 (by decide) he (by decide) (by decide) dX7_init_35 (fun z7 H he X => ?_)
  refine jq_rpF (ty := .array .int) C X fs_X7_21 hin rfl (by decide +kernel) rfl rfl he dX7_init_37 (fun h8 H locs he X => ?_)
  refine lv_aload_n C.1 C.2.1 dX7_init_40 rfl (lv_at hl 0 rfl) ?_
  refine lv_bipush (v := 64) C.1 C.2.1 dX7_init_41 (by decide) ?_
  refine jq_rnewI (aty := .int) C X (Or.inl ⟨rfl, rfl⟩) gw_61 (by decide) he (by decide) (by decide) dX7_init_43 (fun z9 H he X => ?_)
  refine jq_rpF (ty := .array .int) C X fs_X7_24 hin rfl (by decide +kernel) rfl rfl he dX7_init_45 (fun h10 H locs he X => ?_)
  exact jq_vret C X hr hlk he (by decide) (by decide) dX7_init_48
set_option maxRecDepth 100000 in
set_option maxHeartbeats 4000000 in
theorem M_X10_init (l : Launch) (bs : Nat) (D : va_G) (ct : Nat → ClassId) (n : Nat) (h : jq_H) (a : Nat) (res : jq_H) (he : X10_init n h a = some res) : jq_M l yX10_init cX10_init 1 none rm_X10_init (jq_P [.ref a] bs D ct h) (jq_Qv bs D ct res) bs := by
  refine jq_start2 (by decide +kernel) (Nat.le_of_ble_eq_true rfl) ?_
  intro p e s m args below meth c ls H locs C hr hlk hin hl X
  have C : jq_C p s m args c cX10_init 1 RX10 D ct bs := C
  have hin : meth.name = "<init>" := hin
  have hl : lv_has ls 1 [(0, .ref a)] := hl
  unfold X10_init at he
  refine lv_aload_n C.1 C.2.1 dX10_init_0 rfl (lv_at hl 0 rfl) ?_
  refine W.objInit C.1 C.2.1 C.2.2.2.1 (C.2.2.2.2.1 _ gw_21) (C.2.2.2.2.1 _ gw_22) (C.2.2.2.2.1 _ gw_23) rfl (hl.1.trans C.2.2.1.symm) rfl dX10_init_1 (by decide) (Nat.le_of_ble_eq_true rfl) ?_
  refine W.eq (g2 := F0 m 4 ls []) rfl ?_
  refine lv_aload_n C.1 C.2.1 dX10_init_4 rfl (lv_at hl 0 rfl) ?_
  refine jq_rnewO (fs := [.null, .null, .null, .null, .null, .null, .int 0, .int 0]) C X cf_X6 gw_24 gw_25 gw_2 (fun j hj => by rcases (show j = 0 ∨ j = 1 ∨ j = 2 ∨ j = 3 ∨ j = 4 ∨ j = 5 ∨ j = 6 ∨ j = 7 by omega) with rfl | rfl | rfl | rfl | rfl | rfl | rfl | rfl <;> rfl) he (by decide) (by decide) dX10_init_5 (fun z1 H he X => ?_)
  refine lv_dup C.1 C.2.1 dX10_init_8 rfl ?_
  obtain ⟨z2, hz2, he⟩ := jq_b he
  refine jq_gv (jq_runI (a := z1.1) (av := []) C X (M_X6_init l bs D ct n z1.2 z1.1 _ hz2) mf_X6_init rfl gw_27 (Or.inr ⟨_, gw_26⟩) rfl hl.1 rfl (Nat.le_of_ble_eq_true rfl) ⟨by decide, by decide⟩ ⟨by decide, by decide⟩ dX10_init_9) X (fun H locs X => ?_)
  refine jq_rpF (ty := .object "WayGuesses$Machine") C X fs_X10_12 hin rfl (by decide +kernel) rfl rfl he dX10_init_12 (fun h3 H locs he X => ?_)
  refine lv_aload_n C.1 C.2.1 dX10_init_15 rfl (lv_at hl 0 rfl) ?_
  refine jq_rnewO (fs := [.null, .null, .null, .null, .null, .int 0, .int 0, .int 0]) C X cf_X7 gw_62 gw_63 gw_3 (fun j hj => by rcases (show j = 0 ∨ j = 1 ∨ j = 2 ∨ j = 3 ∨ j = 4 ∨ j = 5 ∨ j = 6 ∨ j = 7 by omega) with rfl | rfl | rfl | rfl | rfl | rfl | rfl | rfl <;> rfl) he (by decide) (by decide) dX10_init_16 (fun z4 H he X => ?_)
  refine lv_dup C.1 C.2.1 dX10_init_19 rfl ?_
  obtain ⟨z5, hz5, he⟩ := jq_b he
  refine jq_gv (jq_runI (a := z4.1) (av := []) C X (M_X7_init l bs D ct n z4.2 z4.1 _ hz5) mf_X7_init rfl gw_65 (Or.inr ⟨_, gw_64⟩) rfl hl.1 rfl (Nat.le_of_ble_eq_true rfl) ⟨by decide, by decide⟩ ⟨by decide, by decide⟩ dX10_init_20) X (fun H locs X => ?_)
  refine jq_rpF (ty := .object "WayGuesses$Row") C X fs_X10_19 hin rfl (by decide +kernel) rfl rfl he dX10_init_23 (fun h6 H locs he X => ?_)
  refine lv_aload_n C.1 C.2.1 dX10_init_26 rfl (lv_at hl 0 rfl) ?_
  refine lv_bipush (v := 8) C.1 C.2.1 dX10_init_27 (by decide) ?_
  refine jq_rnewR C X (Or.inl ⟨rfl, rfl⟩) gw_96 gw_97 (by decide) he (by decide) (by decide) dX10_init_29 (fun z7 H he X => ?_)
  refine jq_rpF (ty := .array (.object "WayGuesses$Guesser")) C X fs_X10_25 hin rfl (by decide +kernel) rfl rfl he dX10_init_32 (fun h8 H locs he X => ?_)
  exact jq_vret C X hr hlk he (by decide) (by decide) dX10_init_35
set_option maxRecDepth 100000 in
set_option maxHeartbeats 4000000 in
theorem TX10_within_b15 {p : Program} {l : Launch} {e : Env} {s : State} {m : MethodId} {args : Array Value} {below : List Frame} {meth : Method} {c : Code} {D : va_G} {ct : Nat → ClassId} {bs : Nat} {res : Int32 × jq_H} {n : Nat} (C : jq_C p s m args c cX10_within 3 RX10 D ct bs) (hr : meth.sig.returnType = (some .boolean)) (hlk : meth.locks = false) {s0 : Int32} {h : jq_H} {H : Heap} {locs : List Loc} {ls : Array Slot} (X : jq_X bs D ct s.heap h H locs) (hl : lv_has ls 3 []) (he : X10_within_b15 n s0 h = some res) :
    W p l e rm_X10_within s m args below meth c H locs 0 0 (MQ below (jq_Qi bs D ct res) args s rm_X10_within.cells rm_X10_within.slots (fun q => bs ≤ q)) (F0 m 15 ls [.int s0]) := by
  unfold X10_within_b15 at he
  exact jq_zret C X hr hlk he (by decide) (by decide) dX10_within_15
set_option maxRecDepth 100000 in
set_option maxHeartbeats 4000000 in
theorem TX10_within_b14 {p : Program} {l : Launch} {e : Env} {s : State} {m : MethodId} {args : Array Value} {below : List Frame} {meth : Method} {c : Code} {D : va_G} {ct : Nat → ClassId} {bs : Nat} {res : Int32 × jq_H} {n : Nat} (C : jq_C p s m args c cX10_within 3 RX10 D ct bs) (hr : meth.sig.returnType = (some .boolean)) (hlk : meth.locks = false) {h : jq_H} {H : Heap} {locs : List Loc} {ls : Array Slot} (X : jq_X bs D ct s.heap h H locs) (hl : lv_has ls 3 []) (he : X10_within_b14 n h = some res) :
    W p l e rm_X10_within s m args below meth c H locs 0 0 (MQ below (jq_Qi bs D ct res) args s rm_X10_within.cells rm_X10_within.slots (fun q => bs ≤ q)) (F0 m 14 ls []) := by
  unfold X10_within_b14 at he
  refine lv_iconst (v := 0) C.1 C.2.1 dX10_within_14 (by decide) ?_
  exact TX10_within_b15 (n := n) C hr hlk X (lv_sub hl [] rfl) he
set_option maxRecDepth 100000 in
set_option maxHeartbeats 4000000 in
theorem M_X10_within (l : Launch) (bs : Nat) (D : va_G) (ct : Nat → ClassId) (n : Nat) (h : jq_H) (p0 : Int32) (p1 : Int32) (p2 : Int32) (res : Int32 × jq_H) (he : X10_within n h p0 p1 p2 = some res) : jq_M l yX10_within cX10_within 3 (some .boolean) rm_X10_within (jq_P [.int p0, .int p1, .int p2] bs D ct h) (jq_Qi bs D ct res) bs := by
  refine jq_start2 (by decide +kernel) (Nat.le_of_ble_eq_true rfl) ?_
  intro p e s m args below meth c ls H locs C hr hlk hin hl X
  have C : jq_C p s m args c cX10_within 3 RX10 D ct bs := C
  have hin : meth.name = "within" := hin
  have hl : lv_has ls 3 [(0, .int p0), (1, .int p1), (2, .int p2)] := hl
  unfold X10_within at he
  refine lv_iload_n C.1 C.2.1 dX10_within_0 rfl (lv_at hl 0 rfl) ?_
  refine lv_iload_n C.1 C.2.1 dX10_within_1 rfl (lv_at hl 1 rfl) ?_
  refine lv_icmp_lt (tgt := 14) C.1 C.2.1 dX10_within_2 (by decide) (fun hc1 => ?_) (fun hc1 => ?_)
  · have he := jq_t hc1 he
    exact TX10_within_b14 (n := n) C hr hlk X (lv_sub hl [] rfl) he
  · have he := jq_n hc1 he
    refine lv_iload_n C.1 C.2.1 dX10_within_5 rfl (lv_at hl 0 rfl) ?_
    refine lv_iload_n C.1 C.2.1 dX10_within_6 rfl (lv_at hl 2 rfl) ?_
    refine lv_icmp_gt (tgt := 14) C.1 C.2.1 dX10_within_7 (by decide) (fun hc2 => ?_) (fun hc2 => ?_)
    · have he := jq_t hc2 he
      exact TX10_within_b14 (n := n) C hr hlk X (lv_sub hl [] rfl) he
    · have he := jq_n hc2 he
      refine lv_iconst (v := 1) C.1 C.2.1 dX10_within_10 (by decide) ?_
      refine lv_goto (tgt := 15) C.1 C.2.1 dX10_within_11 (by decide) ?_
      exact TX10_within_b15 (n := n) C hr hlk X (lv_sub hl [] rfl) he
set_option maxRecDepth 100000 in
set_option maxHeartbeats 4000000 in
theorem M_X10_isGuesser (l : Launch) (bs : Nat) (D : va_G) (ct : Nat → ClassId) (n : Nat) (h : jq_H) (a : Nat) (p0 : Int32) (res : Int32 × jq_H) (he : X10_isGuesser n h a p0 = some res) : jq_M l yX10_isGuesser cX10_isGuesser 2 (some .boolean) rm_X10_isGuesser (jq_P [.ref a, .int p0] bs D ct h) (jq_Qi bs D ct res) bs := by
  refine jq_start2 (by decide +kernel) (Nat.le_of_ble_eq_true rfl) ?_
  intro p e s m args below meth c ls H locs C hr hlk hin hl X
  have C : jq_C p s m args c cX10_isGuesser 2 RX10 D ct bs := C
  have hin : meth.name = "isGuesser" := hin
  have hl : lv_has ls 2 [(0, .ref a), (1, .int p0)] := hl
  unfold X10_isGuesser at he
  refine lv_iload_n C.1 C.2.1 dX10_isGuesser_0 rfl (lv_at hl 1 rfl) ?_
  refine lv_iconst (v := 0) C.1 C.2.1 dX10_isGuesser_1 (by decide) ?_
  refine lv_aload_n C.1 C.2.1 dX10_isGuesser_2 rfl (lv_at hl 0 rfl) ?_
  refine jq_rgI C X fs_X10_92 he dX10_isGuesser_3 (fun x1 he => ?_)
  refine lv_iconst (v := 1) C.1 C.2.1 dX10_isGuesser_6 (by decide) ?_
  refine lv_isub C.1 C.2.1 dX10_isGuesser_7 ?_
  obtain ⟨z2, hz2, he⟩ := jq_b he
  refine jq_gi (jq_runS (av := [.int p0, .int 0, .int (x1 - 1)]) C X (M_X10_within l bs D ct n h p0 0 (x1 - 1) _ hz2) mf_X10_within gw_122 (Or.inl gw_121) rfl hl.1 rfl (Nat.le_of_ble_eq_true rfl) ⟨by decide, by decide⟩ ⟨by decide, by decide⟩ dX10_isGuesser_8) X (fun H locs X => ?_)
  exact jq_zret C X hr hlk he (by decide) (by decide) dX10_isGuesser_11
set_option maxRecDepth 100000 in
set_option maxHeartbeats 4000000 in
theorem TX10_isIn_b14 {p : Program} {l : Launch} {e : Env} {s : State} {m : MethodId} {args : Array Value} {below : List Frame} {meth : Method} {c : Code} {D : va_G} {ct : Nat → ClassId} {bs : Nat} {res : Int32 × jq_H} {n : Nat} (C : jq_C p s m args c cX10_isIn 2 RX10 D ct bs) (hr : meth.sig.returnType = (some .boolean)) (hlk : meth.locks = false) {s0 : Int32} {h : jq_H} {H : Heap} {locs : List Loc} {ls : Array Slot} (X : jq_X bs D ct s.heap h H locs) (hl : lv_has ls 2 []) (he : X10_isIn_b14 n s0 h = some res) :
    W p l e rm_X10_isIn s m args below meth c H locs 0 0 (MQ below (jq_Qi bs D ct res) args s rm_X10_isIn.cells rm_X10_isIn.slots (fun q => bs ≤ q)) (F0 m 14 ls [.int s0]) := by
  unfold X10_isIn_b14 at he
  exact jq_zret C X hr hlk he (by decide) (by decide) dX10_isIn_14
set_option maxRecDepth 100000 in
set_option maxHeartbeats 4000000 in
theorem M_X10_isIn (l : Launch) (bs : Nat) (D : va_G) (ct : Nat → ClassId) (n : Nat) (h : jq_H) (p0 : Int32) (p1 : Int32) (res : Int32 × jq_H) (he : X10_isIn n h p0 p1 = some res) : jq_M l yX10_isIn cX10_isIn 2 (some .boolean) rm_X10_isIn (jq_P [.int p0, .int p1] bs D ct h) (jq_Qi bs D ct res) bs := by
  refine jq_start2 (by decide +kernel) (Nat.le_of_ble_eq_true rfl) ?_
  intro p e s m args below meth c ls H locs C hr hlk hin hl X
  have C : jq_C p s m args c cX10_isIn 2 RX10 D ct bs := C
  have hin : meth.name = "isIn" := hin
  have hl : lv_has ls 2 [(0, .int p0), (1, .int p1)] := hl
  unfold X10_isIn at he
  refine lv_iload_n C.1 C.2.1 dX10_isIn_0 rfl (lv_at hl 0 rfl) ?_
  refine lv_iload_n C.1 C.2.1 dX10_isIn_1 rfl (lv_at hl 1 rfl) ?_
  refine lv_ishr C.1 C.2.1 dX10_isIn_2 ?_
  refine lv_iconst (v := 1) C.1 C.2.1 dX10_isIn_3 (by decide) ?_
  refine lv_iand C.1 C.2.1 dX10_isIn_4 ?_
  refine lv_iconst (v := 1) C.1 C.2.1 dX10_isIn_5 (by decide) ?_
  refine lv_icmp_ne (tgt := 13) C.1 C.2.1 dX10_isIn_6 (by decide) (fun hc1 => ?_) (fun hc1 => ?_)
  · have he := jq_n hc1 he
    refine lv_iconst (v := 0) C.1 C.2.1 dX10_isIn_13 (by decide) ?_
    exact TX10_isIn_b14 (n := n) C hr hlk X (lv_sub hl [] rfl) he
  · have he := jq_t hc1 he
    refine lv_iconst (v := 1) C.1 C.2.1 dX10_isIn_9 (by decide) ?_
    refine lv_goto (tgt := 14) C.1 C.2.1 dX10_isIn_10 (by decide) ?_
    exact TX10_isIn_b14 (n := n) C hr hlk X (lv_sub hl [] rfl) he
set_option maxRecDepth 100000 in
set_option maxHeartbeats 4000000 in
theorem M_X0_asks (l : Launch) (bs : Nat) (D : va_G) (ct : Nat → ClassId) (n : Nat) (h : jq_H) (a : Nat) (res : Int32 × jq_H) (he : X0_asks n h a = some res) : jq_M l yX0_asks cX0_asks 1 (some .int) rm_X0_asks (jq_P [.ref a] bs D ct h) (jq_Qi bs D ct res) bs := by
  refine jq_start2 (by decide +kernel) (Nat.le_of_ble_eq_true rfl) ?_
  intro p e s m args below meth c ls H locs C hr hlk hin hl X
  have C : jq_C p s m args c cX0_asks 1 RX0 D ct bs := C
  have hin : meth.name = "asks" := hin
  have hl : lv_has ls 1 [(0, .ref a)] := hl
  unfold X0_asks at he
  refine lv_aload_n C.1 C.2.1 dX0_asks_0 rfl (lv_at hl 0 rfl) ?_
  refine jq_rgI C X fs_X0_16 he dX0_asks_1 (fun x1 he => ?_)
  exact jq_iret C X hr hlk he (by decide) (by decide) dX0_asks_4
set_option maxRecDepth 100000 in
set_option maxHeartbeats 4000000 in
theorem M_X3_asks (l : Launch) (bs : Nat) (D : va_G) (ct : Nat → ClassId) (n : Nat) (h : jq_H) (a : Nat) (res : Int32 × jq_H) (he : X3_asks n h a = some res) : jq_M l yX3_asks cX3_asks 1 (some .int) rm_X3_asks (jq_P [.ref a] bs D ct h) (jq_Qi bs D ct res) bs := by
  refine jq_start2 (by decide +kernel) (Nat.le_of_ble_eq_true rfl) ?_
  intro p e s m args below meth c ls H locs C hr hlk hin hl X
  have C : jq_C p s m args c cX3_asks 1 RX3 D ct bs := C
  have hin : meth.name = "asks" := hin
  have hl : lv_has ls 1 [(0, .ref a)] := hl
  unfold X3_asks at he
  refine lv_iconst (v := 0) C.1 C.2.1 dX3_asks_0 (by decide) ?_
  exact jq_iret C X hr hlk he (by decide) (by decide) dX3_asks_1
set_option maxRecDepth 100000 in
set_option maxHeartbeats 4000000 in
theorem TX10_groupOf_b36 {p : Program} {l : Launch} {e : Env} {s : State} {m : MethodId} {args : Array Value} {below : List Frame} {meth : Method} {c : Code} {D : va_G} {ct : Nat → ClassId} {bs : Nat} {res : Int32 × jq_H} {n : Nat} (C : jq_C p s m args c cX10_groupOf 4 RX10 D ct bs) (hr : meth.sig.returnType = (some .int)) (hlk : meth.locks = false) {v2 : Int32} {h : jq_H} {H : Heap} {locs : List Loc} {ls : Array Slot} (X : jq_X bs D ct s.heap h H locs) (hl : lv_has ls 4 [(2, .int v2)]) (he : X10_groupOf_b36 n v2 h = some res) :
    W p l e rm_X10_groupOf s m args below meth c H locs 0 0 (MQ below (jq_Qi bs D ct res) args s rm_X10_groupOf.cells rm_X10_groupOf.slots (fun q => bs ≤ q)) (F0 m 36 ls []) := by
  unfold X10_groupOf_b36 at he
  refine lv_iload_n C.1 C.2.1 dX10_groupOf_36 rfl (lv_at hl 0 rfl) ?_
  exact jq_iret C X hr hlk he (by decide) (by decide) dX10_groupOf_37
set_option maxRecDepth 100000 in
set_option maxHeartbeats 4000000 in
theorem TX10_groupOf_b30 {p : Program} {l : Launch} {e : Env} {s : State} {m : MethodId} {args : Array Value} {below : List Frame} {meth : Method} {c : Code} {D : va_G} {ct : Nat → ClassId} {bs : Nat} {res : Int32 × jq_H} {n : Nat} {KB : Nat → Int32 → Int32 → jq_H → Option (Int32 × jq_H)} {K36 : Int32 → jq_H → Option (Int32 × jq_H)} (C : jq_C p s m args c cX10_groupOf 4 RX10 D ct bs) (hr : meth.sig.returnType = (some .int)) (hlk : meth.locks = false) (hKB : ∀ (u0 : Nat) (u2 : Int32) (u3 : Int32) (h1 : jq_H) (H1 : Heap) (locs1 : List Loc) (ls1 : Array Slot), KB u0 u2 u3 h1 = some res → jq_X bs D ct s.heap h1 H1 locs1 → lv_has ls1 4 [(0, .ref u0), (2, .int u2), (3, .int u3)] → W p l e rm_X10_groupOf s m args below meth c H1 locs1 0 0 (MQ below (jq_Qi bs D ct res) args s rm_X10_groupOf.cells rm_X10_groupOf.slots (fun q => bs ≤ q)) (F0 m 6 ls1 [])) (hK36 : ∀ (u2 : Int32) (h1 : jq_H) (H1 : Heap) (locs1 : List Loc) (ls1 : Array Slot), K36 u2 h1 = some res → jq_X bs D ct s.heap h1 H1 locs1 → lv_has ls1 4 [(2, .int u2)] → W p l e rm_X10_groupOf s m args below meth c H1 locs1 0 0 (MQ below (jq_Qi bs D ct res) args s rm_X10_groupOf.cells rm_X10_groupOf.slots (fun q => bs ≤ q)) (F0 m 36 ls1 [])) {v0 : Nat} {v2 : Int32} {v3 : Int32} {h : jq_H} {H : Heap} {locs : List Loc} {ls : Array Slot} (X : jq_X bs D ct s.heap h H locs) (hl : lv_has ls 4 [(0, .ref v0), (2, .int v2), (3, .int v3)]) (he : X10_groupOf_b30 n KB K36 v0 v2 v3 h = some res) :
    W p l e rm_X10_groupOf s m args below meth c H locs 0 0 (MQ below (jq_Qi bs D ct res) args s rm_X10_groupOf.cells rm_X10_groupOf.slots (fun q => bs ≤ q)) (F0 m 30 ls []) := by
  unfold X10_groupOf_b30 at he
  obtain ⟨x1, hx1, he⟩ := jq_ln he
  refine lv_iinc (v := x1) (lv' := [(3, .int x1), (0, .ref v0), (2, .int v2)]) C.1 C.2.1 dX10_groupOf_30 hl (k := 2) rfl (by rw [hx1]; rfl) (by decide) rfl (fun ls hl => ?_)
  refine lv_goto (tgt := 6) C.1 C.2.1 dX10_groupOf_33 (by decide) ?_
  exact hKB _ _ _ _ _ _ _ he X (lv_sub hl [1, 2, 0] rfl)
set_option maxRecDepth 100000 in
set_option maxHeartbeats 4000000 in
theorem TX10_groupOf_b6 {p : Program} {l : Launch} {e : Env} {s : State} {m : MethodId} {args : Array Value} {below : List Frame} {meth : Method} {c : Code} {D : va_G} {ct : Nat → ClassId} {bs : Nat} {res : Int32 × jq_H} {n : Nat} {KB : Nat → Int32 → Int32 → jq_H → Option (Int32 × jq_H)} {K36 : Int32 → jq_H → Option (Int32 × jq_H)} (C : jq_C p s m args c cX10_groupOf 4 RX10 D ct bs) (hr : meth.sig.returnType = (some .int)) (hlk : meth.locks = false) (hKB : ∀ (u0 : Nat) (u2 : Int32) (u3 : Int32) (h1 : jq_H) (H1 : Heap) (locs1 : List Loc) (ls1 : Array Slot), KB u0 u2 u3 h1 = some res → jq_X bs D ct s.heap h1 H1 locs1 → lv_has ls1 4 [(0, .ref u0), (2, .int u2), (3, .int u3)] → W p l e rm_X10_groupOf s m args below meth c H1 locs1 0 0 (MQ below (jq_Qi bs D ct res) args s rm_X10_groupOf.cells rm_X10_groupOf.slots (fun q => bs ≤ q)) (F0 m 6 ls1 [])) (hK36 : ∀ (u2 : Int32) (h1 : jq_H) (H1 : Heap) (locs1 : List Loc) (ls1 : Array Slot), K36 u2 h1 = some res → jq_X bs D ct s.heap h1 H1 locs1 → lv_has ls1 4 [(2, .int u2)] → W p l e rm_X10_groupOf s m args below meth c H1 locs1 0 0 (MQ below (jq_Qi bs D ct res) args s rm_X10_groupOf.cells rm_X10_groupOf.slots (fun q => bs ≤ q)) (F0 m 36 ls1 [])) {v0 : Nat} {v2 : Int32} {v3 : Int32} {h : jq_H} {H : Heap} {locs : List Loc} {ls : Array Slot} (X : jq_X bs D ct s.heap h H locs) (hl : lv_has ls 4 [(0, .ref v0), (2, .int v2), (3, .int v3)]) (he : X10_groupOf_b6 n KB K36 v0 v2 v3 h = some res) :
    W p l e rm_X10_groupOf s m args below meth c H locs 0 0 (MQ below (jq_Qi bs D ct res) args s rm_X10_groupOf.cells rm_X10_groupOf.slots (fun q => bs ≤ q)) (F0 m 6 ls []) := by
  unfold X10_groupOf_b6 at he
  refine lv_iload_n C.1 C.2.1 dX10_groupOf_6 rfl (lv_at hl 2 rfl) ?_
  refine lv_if_lt (tgt := 36) C.1 C.2.1 dX10_groupOf_7 (by decide) (fun hc2 => ?_) (fun hc2 => ?_)
  · have he := jq_t hc2 he
    exact hK36 _ _ _ _ _ he X (lv_sub hl [1] rfl)
  · have he := jq_n hc2 he
    refine lv_iload_n C.1 C.2.1 dX10_groupOf_10 rfl (lv_at hl 1 rfl) ?_
    refine lv_iload_n C.1 C.2.1 dX10_groupOf_11 rfl (lv_at hl 2 rfl) ?_
    obtain ⟨z3, hz3, he⟩ := jq_b he
    refine jq_gi (jq_runS (av := [.int v2, .int v3]) C X (M_X10_isIn l bs D ct n h v2 v3 _ hz3) mf_X10_isIn gw_683 (Or.inl gw_682) rfl hl.1 rfl (Nat.le_of_ble_eq_true rfl) ⟨by decide, by decide⟩ ⟨by decide, by decide⟩ dX10_groupOf_12) X (fun H locs X => ?_)
    refine lv_if_eq (tgt := 30) C.1 C.2.1 dX10_groupOf_15 (by decide) (fun hc4 => ?_) (fun hc4 => ?_)
    · have he := jq_t hc4 he
      exact TX10_groupOf_b30 (n := n) C hr hlk hKB hK36 X (lv_sub hl [0, 1, 2] rfl) he
    · have he := jq_n hc4 he
      refine lv_iload_n C.1 C.2.1 dX10_groupOf_18 rfl (lv_at hl 1 rfl) ?_
      refine lv_aload_n C.1 C.2.1 dX10_groupOf_19 rfl (lv_at hl 0 rfl) ?_
      refine jq_rgR C X fs_X10_25 he dX10_groupOf_20 (fun q5 he => ?_)
      refine lv_iload_n C.1 C.2.1 dX10_groupOf_23 rfl (lv_at hl 2 rfl) ?_
      refine jq_rldN C X (Or.inl ⟨rfl, rfl⟩) he dX10_groupOf_24 (fun q6 he => ?_)
      obtain ⟨z7, hz7, he⟩ := jq_b he
      have hrun : va_Run p l e rm_X10_groupOf s m args below meth c H locs 0 0 0 0 (F0 m 25 ls [.ref q6, .int v2]) [.int v2] (jq_Qi bs D ct z7 (Value.ref q6 :: []).toArray) (fun q => bs ≤ q) := by
        unfold V_asks at hz7
        by_cases hci0 : jq_ci z3.2 q6 = 0
        · exact jq_runU (a := q6) (av := []) (x := ⟨"WayGuesses$Guesser", "asks", "()I"⟩) (owner := "WayGuesses$Guesser") (E := RX0) C X (M_X0_asks l bs D ct n z3.2 q6 _ (jq_t hci0 hz7)) mf_X0_asks gw_689 gw_688 gw_685 gw_687 (Or.inl ⟨_, _, _, gw_686, gw_696⟩) rfl ⟨by decide, by decide⟩ rc_X0 hci0 (by decide) rfl hl.1 rfl (Nat.le_of_ble_eq_true rfl) ⟨by decide, by decide⟩ ⟨by decide, by decide⟩ dX10_groupOf_25
        have hz7 := jq_n hci0 hz7
        by_cases hci1 : jq_ci z3.2 q6 = 1
        · exact jq_runU (a := q6) (av := []) (x := ⟨"WayGuesses$Guesser", "asks", "()I"⟩) (owner := "WayGuesses$Guesser") (E := RX1) C X (M_X3_asks l bs D ct n z3.2 q6 _ (jq_t hci1 hz7)) mf_X3_asks gw_686 gw_691 gw_685 gw_687 (Or.inl ⟨_, _, _, gw_686, gw_696⟩) rfl ⟨by decide, by decide⟩ rc_X1 hci1 (by decide) rfl hl.1 rfl (Nat.le_of_ble_eq_true rfl) ⟨by decide, by decide⟩ ⟨by decide, by decide⟩ dX10_groupOf_25
        have hz7 := jq_n hci1 hz7
        by_cases hci2 : jq_ci z3.2 q6 = 2
        · exact jq_runU (a := q6) (av := []) (x := ⟨"WayGuesses$Guesser", "asks", "()I"⟩) (owner := "WayGuesses$Guesser") (E := RX2) C X (M_X3_asks l bs D ct n z3.2 q6 _ (jq_t hci2 hz7)) mf_X3_asks gw_686 gw_692 gw_685 gw_687 (Or.inl ⟨_, _, _, gw_686, gw_696⟩) rfl ⟨by decide, by decide⟩ rc_X2 hci2 (by decide) rfl hl.1 rfl (Nat.le_of_ble_eq_true rfl) ⟨by decide, by decide⟩ ⟨by decide, by decide⟩ dX10_groupOf_25
        have hz7 := jq_n hci2 hz7
        by_cases hci4 : jq_ci z3.2 q6 = 4
        · exact jq_runU (a := q6) (av := []) (x := ⟨"WayGuesses$Guesser", "asks", "()I"⟩) (owner := "WayGuesses$Guesser") (E := RX5) C X (M_X3_asks l bs D ct n z3.2 q6 _ (jq_t hci4 hz7)) mf_X3_asks gw_686 gw_693 gw_685 gw_687 (Or.inl ⟨_, _, _, gw_686, gw_696⟩) rfl ⟨by decide, by decide⟩ rc_X5 hci4 (by decide) rfl hl.1 rfl (Nat.le_of_ble_eq_true rfl) ⟨by decide, by decide⟩ ⟨by decide, by decide⟩ dX10_groupOf_25
        have hz7 := jq_n hci4 hz7
        by_cases hci7 : jq_ci z3.2 q6 = 7
        · exact jq_runU (a := q6) (av := []) (x := ⟨"WayGuesses$Guesser", "asks", "()I"⟩) (owner := "WayGuesses$Guesser") (E := RX8) C X (M_X3_asks l bs D ct n z3.2 q6 _ (jq_t hci7 hz7)) mf_X3_asks gw_686 gw_694 gw_685 gw_687 (Or.inl ⟨_, _, _, gw_686, gw_696⟩) rfl ⟨by decide, by decide⟩ rc_X8 hci7 (by decide) rfl hl.1 rfl (Nat.le_of_ble_eq_true rfl) ⟨by decide, by decide⟩ ⟨by decide, by decide⟩ dX10_groupOf_25
        have hz7 := jq_n hci7 hz7
        by_cases hci8 : jq_ci z3.2 q6 = 8
        · exact jq_runU (a := q6) (av := []) (x := ⟨"WayGuesses$Guesser", "asks", "()I"⟩) (owner := "WayGuesses$Guesser") (E := RX9) C X (M_X3_asks l bs D ct n z3.2 q6 _ (jq_t hci8 hz7)) mf_X3_asks gw_686 gw_695 gw_685 gw_687 (Or.inl ⟨_, _, _, gw_686, gw_696⟩) rfl ⟨by decide, by decide⟩ rc_X9 hci8 (by decide) rfl hl.1 rfl (Nat.le_of_ble_eq_true rfl) ⟨by decide, by decide⟩ ⟨by decide, by decide⟩ dX10_groupOf_25
        have hz7 := jq_n hci8 hz7
        cases hz7
      refine jq_gi (hrun) X (fun H locs X => ?_)
      refine lv_ior C.1 C.2.1 dX10_groupOf_28 ?_
      obtain ⟨x8, hx8, he⟩ := jq_ln he
      refine jq_top hx8 ?_
      refine lv_istore_n (lv' := [(2, .int x8), (0, .ref v0), (3, .int v3)]) C.1 C.2.1 dX10_groupOf_29 rfl hl (by decide) rfl (fun ls hl => ?_)
      exact TX10_groupOf_b30 (n := n) C hr hlk hKB hK36 X (lv_sub hl [1, 0, 2] rfl) he
set_option maxRecDepth 100000 in
set_option maxHeartbeats 4000000 in
theorem TX10_groupOf_l6 {p : Program} {l : Launch} {e : Env} {s : State} {m : MethodId} {args : Array Value} {below : List Frame} {meth : Method} {c : Code} {D : va_G} {ct : Nat → ClassId} {bs : Nat} {res : Int32 × jq_H} {n : Nat} {K36 : Int32 → jq_H → Option (Int32 × jq_H)} (C : jq_C p s m args c cX10_groupOf 4 RX10 D ct bs) (hr : meth.sig.returnType = (some .int)) (hlk : meth.locks = false) (hK36 : ∀ (u2 : Int32) (h1 : jq_H) (H1 : Heap) (locs1 : List Loc) (ls1 : Array Slot), K36 u2 h1 = some res → jq_X bs D ct s.heap h1 H1 locs1 → lv_has ls1 4 [(2, .int u2)] → W p l e rm_X10_groupOf s m args below meth c H1 locs1 0 0 (MQ below (jq_Qi bs D ct res) args s rm_X10_groupOf.cells rm_X10_groupOf.slots (fun q => bs ≤ q)) (F0 m 36 ls1 [])) :
    ∀ (k : Nat) (v0 : Nat) (v2 : Int32) (v3 : Int32) (h : jq_H) (H : Heap) (locs : List Loc) (ls : Array Slot), X10_groupOf_l6 n K36 k v0 v2 v3 h = some res → jq_X bs D ct s.heap h H locs → lv_has ls 4 [(0, .ref v0), (2, .int v2), (3, .int v3)] → W p l e rm_X10_groupOf s m args below meth c H locs 0 0 (MQ below (jq_Qi bs D ct res) args s rm_X10_groupOf.cells rm_X10_groupOf.slots (fun q => bs ≤ q)) (F0 m 6 ls []) := by
  intro k
  induction k with
  | zero => intro v0 v2 v3 h H locs ls he; cases (show (none : Option (Int32 × jq_H)) = some res from he)
  | succ k ih =>
    intro v0 v2 v3 h H locs ls he X hl
    exact TX10_groupOf_b6 (n := n) C hr hlk (KB := X10_groupOf_l6 n K36 k) ih hK36 X hl he
set_option maxRecDepth 100000 in
set_option maxHeartbeats 4000000 in
theorem M_X10_groupOf (l : Launch) (bs : Nat) (D : va_G) (ct : Nat → ClassId) (n : Nat) (h : jq_H) (a : Nat) (p0 : Int32) (res : Int32 × jq_H) (he : X10_groupOf n h a p0 = some res) : jq_M l yX10_groupOf cX10_groupOf 4 (some .int) rm_X10_groupOf (jq_P [.ref a, .int p0] bs D ct h) (jq_Qi bs D ct res) bs := by
  refine jq_start2 (by decide +kernel) (Nat.le_of_ble_eq_true rfl) ?_
  intro p e s m args below meth c ls H locs C hr hlk hin hl X
  have C : jq_C p s m args c cX10_groupOf 4 RX10 D ct bs := C
  have hin : meth.name = "groupOf" := hin
  have hl : lv_has ls 4 [(0, .ref a), (1, .int p0)] := hl
  unfold X10_groupOf at he
  refine lv_iconst (v := 1) C.1 C.2.1 dX10_groupOf_0 (by decide) ?_
  refine lv_iload_n C.1 C.2.1 dX10_groupOf_1 rfl (lv_at hl 1 rfl) ?_
  refine lv_ishl C.1 C.2.1 dX10_groupOf_2 ?_
  obtain ⟨x9, hx9, he⟩ := jq_ln he
  refine jq_top hx9 ?_
  refine lv_istore_n (lv' := [(2, .int x9), (0, .ref a), (1, .int p0)]) C.1 C.2.1 dX10_groupOf_3 rfl hl (by decide) rfl (fun ls hl => ?_)
  refine lv_iload_n C.1 C.2.1 dX10_groupOf_4 rfl (lv_at hl 2 rfl) ?_
  refine lv_istore_n (lv' := [(3, .int p0), (2, .int x9), (0, .ref a), (1, .int p0)]) C.1 C.2.1 dX10_groupOf_5 rfl hl (by decide) rfl (fun ls hl => ?_)
  exact TX10_groupOf_l6 (n := n) C hr hlk (fun w2 hh H locs ls he X hl => by
    exact TX10_groupOf_b36 (n := n) C hr hlk X hl he) n _ _ _ _ _ _ _ he X (lv_sub hl [2, 1, 0] rfl)
set_option maxRecDepth 100000 in
set_option maxHeartbeats 4000000 in
theorem M_X4_take (l : Launch) (bs : Nat) (D : va_G) (ct : Nat → ClassId) (n : Nat) (h : jq_H) (a : Nat) (p0 : Nat) (res : jq_H) (he : X4_take n h a p0 = some res) : jq_M l yX4_take cX4_take 2 none rm_X4_take (jq_P [.ref a, .ref p0] bs D ct h) (jq_Qv bs D ct res) bs := by
  refine jq_start2 (by decide +kernel) (Nat.le_of_ble_eq_true rfl) ?_
  intro p e s m args below meth c ls H locs C hr hlk hin hl X
  have C : jq_C p s m args c cX4_take 2 RX4 D ct bs := C
  have hin : meth.name = "take" := hin
  have hl : lv_has ls 2 [(0, .ref a), (1, .ref p0)] := hl
  unfold X4_take at he
  refine lv_aload_n C.1 C.2.1 dX4_take_0 rfl (lv_at hl 1 rfl) ?_
  refine jq_rgR C X fs_X4_21 he dX4_take_1 (fun q1 he => ?_)
  refine lv_iconst (v := 0) C.1 C.2.1 dX4_take_4 (by decide) ?_
  refine lv_aload_n C.1 C.2.1 dX4_take_5 rfl (lv_at hl 0 rfl) ?_
  refine jq_rgR C X fs_X4_21 he dX4_take_6 (fun q2 he => ?_)
  refine lv_iconst (v := 0) C.1 C.2.1 dX4_take_9 (by decide) ?_
  refine lv_aload_n C.1 C.2.1 dX4_take_10 rfl (lv_at hl 0 rfl) ?_
  refine jq_rgR C X fs_X4_21 he dX4_take_11 (fun q3 he => ?_)
  refine jq_rlen C X he dX4_take_14 (fun x4 he => ?_)
  refine lv_aload_n C.1 C.2.1 dX4_take_15 rfl (lv_at hl 1 rfl) ?_
  refine jq_rgR C X fs_X4_21 he dX4_take_16 (fun q5 he => ?_)
  refine jq_rlen C X he dX4_take_19 (fun x6 he => ?_)
  refine va_mmin C.1 C.2.1 (C.2.2.1.trans hl.1.symm) C.2.2.2.1 (C.2.2.2.2.1 _ gw_277) (C.2.2.2.2.1 _ gw_278) (C.2.2.2.2.1 _ gw_5) (C.2.2.2.2.1 _ gw_279) (by decide) (Nat.le_of_ble_eq_true rfl) (by decide) (by decide) dX4_take_20 ?_
  obtain ⟨x7, hx7, he⟩ := jq_ln he
  refine jq_top hx7 ?_
  refine jq_rcpy C X hl.1 gw_433 gw_435 gw_434 gw_10 he (by decide) (Nat.le_of_ble_eq_true rfl) dX4_take_23 (fun h8 H locs he X => ?_)
  refine lv_aload_n C.1 C.2.1 dX4_take_26 rfl (lv_at hl 1 rfl) ?_
  refine jq_rgR C X fs_X4_24 he dX4_take_27 (fun q9 he => ?_)
  refine lv_iconst (v := 0) C.1 C.2.1 dX4_take_30 (by decide) ?_
  refine lv_aload_n C.1 C.2.1 dX4_take_31 rfl (lv_at hl 0 rfl) ?_
  refine jq_rgR C X fs_X4_24 he dX4_take_32 (fun q10 he => ?_)
  refine lv_iconst (v := 0) C.1 C.2.1 dX4_take_35 (by decide) ?_
  refine lv_aload_n C.1 C.2.1 dX4_take_36 rfl (lv_at hl 0 rfl) ?_
  refine jq_rgR C X fs_X4_24 he dX4_take_37 (fun q11 he => ?_)
  refine jq_rlen C X he dX4_take_40 (fun x12 he => ?_)
  refine lv_aload_n C.1 C.2.1 dX4_take_41 rfl (lv_at hl 1 rfl) ?_
  refine jq_rgR C X fs_X4_24 he dX4_take_42 (fun q13 he => ?_)
  refine jq_rlen C X he dX4_take_45 (fun x14 he => ?_)
  refine va_mmin C.1 C.2.1 (C.2.2.1.trans hl.1.symm) C.2.2.2.1 (C.2.2.2.2.1 _ gw_277) (C.2.2.2.2.1 _ gw_278) (C.2.2.2.2.1 _ gw_5) (C.2.2.2.2.1 _ gw_279) (by decide) (Nat.le_of_ble_eq_true rfl) (by decide) (by decide) dX4_take_46 ?_
  obtain ⟨x15, hx15, he⟩ := jq_ln he
  refine jq_top hx15 ?_
  refine jq_rcpy C X hl.1 gw_433 gw_435 gw_434 gw_10 he (by decide) (Nat.le_of_ble_eq_true rfl) dX4_take_49 (fun h16 H locs he X => ?_)
  refine lv_aload_n C.1 C.2.1 dX4_take_52 rfl (lv_at hl 1 rfl) ?_
  refine jq_rgR C X fs_X4_9 he dX4_take_53 (fun q17 he => ?_)
  refine lv_iconst (v := 0) C.1 C.2.1 dX4_take_56 (by decide) ?_
  refine lv_aload_n C.1 C.2.1 dX4_take_57 rfl (lv_at hl 0 rfl) ?_
  refine jq_rgR C X fs_X4_9 he dX4_take_58 (fun q18 he => ?_)
  refine lv_iconst (v := 0) C.1 C.2.1 dX4_take_61 (by decide) ?_
  refine lv_bipush (v := 64) C.1 C.2.1 dX4_take_62 (by decide) ?_
  refine jq_rcpy C X hl.1 gw_433 gw_435 gw_434 gw_10 he (by decide) (Nat.le_of_ble_eq_true rfl) dX4_take_64 (fun h19 H locs he X => ?_)
  refine lv_aload_n C.1 C.2.1 dX4_take_67 rfl (lv_at hl 1 rfl) ?_
  refine jq_rgR C X fs_X4_15 he dX4_take_68 (fun q20 he => ?_)
  refine lv_iconst (v := 0) C.1 C.2.1 dX4_take_71 (by decide) ?_
  refine lv_aload_n C.1 C.2.1 dX4_take_72 rfl (lv_at hl 0 rfl) ?_
  refine jq_rgR C X fs_X4_15 he dX4_take_73 (fun q21 he => ?_)
  refine lv_iconst (v := 0) C.1 C.2.1 dX4_take_76 (by decide) ?_
  refine lv_bipush (v := 64) C.1 C.2.1 dX4_take_77 (by decide) ?_
  refine jq_rcpy C X hl.1 gw_433 gw_435 gw_434 gw_10 he (by decide) (Nat.le_of_ble_eq_true rfl) dX4_take_79 (fun h22 H locs he X => ?_)
  refine lv_aload_n C.1 C.2.1 dX4_take_82 rfl (lv_at hl 1 rfl) ?_
  refine jq_rgR C X fs_X4_18 he dX4_take_83 (fun q23 he => ?_)
  refine lv_iconst (v := 0) C.1 C.2.1 dX4_take_86 (by decide) ?_
  refine lv_aload_n C.1 C.2.1 dX4_take_87 rfl (lv_at hl 0 rfl) ?_
  refine jq_rgR C X fs_X4_18 he dX4_take_88 (fun q24 he => ?_)
  refine lv_iconst (v := 0) C.1 C.2.1 dX4_take_91 (by decide) ?_
  refine lv_bipush (v := 40) C.1 C.2.1 dX4_take_92 (by decide) ?_
  refine jq_rcpy C X hl.1 gw_433 gw_435 gw_434 gw_10 he (by decide) (Nat.le_of_ble_eq_true rfl) dX4_take_94 (fun h25 H locs he X => ?_)
  refine lv_aload_n C.1 C.2.1 dX4_take_97 rfl (lv_at hl 0 rfl) ?_
  refine lv_aload_n C.1 C.2.1 dX4_take_98 rfl (lv_at hl 1 rfl) ?_
  refine jq_rgI C X fs_X4_48 he dX4_take_99 (fun x26 he => ?_)
  refine jq_rp (ty := .int) C X fs_X4_48 (by decide +kernel) rfl rfl he dX4_take_102 (fun h27 H locs he X => ?_)
  refine lv_aload_n C.1 C.2.1 dX4_take_105 rfl (lv_at hl 0 rfl) ?_
  refine lv_aload_n C.1 C.2.1 dX4_take_106 rfl (lv_at hl 1 rfl) ?_
  refine jq_rgI C X fs_X4_52 he dX4_take_107 (fun x28 he => ?_)
  refine jq_rp (ty := .int) C X fs_X4_52 (by decide +kernel) rfl rfl he dX4_take_110 (fun h29 H locs he X => ?_)
  refine lv_aload_n C.1 C.2.1 dX4_take_113 rfl (lv_at hl 0 rfl) ?_
  refine lv_aload_n C.1 C.2.1 dX4_take_114 rfl (lv_at hl 1 rfl) ?_
  refine jq_rgI C X fs_X4_55 he dX4_take_115 (fun x30 he => ?_)
  refine jq_rp (ty := .int) C X fs_X4_55 (by decide +kernel) rfl rfl he dX4_take_118 (fun h31 H locs he X => ?_)
  refine lv_aload_n C.1 C.2.1 dX4_take_121 rfl (lv_at hl 0 rfl) ?_
  refine lv_aload_n C.1 C.2.1 dX4_take_122 rfl (lv_at hl 1 rfl) ?_
  refine jq_rgI C X fs_X4_58 he dX4_take_123 (fun x32 he => ?_)
  refine jq_rp (ty := .int) C X fs_X4_58 (by decide +kernel) rfl rfl he dX4_take_126 (fun h33 H locs he X => ?_)
  refine lv_aload_n C.1 C.2.1 dX4_take_129 rfl (lv_at hl 0 rfl) ?_
  refine lv_aload_n C.1 C.2.1 dX4_take_130 rfl (lv_at hl 1 rfl) ?_
  refine jq_rgI C X fs_X4_61 he dX4_take_131 (fun x34 he => ?_)
  refine jq_rp (ty := .int) C X fs_X4_61 (by decide +kernel) rfl rfl he dX4_take_134 (fun h35 H locs he X => ?_)
  exact jq_vret C X hr hlk he (by decide) (by decide) dX4_take_137
set_option maxRecDepth 100000 in
set_option maxHeartbeats 4000000 in
theorem M_X3_forget (l : Launch) (bs : Nat) (D : va_G) (ct : Nat → ClassId) (n : Nat) (h : jq_H) (a : Nat) (res : jq_H) (he : X3_forget n h a = some res) : jq_M l yX3_forget cX3_forget 1 none rm_X3_forget (jq_P [.ref a] bs D ct h) (jq_Qv bs D ct res) bs := by
  refine jq_start2 (by decide +kernel) (Nat.le_of_ble_eq_true rfl) ?_
  intro p e s m args below meth c ls H locs C hr hlk hin hl X
  have C : jq_C p s m args c cX3_forget 1 RX3 D ct bs := C
  have hin : meth.name = "forget" := hin
  have hl : lv_has ls 1 [(0, .ref a)] := hl
  unfold X3_forget at he
  refine lv_aload_n C.1 C.2.1 dX3_forget_0 rfl (lv_at hl 0 rfl) ?_
  refine jq_rgR C X fs_X3_48 he dX3_forget_1 (fun q1 he => ?_)
  refine lv_aload_n C.1 C.2.1 dX3_forget_4 rfl (lv_at hl 0 rfl) ?_
  refine jq_rgR C X fs_X3_37 he dX3_forget_5 (fun q2 he => ?_)
  obtain ⟨z3, hz3, he⟩ := jq_b he
  obtain ⟨hz3c, hz3⟩ := jq_ite hz3
  refine jq_gv (jq_runV (a := q1) (av := [.ref q2]) C X (M_X4_take l bs D ct n h q1 q2 _ hz3) mf_X4_take gw_431 gs_19 (Or.inr ⟨_, gw_429⟩) rc_X4 hz3c (by decide) rfl hl.1 rfl (Nat.le_of_ble_eq_true rfl) ⟨by decide, by decide⟩ ⟨by decide, by decide⟩ dX3_forget_8) X (fun H locs X => ?_)
  exact jq_vret C X hr hlk he (by decide) (by decide) dX3_forget_11
set_option maxRecDepth 100000 in
set_option maxHeartbeats 4000000 in
theorem M_X7_placeOf (l : Launch) (bs : Nat) (D : va_G) (ct : Nat → ClassId) (n : Nat) (h : jq_H) (a : Nat) (p0 : Int32) (res : Int32 × jq_H) (he : X7_placeOf n h a p0 = some res) : jq_M l yX7_placeOf cX7_placeOf 2 (some .int) rm_X7_placeOf (jq_P [.ref a, .int p0] bs D ct h) (jq_Qi bs D ct res) bs := by
  refine jq_start2 (by decide +kernel) (Nat.le_of_ble_eq_true rfl) ?_
  intro p e s m args below meth c ls H locs C hr hlk hin hl X
  have C : jq_C p s m args c cX7_placeOf 2 RX7 D ct bs := C
  have hin : meth.name = "placeOf" := hin
  have hl : lv_has ls 2 [(0, .ref a), (1, .int p0)] := hl
  unfold X7_placeOf at he
  refine lv_aload_n C.1 C.2.1 dX7_placeOf_0 rfl (lv_at hl 0 rfl) ?_
  refine jq_rgR C X fs_X7_11 he dX7_placeOf_1 (fun q1 he => ?_)
  refine lv_iload_n C.1 C.2.1 dX7_placeOf_4 rfl (lv_at hl 1 rfl) ?_
  refine jq_rldI C X he dX7_placeOf_5 (fun x2 he => ?_)
  refine lv_iconst (v := 1) C.1 C.2.1 dX7_placeOf_6 (by decide) ?_
  refine lv_ishr C.1 C.2.1 dX7_placeOf_7 ?_
  exact jq_iret C X hr hlk he (by decide) (by decide) dX7_placeOf_8
set_option maxRecDepth 100000 in
set_option maxHeartbeats 4000000 in
theorem M_X7_wayOf (l : Launch) (bs : Nat) (D : va_G) (ct : Nat → ClassId) (n : Nat) (h : jq_H) (a : Nat) (p0 : Int32) (res : Int32 × jq_H) (he : X7_wayOf n h a p0 = some res) : jq_M l yX7_wayOf cX7_wayOf 2 (some .int) rm_X7_wayOf (jq_P [.ref a, .int p0] bs D ct h) (jq_Qi bs D ct res) bs := by
  refine jq_start2 (by decide +kernel) (Nat.le_of_ble_eq_true rfl) ?_
  intro p e s m args below meth c ls H locs C hr hlk hin hl X
  have C : jq_C p s m args c cX7_wayOf 2 RX7 D ct bs := C
  have hin : meth.name = "wayOf" := hin
  have hl : lv_has ls 2 [(0, .ref a), (1, .int p0)] := hl
  unfold X7_wayOf at he
  refine lv_aload_n C.1 C.2.1 dX7_wayOf_0 rfl (lv_at hl 0 rfl) ?_
  refine jq_rgR C X fs_X7_11 he dX7_wayOf_1 (fun q1 he => ?_)
  refine lv_iload_n C.1 C.2.1 dX7_wayOf_4 rfl (lv_at hl 1 rfl) ?_
  refine jq_rldI C X he dX7_wayOf_5 (fun x2 he => ?_)
  refine lv_iconst (v := 1) C.1 C.2.1 dX7_wayOf_6 (by decide) ?_
  refine lv_iand C.1 C.2.1 dX7_wayOf_7 ?_
  exact jq_iret C X hr hlk he (by decide) (by decide) dX7_wayOf_8
set_option maxRecDepth 100000 in
set_option maxHeartbeats 4000000 in
theorem M_X0_slotOf (l : Launch) (bs : Nat) (D : va_G) (ct : Nat → ClassId) (n : Nat) (h : jq_H) (a : Nat) (p0 : Int32) (res : Int32 × jq_H) (he : X0_slotOf n h a p0 = some res) : jq_M l yX0_slotOf cX0_slotOf 2 (some .int) rm_X0_slotOf (jq_P [.ref a, .int p0] bs D ct h) (jq_Qi bs D ct res) bs := by
  refine jq_start2 (by decide +kernel) (Nat.le_of_ble_eq_true rfl) ?_
  intro p e s m args below meth c ls H locs C hr hlk hin hl X
  have C : jq_C p s m args c cX0_slotOf 2 RX0 D ct bs := C
  have hin : meth.name = "slotOf" := hin
  have hl : lv_has ls 2 [(0, .ref a), (1, .int p0)] := hl
  unfold X0_slotOf at he
  refine lv_iload_n C.1 C.2.1 dX0_slotOf_0 rfl (lv_at hl 1 rfl) ?_
  refine lv_aload_n C.1 C.2.1 dX0_slotOf_1 rfl (lv_at hl 0 rfl) ?_
  refine jq_rgI C X fs_X0_26 he dX0_slotOf_2 (fun x1 he => ?_)
  refine lv_iand C.1 C.2.1 dX0_slotOf_5 ?_
  exact jq_iret C X hr hlk he (by decide) (by decide) dX0_slotOf_6
set_option maxRecDepth 100000 in
set_option maxHeartbeats 4000000 in
theorem TX4_counterWay_b15 {p : Program} {l : Launch} {e : Env} {s : State} {m : MethodId} {args : Array Value} {below : List Frame} {meth : Method} {c : Code} {D : va_G} {ct : Nat → ClassId} {bs : Nat} {res : Int32 × jq_H} {n : Nat} (C : jq_C p s m args c cX4_counterWay 2 RX4 D ct bs) (hr : meth.sig.returnType = (some .int)) (hlk : meth.locks = false) {s0 : Int32} {h : jq_H} {H : Heap} {locs : List Loc} {ls : Array Slot} (X : jq_X bs D ct s.heap h H locs) (hl : lv_has ls 2 []) (he : X4_counterWay_b15 n s0 h = some res) :
    W p l e rm_X4_counterWay s m args below meth c H locs 0 0 (MQ below (jq_Qi bs D ct res) args s rm_X4_counterWay.cells rm_X4_counterWay.slots (fun q => bs ≤ q)) (F0 m 15 ls [.int s0]) := by
  unfold X4_counterWay_b15 at he
  exact jq_iret C X hr hlk he (by decide) (by decide) dX4_counterWay_15
set_option maxRecDepth 100000 in
set_option maxHeartbeats 4000000 in
theorem M_X4_counterWay (l : Launch) (bs : Nat) (D : va_G) (ct : Nat → ClassId) (n : Nat) (h : jq_H) (a : Nat) (p0 : Int32) (res : Int32 × jq_H) (he : X4_counterWay n h a p0 = some res) : jq_M l yX4_counterWay cX4_counterWay 2 (some .int) rm_X4_counterWay (jq_P [.ref a, .int p0] bs D ct h) (jq_Qi bs D ct res) bs := by
  refine jq_start2 (by decide +kernel) (Nat.le_of_ble_eq_true rfl) ?_
  intro p e s m args below meth c ls H locs C hr hlk hin hl X
  have C : jq_C p s m args c cX4_counterWay 2 RX4 D ct bs := C
  have hin : meth.name = "counterWay" := hin
  have hl : lv_has ls 2 [(0, .ref a), (1, .int p0)] := hl
  unfold X4_counterWay at he
  refine lv_aload_n C.1 C.2.1 dX4_counterWay_0 rfl (lv_at hl 0 rfl) ?_
  refine jq_rgR C X fs_X4_21 he dX4_counterWay_1 (fun q1 he => ?_)
  refine lv_iload_n C.1 C.2.1 dX4_counterWay_4 rfl (lv_at hl 1 rfl) ?_
  refine jq_rldI C X he dX4_counterWay_5 (fun x2 he => ?_)
  refine lv_iconst (v := 2) C.1 C.2.1 dX4_counterWay_6 (by decide) ?_
  refine lv_icmp_lt (tgt := 14) C.1 C.2.1 dX4_counterWay_7 (by decide) (fun hc3 => ?_) (fun hc3 => ?_)
  · have he := jq_t hc3 he
    refine lv_iconst (v := 0) C.1 C.2.1 dX4_counterWay_14 (by decide) ?_
    exact TX4_counterWay_b15 (n := n) C hr hlk X (lv_sub hl [] rfl) he
  · have he := jq_n hc3 he
    refine lv_iconst (v := 1) C.1 C.2.1 dX4_counterWay_10 (by decide) ?_
    refine lv_goto (tgt := 15) C.1 C.2.1 dX4_counterWay_11 (by decide) ?_
    exact TX4_counterWay_b15 (n := n) C hr hlk X (lv_sub hl [] rfl) he
set_option maxRecDepth 100000 in
set_option maxHeartbeats 4000000 in
theorem TX0_ownWay_b33 {p : Program} {l : Launch} {e : Env} {s : State} {m : MethodId} {args : Array Value} {below : List Frame} {meth : Method} {c : Code} {D : va_G} {ct : Nat → ClassId} {bs : Nat} {res : Int32 × jq_H} {n : Nat} (C : jq_C p s m args c cX0_ownWay 2 RX0 D ct bs) (hr : meth.sig.returnType = (some .int)) (hlk : meth.locks = false) {s0 : Int32} {h : jq_H} {H : Heap} {locs : List Loc} {ls : Array Slot} (X : jq_X bs D ct s.heap h H locs) (hl : lv_has ls 2 []) (he : X0_ownWay_b33 n s0 h = some res) :
    W p l e rm_X0_ownWay s m args below meth c H locs 0 0 (MQ below (jq_Qi bs D ct res) args s rm_X0_ownWay.cells rm_X0_ownWay.slots (fun q => bs ≤ q)) (F0 m 33 ls [.int s0]) := by
  unfold X0_ownWay_b33 at he
  exact jq_iret C X hr hlk he (by decide) (by decide) dX0_ownWay_33
set_option maxRecDepth 100000 in
set_option maxHeartbeats 4000000 in
theorem M_X0_ownWay (l : Launch) (bs : Nat) (D : va_G) (ct : Nat → ClassId) (n : Nat) (h : jq_H) (a : Nat) (p0 : Int32) (res : Int32 × jq_H) (he : X0_ownWay n h a p0 = some res) : jq_M l yX0_ownWay cX0_ownWay 2 (some .int) rm_X0_ownWay (jq_P [.ref a, .int p0] bs D ct h) (jq_Qi bs D ct res) bs := by
  refine jq_start2 (by decide +kernel) (Nat.le_of_ble_eq_true rfl) ?_
  intro p e s m args below meth c ls H locs C hr hlk hin hl X
  have C : jq_C p s m args c cX0_ownWay 2 RX0 D ct bs := C
  have hin : meth.name = "ownWay" := hin
  have hl : lv_has ls 2 [(0, .ref a), (1, .int p0)] := hl
  unfold X0_ownWay at he
  refine lv_aload_n C.1 C.2.1 dX0_ownWay_0 rfl (lv_at hl 0 rfl) ?_
  refine jq_rgR C X fs_X0_29 he dX0_ownWay_1 (fun q1 he => ?_)
  refine lv_aload_n C.1 C.2.1 dX0_ownWay_4 rfl (lv_at hl 0 rfl) ?_
  refine lv_iload_n C.1 C.2.1 dX0_ownWay_5 rfl (lv_at hl 1 rfl) ?_
  obtain ⟨z2, hz2, he⟩ := jq_b he
  obtain ⟨hz2c, hz2⟩ := jq_ite hz2
  refine jq_gi (jq_runV (a := a) (av := [.int p0]) C X (M_X0_slotOf l bs D ct n h a p0 _ hz2) mf_X0_slotOf gw_204 gw_205 (Or.inl gw_203) rc_X0 hz2c (by decide) rfl hl.1 rfl (Nat.le_of_ble_eq_true rfl) ⟨by decide, by decide⟩ ⟨by decide, by decide⟩ dX0_ownWay_6) X (fun H locs X => ?_)
  obtain ⟨z3, hz3, he⟩ := jq_b he
  obtain ⟨hz3c, hz3⟩ := jq_ite hz3
  refine jq_gi (jq_runV (a := q1) (av := [.int z2.1]) C X (M_X4_counterWay l bs D ct n z2.2 q1 z2.1 _ hz3) mf_X4_counterWay gw_209 gs_5 (Or.inr ⟨_, gw_207⟩) rc_X4 hz3c (by decide) rfl hl.1 rfl (Nat.le_of_ble_eq_true rfl) ⟨by decide, by decide⟩ ⟨by decide, by decide⟩ dX0_ownWay_9) X (fun H locs X => ?_)
  refine lv_iconst (v := 1) C.1 C.2.1 dX0_ownWay_12 (by decide) ?_
  refine lv_icmp_ne (tgt := 26) C.1 C.2.1 dX0_ownWay_13 (by decide) (fun hc4 => ?_) (fun hc4 => ?_)
  · have he := jq_n hc4 he
    refine lv_aload_n C.1 C.2.1 dX0_ownWay_26 rfl (lv_at hl 0 rfl) ?_
    refine jq_rgR C X fs_X0_7 he dX0_ownWay_27 (fun q5 he => ?_)
    refine jq_rgI C X fs_X0_41 he dX0_ownWay_30 (fun x6 he => ?_)
    exact TX0_ownWay_b33 (n := n) C hr hlk X (lv_sub hl [] rfl) he
  · have he := jq_t hc4 he
    refine lv_aload_n C.1 C.2.1 dX0_ownWay_16 rfl (lv_at hl 0 rfl) ?_
    refine jq_rgR C X fs_X0_13 he dX0_ownWay_17 (fun q7 he => ?_)
    refine jq_rgI C X fs_X0_41 he dX0_ownWay_20 (fun x8 he => ?_)
    refine lv_goto (tgt := 33) C.1 C.2.1 dX0_ownWay_23 (by decide) ?_
    exact TX0_ownWay_b33 (n := n) C hr hlk X (lv_sub hl [] rfl) he
set_option maxRecDepth 100000 in
set_option maxHeartbeats 4000000 in
theorem TX1_slotOf_b26 {p : Program} {l : Launch} {e : Env} {s : State} {m : MethodId} {args : Array Value} {below : List Frame} {meth : Method} {c : Code} {D : va_G} {ct : Nat → ClassId} {bs : Nat} {res : Int32 × jq_H} {n : Nat} (C : jq_C p s m args c cX1_slotOf 3 RX1 D ct bs) (hr : meth.sig.returnType = (some .int)) (hlk : meth.locks = false) {v0 : Nat} {v1 : Int32} {s0 : Int32} {h : jq_H} {H : Heap} {locs : List Loc} {ls : Array Slot} (X : jq_X bs D ct s.heap h H locs) (hl : lv_has ls 3 [(0, .ref v0), (1, .int v1)]) (he : X1_slotOf_b26 n v0 v1 s0 h = some res) :
    W p l e rm_X1_slotOf s m args below meth c H locs 0 0 (MQ below (jq_Qi bs D ct res) args s rm_X1_slotOf.cells rm_X1_slotOf.slots (fun q => bs ≤ q)) (F0 m 26 ls [.int s0]) := by
  unfold X1_slotOf_b26 at he
  refine lv_istore_n (lv' := [(2, .int s0), (0, .ref v0), (1, .int v1)]) C.1 C.2.1 dX1_slotOf_26 rfl hl (by decide) rfl (fun ls hl => ?_)
  refine lv_iload_n C.1 C.2.1 dX1_slotOf_27 rfl (lv_at hl 0 rfl) ?_
  refine lv_aload_n C.1 C.2.1 dX1_slotOf_28 rfl (lv_at hl 1 rfl) ?_
  refine jq_rgI C X fs_X1_19 he dX1_slotOf_29 (fun x1 he => ?_)
  refine lv_iand C.1 C.2.1 dX1_slotOf_32 ?_
  refine lv_aload_n C.1 C.2.1 dX1_slotOf_33 rfl (lv_at hl 1 rfl) ?_
  refine jq_rgI C X fs_X1_26 he dX1_slotOf_34 (fun x2 he => ?_)
  refine lv_iload_n C.1 C.2.1 dX1_slotOf_37 rfl (lv_at hl 2 rfl) ?_
  refine lv_imul C.1 C.2.1 dX1_slotOf_38 ?_
  refine lv_ixor C.1 C.2.1 dX1_slotOf_39 ?_
  refine lv_aload_n C.1 C.2.1 dX1_slotOf_40 rfl (lv_at hl 1 rfl) ?_
  refine jq_rgI C X fs_X1_13 he dX1_slotOf_41 (fun x3 he => ?_)
  refine lv_iand C.1 C.2.1 dX1_slotOf_44 ?_
  exact jq_iret C X hr hlk he (by decide) (by decide) dX1_slotOf_45
set_option maxRecDepth 100000 in
set_option maxHeartbeats 4000000 in
theorem M_X1_slotOf (l : Launch) (bs : Nat) (D : va_G) (ct : Nat → ClassId) (n : Nat) (h : jq_H) (a : Nat) (p0 : Int32) (res : Int32 × jq_H) (he : X1_slotOf n h a p0 = some res) : jq_M l yX1_slotOf cX1_slotOf 3 (some .int) rm_X1_slotOf (jq_P [.ref a, .int p0] bs D ct h) (jq_Qi bs D ct res) bs := by
  refine jq_start2 (by decide +kernel) (Nat.le_of_ble_eq_true rfl) ?_
  intro p e s m args below meth c ls H locs C hr hlk hin hl X
  have C : jq_C p s m args c cX1_slotOf 3 RX1 D ct bs := C
  have hin : meth.name = "slotOf" := hin
  have hl : lv_has ls 3 [(0, .ref a), (1, .int p0)] := hl
  unfold X1_slotOf at he
  refine lv_aload_n C.1 C.2.1 dX1_slotOf_0 rfl (lv_at hl 0 rfl) ?_
  refine jq_rgI C X fs_X1_22 he dX1_slotOf_1 (fun x4 he => ?_)
  refine lv_if_eq (tgt := 19) C.1 C.2.1 dX1_slotOf_4 (by decide) (fun hc5 => ?_) (fun hc5 => ?_)
  · have he := jq_t hc5 he
    refine lv_aload_n C.1 C.2.1 dX1_slotOf_19 rfl (lv_at hl 0 rfl) ?_
    refine jq_rgR C X fs_X1_29 he dX1_slotOf_20 (fun q6 he => ?_)
    refine jq_rgI C X fs_X1_39 he dX1_slotOf_23 (fun x7 he => ?_)
    exact TX1_slotOf_b26 (n := n) C hr hlk X (lv_sub hl [0, 1] rfl) he
  · have he := jq_n hc5 he
    refine lv_aload_n C.1 C.2.1 dX1_slotOf_7 rfl (lv_at hl 0 rfl) ?_
    refine jq_rgR C X fs_X1_29 he dX1_slotOf_8 (fun q8 he => ?_)
    refine jq_rgR C X fs_X1_33 he dX1_slotOf_11 (fun q9 he => ?_)
    refine lv_iload_n C.1 C.2.1 dX1_slotOf_14 rfl (lv_at hl 1 rfl) ?_
    refine jq_rldI C X he dX1_slotOf_15 (fun x10 he => ?_)
    refine lv_goto (tgt := 26) C.1 C.2.1 dX1_slotOf_16 (by decide) ?_
    exact TX1_slotOf_b26 (n := n) C hr hlk X (lv_sub hl [0, 1] rfl) he
set_option maxRecDepth 100000 in
set_option maxHeartbeats 4000000 in
theorem M_X1_ownWay (l : Launch) (bs : Nat) (D : va_G) (ct : Nat → ClassId) (n : Nat) (h : jq_H) (a : Nat) (p0 : Int32) (res : Int32 × jq_H) (he : X1_ownWay n h a p0 = some res) : jq_M l yX1_ownWay cX1_ownWay 2 (some .int) rm_X1_ownWay (jq_P [.ref a, .int p0] bs D ct h) (jq_Qi bs D ct res) bs := by
  refine jq_start2 (by decide +kernel) (Nat.le_of_ble_eq_true rfl) ?_
  intro p e s m args below meth c ls H locs C hr hlk hin hl X
  have C : jq_C p s m args c cX1_ownWay 2 RX1 D ct bs := C
  have hin : meth.name = "ownWay" := hin
  have hl : lv_has ls 2 [(0, .ref a), (1, .int p0)] := hl
  unfold X1_ownWay at he
  refine lv_aload_n C.1 C.2.1 dX1_ownWay_0 rfl (lv_at hl 0 rfl) ?_
  refine jq_rgR C X fs_X1_29 he dX1_ownWay_1 (fun q1 he => ?_)
  refine lv_aload_n C.1 C.2.1 dX1_ownWay_4 rfl (lv_at hl 0 rfl) ?_
  refine lv_iload_n C.1 C.2.1 dX1_ownWay_5 rfl (lv_at hl 1 rfl) ?_
  obtain ⟨z2, hz2, he⟩ := jq_b he
  obtain ⟨hz2c, hz2⟩ := jq_ite hz2
  refine jq_gi (jq_runV (a := a) (av := [.int p0]) C X (M_X1_slotOf l bs D ct n h a p0 _ hz2) mf_X1_slotOf gw_216 gw_217 (Or.inl gw_215) rc_X1 hz2c (by decide) rfl hl.1 rfl (Nat.le_of_ble_eq_true rfl) ⟨by decide, by decide⟩ ⟨by decide, by decide⟩ dX1_ownWay_6) X (fun H locs X => ?_)
  obtain ⟨z3, hz3, he⟩ := jq_b he
  obtain ⟨hz3c, hz3⟩ := jq_ite hz3
  refine jq_gi (jq_runV (a := q1) (av := [.int z2.1]) C X (M_X4_counterWay l bs D ct n z2.2 q1 z2.1 _ hz3) mf_X4_counterWay gw_209 gs_5 (Or.inr ⟨_, gw_219⟩) rc_X4 hz3c (by decide) rfl hl.1 rfl (Nat.le_of_ble_eq_true rfl) ⟨by decide, by decide⟩ ⟨by decide, by decide⟩ dX1_ownWay_9) X (fun H locs X => ?_)
  exact jq_iret C X hr hlk he (by decide) (by decide) dX1_ownWay_12
set_option maxRecDepth 100000 in
set_option maxHeartbeats 4000000 in
theorem TX2_ownWay_b31 {p : Program} {l : Launch} {e : Env} {s : State} {m : MethodId} {args : Array Value} {below : List Frame} {meth : Method} {c : Code} {D : va_G} {ct : Nat → ClassId} {bs : Nat} {res : Int32 × jq_H} {n : Nat} (C : jq_C p s m args c cX2_ownWay 2 RX2 D ct bs) (hr : meth.sig.returnType = (some .int)) (hlk : meth.locks = false) {s0 : Int32} {h : jq_H} {H : Heap} {locs : List Loc} {ls : Array Slot} (X : jq_X bs D ct s.heap h H locs) (hl : lv_has ls 2 []) (he : X2_ownWay_b31 n s0 h = some res) :
    W p l e rm_X2_ownWay s m args below meth c H locs 0 0 (MQ below (jq_Qi bs D ct res) args s rm_X2_ownWay.cells rm_X2_ownWay.slots (fun q => bs ≤ q)) (F0 m 31 ls [.int s0]) := by
  unfold X2_ownWay_b31 at he
  exact jq_iret C X hr hlk he (by decide) (by decide) dX2_ownWay_31
set_option maxRecDepth 100000 in
set_option maxHeartbeats 4000000 in
theorem M_X2_ownWay (l : Launch) (bs : Nat) (D : va_G) (ct : Nat → ClassId) (n : Nat) (h : jq_H) (a : Nat) (p0 : Int32) (res : Int32 × jq_H) (he : X2_ownWay n h a p0 = some res) : jq_M l yX2_ownWay cX2_ownWay 2 (some .int) rm_X2_ownWay (jq_P [.ref a, .int p0] bs D ct h) (jq_Qi bs D ct res) bs := by
  refine jq_start2 (by decide +kernel) (Nat.le_of_ble_eq_true rfl) ?_
  intro p e s m args below meth c ls H locs C hr hlk hin hl X
  have C : jq_C p s m args c cX2_ownWay 2 RX2 D ct bs := C
  have hin : meth.name = "ownWay" := hin
  have hl : lv_has ls 2 [(0, .ref a), (1, .int p0)] := hl
  unfold X2_ownWay at he
  refine lv_aload_n C.1 C.2.1 dX2_ownWay_0 rfl (lv_at hl 0 rfl) ?_
  refine jq_rgI C X fs_X2_15 he dX2_ownWay_1 (fun x1 he => ?_)
  refine lv_iconst (v := 2) C.1 C.2.1 dX2_ownWay_4 (by decide) ?_
  refine lv_icmp_eq (tgt := 13) C.1 C.2.1 dX2_ownWay_5 (by decide) (fun hc2 => ?_) (fun hc2 => ?_)
  · have he := jq_t hc2 he
    refine lv_aload_n C.1 C.2.1 dX2_ownWay_13 rfl (lv_at hl 0 rfl) ?_
    refine jq_rgR C X fs_X2_9 he dX2_ownWay_14 (fun q3 he => ?_)
    refine jq_rgR C X fs_X2_19 he dX2_ownWay_17 (fun q4 he => ?_)
    refine lv_iload_n C.1 C.2.1 dX2_ownWay_20 rfl (lv_at hl 1 rfl) ?_
    refine jq_rldI C X he dX2_ownWay_21 (fun x5 he => ?_)
    refine lv_iload_n C.1 C.2.1 dX2_ownWay_22 rfl (lv_at hl 1 rfl) ?_
    refine lv_icmp_gt (tgt := 30) C.1 C.2.1 dX2_ownWay_23 (by decide) (fun hc6 => ?_) (fun hc6 => ?_)
    · have he := jq_t hc6 he
      refine lv_iconst (v := 0) C.1 C.2.1 dX2_ownWay_30 (by decide) ?_
      exact TX2_ownWay_b31 (n := n) C hr hlk X (lv_sub hl [] rfl) he
    · have he := jq_n hc6 he
      refine lv_iconst (v := 1) C.1 C.2.1 dX2_ownWay_26 (by decide) ?_
      refine lv_goto (tgt := 31) C.1 C.2.1 dX2_ownWay_27 (by decide) ?_
      exact TX2_ownWay_b31 (n := n) C hr hlk X (lv_sub hl [] rfl) he
  · have he := jq_n hc2 he
    refine lv_aload_n C.1 C.2.1 dX2_ownWay_8 rfl (lv_at hl 0 rfl) ?_
    refine jq_rgI C X fs_X2_15 he dX2_ownWay_9 (fun x7 he => ?_)
    exact jq_iret C X hr hlk he (by decide) (by decide) dX2_ownWay_12
set_option maxRecDepth 100000 in
set_option maxHeartbeats 4000000 in
theorem TX5_ownWay_b62 {p : Program} {l : Launch} {e : Env} {s : State} {m : MethodId} {args : Array Value} {below : List Frame} {meth : Method} {c : Code} {D : va_G} {ct : Nat → ClassId} {bs : Nat} {res : Int32 × jq_H} {n : Nat} (C : jq_C p s m args c cX5_ownWay 4 RX5 D ct bs) (hr : meth.sig.returnType = (some .int)) (hlk : meth.locks = false) {s0 : Int32} {h : jq_H} {H : Heap} {locs : List Loc} {ls : Array Slot} (X : jq_X bs D ct s.heap h H locs) (hl : lv_has ls 4 []) (he : X5_ownWay_b62 n s0 h = some res) :
    W p l e rm_X5_ownWay s m args below meth c H locs 0 0 (MQ below (jq_Qi bs D ct res) args s rm_X5_ownWay.cells rm_X5_ownWay.slots (fun q => bs ≤ q)) (F0 m 62 ls [.int s0]) := by
  unfold X5_ownWay_b62 at he
  exact jq_iret C X hr hlk he (by decide) (by decide) dX5_ownWay_62
set_option maxRecDepth 100000 in
set_option maxHeartbeats 4000000 in
theorem TX5_ownWay_b61 {p : Program} {l : Launch} {e : Env} {s : State} {m : MethodId} {args : Array Value} {below : List Frame} {meth : Method} {c : Code} {D : va_G} {ct : Nat → ClassId} {bs : Nat} {res : Int32 × jq_H} {n : Nat} (C : jq_C p s m args c cX5_ownWay 4 RX5 D ct bs) (hr : meth.sig.returnType = (some .int)) (hlk : meth.locks = false) {h : jq_H} {H : Heap} {locs : List Loc} {ls : Array Slot} (X : jq_X bs D ct s.heap h H locs) (hl : lv_has ls 4 []) (he : X5_ownWay_b61 n h = some res) :
    W p l e rm_X5_ownWay s m args below meth c H locs 0 0 (MQ below (jq_Qi bs D ct res) args s rm_X5_ownWay.cells rm_X5_ownWay.slots (fun q => bs ≤ q)) (F0 m 61 ls []) := by
  unfold X5_ownWay_b61 at he
  refine lv_iconst (v := 1) C.1 C.2.1 dX5_ownWay_61 (by decide) ?_
  exact TX5_ownWay_b62 (n := n) C hr hlk X (lv_sub hl [] rfl) he
set_option maxRecDepth 100000 in
set_option maxHeartbeats 4000000 in
theorem TX5_ownWay_b27 {p : Program} {l : Launch} {e : Env} {s : State} {m : MethodId} {args : Array Value} {below : List Frame} {meth : Method} {c : Code} {D : va_G} {ct : Nat → ClassId} {bs : Nat} {res : Int32 × jq_H} {n : Nat} (C : jq_C p s m args c cX5_ownWay 4 RX5 D ct bs) (hr : meth.sig.returnType = (some .int)) (hlk : meth.locks = false) {v0 : Nat} {v2 : Int32} {s0 : Int32} {h : jq_H} {H : Heap} {locs : List Loc} {ls : Array Slot} (X : jq_X bs D ct s.heap h H locs) (hl : lv_has ls 4 [(0, .ref v0), (2, .int v2)]) (he : X5_ownWay_b27 n v0 v2 s0 h = some res) :
    W p l e rm_X5_ownWay s m args below meth c H locs 0 0 (MQ below (jq_Qi bs D ct res) args s rm_X5_ownWay.cells rm_X5_ownWay.slots (fun q => bs ≤ q)) (F0 m 27 ls [.int s0]) := by
  unfold X5_ownWay_b27 at he
  refine lv_istore_n (lv' := [(3, .int s0), (0, .ref v0), (2, .int v2)]) C.1 C.2.1 dX5_ownWay_27 rfl hl (by decide) rfl (fun ls hl => ?_)
  refine lv_iload_n C.1 C.2.1 dX5_ownWay_28 rfl (lv_at hl 0 rfl) ?_
  refine lv_if_eq (tgt := 61) C.1 C.2.1 dX5_ownWay_29 (by decide) (fun hc1 => ?_) (fun hc1 => ?_)
  · have he := jq_t hc1 he
    exact TX5_ownWay_b61 (n := n) C hr hlk X (lv_sub hl [] rfl) he
  · have he := jq_n hc1 he
    refine lv_aload_n C.1 C.2.1 dX5_ownWay_32 rfl (lv_at hl 1 rfl) ?_
    refine jq_rgR C X fs_X5_25 he dX5_ownWay_33 (fun q2 he => ?_)
    refine jq_rgR C X fs_X5_19 he dX5_ownWay_36 (fun q3 he => ?_)
    refine lv_iload_n C.1 C.2.1 dX5_ownWay_39 rfl (lv_at hl 2 rfl) ?_
    refine lv_iconst (v := 0) C.1 C.2.1 dX5_ownWay_40 (by decide) ?_
    refine lv_iadd C.1 C.2.1 dX5_ownWay_41 ?_
    refine jq_rldI C X he dX5_ownWay_42 (fun x4 he => ?_)
    refine lv_aload_n C.1 C.2.1 dX5_ownWay_43 rfl (lv_at hl 1 rfl) ?_
    refine jq_rgR C X fs_X5_25 he dX5_ownWay_44 (fun q5 he => ?_)
    refine jq_rgR C X fs_X5_19 he dX5_ownWay_47 (fun q6 he => ?_)
    refine lv_iload_n C.1 C.2.1 dX5_ownWay_50 rfl (lv_at hl 2 rfl) ?_
    refine lv_iconst (v := 1) C.1 C.2.1 dX5_ownWay_51 (by decide) ?_
    refine lv_iadd C.1 C.2.1 dX5_ownWay_52 ?_
    refine jq_rldI C X he dX5_ownWay_53 (fun x7 he => ?_)
    refine lv_icmp_ne (tgt := 61) C.1 C.2.1 dX5_ownWay_54 (by decide) (fun hc8 => ?_) (fun hc8 => ?_)
    · have he := jq_n hc8 he
      exact TX5_ownWay_b61 (n := n) C hr hlk X (lv_sub hl [] rfl) he
    · have he := jq_t hc8 he
      refine lv_iconst (v := 0) C.1 C.2.1 dX5_ownWay_57 (by decide) ?_
      refine lv_goto (tgt := 62) C.1 C.2.1 dX5_ownWay_58 (by decide) ?_
      exact TX5_ownWay_b62 (n := n) C hr hlk X (lv_sub hl [] rfl) he
set_option maxRecDepth 100000 in
set_option maxHeartbeats 4000000 in
theorem M_X5_ownWay (l : Launch) (bs : Nat) (D : va_G) (ct : Nat → ClassId) (n : Nat) (h : jq_H) (a : Nat) (p0 : Int32) (res : Int32 × jq_H) (he : X5_ownWay n h a p0 = some res) : jq_M l yX5_ownWay cX5_ownWay 4 (some .int) rm_X5_ownWay (jq_P [.ref a, .int p0] bs D ct h) (jq_Qi bs D ct res) bs := by
  refine jq_start2 (by decide +kernel) (Nat.le_of_ble_eq_true rfl) ?_
  intro p e s m args below meth c ls H locs C hr hlk hin hl X
  have C : jq_C p s m args c cX5_ownWay 4 RX5 D ct bs := C
  have hin : meth.name = "ownWay" := hin
  have hl : lv_has ls 4 [(0, .ref a), (1, .int p0)] := hl
  unfold X5_ownWay at he
  refine lv_iload_n C.1 C.2.1 dX5_ownWay_0 rfl (lv_at hl 1 rfl) ?_
  refine lv_iconst (v := 3) C.1 C.2.1 dX5_ownWay_1 (by decide) ?_
  refine lv_imul C.1 C.2.1 dX5_ownWay_2 ?_
  obtain ⟨x9, hx9, he⟩ := jq_ln he
  refine jq_top hx9 ?_
  refine lv_istore_n (lv' := [(2, .int x9), (0, .ref a), (1, .int p0)]) C.1 C.2.1 dX5_ownWay_3 rfl hl (by decide) rfl (fun ls hl => ?_)
  refine lv_aload_n C.1 C.2.1 dX5_ownWay_4 rfl (lv_at hl 1 rfl) ?_
  refine jq_rgR C X fs_X5_25 he dX5_ownWay_5 (fun q10 he => ?_)
  refine jq_rgR C X fs_X5_19 he dX5_ownWay_8 (fun q11 he => ?_)
  refine lv_iload_n C.1 C.2.1 dX5_ownWay_11 rfl (lv_at hl 0 rfl) ?_
  refine lv_iconst (v := 2) C.1 C.2.1 dX5_ownWay_12 (by decide) ?_
  refine lv_iadd C.1 C.2.1 dX5_ownWay_13 ?_
  refine jq_rldI C X he dX5_ownWay_14 (fun x12 he => ?_)
  refine lv_aload_n C.1 C.2.1 dX5_ownWay_15 rfl (lv_at hl 1 rfl) ?_
  refine jq_rgI C X fs_X5_11 he dX5_ownWay_16 (fun x13 he => ?_)
  refine lv_icmp_lt (tgt := 26) C.1 C.2.1 dX5_ownWay_19 (by decide) (fun hc14 => ?_) (fun hc14 => ?_)
  · have he := jq_t hc14 he
    refine lv_iconst (v := 0) C.1 C.2.1 dX5_ownWay_26 (by decide) ?_
    exact TX5_ownWay_b27 (n := n) C hr hlk X (lv_sub hl [1, 0] rfl) he
  · have he := jq_n hc14 he
    refine lv_iconst (v := 1) C.1 C.2.1 dX5_ownWay_22 (by decide) ?_
    refine lv_goto (tgt := 27) C.1 C.2.1 dX5_ownWay_23 (by decide) ?_
    exact TX5_ownWay_b27 (n := n) C hr hlk X (lv_sub hl [1, 0] rfl) he
set_option maxRecDepth 100000 in
set_option maxHeartbeats 4000000 in
theorem M_X10_lowBits (l : Launch) (bs : Nat) (D : va_G) (ct : Nat → ClassId) (n : Nat) (h : jq_H) (p0 : Int32) (res : Int32 × jq_H) (he : X10_lowBits n h p0 = some res) : jq_M l yX10_lowBits cX10_lowBits 1 (some .int) rm_X10_lowBits (jq_P [.int p0] bs D ct h) (jq_Qi bs D ct res) bs := by
  refine jq_start2 (by decide +kernel) (Nat.le_of_ble_eq_true rfl) ?_
  intro p e s m args below meth c ls H locs C hr hlk hin hl X
  have C : jq_C p s m args c cX10_lowBits 1 RX10 D ct bs := C
  have hin : meth.name = "lowBits" := hin
  have hl : lv_has ls 1 [(0, .int p0)] := hl
  unfold X10_lowBits at he
  refine lv_iconst (v := 1) C.1 C.2.1 dX10_lowBits_0 (by decide) ?_
  refine lv_iload_n C.1 C.2.1 dX10_lowBits_1 rfl (lv_at hl 0 rfl) ?_
  refine lv_ishl C.1 C.2.1 dX10_lowBits_2 ?_
  refine lv_iconst (v := 1) C.1 C.2.1 dX10_lowBits_3 (by decide) ?_
  refine lv_isub C.1 C.2.1 dX10_lowBits_4 ?_
  exact jq_iret C X hr hlk he (by decide) (by decide) dX10_lowBits_5
set_option maxRecDepth 100000 in
set_option maxHeartbeats 4000000 in
theorem M_X8_cellOf (l : Launch) (bs : Nat) (D : va_G) (ct : Nat → ClassId) (n : Nat) (h : jq_H) (a : Nat) (p0 : Int32) (p1 : Int32) (res : Int32 × jq_H) (he : X8_cellOf n h a p0 p1 = some res) : jq_M l yX8_cellOf cX8_cellOf 4 (some .int) rm_X8_cellOf (jq_P [.ref a, .int p0, .int p1] bs D ct h) (jq_Qi bs D ct res) bs := by
  refine jq_start2 (by decide +kernel) (Nat.le_of_ble_eq_true rfl) ?_
  intro p e s m args below meth c ls H locs C hr hlk hin hl X
  have C : jq_C p s m args c cX8_cellOf 4 RX8 D ct bs := C
  have hin : meth.name = "cellOf" := hin
  have hl : lv_has ls 4 [(0, .ref a), (1, .int p0), (2, .int p1)] := hl
  unfold X8_cellOf at he
  refine lv_aload_n C.1 C.2.1 dX8_cellOf_0 rfl (lv_at hl 0 rfl) ?_
  refine jq_rgR C X fs_X8_22 he dX8_cellOf_1 (fun q1 he => ?_)
  refine jq_rgI C X fs_X8_26 he dX8_cellOf_4 (fun x2 he => ?_)
  refine lv_iload_n C.1 C.2.1 dX8_cellOf_7 rfl (lv_at hl 1 rfl) ?_
  refine lv_aload_n C.1 C.2.1 dX8_cellOf_8 rfl (lv_at hl 0 rfl) ?_
  refine jq_rgI C X fs_X8_19 he dX8_cellOf_9 (fun x3 he => ?_)
  refine lv_imul C.1 C.2.1 dX8_cellOf_12 ?_
  obtain ⟨z4, hz4, he⟩ := jq_b he
  refine jq_gi (jq_runS (av := [.int (p0 * x3)]) C X (M_X10_lowBits l bs D ct n h (p0 * x3) _ hz4) mf_X10_lowBits gw_235 (Or.inr ⟨_, gw_234⟩) rfl hl.1 rfl (Nat.le_of_ble_eq_true rfl) ⟨by decide, by decide⟩ ⟨by decide, by decide⟩ dX8_cellOf_13) X (fun H locs X => ?_)
  refine lv_iand C.1 C.2.1 dX8_cellOf_16 ?_
  obtain ⟨x5, hx5, he⟩ := jq_ln he
  refine jq_top hx5 ?_
  refine lv_istore_n (lv' := [(3, .int x5), (0, .ref a), (1, .int p0), (2, .int p1)]) C.1 C.2.1 dX8_cellOf_17 rfl hl (by decide) rfl (fun ls hl => ?_)
  refine lv_iload_n C.1 C.2.1 dX8_cellOf_18 rfl (lv_at hl 2 rfl) ?_
  refine lv_aload_n C.1 C.2.1 dX8_cellOf_19 rfl (lv_at hl 1 rfl) ?_
  refine jq_rgI C X fs_X8_29 he dX8_cellOf_20 (fun x6 he => ?_)
  refine lv_imul C.1 C.2.1 dX8_cellOf_23 ?_
  refine lv_iconst (v := 5) C.1 C.2.1 dX8_cellOf_24 (by decide) ?_
  refine lv_iload_n C.1 C.2.1 dX8_cellOf_25 rfl (lv_at hl 3 rfl) ?_
  refine lv_imul C.1 C.2.1 dX8_cellOf_26 ?_
  refine lv_iload_n C.1 C.2.1 dX8_cellOf_27 rfl (lv_at hl 0 rfl) ?_
  refine lv_ixor C.1 C.2.1 dX8_cellOf_28 ?_
  refine lv_aload_n C.1 C.2.1 dX8_cellOf_29 rfl (lv_at hl 1 rfl) ?_
  refine jq_rgI C X fs_X8_15 he dX8_cellOf_30 (fun x7 he => ?_)
  refine lv_iand C.1 C.2.1 dX8_cellOf_33 ?_
  refine lv_iadd C.1 C.2.1 dX8_cellOf_34 ?_
  exact jq_iret C X hr hlk he (by decide) (by decide) dX8_cellOf_35
set_option maxRecDepth 100000 in
set_option maxHeartbeats 4000000 in
theorem TX8_ownWay_b41 {p : Program} {l : Launch} {e : Env} {s : State} {m : MethodId} {args : Array Value} {below : List Frame} {meth : Method} {c : Code} {D : va_G} {ct : Nat → ClassId} {bs : Nat} {res : Int32 × jq_H} {n : Nat} (C : jq_C p s m args c cX8_ownWay 4 RX8 D ct bs) (hr : meth.sig.returnType = (some .int)) (hlk : meth.locks = false) {s0 : Int32} {h : jq_H} {H : Heap} {locs : List Loc} {ls : Array Slot} (X : jq_X bs D ct s.heap h H locs) (hl : lv_has ls 4 []) (he : X8_ownWay_b41 n s0 h = some res) :
    W p l e rm_X8_ownWay s m args below meth c H locs 0 0 (MQ below (jq_Qi bs D ct res) args s rm_X8_ownWay.cells rm_X8_ownWay.slots (fun q => bs ≤ q)) (F0 m 41 ls [.int s0]) := by
  unfold X8_ownWay_b41 at he
  exact jq_iret C X hr hlk he (by decide) (by decide) dX8_ownWay_41
set_option maxRecDepth 100000 in
set_option maxHeartbeats 4000000 in
theorem TX8_ownWay_b31 {p : Program} {l : Launch} {e : Env} {s : State} {m : MethodId} {args : Array Value} {below : List Frame} {meth : Method} {c : Code} {D : va_G} {ct : Nat → ClassId} {bs : Nat} {res : Int32 × jq_H} {n : Nat} (C : jq_C p s m args c cX8_ownWay 4 RX8 D ct bs) (hr : meth.sig.returnType = (some .int)) (hlk : meth.locks = false) {v2 : Int32} {h : jq_H} {H : Heap} {locs : List Loc} {ls : Array Slot} (X : jq_X bs D ct s.heap h H locs) (hl : lv_has ls 4 [(2, .int v2)]) (he : X8_ownWay_b31 n v2 h = some res) :
    W p l e rm_X8_ownWay s m args below meth c H locs 0 0 (MQ below (jq_Qi bs D ct res) args s rm_X8_ownWay.cells rm_X8_ownWay.slots (fun q => bs ≤ q)) (F0 m 31 ls []) := by
  unfold X8_ownWay_b31 at he
  refine lv_iload_n C.1 C.2.1 dX8_ownWay_31 rfl (lv_at hl 0 rfl) ?_
  refine lv_iconst (v := 2) C.1 C.2.1 dX8_ownWay_32 (by decide) ?_
  refine lv_icmp_lt (tgt := 40) C.1 C.2.1 dX8_ownWay_33 (by decide) (fun hc1 => ?_) (fun hc1 => ?_)
  · have he := jq_t hc1 he
    refine lv_iconst (v := 0) C.1 C.2.1 dX8_ownWay_40 (by decide) ?_
    exact TX8_ownWay_b41 (n := n) C hr hlk X (lv_sub hl [] rfl) he
  · have he := jq_n hc1 he
    refine lv_iconst (v := 1) C.1 C.2.1 dX8_ownWay_36 (by decide) ?_
    refine lv_goto (tgt := 41) C.1 C.2.1 dX8_ownWay_37 (by decide) ?_
    exact TX8_ownWay_b41 (n := n) C hr hlk X (lv_sub hl [] rfl) he
set_option maxRecDepth 100000 in
set_option maxHeartbeats 4000000 in
theorem TX8_ownWay_b4 {p : Program} {l : Launch} {e : Env} {s : State} {m : MethodId} {args : Array Value} {below : List Frame} {meth : Method} {c : Code} {D : va_G} {ct : Nat → ClassId} {bs : Nat} {res : Int32 × jq_H} {n : Nat} {KB : Nat → Int32 → Int32 → Int32 → jq_H → Option (Int32 × jq_H)} {K31 : Int32 → jq_H → Option (Int32 × jq_H)} (C : jq_C p s m args c cX8_ownWay 4 RX8 D ct bs) (hr : meth.sig.returnType = (some .int)) (hlk : meth.locks = false) (hKB : ∀ (u0 : Nat) (u1 : Int32) (u2 : Int32) (u3 : Int32) (h1 : jq_H) (H1 : Heap) (locs1 : List Loc) (ls1 : Array Slot), KB u0 u1 u2 u3 h1 = some res → jq_X bs D ct s.heap h1 H1 locs1 → lv_has ls1 4 [(0, .ref u0), (1, .int u1), (2, .int u2), (3, .int u3)] → W p l e rm_X8_ownWay s m args below meth c H1 locs1 0 0 (MQ below (jq_Qi bs D ct res) args s rm_X8_ownWay.cells rm_X8_ownWay.slots (fun q => bs ≤ q)) (F0 m 4 ls1 [])) (hK31 : ∀ (u2 : Int32) (h1 : jq_H) (H1 : Heap) (locs1 : List Loc) (ls1 : Array Slot), K31 u2 h1 = some res → jq_X bs D ct s.heap h1 H1 locs1 → lv_has ls1 4 [(2, .int u2)] → W p l e rm_X8_ownWay s m args below meth c H1 locs1 0 0 (MQ below (jq_Qi bs D ct res) args s rm_X8_ownWay.cells rm_X8_ownWay.slots (fun q => bs ≤ q)) (F0 m 31 ls1 [])) {v0 : Nat} {v1 : Int32} {v2 : Int32} {v3 : Int32} {h : jq_H} {H : Heap} {locs : List Loc} {ls : Array Slot} (X : jq_X bs D ct s.heap h H locs) (hl : lv_has ls 4 [(0, .ref v0), (1, .int v1), (2, .int v2), (3, .int v3)]) (he : X8_ownWay_b4 n KB K31 v0 v1 v2 v3 h = some res) :
    W p l e rm_X8_ownWay s m args below meth c H locs 0 0 (MQ below (jq_Qi bs D ct res) args s rm_X8_ownWay.cells rm_X8_ownWay.slots (fun q => bs ≤ q)) (F0 m 4 ls []) := by
  unfold X8_ownWay_b4 at he
  refine lv_iload_n C.1 C.2.1 dX8_ownWay_4 rfl (lv_at hl 3 rfl) ?_
  refine lv_iconst (v := 3) C.1 C.2.1 dX8_ownWay_5 (by decide) ?_
  refine lv_icmp_ge (tgt := 31) C.1 C.2.1 dX8_ownWay_6 (by decide) (fun hc2 => ?_) (fun hc2 => ?_)
  · have he := jq_t hc2 he
    exact hK31 _ _ _ _ _ he X (lv_sub hl [2] rfl)
  · have he := jq_n hc2 he
    refine lv_iload_n C.1 C.2.1 dX8_ownWay_9 rfl (lv_at hl 2 rfl) ?_
    refine lv_aload_n C.1 C.2.1 dX8_ownWay_10 rfl (lv_at hl 0 rfl) ?_
    refine jq_rgR C X fs_X8_22 he dX8_ownWay_11 (fun q3 he => ?_)
    refine lv_aload_n C.1 C.2.1 dX8_ownWay_14 rfl (lv_at hl 0 rfl) ?_
    refine lv_iload_n C.1 C.2.1 dX8_ownWay_15 rfl (lv_at hl 3 rfl) ?_
    refine lv_iload_n C.1 C.2.1 dX8_ownWay_16 rfl (lv_at hl 1 rfl) ?_
    obtain ⟨z4, hz4, he⟩ := jq_b he
    obtain ⟨hz4c, hz4⟩ := jq_ite hz4
    refine jq_gi (jq_runV (a := v0) (av := [.int v3, .int v1]) C X (M_X8_cellOf l bs D ct n h v0 v3 v1 _ hz4) mf_X8_cellOf gw_231 gs_6 (Or.inl gw_229) rc_X8 hz4c (by decide) rfl hl.1 rfl (Nat.le_of_ble_eq_true rfl) ⟨by decide, by decide⟩ ⟨by decide, by decide⟩ dX8_ownWay_17) X (fun H locs X => ?_)
    obtain ⟨z5, hz5, he⟩ := jq_b he
    obtain ⟨hz5c, hz5⟩ := jq_ite hz5
    refine jq_gi (jq_runV (a := q3) (av := [.int z4.1]) C X (M_X4_counterWay l bs D ct n z4.2 q3 z4.1 _ hz5) mf_X4_counterWay gw_209 gs_5 (Or.inr ⟨_, gw_237⟩) rc_X4 hz5c (by decide) rfl hl.1 rfl (Nat.le_of_ble_eq_true rfl) ⟨by decide, by decide⟩ ⟨by decide, by decide⟩ dX8_ownWay_20) X (fun H locs X => ?_)
    refine lv_iadd C.1 C.2.1 dX8_ownWay_23 ?_
    obtain ⟨x6, hx6, he⟩ := jq_ln he
    refine jq_top hx6 ?_
    refine lv_istore_n (lv' := [(2, .int x6), (0, .ref v0), (1, .int v1), (3, .int v3)]) C.1 C.2.1 dX8_ownWay_24 rfl hl (by decide) rfl (fun ls hl => ?_)
    obtain ⟨x7, hx7, he⟩ := jq_ln he
    refine lv_iinc (v := x7) (lv' := [(3, .int x7), (2, .int x6), (0, .ref v0), (1, .int v1)]) C.1 C.2.1 dX8_ownWay_25 hl (k := 3) rfl (by rw [hx7]; rfl) (by decide) rfl (fun ls hl => ?_)
    refine lv_goto (tgt := 4) C.1 C.2.1 dX8_ownWay_28 (by decide) ?_
    exact hKB _ _ _ _ _ _ _ _ he X (lv_sub hl [2, 3, 1, 0] rfl)
set_option maxRecDepth 100000 in
set_option maxHeartbeats 4000000 in
theorem TX8_ownWay_l4 {p : Program} {l : Launch} {e : Env} {s : State} {m : MethodId} {args : Array Value} {below : List Frame} {meth : Method} {c : Code} {D : va_G} {ct : Nat → ClassId} {bs : Nat} {res : Int32 × jq_H} {n : Nat} {K31 : Int32 → jq_H → Option (Int32 × jq_H)} (C : jq_C p s m args c cX8_ownWay 4 RX8 D ct bs) (hr : meth.sig.returnType = (some .int)) (hlk : meth.locks = false) (hK31 : ∀ (u2 : Int32) (h1 : jq_H) (H1 : Heap) (locs1 : List Loc) (ls1 : Array Slot), K31 u2 h1 = some res → jq_X bs D ct s.heap h1 H1 locs1 → lv_has ls1 4 [(2, .int u2)] → W p l e rm_X8_ownWay s m args below meth c H1 locs1 0 0 (MQ below (jq_Qi bs D ct res) args s rm_X8_ownWay.cells rm_X8_ownWay.slots (fun q => bs ≤ q)) (F0 m 31 ls1 [])) :
    ∀ (k : Nat) (v0 : Nat) (v1 : Int32) (v2 : Int32) (v3 : Int32) (h : jq_H) (H : Heap) (locs : List Loc) (ls : Array Slot), X8_ownWay_l4 n K31 k v0 v1 v2 v3 h = some res → jq_X bs D ct s.heap h H locs → lv_has ls 4 [(0, .ref v0), (1, .int v1), (2, .int v2), (3, .int v3)] → W p l e rm_X8_ownWay s m args below meth c H locs 0 0 (MQ below (jq_Qi bs D ct res) args s rm_X8_ownWay.cells rm_X8_ownWay.slots (fun q => bs ≤ q)) (F0 m 4 ls []) := by
  intro k
  induction k with
  | zero => intro v0 v1 v2 v3 h H locs ls he; cases (show (none : Option (Int32 × jq_H)) = some res from he)
  | succ k ih =>
    intro v0 v1 v2 v3 h H locs ls he X hl
    exact TX8_ownWay_b4 (n := n) C hr hlk (KB := X8_ownWay_l4 n K31 k) ih hK31 X hl he
set_option maxRecDepth 100000 in
set_option maxHeartbeats 4000000 in
theorem M_X8_ownWay (l : Launch) (bs : Nat) (D : va_G) (ct : Nat → ClassId) (n : Nat) (h : jq_H) (a : Nat) (p0 : Int32) (res : Int32 × jq_H) (he : X8_ownWay n h a p0 = some res) : jq_M l yX8_ownWay cX8_ownWay 4 (some .int) rm_X8_ownWay (jq_P [.ref a, .int p0] bs D ct h) (jq_Qi bs D ct res) bs := by
  refine jq_start2 (by decide +kernel) (Nat.le_of_ble_eq_true rfl) ?_
  intro p e s m args below meth c ls H locs C hr hlk hin hl X
  have C : jq_C p s m args c cX8_ownWay 4 RX8 D ct bs := C
  have hin : meth.name = "ownWay" := hin
  have hl : lv_has ls 4 [(0, .ref a), (1, .int p0)] := hl
  unfold X8_ownWay at he
  refine lv_iconst (v := 0) C.1 C.2.1 dX8_ownWay_0 (by decide) ?_
  refine lv_istore_n (lv' := [(2, .int 0), (0, .ref a), (1, .int p0)]) C.1 C.2.1 dX8_ownWay_1 rfl hl (by decide) rfl (fun ls hl => ?_)
  refine lv_iconst (v := 0) C.1 C.2.1 dX8_ownWay_2 (by decide) ?_
  refine lv_istore_n (lv' := [(3, .int 0), (2, .int 0), (0, .ref a), (1, .int p0)]) C.1 C.2.1 dX8_ownWay_3 rfl hl (by decide) rfl (fun ls hl => ?_)
  exact TX8_ownWay_l4 (n := n) C hr hlk (fun w2 hh H locs ls he X hl => by
    exact TX8_ownWay_b31 (n := n) C hr hlk X hl he) n _ _ _ _ _ _ _ _ he X (lv_sub hl [2, 3, 1, 0] rfl)
set_option maxRecDepth 100000 in
set_option maxHeartbeats 4000000 in
theorem M_X9_slotOf (l : Launch) (bs : Nat) (D : va_G) (ct : Nat → ClassId) (n : Nat) (h : jq_H) (a : Nat) (p0 : Int32) (res : Int32 × jq_H) (he : X9_slotOf n h a p0 = some res) : jq_M l yX9_slotOf cX9_slotOf 2 (some .int) rm_X9_slotOf (jq_P [.ref a, .int p0] bs D ct h) (jq_Qi bs D ct res) bs := by
  refine jq_start2 (by decide +kernel) (Nat.le_of_ble_eq_true rfl) ?_
  intro p e s m args below meth c ls H locs C hr hlk hin hl X
  have C : jq_C p s m args c cX9_slotOf 2 RX9 D ct bs := C
  have hin : meth.name = "slotOf" := hin
  have hl : lv_has ls 2 [(0, .ref a), (1, .int p0)] := hl
  unfold X9_slotOf at he
  refine lv_iload_n C.1 C.2.1 dX9_slotOf_0 rfl (lv_at hl 1 rfl) ?_
  refine lv_aload_n C.1 C.2.1 dX9_slotOf_1 rfl (lv_at hl 0 rfl) ?_
  refine jq_rgI C X fs_X9_13 he dX9_slotOf_2 (fun x1 he => ?_)
  refine lv_iand C.1 C.2.1 dX9_slotOf_5 ?_
  exact jq_iret C X hr hlk he (by decide) (by decide) dX9_slotOf_6
set_option maxRecDepth 100000 in
set_option maxHeartbeats 4000000 in
theorem TX9_bitOf_b21 {p : Program} {l : Launch} {e : Env} {s : State} {m : MethodId} {args : Array Value} {below : List Frame} {meth : Method} {c : Code} {D : va_G} {ct : Nat → ClassId} {bs : Nat} {res : Int32 × jq_H} {n : Nat} (C : jq_C p s m args c cX9_bitOf 2 RX9 D ct bs) (hr : meth.sig.returnType = (some .int)) (hlk : meth.locks = false) {s0 : Int32} {h : jq_H} {H : Heap} {locs : List Loc} {ls : Array Slot} (X : jq_X bs D ct s.heap h H locs) (hl : lv_has ls 2 []) (he : X9_bitOf_b21 n s0 h = some res) :
    W p l e rm_X9_bitOf s m args below meth c H locs 0 0 (MQ below (jq_Qi bs D ct res) args s rm_X9_bitOf.cells rm_X9_bitOf.slots (fun q => bs ≤ q)) (F0 m 21 ls [.int s0]) := by
  unfold X9_bitOf_b21 at he
  exact jq_iret C X hr hlk he (by decide) (by decide) dX9_bitOf_21
set_option maxRecDepth 100000 in
set_option maxHeartbeats 4000000 in
theorem M_X9_bitOf (l : Launch) (bs : Nat) (D : va_G) (ct : Nat → ClassId) (n : Nat) (h : jq_H) (a : Nat) (p0 : Int32) (res : Int32 × jq_H) (he : X9_bitOf n h a p0 = some res) : jq_M l yX9_bitOf cX9_bitOf 2 (some .int) rm_X9_bitOf (jq_P [.ref a, .int p0] bs D ct h) (jq_Qi bs D ct res) bs := by
  refine jq_start2 (by decide +kernel) (Nat.le_of_ble_eq_true rfl) ?_
  intro p e s m args below meth c ls H locs C hr hlk hin hl X
  have C : jq_C p s m args c cX9_bitOf 2 RX9 D ct bs := C
  have hin : meth.name = "bitOf" := hin
  have hl : lv_has ls 2 [(0, .ref a), (1, .int p0)] := hl
  unfold X9_bitOf at he
  refine lv_iload_n C.1 C.2.1 dX9_bitOf_0 rfl (lv_at hl 1 rfl) ?_
  refine lv_if_ne (tgt := 8) C.1 C.2.1 dX9_bitOf_1 (by decide) (fun hc1 => ?_) (fun hc1 => ?_)
  · have he := jq_n hc1 he
    refine lv_aload_n C.1 C.2.1 dX9_bitOf_8 rfl (lv_at hl 0 rfl) ?_
    refine jq_rgR C X fs_X9_22 he dX9_bitOf_9 (fun q2 he => ?_)
    refine jq_rgI C X fs_X9_26 he dX9_bitOf_12 (fun x3 he => ?_)
    refine lv_iload_n C.1 C.2.1 dX9_bitOf_15 rfl (lv_at hl 1 rfl) ?_
    refine lv_iconst (v := 1) C.1 C.2.1 dX9_bitOf_16 (by decide) ?_
    refine lv_isub C.1 C.2.1 dX9_bitOf_17 ?_
    refine lv_ishr C.1 C.2.1 dX9_bitOf_18 ?_
    refine lv_iconst (v := 1) C.1 C.2.1 dX9_bitOf_19 (by decide) ?_
    refine lv_iand C.1 C.2.1 dX9_bitOf_20 ?_
    exact TX9_bitOf_b21 (n := n) C hr hlk X (lv_sub hl [] rfl) he
  · have he := jq_t hc1 he
    refine lv_iconst (v := 1) C.1 C.2.1 dX9_bitOf_4 (by decide) ?_
    refine lv_goto (tgt := 21) C.1 C.2.1 dX9_bitOf_5 (by decide) ?_
    exact TX9_bitOf_b21 (n := n) C hr hlk X (lv_sub hl [] rfl) he
set_option maxRecDepth 100000 in
set_option maxHeartbeats 4000000 in
theorem TX9_sumAt_b72 {p : Program} {l : Launch} {e : Env} {s : State} {m : MethodId} {args : Array Value} {below : List Frame} {meth : Method} {c : Code} {D : va_G} {ct : Nat → ClassId} {bs : Nat} {res : Int32 × jq_H} {n : Nat} (C : jq_C p s m args c cX9_sumAt 5 RX9 D ct bs) (hr : meth.sig.returnType = (some .int)) (hlk : meth.locks = false) {v3 : Int32} {h : jq_H} {H : Heap} {locs : List Loc} {ls : Array Slot} (X : jq_X bs D ct s.heap h H locs) (hl : lv_has ls 5 [(3, .int v3)]) (he : X9_sumAt_b72 n v3 h = some res) :
    W p l e rm_X9_sumAt s m args below meth c H locs 0 0 (MQ below (jq_Qi bs D ct res) args s rm_X9_sumAt.cells rm_X9_sumAt.slots (fun q => bs ≤ q)) (F0 m 72 ls []) := by
  unfold X9_sumAt_b72 at he
  refine lv_iload_n C.1 C.2.1 dX9_sumAt_72 rfl (lv_at hl 0 rfl) ?_
  exact jq_iret C X hr hlk he (by decide) (by decide) dX9_sumAt_73
set_option maxRecDepth 100000 in
set_option maxHeartbeats 4000000 in
theorem TX9_sumAt_b64 {p : Program} {l : Launch} {e : Env} {s : State} {m : MethodId} {args : Array Value} {below : List Frame} {meth : Method} {c : Code} {D : va_G} {ct : Nat → ClassId} {bs : Nat} {res : Int32 × jq_H} {n : Nat} {KB : Nat → Int32 → Int32 → Int32 → jq_H → Option (Int32 × jq_H)} {K72 : Int32 → jq_H → Option (Int32 × jq_H)} (C : jq_C p s m args c cX9_sumAt 5 RX9 D ct bs) (hr : meth.sig.returnType = (some .int)) (hlk : meth.locks = false) (hKB : ∀ (u0 : Nat) (u2 : Int32) (u3 : Int32) (u4 : Int32) (h1 : jq_H) (H1 : Heap) (locs1 : List Loc) (ls1 : Array Slot), KB u0 u2 u3 u4 h1 = some res → jq_X bs D ct s.heap h1 H1 locs1 → lv_has ls1 5 [(0, .ref u0), (2, .int u2), (3, .int u3), (4, .int u4)] → W p l e rm_X9_sumAt s m args below meth c H1 locs1 0 0 (MQ below (jq_Qi bs D ct res) args s rm_X9_sumAt.cells rm_X9_sumAt.slots (fun q => bs ≤ q)) (F0 m 16 ls1 [])) (hK72 : ∀ (u3 : Int32) (h1 : jq_H) (H1 : Heap) (locs1 : List Loc) (ls1 : Array Slot), K72 u3 h1 = some res → jq_X bs D ct s.heap h1 H1 locs1 → lv_has ls1 5 [(3, .int u3)] → W p l e rm_X9_sumAt s m args below meth c H1 locs1 0 0 (MQ below (jq_Qi bs D ct res) args s rm_X9_sumAt.cells rm_X9_sumAt.slots (fun q => bs ≤ q)) (F0 m 72 ls1 [])) {v0 : Nat} {v2 : Int32} {v4 : Int32} {s0 : Int32} {s1 : Int32} {h : jq_H} {H : Heap} {locs : List Loc} {ls : Array Slot} (X : jq_X bs D ct s.heap h H locs) (hl : lv_has ls 5 [(0, .ref v0), (2, .int v2), (4, .int v4)]) (he : X9_sumAt_b64 n KB K72 v0 v2 v4 s0 s1 h = some res) :
    W p l e rm_X9_sumAt s m args below meth c H locs 0 0 (MQ below (jq_Qi bs D ct res) args s rm_X9_sumAt.cells rm_X9_sumAt.slots (fun q => bs ≤ q)) (F0 m 64 ls [.int s1, .int s0]) := by
  unfold X9_sumAt_b64 at he
  refine lv_iadd C.1 C.2.1 dX9_sumAt_64 ?_
  obtain ⟨x1, hx1, he⟩ := jq_ln he
  refine jq_top hx1 ?_
  refine lv_istore_n (lv' := [(3, .int x1), (0, .ref v0), (2, .int v2), (4, .int v4)]) C.1 C.2.1 dX9_sumAt_65 rfl hl (by decide) rfl (fun ls hl => ?_)
  obtain ⟨x2, hx2, he⟩ := jq_ln he
  refine lv_iinc (v := x2) (lv' := [(4, .int x2), (3, .int x1), (0, .ref v0), (2, .int v2)]) C.1 C.2.1 dX9_sumAt_66 hl (k := 3) rfl (by rw [hx2]; rfl) (by decide) rfl (fun ls hl => ?_)
  refine lv_goto (tgt := 16) C.1 C.2.1 dX9_sumAt_69 (by decide) ?_
  exact hKB _ _ _ _ _ _ _ _ he X (lv_sub hl [2, 3, 1, 0] rfl)
set_option maxRecDepth 100000 in
set_option maxHeartbeats 4000000 in
theorem TX9_sumAt_b16 {p : Program} {l : Launch} {e : Env} {s : State} {m : MethodId} {args : Array Value} {below : List Frame} {meth : Method} {c : Code} {D : va_G} {ct : Nat → ClassId} {bs : Nat} {res : Int32 × jq_H} {n : Nat} {KB : Nat → Int32 → Int32 → Int32 → jq_H → Option (Int32 × jq_H)} {K72 : Int32 → jq_H → Option (Int32 × jq_H)} (C : jq_C p s m args c cX9_sumAt 5 RX9 D ct bs) (hr : meth.sig.returnType = (some .int)) (hlk : meth.locks = false) (hKB : ∀ (u0 : Nat) (u2 : Int32) (u3 : Int32) (u4 : Int32) (h1 : jq_H) (H1 : Heap) (locs1 : List Loc) (ls1 : Array Slot), KB u0 u2 u3 u4 h1 = some res → jq_X bs D ct s.heap h1 H1 locs1 → lv_has ls1 5 [(0, .ref u0), (2, .int u2), (3, .int u3), (4, .int u4)] → W p l e rm_X9_sumAt s m args below meth c H1 locs1 0 0 (MQ below (jq_Qi bs D ct res) args s rm_X9_sumAt.cells rm_X9_sumAt.slots (fun q => bs ≤ q)) (F0 m 16 ls1 [])) (hK72 : ∀ (u3 : Int32) (h1 : jq_H) (H1 : Heap) (locs1 : List Loc) (ls1 : Array Slot), K72 u3 h1 = some res → jq_X bs D ct s.heap h1 H1 locs1 → lv_has ls1 5 [(3, .int u3)] → W p l e rm_X9_sumAt s m args below meth c H1 locs1 0 0 (MQ below (jq_Qi bs D ct res) args s rm_X9_sumAt.cells rm_X9_sumAt.slots (fun q => bs ≤ q)) (F0 m 72 ls1 [])) {v0 : Nat} {v2 : Int32} {v3 : Int32} {v4 : Int32} {h : jq_H} {H : Heap} {locs : List Loc} {ls : Array Slot} (X : jq_X bs D ct s.heap h H locs) (hl : lv_has ls 5 [(0, .ref v0), (2, .int v2), (3, .int v3), (4, .int v4)]) (he : X9_sumAt_b16 n KB K72 v0 v2 v3 v4 h = some res) :
    W p l e rm_X9_sumAt s m args below meth c H locs 0 0 (MQ below (jq_Qi bs D ct res) args s rm_X9_sumAt.cells rm_X9_sumAt.slots (fun q => bs ≤ q)) (F0 m 16 ls []) := by
  unfold X9_sumAt_b16 at he
  refine lv_iload C.1 C.2.1 dX9_sumAt_16 (lv_at hl 3 rfl) ?_
  refine lv_aload_n C.1 C.2.1 dX9_sumAt_18 rfl (lv_at hl 0 rfl) ?_
  refine jq_rgI C X fs_X9_34 he dX9_sumAt_19 (fun x3 he => ?_)
  refine lv_icmp_ge (tgt := 72) C.1 C.2.1 dX9_sumAt_22 (by decide) (fun hc4 => ?_) (fun hc4 => ?_)
  · have he := jq_t hc4 he
    exact hK72 _ _ _ _ _ he X (lv_sub hl [2] rfl)
  · have he := jq_n hc4 he
    refine lv_iload_n C.1 C.2.1 dX9_sumAt_25 rfl (lv_at hl 2 rfl) ?_
    refine lv_aload_n C.1 C.2.1 dX9_sumAt_26 rfl (lv_at hl 0 rfl) ?_
    refine lv_iload C.1 C.2.1 dX9_sumAt_27 (lv_at hl 3 rfl) ?_
    obtain ⟨z5, hz5, he⟩ := jq_b he
    obtain ⟨hz5c, hz5⟩ := jq_ite hz5
    refine jq_gi (jq_runV (a := v0) (av := [.int v4]) C X (M_X9_bitOf l bs D ct n h v0 v4 _ hz5) mf_X9_bitOf gw_252 gs_8 (Or.inl gw_250) rc_X9 hz5c (by decide) rfl hl.1 rfl (Nat.le_of_ble_eq_true rfl) ⟨by decide, by decide⟩ ⟨by decide, by decide⟩ dX9_sumAt_29) X (fun H locs X => ?_)
    refine lv_iconst (v := 1) C.1 C.2.1 dX9_sumAt_32 (by decide) ?_
    refine lv_icmp_ne (tgt := 51) C.1 C.2.1 dX9_sumAt_33 (by decide) (fun hc6 => ?_) (fun hc6 => ?_)
    · have he := jq_n hc6 he
      refine lv_aload_n C.1 C.2.1 dX9_sumAt_51 rfl (lv_at hl 0 rfl) ?_
      refine jq_rgR C X fs_X9_22 he dX9_sumAt_52 (fun q7 he => ?_)
      refine jq_rgR C X fs_X9_40 he dX9_sumAt_55 (fun q8 he => ?_)
      refine lv_iload_n C.1 C.2.1 dX9_sumAt_58 rfl (lv_at hl 1 rfl) ?_
      refine lv_iload C.1 C.2.1 dX9_sumAt_59 (lv_at hl 3 rfl) ?_
      refine lv_iadd C.1 C.2.1 dX9_sumAt_61 ?_
      refine jq_rldI C X he dX9_sumAt_62 (fun x9 he => ?_)
      refine lv_ineg C.1 C.2.1 dX9_sumAt_63 ?_
      exact TX9_sumAt_b64 (n := n) C hr hlk hKB hK72 X (lv_sub hl [0, 1, 3] rfl) he
    · have he := jq_t hc6 he
      refine lv_aload_n C.1 C.2.1 dX9_sumAt_36 rfl (lv_at hl 0 rfl) ?_
      refine jq_rgR C X fs_X9_22 he dX9_sumAt_37 (fun q10 he => ?_)
      refine jq_rgR C X fs_X9_40 he dX9_sumAt_40 (fun q11 he => ?_)
      refine lv_iload_n C.1 C.2.1 dX9_sumAt_43 rfl (lv_at hl 1 rfl) ?_
      refine lv_iload C.1 C.2.1 dX9_sumAt_44 (lv_at hl 3 rfl) ?_
      refine lv_iadd C.1 C.2.1 dX9_sumAt_46 ?_
      refine jq_rldI C X he dX9_sumAt_47 (fun x12 he => ?_)
      refine lv_goto (tgt := 64) C.1 C.2.1 dX9_sumAt_48 (by decide) ?_
      exact TX9_sumAt_b64 (n := n) C hr hlk hKB hK72 X (lv_sub hl [0, 1, 3] rfl) he
set_option maxRecDepth 100000 in
set_option maxHeartbeats 4000000 in
theorem TX9_sumAt_l16 {p : Program} {l : Launch} {e : Env} {s : State} {m : MethodId} {args : Array Value} {below : List Frame} {meth : Method} {c : Code} {D : va_G} {ct : Nat → ClassId} {bs : Nat} {res : Int32 × jq_H} {n : Nat} {K72 : Int32 → jq_H → Option (Int32 × jq_H)} (C : jq_C p s m args c cX9_sumAt 5 RX9 D ct bs) (hr : meth.sig.returnType = (some .int)) (hlk : meth.locks = false) (hK72 : ∀ (u3 : Int32) (h1 : jq_H) (H1 : Heap) (locs1 : List Loc) (ls1 : Array Slot), K72 u3 h1 = some res → jq_X bs D ct s.heap h1 H1 locs1 → lv_has ls1 5 [(3, .int u3)] → W p l e rm_X9_sumAt s m args below meth c H1 locs1 0 0 (MQ below (jq_Qi bs D ct res) args s rm_X9_sumAt.cells rm_X9_sumAt.slots (fun q => bs ≤ q)) (F0 m 72 ls1 [])) :
    ∀ (k : Nat) (v0 : Nat) (v2 : Int32) (v3 : Int32) (v4 : Int32) (h : jq_H) (H : Heap) (locs : List Loc) (ls : Array Slot), X9_sumAt_l16 n K72 k v0 v2 v3 v4 h = some res → jq_X bs D ct s.heap h H locs → lv_has ls 5 [(0, .ref v0), (2, .int v2), (3, .int v3), (4, .int v4)] → W p l e rm_X9_sumAt s m args below meth c H locs 0 0 (MQ below (jq_Qi bs D ct res) args s rm_X9_sumAt.cells rm_X9_sumAt.slots (fun q => bs ≤ q)) (F0 m 16 ls []) := by
  intro k
  induction k with
  | zero => intro v0 v2 v3 v4 h H locs ls he; cases (show (none : Option (Int32 × jq_H)) = some res from he)
  | succ k ih =>
    intro v0 v2 v3 v4 h H locs ls he X hl
    exact TX9_sumAt_b16 (n := n) C hr hlk (KB := X9_sumAt_l16 n K72 k) ih hK72 X hl he
set_option maxRecDepth 100000 in
set_option maxHeartbeats 4000000 in
theorem M_X9_sumAt (l : Launch) (bs : Nat) (D : va_G) (ct : Nat → ClassId) (n : Nat) (h : jq_H) (a : Nat) (p0 : Int32) (res : Int32 × jq_H) (he : X9_sumAt n h a p0 = some res) : jq_M l yX9_sumAt cX9_sumAt 5 (some .int) rm_X9_sumAt (jq_P [.ref a, .int p0] bs D ct h) (jq_Qi bs D ct res) bs := by
  refine jq_start2 (by decide +kernel) (Nat.le_of_ble_eq_true rfl) ?_
  intro p e s m args below meth c ls H locs C hr hlk hin hl X
  have C : jq_C p s m args c cX9_sumAt 5 RX9 D ct bs := C
  have hin : meth.name = "sumAt" := hin
  have hl : lv_has ls 5 [(0, .ref a), (1, .int p0)] := hl
  unfold X9_sumAt at he
  refine lv_aload_n C.1 C.2.1 dX9_sumAt_0 rfl (lv_at hl 0 rfl) ?_
  refine lv_iload_n C.1 C.2.1 dX9_sumAt_1 rfl (lv_at hl 1 rfl) ?_
  obtain ⟨z13, hz13, he⟩ := jq_b he
  obtain ⟨hz13c, hz13⟩ := jq_ite hz13
  refine jq_gi (jq_runV (a := a) (av := [.int p0]) C X (M_X9_slotOf l bs D ct n h a p0 _ hz13) mf_X9_slotOf gw_247 gw_248 (Or.inl gw_246) rc_X9 hz13c (by decide) rfl hl.1 rfl (Nat.le_of_ble_eq_true rfl) ⟨by decide, by decide⟩ ⟨by decide, by decide⟩ dX9_sumAt_2) X (fun H locs X => ?_)
  refine lv_aload_n C.1 C.2.1 dX9_sumAt_5 rfl (lv_at hl 0 rfl) ?_
  refine jq_rgI C X fs_X9_34 he dX9_sumAt_6 (fun x14 he => ?_)
  refine lv_imul C.1 C.2.1 dX9_sumAt_9 ?_
  obtain ⟨x15, hx15, he⟩ := jq_ln he
  refine jq_top hx15 ?_
  refine lv_istore_n (lv' := [(2, .int x15), (0, .ref a), (1, .int p0)]) C.1 C.2.1 dX9_sumAt_10 rfl hl (by decide) rfl (fun ls hl => ?_)
  refine lv_iconst (v := 0) C.1 C.2.1 dX9_sumAt_11 (by decide) ?_
  refine lv_istore_n (lv' := [(3, .int 0), (2, .int x15), (0, .ref a), (1, .int p0)]) C.1 C.2.1 dX9_sumAt_12 rfl hl (by decide) rfl (fun ls hl => ?_)
  refine lv_iconst (v := 0) C.1 C.2.1 dX9_sumAt_13 (by decide) ?_
  refine lv_istore (lv' := [(4, .int 0), (3, .int 0), (2, .int x15), (0, .ref a), (1, .int p0)]) C.1 C.2.1 dX9_sumAt_14 hl (by decide) rfl (fun ls hl => ?_)
  exact TX9_sumAt_l16 (n := n) C hr hlk (fun w3 hh H locs ls he X hl => by
    exact TX9_sumAt_b72 (n := n) C hr hlk X hl he) n _ _ _ _ _ _ _ _ he X (lv_sub hl [3, 2, 1, 0] rfl)
