set_option maxRecDepth 100000 in
set_option maxHeartbeats 4000000 in
theorem TX3_meetBranch_b46 {p : Program} {l : Launch} {e : Env} {s : State} {m : MethodId} {args : Array Value} {below : List Frame} {meth : Method} {c : Code} {D : va_G} {ct : Nat → ClassId} {bs : Nat} {res : jq_H} {n : Nat} (C : jq_C p s m args c cX3_meetBranch 4 RX3 D ct bs) (hr : meth.sig.returnType = none) (hlk : meth.locks = false) {v0 : Nat} {v1 : Int32} {v2 : Int32} {h : jq_H} {H : Heap} {locs : List Loc} {ls : Array Slot} (X : jq_X bs D ct s.heap h H locs) (hl : lv_has ls 4 [(0, .ref v0), (1, .int v1), (2, .int v2)]) (he : X3_meetBranch_b46 n v0 v1 v2 h = some res) :
    W p l e rm_X3_meetBranch s m args below meth c H locs 0 0 (MQ below (jq_Qv bs D ct res) args s rm_X3_meetBranch.cells rm_X3_meetBranch.slots (fun q => bs ≤ q)) (F0 m 46 ls []) := by
  unfold X3_meetBranch_b46 at he
  refine lv_aload_n C.1 C.2.1 dX3_meetBranch_46 rfl (lv_at hl 0 rfl) ?_
  refine lv_iload_n C.1 C.2.1 dX3_meetBranch_47 rfl (lv_at hl 1 rfl) ?_
  refine lv_iload_n C.1 C.2.1 dX3_meetBranch_48 rfl (lv_at hl 2 rfl) ?_
  obtain ⟨z1, hz1, he⟩ := jq_b he
  have hrun : va_Run p l e rm_X3_meetBranch s m args below meth c H locs 0 0 0 0 (F0 m 49 ls [.int v2, .int v1, .ref v0]) [] (jq_Qv bs D ct z1 (Value.ref v0 :: [.int v1, .int v2]).toArray) (fun q => bs ≤ q) := by
    unfold V_learn at hz1
    by_cases hci0 : jq_ci h v0 = 0
    · exact jq_runU (a := v0) (av := [.int v1, .int v2]) (x := ⟨"WayGuesses$Guesser", "learn", "(II)V"⟩) (owner := "WayGuesses$Guesser") (E := RX0) C X (M_X0_learn l bs D ct n h v0 v1 v2 _ (jq_t hci0 hz1)) mf_X0_learn gw_291 gw_290 gw_287 gw_289 (Or.inr gw_288) rfl ⟨by decide, by decide⟩ rc_X0 hci0 (by decide) rfl hl.1 rfl (Nat.le_of_ble_eq_true rfl) ⟨by decide, by decide⟩ ⟨by decide, by decide⟩ dX3_meetBranch_49
    have hz1 := jq_n hci0 hz1
    by_cases hci1 : jq_ci h v0 = 1
    · exact jq_runU (a := v0) (av := [.int v1, .int v2]) (x := ⟨"WayGuesses$Guesser", "learn", "(II)V"⟩) (owner := "WayGuesses$Guesser") (E := RX1) C X (M_X1_learn l bs D ct n h v0 v1 v2 _ (jq_t hci1 hz1)) mf_X1_learn gw_298 gw_297 gw_287 gw_289 (Or.inr gw_288) rfl ⟨by decide, by decide⟩ rc_X1 hci1 (by decide) rfl hl.1 rfl (Nat.le_of_ble_eq_true rfl) ⟨by decide, by decide⟩ ⟨by decide, by decide⟩ dX3_meetBranch_49
    have hz1 := jq_n hci1 hz1
    by_cases hci2 : jq_ci h v0 = 2
    · exact jq_runU (a := v0) (av := [.int v1, .int v2]) (x := ⟨"WayGuesses$Guesser", "learn", "(II)V"⟩) (owner := "WayGuesses$Guesser") (E := RX2) C X (M_X2_learn l bs D ct n h v0 v1 v2 _ (jq_t hci2 hz1)) mf_X2_learn gw_302 gw_301 gw_287 gw_289 (Or.inr gw_288) rfl ⟨by decide, by decide⟩ rc_X2 hci2 (by decide) rfl hl.1 rfl (Nat.le_of_ble_eq_true rfl) ⟨by decide, by decide⟩ ⟨by decide, by decide⟩ dX3_meetBranch_49
    have hz1 := jq_n hci2 hz1
    by_cases hci4 : jq_ci h v0 = 4
    · exact jq_runU (a := v0) (av := [.int v1, .int v2]) (x := ⟨"WayGuesses$Guesser", "learn", "(II)V"⟩) (owner := "WayGuesses$Guesser") (E := RX5) C X (M_X5_learn l bs D ct n h v0 v1 v2 _ (jq_t hci4 hz1)) mf_X5_learn gw_305 gw_304 gw_287 gw_289 (Or.inr gw_288) rfl ⟨by decide, by decide⟩ rc_X5 hci4 (by decide) rfl hl.1 rfl (Nat.le_of_ble_eq_true rfl) ⟨by decide, by decide⟩ ⟨by decide, by decide⟩ dX3_meetBranch_49
    have hz1 := jq_n hci4 hz1
    by_cases hci7 : jq_ci h v0 = 7
    · exact jq_runU (a := v0) (av := [.int v1, .int v2]) (x := ⟨"WayGuesses$Guesser", "learn", "(II)V"⟩) (owner := "WayGuesses$Guesser") (E := RX8) C X (M_X8_learn l bs D ct n h v0 v1 v2 _ (jq_t hci7 hz1)) mf_X8_learn gw_309 gw_308 gw_287 gw_289 (Or.inr gw_288) rfl ⟨by decide, by decide⟩ rc_X8 hci7 (by decide) rfl hl.1 rfl (Nat.le_of_ble_eq_true rfl) ⟨by decide, by decide⟩ ⟨by decide, by decide⟩ dX3_meetBranch_49
    have hz1 := jq_n hci7 hz1
    by_cases hci8 : jq_ci h v0 = 8
    · exact jq_runU (a := v0) (av := [.int v1, .int v2]) (x := ⟨"WayGuesses$Guesser", "learn", "(II)V"⟩) (owner := "WayGuesses$Guesser") (E := RX9) C X (M_X9_learn l bs D ct n h v0 v1 v2 _ (jq_t hci8 hz1)) mf_X9_learn gw_313 gw_312 gw_287 gw_289 (Or.inr gw_288) rfl ⟨by decide, by decide⟩ rc_X9 hci8 (by decide) rfl hl.1 rfl (Nat.le_of_ble_eq_true rfl) ⟨by decide, by decide⟩ ⟨by decide, by decide⟩ dX3_meetBranch_49
    have hz1 := jq_n hci8 hz1
    cases hz1
  refine jq_gv (hrun) X (fun H locs X => ?_)
  refine lv_aload_n C.1 C.2.1 dX3_meetBranch_52 rfl (lv_at hl 0 rfl) ?_
  refine jq_rgR C X fs_X3_48 he dX3_meetBranch_53 (fun q2 he => ?_)
  refine lv_iload_n C.1 C.2.1 dX3_meetBranch_56 rfl (lv_at hl 1 rfl) ?_
  refine lv_iload_n C.1 C.2.1 dX3_meetBranch_57 rfl (lv_at hl 2 rfl) ?_
  obtain ⟨z3, hz3, he⟩ := jq_b he
  obtain ⟨hz3c, hz3⟩ := jq_ite hz3
  refine jq_gv (jq_runV (a := q2) (av := [.int v1, .int v2]) C X (M_X4_addWay l bs D ct n z1 q2 v1 v2 _ hz3) mf_X4_addWay gw_322 gs_13 (Or.inr ⟨_, gw_320⟩) rc_X4 hz3c (by decide) rfl hl.1 rfl (Nat.le_of_ble_eq_true rfl) ⟨by decide, by decide⟩ ⟨by decide, by decide⟩ dX3_meetBranch_58) X (fun H locs X => ?_)
  exact jq_vret C X hr hlk he (by decide) (by decide) dX3_meetBranch_61
set_option maxRecDepth 100000 in
set_option maxHeartbeats 4000000 in
theorem TX3_meetBranch_b23 {p : Program} {l : Launch} {e : Env} {s : State} {m : MethodId} {args : Array Value} {below : List Frame} {meth : Method} {c : Code} {D : va_G} {ct : Nat → ClassId} {bs : Nat} {res : jq_H} {n : Nat} (C : jq_C p s m args c cX3_meetBranch 4 RX3 D ct bs) (hr : meth.sig.returnType = none) (hlk : meth.locks = false) {v0 : Nat} {v1 : Int32} {v2 : Int32} {s0 : Nat} {s1 : Int32} {s2 : Int32} {h : jq_H} {H : Heap} {locs : List Loc} {ls : Array Slot} (X : jq_X bs D ct s.heap h H locs) (hl : lv_has ls 4 [(0, .ref v0), (1, .int v1), (2, .int v2)]) (he : X3_meetBranch_b23 n v0 v1 v2 s0 s1 s2 h = some res) :
    W p l e rm_X3_meetBranch s m args below meth c H locs 0 0 (MQ below (jq_Qv bs D ct res) args s rm_X3_meetBranch.cells rm_X3_meetBranch.slots (fun q => bs ≤ q)) (F0 m 23 ls [.int s2, .int s1, .ref s0]) := by
  unfold X3_meetBranch_b23 at he
  obtain ⟨z4, hz4, he⟩ := jq_b he
  obtain ⟨hz4c, hz4⟩ := jq_ite hz4
  refine jq_gv (jq_runV (a := s0) (av := [.int s1, .int s2]) C X (M_X4_countAsked l bs D ct n h s0 s1 s2 _ hz4) mf_X4_countAsked gw_256 gs_9 (Or.inr ⟨_, gw_254⟩) rc_X4 hz4c (by decide) rfl hl.1 rfl (Nat.le_of_ble_eq_true rfl) ⟨by decide, by decide⟩ ⟨by decide, by decide⟩ dX3_meetBranch_23) X (fun H locs X => ?_)
  refine lv_aload_n C.1 C.2.1 dX3_meetBranch_26 rfl (lv_at hl 0 rfl) ?_
  refine lv_iload_n C.1 C.2.1 dX3_meetBranch_27 rfl (lv_at hl 1 rfl) ?_
  obtain ⟨z5, hz5, he⟩ := jq_b he
  have hrun : va_Run p l e rm_X3_meetBranch s m args below meth c H locs 0 0 0 0 (F0 m 28 ls [.int v1, .ref v0]) [] (jq_Qi bs D ct z5 (Value.ref v0 :: [.int v1]).toArray) (fun q => bs ≤ q) := by
    unfold V_slotOf at hz5
    by_cases hci0 : jq_ci z4 v0 = 0
    · exact jq_runU (a := v0) (av := [.int v1]) (x := ⟨"WayGuesses$Guesser", "slotOf", "(I)I"⟩) (owner := "WayGuesses$Guesser") (E := RX0) C X (M_X0_slotOf l bs D ct n z4 v0 v1 _ (jq_t hci0 hz5)) mf_X0_slotOf gw_204 gw_261 gw_258 gw_260 (Or.inr gw_259) rfl ⟨by decide, by decide⟩ rc_X0 hci0 (by decide) rfl hl.1 rfl (Nat.le_of_ble_eq_true rfl) ⟨by decide, by decide⟩ ⟨by decide, by decide⟩ dX3_meetBranch_28
    have hz5 := jq_n hci0 hz5
    by_cases hci1 : jq_ci z4 v0 = 1
    · exact jq_runU (a := v0) (av := [.int v1]) (x := ⟨"WayGuesses$Guesser", "slotOf", "(I)I"⟩) (owner := "WayGuesses$Guesser") (E := RX1) C X (M_X1_slotOf l bs D ct n z4 v0 v1 _ (jq_t hci1 hz5)) mf_X1_slotOf gw_216 gw_262 gw_258 gw_260 (Or.inr gw_259) rfl ⟨by decide, by decide⟩ rc_X1 hci1 (by decide) rfl hl.1 rfl (Nat.le_of_ble_eq_true rfl) ⟨by decide, by decide⟩ ⟨by decide, by decide⟩ dX3_meetBranch_28
    have hz5 := jq_n hci1 hz5
    by_cases hci2 : jq_ci z4 v0 = 2
    · exact jq_runU (a := v0) (av := [.int v1]) (x := ⟨"WayGuesses$Guesser", "slotOf", "(I)I"⟩) (owner := "WayGuesses$Guesser") (E := RX2) C X (M_X2_slotOf l bs D ct n z4 v0 v1 _ (jq_t hci2 hz5)) mf_X2_slotOf gw_264 gw_263 gw_258 gw_260 (Or.inr gw_259) rfl ⟨by decide, by decide⟩ rc_X2 hci2 (by decide) rfl hl.1 rfl (Nat.le_of_ble_eq_true rfl) ⟨by decide, by decide⟩ ⟨by decide, by decide⟩ dX3_meetBranch_28
    have hz5 := jq_n hci2 hz5
    by_cases hci4 : jq_ci z4 v0 = 4
    · exact jq_runU (a := v0) (av := [.int v1]) (x := ⟨"WayGuesses$Guesser", "slotOf", "(I)I"⟩) (owner := "WayGuesses$Guesser") (E := RX5) C X (M_X5_slotOf l bs D ct n z4 v0 v1 _ (jq_t hci4 hz5)) mf_X5_slotOf gw_267 gw_266 gw_258 gw_260 (Or.inr gw_259) rfl ⟨by decide, by decide⟩ rc_X5 hci4 (by decide) rfl hl.1 rfl (Nat.le_of_ble_eq_true rfl) ⟨by decide, by decide⟩ ⟨by decide, by decide⟩ dX3_meetBranch_28
    have hz5 := jq_n hci4 hz5
    by_cases hci7 : jq_ci z4 v0 = 7
    · exact jq_runU (a := v0) (av := [.int v1]) (x := ⟨"WayGuesses$Guesser", "slotOf", "(I)I"⟩) (owner := "WayGuesses$Guesser") (E := RX8) C X (M_X8_slotOf l bs D ct n z4 v0 v1 _ (jq_t hci7 hz5)) mf_X8_slotOf gw_270 gw_269 gw_258 gw_260 (Or.inr gw_259) rfl ⟨by decide, by decide⟩ rc_X8 hci7 (by decide) rfl hl.1 rfl (Nat.le_of_ble_eq_true rfl) ⟨by decide, by decide⟩ ⟨by decide, by decide⟩ dX3_meetBranch_28
    have hz5 := jq_n hci7 hz5
    by_cases hci8 : jq_ci z4 v0 = 8
    · exact jq_runU (a := v0) (av := [.int v1]) (x := ⟨"WayGuesses$Guesser", "slotOf", "(I)I"⟩) (owner := "WayGuesses$Guesser") (E := RX9) C X (M_X9_slotOf l bs D ct n z4 v0 v1 _ (jq_t hci8 hz5)) mf_X9_slotOf gw_247 gw_272 gw_258 gw_260 (Or.inr gw_259) rfl ⟨by decide, by decide⟩ rc_X9 hci8 (by decide) rfl hl.1 rfl (Nat.le_of_ble_eq_true rfl) ⟨by decide, by decide⟩ ⟨by decide, by decide⟩ dX3_meetBranch_28
    have hz5 := jq_n hci8 hz5
    cases hz5
  refine jq_gi (hrun) X (fun H locs X => ?_)
  obtain ⟨x6, hx6, he⟩ := jq_ln he
  refine jq_top hx6 ?_
  refine lv_istore_n (lv' := [(3, .int x6), (0, .ref v0), (1, .int v1), (2, .int v2)]) C.1 C.2.1 dX3_meetBranch_31 rfl hl (by decide) rfl (fun ls hl => ?_)
  refine lv_iload_n C.1 C.2.1 dX3_meetBranch_32 rfl (lv_at hl 0 rfl) ?_
  refine lv_iconst (v := (-1)) C.1 C.2.1 dX3_meetBranch_33 (by decide) ?_
  refine lv_icmp_eq (tgt := 46) C.1 C.2.1 dX3_meetBranch_34 (by decide) (fun hc7 => ?_) (fun hc7 => ?_)
  · have he := jq_t hc7 he
    exact TX3_meetBranch_b46 (n := n) C hr hlk X (lv_sub hl [1, 2, 3] rfl) he
  · have he := jq_n hc7 he
    refine lv_aload_n C.1 C.2.1 dX3_meetBranch_37 rfl (lv_at hl 1 rfl) ?_
    refine jq_rgR C X fs_X3_48 he dX3_meetBranch_38 (fun q8 he => ?_)
    refine lv_iload_n C.1 C.2.1 dX3_meetBranch_41 rfl (lv_at hl 0 rfl) ?_
    refine lv_iload_n C.1 C.2.1 dX3_meetBranch_42 rfl (lv_at hl 2 rfl) ?_
    obtain ⟨z9, hz9, he⟩ := jq_b he
    obtain ⟨hz9c, hz9⟩ := jq_ite hz9
    refine jq_gv (jq_runV (a := q8) (av := [.int x6, .int v1]) C X (M_X4_useSlot l bs D ct n z5.2 q8 x6 v1 _ hz9) mf_X4_useSlot gw_275 gs_10 (Or.inr ⟨_, gw_273⟩) rc_X4 hz9c (by decide) rfl hl.1 rfl (Nat.le_of_ble_eq_true rfl) ⟨by decide, by decide⟩ ⟨by decide, by decide⟩ dX3_meetBranch_43) X (fun H locs X => ?_)
    exact TX3_meetBranch_b46 (n := n) C hr hlk X (lv_sub hl [1, 2, 3] rfl) he
set_option maxRecDepth 100000 in
set_option maxHeartbeats 4000000 in
theorem M_X3_meetBranch (l : Launch) (bs : Nat) (D : va_G) (ct : Nat → ClassId) (n : Nat) (h : jq_H) (a : Nat) (p0 : Int32) (p1 : Int32) (res : jq_H) (he : X3_meetBranch n h a p0 p1 = some res) : jq_M l yX3_meetBranch cX3_meetBranch 4 none rm_X3_meetBranch (jq_P [.ref a, .int p0, .int p1] bs D ct h) (jq_Qv bs D ct res) bs := by
  refine jq_start2 (by decide +kernel) (Nat.le_of_ble_eq_true rfl) ?_
  intro p e s m args below meth c ls H locs C hr hlk hin hl X
  have C : jq_C p s m args c cX3_meetBranch 4 RX3 D ct bs := C
  have hin : meth.name = "meetBranch" := hin
  have hl : lv_has ls 4 [(0, .ref a), (1, .int p0), (2, .int p1)] := hl
  unfold X3_meetBranch at he
  refine lv_aload_n C.1 C.2.1 dX3_meetBranch_0 rfl (lv_at hl 0 rfl) ?_
  refine lv_iload_n C.1 C.2.1 dX3_meetBranch_1 rfl (lv_at hl 1 rfl) ?_
  obtain ⟨z10, hz10, he⟩ := jq_b he
  have hrun : va_Run p l e rm_X3_meetBranch s m args below meth c H locs 0 0 0 0 (F0 m 2 ls [.int p0, .ref a]) [] (jq_Qv bs D ct z10 (Value.ref a :: [.int p0]).toArray) (fun q => bs ≤ q) := by
    unfold V_say at hz10
    by_cases hci0 : jq_ci h a = 0
    · exact jq_runU (a := a) (av := [.int p0]) (x := ⟨"WayGuesses$Guesser", "say", "(I)V"⟩) (owner := "WayGuesses$Guesser") (E := RX0) C X (M_X3_say l bs D ct n h a p0 _ (jq_t hci0 hz10)) mf_X3_say gw_188 gw_190 gw_187 gw_189 (Or.inl ⟨_, _, _, gw_188, gw_196⟩) rfl ⟨by decide, by decide⟩ rc_X0 hci0 (by decide) rfl hl.1 rfl (Nat.le_of_ble_eq_true rfl) ⟨by decide, by decide⟩ ⟨by decide, by decide⟩ dX3_meetBranch_2
    have hz10 := jq_n hci0 hz10
    by_cases hci1 : jq_ci h a = 1
    · exact jq_runU (a := a) (av := [.int p0]) (x := ⟨"WayGuesses$Guesser", "say", "(I)V"⟩) (owner := "WayGuesses$Guesser") (E := RX1) C X (M_X3_say l bs D ct n h a p0 _ (jq_t hci1 hz10)) mf_X3_say gw_188 gw_191 gw_187 gw_189 (Or.inl ⟨_, _, _, gw_188, gw_196⟩) rfl ⟨by decide, by decide⟩ rc_X1 hci1 (by decide) rfl hl.1 rfl (Nat.le_of_ble_eq_true rfl) ⟨by decide, by decide⟩ ⟨by decide, by decide⟩ dX3_meetBranch_2
    have hz10 := jq_n hci1 hz10
    by_cases hci2 : jq_ci h a = 2
    · exact jq_runU (a := a) (av := [.int p0]) (x := ⟨"WayGuesses$Guesser", "say", "(I)V"⟩) (owner := "WayGuesses$Guesser") (E := RX2) C X (M_X3_say l bs D ct n h a p0 _ (jq_t hci2 hz10)) mf_X3_say gw_188 gw_192 gw_187 gw_189 (Or.inl ⟨_, _, _, gw_188, gw_196⟩) rfl ⟨by decide, by decide⟩ rc_X2 hci2 (by decide) rfl hl.1 rfl (Nat.le_of_ble_eq_true rfl) ⟨by decide, by decide⟩ ⟨by decide, by decide⟩ dX3_meetBranch_2
    have hz10 := jq_n hci2 hz10
    by_cases hci4 : jq_ci h a = 4
    · exact jq_runU (a := a) (av := [.int p0]) (x := ⟨"WayGuesses$Guesser", "say", "(I)V"⟩) (owner := "WayGuesses$Guesser") (E := RX5) C X (M_X3_say l bs D ct n h a p0 _ (jq_t hci4 hz10)) mf_X3_say gw_188 gw_193 gw_187 gw_189 (Or.inl ⟨_, _, _, gw_188, gw_196⟩) rfl ⟨by decide, by decide⟩ rc_X5 hci4 (by decide) rfl hl.1 rfl (Nat.le_of_ble_eq_true rfl) ⟨by decide, by decide⟩ ⟨by decide, by decide⟩ dX3_meetBranch_2
    have hz10 := jq_n hci4 hz10
    by_cases hci7 : jq_ci h a = 7
    · exact jq_runU (a := a) (av := [.int p0]) (x := ⟨"WayGuesses$Guesser", "say", "(I)V"⟩) (owner := "WayGuesses$Guesser") (E := RX8) C X (M_X3_say l bs D ct n h a p0 _ (jq_t hci7 hz10)) mf_X3_say gw_188 gw_194 gw_187 gw_189 (Or.inl ⟨_, _, _, gw_188, gw_196⟩) rfl ⟨by decide, by decide⟩ rc_X8 hci7 (by decide) rfl hl.1 rfl (Nat.le_of_ble_eq_true rfl) ⟨by decide, by decide⟩ ⟨by decide, by decide⟩ dX3_meetBranch_2
    have hz10 := jq_n hci7 hz10
    by_cases hci8 : jq_ci h a = 8
    · exact jq_runU (a := a) (av := [.int p0]) (x := ⟨"WayGuesses$Guesser", "say", "(I)V"⟩) (owner := "WayGuesses$Guesser") (E := RX9) C X (M_X3_say l bs D ct n h a p0 _ (jq_t hci8 hz10)) mf_X3_say gw_188 gw_195 gw_187 gw_189 (Or.inl ⟨_, _, _, gw_188, gw_196⟩) rfl ⟨by decide, by decide⟩ rc_X9 hci8 (by decide) rfl hl.1 rfl (Nat.le_of_ble_eq_true rfl) ⟨by decide, by decide⟩ ⟨by decide, by decide⟩ dX3_meetBranch_2
    have hz10 := jq_n hci8 hz10
    cases hz10
  refine jq_gv (hrun) X (fun H locs X => ?_)
  refine lv_aload_n C.1 C.2.1 dX3_meetBranch_5 rfl (lv_at hl 0 rfl) ?_
  refine jq_rgR C X fs_X3_48 he dX3_meetBranch_6 (fun q11 he => ?_)
  refine lv_iload_n C.1 C.2.1 dX3_meetBranch_9 rfl (lv_at hl 1 rfl) ?_
  refine lv_aload_n C.1 C.2.1 dX3_meetBranch_10 rfl (lv_at hl 0 rfl) ?_
  refine jq_rgI C X fs_X3_62 he dX3_meetBranch_11 (fun x12 he => ?_)
  refine lv_iload_n C.1 C.2.1 dX3_meetBranch_14 rfl (lv_at hl 2 rfl) ?_
  refine lv_icmp_eq (tgt := 22) C.1 C.2.1 dX3_meetBranch_15 (by decide) (fun hc13 => ?_) (fun hc13 => ?_)
  · have he := jq_t hc13 he
    refine lv_iconst (v := 0) C.1 C.2.1 dX3_meetBranch_22 (by decide) ?_
    exact TX3_meetBranch_b23 (n := n) C hr hlk X (lv_sub hl [0, 1, 2] rfl) he
  · have he := jq_n hc13 he
    refine lv_iconst (v := 1) C.1 C.2.1 dX3_meetBranch_18 (by decide) ?_
    refine lv_goto (tgt := 23) C.1 C.2.1 dX3_meetBranch_19 (by decide) ?_
    exact TX3_meetBranch_b23 (n := n) C hr hlk X (lv_sub hl [0, 1, 2] rfl) he
set_option maxRecDepth 100000 in
set_option maxHeartbeats 4000000 in
theorem TX10_again_b123 {p : Program} {l : Launch} {e : Env} {s : State} {m : MethodId} {args : Array Value} {below : List Frame} {meth : Method} {c : Code} {D : va_G} {ct : Nat → ClassId} {bs : Nat} {res : Int32 × jq_H} {n : Nat} (C : jq_C p s m args c cX10_again 7 RX10 D ct bs) (hr : meth.sig.returnType = (some .int)) (hlk : meth.locks = false) {v0 : Nat} {v1 : Int32} {h : jq_H} {H : Heap} {locs : List Loc} {ls : Array Slot} (X : jq_X bs D ct s.heap h H locs) (hl : lv_has ls 7 [(0, .ref v0), (1, .int v1)]) (he : X10_again_b123 n v0 v1 h = some res) :
    W p l e rm_X10_again s m args below meth c H locs 0 0 (MQ below (jq_Qi bs D ct res) args s rm_X10_again.cells rm_X10_again.slots (fun q => bs ≤ q)) (F0 m 123 ls []) := by
  unfold X10_again_b123 at he
  refine lv_aload_n C.1 C.2.1 dX10_again_123 rfl (lv_at hl 0 rfl) ?_
  refine jq_rgR C X fs_X10_25 he dX10_again_124 (fun q1 he => ?_)
  refine lv_iload_n C.1 C.2.1 dX10_again_127 rfl (lv_at hl 1 rfl) ?_
  refine jq_rldN C X (Or.inl ⟨rfl, rfl⟩) he dX10_again_128 (fun q2 he => ?_)
  refine jq_rgR C X fs_X10_112 he dX10_again_129 (fun q3 he => ?_)
  refine jq_rgI C X fs_X10_116 he dX10_again_132 (fun x4 he => ?_)
  exact jq_iret C X hr hlk he (by decide) (by decide) dX10_again_135
set_option maxRecDepth 100000 in
set_option maxHeartbeats 4000000 in
theorem TX10_again_b117 {p : Program} {l : Launch} {e : Env} {s : State} {m : MethodId} {args : Array Value} {below : List Frame} {meth : Method} {c : Code} {D : va_G} {ct : Nat → ClassId} {bs : Nat} {res : Int32 × jq_H} {n : Nat} {KB : Nat → Int32 → Int32 → Int32 → jq_H → Option (Int32 × jq_H)} {K123 : Nat → Int32 → jq_H → Option (Int32 × jq_H)} (C : jq_C p s m args c cX10_again 7 RX10 D ct bs) (hr : meth.sig.returnType = (some .int)) (hlk : meth.locks = false) (hKB : ∀ (u0 : Nat) (u1 : Int32) (u2 : Int32) (u3 : Int32) (h1 : jq_H) (H1 : Heap) (locs1 : List Loc) (ls1 : Array Slot), KB u0 u1 u2 u3 h1 = some res → jq_X bs D ct s.heap h1 H1 locs1 → lv_has ls1 7 [(0, .ref u0), (1, .int u1), (2, .int u2), (3, .int u3)] → W p l e rm_X10_again s m args below meth c H1 locs1 0 0 (MQ below (jq_Qi bs D ct res) args s rm_X10_again.cells rm_X10_again.slots (fun q => bs ≤ q)) (F0 m 48 ls1 [])) (hK123 : ∀ (u0 : Nat) (u1 : Int32) (h1 : jq_H) (H1 : Heap) (locs1 : List Loc) (ls1 : Array Slot), K123 u0 u1 h1 = some res → jq_X bs D ct s.heap h1 H1 locs1 → lv_has ls1 7 [(0, .ref u0), (1, .int u1)] → W p l e rm_X10_again s m args below meth c H1 locs1 0 0 (MQ below (jq_Qi bs D ct res) args s rm_X10_again.cells rm_X10_again.slots (fun q => bs ≤ q)) (F0 m 123 ls1 [])) {v0 : Nat} {v1 : Int32} {v2 : Int32} {v3 : Int32} {h : jq_H} {H : Heap} {locs : List Loc} {ls : Array Slot} (X : jq_X bs D ct s.heap h H locs) (hl : lv_has ls 7 [(0, .ref v0), (1, .int v1), (2, .int v2), (3, .int v3)]) (he : X10_again_b117 n KB K123 v0 v1 v2 v3 h = some res) :
    W p l e rm_X10_again s m args below meth c H locs 0 0 (MQ below (jq_Qi bs D ct res) args s rm_X10_again.cells rm_X10_again.slots (fun q => bs ≤ q)) (F0 m 117 ls []) := by
  unfold X10_again_b117 at he
  obtain ⟨x5, hx5, he⟩ := jq_ln he
  refine lv_iinc (v := x5) (lv' := [(3, .int x5), (0, .ref v0), (1, .int v1), (2, .int v2)]) C.1 C.2.1 dX10_again_117 hl (k := 3) rfl (by rw [hx5]; rfl) (by decide) rfl (fun ls hl => ?_)
  refine lv_goto (tgt := 48) C.1 C.2.1 dX10_again_120 (by decide) ?_
  exact hKB _ _ _ _ _ _ _ _ he X (lv_sub hl [1, 2, 3, 0] rfl)
set_option maxRecDepth 100000 in
set_option maxHeartbeats 4000000 in
theorem TX10_again_b111 {p : Program} {l : Launch} {e : Env} {s : State} {m : MethodId} {args : Array Value} {below : List Frame} {meth : Method} {c : Code} {D : va_G} {ct : Nat → ClassId} {bs : Nat} {res : Int32 × jq_H} {n : Nat} {KB : Nat → Int32 → Int32 → Int32 → Int32 → Int32 → Int32 → jq_H → Option (Int32 × jq_H)} {K117 : Nat → Int32 → Int32 → Int32 → jq_H → Option (Int32 × jq_H)} (C : jq_C p s m args c cX10_again 7 RX10 D ct bs) (hr : meth.sig.returnType = (some .int)) (hlk : meth.locks = false) (hKB : ∀ (u0 : Nat) (u1 : Int32) (u2 : Int32) (u3 : Int32) (u4 : Int32) (u5 : Int32) (u6 : Int32) (h1 : jq_H) (H1 : Heap) (locs1 : List Loc) (ls1 : Array Slot), KB u0 u1 u2 u3 u4 u5 u6 h1 = some res → jq_X bs D ct s.heap h1 H1 locs1 → lv_has ls1 7 [(0, .ref u0), (1, .int u1), (2, .int u2), (3, .int u3), (4, .int u4), (5, .int u5), (6, .int u6)] → W p l e rm_X10_again s m args below meth c H1 locs1 0 0 (MQ below (jq_Qi bs D ct res) args s rm_X10_again.cells rm_X10_again.slots (fun q => bs ≤ q)) (F0 m 82 ls1 [])) (hK117 : ∀ (u0 : Nat) (u1 : Int32) (u2 : Int32) (u3 : Int32) (h1 : jq_H) (H1 : Heap) (locs1 : List Loc) (ls1 : Array Slot), K117 u0 u1 u2 u3 h1 = some res → jq_X bs D ct s.heap h1 H1 locs1 → lv_has ls1 7 [(0, .ref u0), (1, .int u1), (2, .int u2), (3, .int u3)] → W p l e rm_X10_again s m args below meth c H1 locs1 0 0 (MQ below (jq_Qi bs D ct res) args s rm_X10_again.cells rm_X10_again.slots (fun q => bs ≤ q)) (F0 m 117 ls1 [])) {v0 : Nat} {v1 : Int32} {v2 : Int32} {v3 : Int32} {v4 : Int32} {v5 : Int32} {v6 : Int32} {h : jq_H} {H : Heap} {locs : List Loc} {ls : Array Slot} (X : jq_X bs D ct s.heap h H locs) (hl : lv_has ls 7 [(0, .ref v0), (1, .int v1), (2, .int v2), (3, .int v3), (4, .int v4), (5, .int v5), (6, .int v6)]) (he : X10_again_b111 n KB K117 v0 v1 v2 v3 v4 v5 v6 h = some res) :
    W p l e rm_X10_again s m args below meth c H locs 0 0 (MQ below (jq_Qi bs D ct res) args s rm_X10_again.cells rm_X10_again.slots (fun q => bs ≤ q)) (F0 m 111 ls []) := by
  unfold X10_again_b111 at he
  obtain ⟨x6, hx6, he⟩ := jq_ln he
  refine lv_iinc (v := x6) (lv' := [(6, .int x6), (0, .ref v0), (1, .int v1), (2, .int v2), (3, .int v3), (4, .int v4), (5, .int v5)]) C.1 C.2.1 dX10_again_111 hl (k := 6) rfl (by rw [hx6]; rfl) (by decide) rfl (fun ls hl => ?_)
  refine lv_goto (tgt := 82) C.1 C.2.1 dX10_again_114 (by decide) ?_
  exact hKB _ _ _ _ _ _ _ _ _ _ _ he X (lv_sub hl [1, 2, 3, 4, 5, 6, 0] rfl)
set_option maxRecDepth 100000 in
set_option maxHeartbeats 4000000 in
theorem TX10_again_b82 {p : Program} {l : Launch} {e : Env} {s : State} {m : MethodId} {args : Array Value} {below : List Frame} {meth : Method} {c : Code} {D : va_G} {ct : Nat → ClassId} {bs : Nat} {res : Int32 × jq_H} {n : Nat} {KB : Nat → Int32 → Int32 → Int32 → Int32 → Int32 → Int32 → jq_H → Option (Int32 × jq_H)} {K117 : Nat → Int32 → Int32 → Int32 → jq_H → Option (Int32 × jq_H)} (C : jq_C p s m args c cX10_again 7 RX10 D ct bs) (hr : meth.sig.returnType = (some .int)) (hlk : meth.locks = false) (hKB : ∀ (u0 : Nat) (u1 : Int32) (u2 : Int32) (u3 : Int32) (u4 : Int32) (u5 : Int32) (u6 : Int32) (h1 : jq_H) (H1 : Heap) (locs1 : List Loc) (ls1 : Array Slot), KB u0 u1 u2 u3 u4 u5 u6 h1 = some res → jq_X bs D ct s.heap h1 H1 locs1 → lv_has ls1 7 [(0, .ref u0), (1, .int u1), (2, .int u2), (3, .int u3), (4, .int u4), (5, .int u5), (6, .int u6)] → W p l e rm_X10_again s m args below meth c H1 locs1 0 0 (MQ below (jq_Qi bs D ct res) args s rm_X10_again.cells rm_X10_again.slots (fun q => bs ≤ q)) (F0 m 82 ls1 [])) (hK117 : ∀ (u0 : Nat) (u1 : Int32) (u2 : Int32) (u3 : Int32) (h1 : jq_H) (H1 : Heap) (locs1 : List Loc) (ls1 : Array Slot), K117 u0 u1 u2 u3 h1 = some res → jq_X bs D ct s.heap h1 H1 locs1 → lv_has ls1 7 [(0, .ref u0), (1, .int u1), (2, .int u2), (3, .int u3)] → W p l e rm_X10_again s m args below meth c H1 locs1 0 0 (MQ below (jq_Qi bs D ct res) args s rm_X10_again.cells rm_X10_again.slots (fun q => bs ≤ q)) (F0 m 117 ls1 [])) {v0 : Nat} {v1 : Int32} {v2 : Int32} {v3 : Int32} {v4 : Int32} {v5 : Int32} {v6 : Int32} {h : jq_H} {H : Heap} {locs : List Loc} {ls : Array Slot} (X : jq_X bs D ct s.heap h H locs) (hl : lv_has ls 7 [(0, .ref v0), (1, .int v1), (2, .int v2), (3, .int v3), (4, .int v4), (5, .int v5), (6, .int v6)]) (he : X10_again_b82 n KB K117 v0 v1 v2 v3 v4 v5 v6 h = some res) :
    W p l e rm_X10_again s m args below meth c H locs 0 0 (MQ below (jq_Qi bs D ct res) args s rm_X10_again.cells rm_X10_again.slots (fun q => bs ≤ q)) (F0 m 82 ls []) := by
  unfold X10_again_b82 at he
  refine lv_iload C.1 C.2.1 dX10_again_82 (lv_at hl 6 rfl) ?_
  refine lv_iload_n C.1 C.2.1 dX10_again_84 rfl (lv_at hl 1 rfl) ?_
  refine lv_icmp_gt (tgt := 117) C.1 C.2.1 dX10_again_85 (by decide) (fun hc7 => ?_) (fun hc7 => ?_)
  · have he := jq_t hc7 he
    exact hK117 _ _ _ _ _ _ _ _ he X (lv_sub hl [0, 1, 2, 3] rfl)
  · have he := jq_n hc7 he
    refine lv_iload_n C.1 C.2.1 dX10_again_88 rfl (lv_at hl 2 rfl) ?_
    refine lv_iload C.1 C.2.1 dX10_again_89 (lv_at hl 6 rfl) ?_
    obtain ⟨z8, hz8, he⟩ := jq_b he
    refine jq_gi (jq_runS (av := [.int v2, .int v6]) C X (M_X10_isIn l bs D ct n h v2 v6 _ hz8) mf_X10_isIn gw_683 (Or.inl gw_682) rfl hl.1 rfl (Nat.le_of_ble_eq_true rfl) ⟨by decide, by decide⟩ ⟨by decide, by decide⟩ dX10_again_91) X (fun H locs X => ?_)
    refine lv_if_eq (tgt := 111) C.1 C.2.1 dX10_again_94 (by decide) (fun hc9 => ?_) (fun hc9 => ?_)
    · have he := jq_t hc9 he
      exact TX10_again_b111 (n := n) C hr hlk hKB hK117 X (lv_sub hl [0, 1, 2, 3, 4, 5, 6] rfl) he
    · have he := jq_n hc9 he
      refine lv_aload_n C.1 C.2.1 dX10_again_97 rfl (lv_at hl 0 rfl) ?_
      refine jq_rgR C X fs_X10_25 he dX10_again_98 (fun q10 he => ?_)
      refine lv_iload C.1 C.2.1 dX10_again_101 (lv_at hl 6 rfl) ?_
      refine jq_rldN C X (Or.inl ⟨rfl, rfl⟩) he dX10_again_103 (fun q11 he => ?_)
      refine lv_iload C.1 C.2.1 dX10_again_104 (lv_at hl 4 rfl) ?_
      refine lv_iload C.1 C.2.1 dX10_again_106 (lv_at hl 5 rfl) ?_
      obtain ⟨z12, hz12, he⟩ := jq_b he
      have hrun : va_Run p l e rm_X10_again s m args below meth c H locs 0 0 0 0 (F0 m 108 ls [.int v5, .int v4, .ref q11]) [] (jq_Qv bs D ct z12 (Value.ref q11 :: [.int v4, .int v5]).toArray) (fun q => bs ≤ q) := by
        unfold V_meetBranch at hz12
        by_cases hci0 : jq_ci z8.2 q11 = 0
        · exact jq_runU (a := q11) (av := [.int v4, .int v5]) (x := ⟨"WayGuesses$Guesser", "meetBranch", "(II)V"⟩) (owner := "WayGuesses$Guesser") (E := RX0) C X (M_X3_meetBranch l bs D ct n z8.2 q11 v4 v5 _ (jq_t hci0 hz12)) mf_X3_meetBranch gw_178 gw_180 gw_177 gw_179 (Or.inl ⟨_, _, _, gw_178, gw_186⟩) rfl ⟨by decide, by decide⟩ rc_X0 hci0 (by decide) rfl hl.1 rfl (Nat.le_of_ble_eq_true rfl) ⟨by decide, by decide⟩ ⟨by decide, by decide⟩ dX10_again_108
        have hz12 := jq_n hci0 hz12
        by_cases hci1 : jq_ci z8.2 q11 = 1
        · exact jq_runU (a := q11) (av := [.int v4, .int v5]) (x := ⟨"WayGuesses$Guesser", "meetBranch", "(II)V"⟩) (owner := "WayGuesses$Guesser") (E := RX1) C X (M_X3_meetBranch l bs D ct n z8.2 q11 v4 v5 _ (jq_t hci1 hz12)) mf_X3_meetBranch gw_178 gw_181 gw_177 gw_179 (Or.inl ⟨_, _, _, gw_178, gw_186⟩) rfl ⟨by decide, by decide⟩ rc_X1 hci1 (by decide) rfl hl.1 rfl (Nat.le_of_ble_eq_true rfl) ⟨by decide, by decide⟩ ⟨by decide, by decide⟩ dX10_again_108
        have hz12 := jq_n hci1 hz12
        by_cases hci2 : jq_ci z8.2 q11 = 2
        · exact jq_runU (a := q11) (av := [.int v4, .int v5]) (x := ⟨"WayGuesses$Guesser", "meetBranch", "(II)V"⟩) (owner := "WayGuesses$Guesser") (E := RX2) C X (M_X3_meetBranch l bs D ct n z8.2 q11 v4 v5 _ (jq_t hci2 hz12)) mf_X3_meetBranch gw_178 gw_182 gw_177 gw_179 (Or.inl ⟨_, _, _, gw_178, gw_186⟩) rfl ⟨by decide, by decide⟩ rc_X2 hci2 (by decide) rfl hl.1 rfl (Nat.le_of_ble_eq_true rfl) ⟨by decide, by decide⟩ ⟨by decide, by decide⟩ dX10_again_108
        have hz12 := jq_n hci2 hz12
        by_cases hci4 : jq_ci z8.2 q11 = 4
        · exact jq_runU (a := q11) (av := [.int v4, .int v5]) (x := ⟨"WayGuesses$Guesser", "meetBranch", "(II)V"⟩) (owner := "WayGuesses$Guesser") (E := RX5) C X (M_X3_meetBranch l bs D ct n z8.2 q11 v4 v5 _ (jq_t hci4 hz12)) mf_X3_meetBranch gw_178 gw_183 gw_177 gw_179 (Or.inl ⟨_, _, _, gw_178, gw_186⟩) rfl ⟨by decide, by decide⟩ rc_X5 hci4 (by decide) rfl hl.1 rfl (Nat.le_of_ble_eq_true rfl) ⟨by decide, by decide⟩ ⟨by decide, by decide⟩ dX10_again_108
        have hz12 := jq_n hci4 hz12
        by_cases hci7 : jq_ci z8.2 q11 = 7
        · exact jq_runU (a := q11) (av := [.int v4, .int v5]) (x := ⟨"WayGuesses$Guesser", "meetBranch", "(II)V"⟩) (owner := "WayGuesses$Guesser") (E := RX8) C X (M_X3_meetBranch l bs D ct n z8.2 q11 v4 v5 _ (jq_t hci7 hz12)) mf_X3_meetBranch gw_178 gw_184 gw_177 gw_179 (Or.inl ⟨_, _, _, gw_178, gw_186⟩) rfl ⟨by decide, by decide⟩ rc_X8 hci7 (by decide) rfl hl.1 rfl (Nat.le_of_ble_eq_true rfl) ⟨by decide, by decide⟩ ⟨by decide, by decide⟩ dX10_again_108
        have hz12 := jq_n hci7 hz12
        by_cases hci8 : jq_ci z8.2 q11 = 8
        · exact jq_runU (a := q11) (av := [.int v4, .int v5]) (x := ⟨"WayGuesses$Guesser", "meetBranch", "(II)V"⟩) (owner := "WayGuesses$Guesser") (E := RX9) C X (M_X3_meetBranch l bs D ct n z8.2 q11 v4 v5 _ (jq_t hci8 hz12)) mf_X3_meetBranch gw_178 gw_185 gw_177 gw_179 (Or.inl ⟨_, _, _, gw_178, gw_186⟩) rfl ⟨by decide, by decide⟩ rc_X9 hci8 (by decide) rfl hl.1 rfl (Nat.le_of_ble_eq_true rfl) ⟨by decide, by decide⟩ ⟨by decide, by decide⟩ dX10_again_108
        have hz12 := jq_n hci8 hz12
        cases hz12
      refine jq_gv (hrun) X (fun H locs X => ?_)
      exact TX10_again_b111 (n := n) C hr hlk hKB hK117 X (lv_sub hl [0, 1, 2, 3, 4, 5, 6] rfl) he
set_option maxRecDepth 100000 in
set_option maxHeartbeats 4000000 in
theorem TX10_again_l82 {p : Program} {l : Launch} {e : Env} {s : State} {m : MethodId} {args : Array Value} {below : List Frame} {meth : Method} {c : Code} {D : va_G} {ct : Nat → ClassId} {bs : Nat} {res : Int32 × jq_H} {n : Nat} {K117 : Nat → Int32 → Int32 → Int32 → jq_H → Option (Int32 × jq_H)} (C : jq_C p s m args c cX10_again 7 RX10 D ct bs) (hr : meth.sig.returnType = (some .int)) (hlk : meth.locks = false) (hK117 : ∀ (u0 : Nat) (u1 : Int32) (u2 : Int32) (u3 : Int32) (h1 : jq_H) (H1 : Heap) (locs1 : List Loc) (ls1 : Array Slot), K117 u0 u1 u2 u3 h1 = some res → jq_X bs D ct s.heap h1 H1 locs1 → lv_has ls1 7 [(0, .ref u0), (1, .int u1), (2, .int u2), (3, .int u3)] → W p l e rm_X10_again s m args below meth c H1 locs1 0 0 (MQ below (jq_Qi bs D ct res) args s rm_X10_again.cells rm_X10_again.slots (fun q => bs ≤ q)) (F0 m 117 ls1 [])) :
    ∀ (k : Nat) (v0 : Nat) (v1 : Int32) (v2 : Int32) (v3 : Int32) (v4 : Int32) (v5 : Int32) (v6 : Int32) (h : jq_H) (H : Heap) (locs : List Loc) (ls : Array Slot), X10_again_l82 n K117 k v0 v1 v2 v3 v4 v5 v6 h = some res → jq_X bs D ct s.heap h H locs → lv_has ls 7 [(0, .ref v0), (1, .int v1), (2, .int v2), (3, .int v3), (4, .int v4), (5, .int v5), (6, .int v6)] → W p l e rm_X10_again s m args below meth c H locs 0 0 (MQ below (jq_Qi bs D ct res) args s rm_X10_again.cells rm_X10_again.slots (fun q => bs ≤ q)) (F0 m 82 ls []) := by
  intro k
  induction k with
  | zero => intro v0 v1 v2 v3 v4 v5 v6 h H locs ls he; cases (show (none : Option (Int32 × jq_H)) = some res from he)
  | succ k ih =>
    intro v0 v1 v2 v3 v4 v5 v6 h H locs ls he X hl
    exact TX10_again_b82 (n := n) C hr hlk (KB := X10_again_l82 n K117 k) ih hK117 X hl he
set_option maxRecDepth 100000 in
set_option maxHeartbeats 4000000 in
theorem TX10_again_b48 {p : Program} {l : Launch} {e : Env} {s : State} {m : MethodId} {args : Array Value} {below : List Frame} {meth : Method} {c : Code} {D : va_G} {ct : Nat → ClassId} {bs : Nat} {res : Int32 × jq_H} {n : Nat} {KB : Nat → Int32 → Int32 → Int32 → jq_H → Option (Int32 × jq_H)} {K123 : Nat → Int32 → jq_H → Option (Int32 × jq_H)} (C : jq_C p s m args c cX10_again 7 RX10 D ct bs) (hr : meth.sig.returnType = (some .int)) (hlk : meth.locks = false) (hKB : ∀ (u0 : Nat) (u1 : Int32) (u2 : Int32) (u3 : Int32) (h1 : jq_H) (H1 : Heap) (locs1 : List Loc) (ls1 : Array Slot), KB u0 u1 u2 u3 h1 = some res → jq_X bs D ct s.heap h1 H1 locs1 → lv_has ls1 7 [(0, .ref u0), (1, .int u1), (2, .int u2), (3, .int u3)] → W p l e rm_X10_again s m args below meth c H1 locs1 0 0 (MQ below (jq_Qi bs D ct res) args s rm_X10_again.cells rm_X10_again.slots (fun q => bs ≤ q)) (F0 m 48 ls1 [])) (hK123 : ∀ (u0 : Nat) (u1 : Int32) (h1 : jq_H) (H1 : Heap) (locs1 : List Loc) (ls1 : Array Slot), K123 u0 u1 h1 = some res → jq_X bs D ct s.heap h1 H1 locs1 → lv_has ls1 7 [(0, .ref u0), (1, .int u1)] → W p l e rm_X10_again s m args below meth c H1 locs1 0 0 (MQ below (jq_Qi bs D ct res) args s rm_X10_again.cells rm_X10_again.slots (fun q => bs ≤ q)) (F0 m 123 ls1 [])) {v0 : Nat} {v1 : Int32} {v2 : Int32} {v3 : Int32} {h : jq_H} {H : Heap} {locs : List Loc} {ls : Array Slot} (X : jq_X bs D ct s.heap h H locs) (hl : lv_has ls 7 [(0, .ref v0), (1, .int v1), (2, .int v2), (3, .int v3)]) (he : X10_again_b48 n KB K123 v0 v1 v2 v3 h = some res) :
    W p l e rm_X10_again s m args below meth c H locs 0 0 (MQ below (jq_Qi bs D ct res) args s rm_X10_again.cells rm_X10_again.slots (fun q => bs ≤ q)) (F0 m 48 ls []) := by
  unfold X10_again_b48 at he
  refine lv_iload_n C.1 C.2.1 dX10_again_48 rfl (lv_at hl 3 rfl) ?_
  refine lv_aload_n C.1 C.2.1 dX10_again_49 rfl (lv_at hl 0 rfl) ?_
  refine jq_rgR C X fs_X10_19 he dX10_again_50 (fun q13 he => ?_)
  refine jq_rgI C X fs_X10_75 he dX10_again_53 (fun x14 he => ?_)
  refine lv_icmp_ge (tgt := 123) C.1 C.2.1 dX10_again_56 (by decide) (fun hc15 => ?_) (fun hc15 => ?_)
  · have he := jq_t hc15 he
    exact hK123 _ _ _ _ _ _ he X (lv_sub hl [0, 1] rfl)
  · have he := jq_n hc15 he
    refine lv_aload_n C.1 C.2.1 dX10_again_59 rfl (lv_at hl 0 rfl) ?_
    refine jq_rgR C X fs_X10_19 he dX10_again_60 (fun q16 he => ?_)
    refine lv_iload_n C.1 C.2.1 dX10_again_63 rfl (lv_at hl 3 rfl) ?_
    obtain ⟨z17, hz17, he⟩ := jq_b he
    obtain ⟨hz17c, hz17⟩ := jq_ite hz17
    refine jq_gi (jq_runV (a := q16) (av := [.int v3]) C X (M_X7_placeOf l bs D ct n h q16 v3 _ hz17) mf_X7_placeOf gw_338 gs_14 (Or.inr ⟨_, gw_336⟩) rc_X7 hz17c (by decide) rfl hl.1 rfl (Nat.le_of_ble_eq_true rfl) ⟨by decide, by decide⟩ ⟨by decide, by decide⟩ dX10_again_64) X (fun H locs X => ?_)
    obtain ⟨x18, hx18, he⟩ := jq_ln he
    refine jq_top hx18 ?_
    refine lv_istore (lv' := [(4, .int x18), (0, .ref v0), (1, .int v1), (2, .int v2), (3, .int v3)]) C.1 C.2.1 dX10_again_67 hl (by decide) rfl (fun ls hl => ?_)
    refine lv_aload_n C.1 C.2.1 dX10_again_69 rfl (lv_at hl 1 rfl) ?_
    refine jq_rgR C X fs_X10_19 he dX10_again_70 (fun q19 he => ?_)
    refine lv_iload_n C.1 C.2.1 dX10_again_73 rfl (lv_at hl 4 rfl) ?_
    obtain ⟨z20, hz20, he⟩ := jq_b he
    obtain ⟨hz20c, hz20⟩ := jq_ite hz20
    refine jq_gi (jq_runV (a := q19) (av := [.int v3]) C X (M_X7_wayOf l bs D ct n z17.2 q19 v3 _ hz20) mf_X7_wayOf gw_342 gs_15 (Or.inr ⟨_, gw_340⟩) rc_X7 hz20c (by decide) rfl hl.1 rfl (Nat.le_of_ble_eq_true rfl) ⟨by decide, by decide⟩ ⟨by decide, by decide⟩ dX10_again_74) X (fun H locs X => ?_)
    obtain ⟨x21, hx21, he⟩ := jq_ln he
    refine jq_top hx21 ?_
    refine lv_istore (lv' := [(5, .int x21), (4, .int x18), (0, .ref v0), (1, .int v1), (2, .int v2), (3, .int v3)]) C.1 C.2.1 dX10_again_77 hl (by decide) rfl (fun ls hl => ?_)
    refine lv_iconst (v := 0) C.1 C.2.1 dX10_again_79 (by decide) ?_
    refine lv_istore (lv' := [(6, .int 0), (5, .int x21), (4, .int x18), (0, .ref v0), (1, .int v1), (2, .int v2), (3, .int v3)]) C.1 C.2.1 dX10_again_80 hl (by decide) rfl (fun ls hl => ?_)
    exact TX10_again_l82 (n := n) C hr hlk (fun w0 w1 w2 w3 hh H locs ls he X hl => by
    exact TX10_again_b117 (n := n) C hr hlk hKB hK123 X hl he) n _ _ _ _ _ _ _ _ _ _ _ he X (lv_sub hl [3, 4, 5, 6, 2, 1, 0] rfl)
set_option maxRecDepth 100000 in
set_option maxHeartbeats 4000000 in
theorem TX10_again_l48 {p : Program} {l : Launch} {e : Env} {s : State} {m : MethodId} {args : Array Value} {below : List Frame} {meth : Method} {c : Code} {D : va_G} {ct : Nat → ClassId} {bs : Nat} {res : Int32 × jq_H} {n : Nat} {K123 : Nat → Int32 → jq_H → Option (Int32 × jq_H)} (C : jq_C p s m args c cX10_again 7 RX10 D ct bs) (hr : meth.sig.returnType = (some .int)) (hlk : meth.locks = false) (hK123 : ∀ (u0 : Nat) (u1 : Int32) (h1 : jq_H) (H1 : Heap) (locs1 : List Loc) (ls1 : Array Slot), K123 u0 u1 h1 = some res → jq_X bs D ct s.heap h1 H1 locs1 → lv_has ls1 7 [(0, .ref u0), (1, .int u1)] → W p l e rm_X10_again s m args below meth c H1 locs1 0 0 (MQ below (jq_Qi bs D ct res) args s rm_X10_again.cells rm_X10_again.slots (fun q => bs ≤ q)) (F0 m 123 ls1 [])) :
    ∀ (k : Nat) (v0 : Nat) (v1 : Int32) (v2 : Int32) (v3 : Int32) (h : jq_H) (H : Heap) (locs : List Loc) (ls : Array Slot), X10_again_l48 n K123 k v0 v1 v2 v3 h = some res → jq_X bs D ct s.heap h H locs → lv_has ls 7 [(0, .ref v0), (1, .int v1), (2, .int v2), (3, .int v3)] → W p l e rm_X10_again s m args below meth c H locs 0 0 (MQ below (jq_Qi bs D ct res) args s rm_X10_again.cells rm_X10_again.slots (fun q => bs ≤ q)) (F0 m 48 ls []) := by
  intro k
  induction k with
  | zero => intro v0 v1 v2 v3 h H locs ls he; cases (show (none : Option (Int32 × jq_H)) = some res from he)
  | succ k ih =>
    intro v0 v1 v2 v3 h H locs ls he X hl
    exact TX10_again_b48 (n := n) C hr hlk (KB := X10_again_l48 n K123 k) ih hK123 X hl he
set_option maxRecDepth 100000 in
set_option maxHeartbeats 4000000 in
theorem TX10_again_b46 {p : Program} {l : Launch} {e : Env} {s : State} {m : MethodId} {args : Array Value} {below : List Frame} {meth : Method} {c : Code} {D : va_G} {ct : Nat → ClassId} {bs : Nat} {res : Int32 × jq_H} {n : Nat} (C : jq_C p s m args c cX10_again 7 RX10 D ct bs) (hr : meth.sig.returnType = (some .int)) (hlk : meth.locks = false) {v0 : Nat} {v1 : Int32} {v2 : Int32} {h : jq_H} {H : Heap} {locs : List Loc} {ls : Array Slot} (X : jq_X bs D ct s.heap h H locs) (hl : lv_has ls 7 [(0, .ref v0), (1, .int v1), (2, .int v2)]) (he : X10_again_b46 n v0 v1 v2 h = some res) :
    W p l e rm_X10_again s m args below meth c H locs 0 0 (MQ below (jq_Qi bs D ct res) args s rm_X10_again.cells rm_X10_again.slots (fun q => bs ≤ q)) (F0 m 46 ls []) := by
  unfold X10_again_b46 at he
  refine lv_iconst (v := 0) C.1 C.2.1 dX10_again_46 (by decide) ?_
  refine lv_istore_n (lv' := [(3, .int 0), (0, .ref v0), (1, .int v1), (2, .int v2)]) C.1 C.2.1 dX10_again_47 rfl hl (by decide) rfl (fun ls hl => ?_)
  exact TX10_again_l48 (n := n) C hr hlk (fun w0 w1 hh H locs ls he X hl => by
    exact TX10_again_b123 (n := n) C hr hlk X hl he) n _ _ _ _ _ _ _ _ he X (lv_sub hl [1, 2, 3, 0] rfl)
set_option maxRecDepth 100000 in
set_option maxHeartbeats 4000000 in
theorem TX10_again_b40 {p : Program} {l : Launch} {e : Env} {s : State} {m : MethodId} {args : Array Value} {below : List Frame} {meth : Method} {c : Code} {D : va_G} {ct : Nat → ClassId} {bs : Nat} {res : Int32 × jq_H} {n : Nat} {KB : Nat → Int32 → Int32 → Int32 → jq_H → Option (Int32 × jq_H)} {K46 : Nat → Int32 → Int32 → jq_H → Option (Int32 × jq_H)} (C : jq_C p s m args c cX10_again 7 RX10 D ct bs) (hr : meth.sig.returnType = (some .int)) (hlk : meth.locks = false) (hKB : ∀ (u0 : Nat) (u1 : Int32) (u2 : Int32) (u3 : Int32) (h1 : jq_H) (H1 : Heap) (locs1 : List Loc) (ls1 : Array Slot), KB u0 u1 u2 u3 h1 = some res → jq_X bs D ct s.heap h1 H1 locs1 → lv_has ls1 7 [(0, .ref u0), (1, .int u1), (2, .int u2), (3, .int u3)] → W p l e rm_X10_again s m args below meth c H1 locs1 0 0 (MQ below (jq_Qi bs D ct res) args s rm_X10_again.cells rm_X10_again.slots (fun q => bs ≤ q)) (F0 m 18 ls1 [])) (hK46 : ∀ (u0 : Nat) (u1 : Int32) (u2 : Int32) (h1 : jq_H) (H1 : Heap) (locs1 : List Loc) (ls1 : Array Slot), K46 u0 u1 u2 h1 = some res → jq_X bs D ct s.heap h1 H1 locs1 → lv_has ls1 7 [(0, .ref u0), (1, .int u1), (2, .int u2)] → W p l e rm_X10_again s m args below meth c H1 locs1 0 0 (MQ below (jq_Qi bs D ct res) args s rm_X10_again.cells rm_X10_again.slots (fun q => bs ≤ q)) (F0 m 46 ls1 [])) {v0 : Nat} {v1 : Int32} {v2 : Int32} {v3 : Int32} {h : jq_H} {H : Heap} {locs : List Loc} {ls : Array Slot} (X : jq_X bs D ct s.heap h H locs) (hl : lv_has ls 7 [(0, .ref v0), (1, .int v1), (2, .int v2), (3, .int v3)]) (he : X10_again_b40 n KB K46 v0 v1 v2 v3 h = some res) :
    W p l e rm_X10_again s m args below meth c H locs 0 0 (MQ below (jq_Qi bs D ct res) args s rm_X10_again.cells rm_X10_again.slots (fun q => bs ≤ q)) (F0 m 40 ls []) := by
  unfold X10_again_b40 at he
  obtain ⟨x22, hx22, he⟩ := jq_ln he
  refine lv_iinc (v := x22) (lv' := [(3, .int x22), (0, .ref v0), (1, .int v1), (2, .int v2)]) C.1 C.2.1 dX10_again_40 hl (k := 3) rfl (by rw [hx22]; rfl) (by decide) rfl (fun ls hl => ?_)
  refine lv_goto (tgt := 18) C.1 C.2.1 dX10_again_43 (by decide) ?_
  exact hKB _ _ _ _ _ _ _ _ he X (lv_sub hl [1, 2, 3, 0] rfl)
set_option maxRecDepth 100000 in
set_option maxHeartbeats 4000000 in
theorem TX10_again_b18 {p : Program} {l : Launch} {e : Env} {s : State} {m : MethodId} {args : Array Value} {below : List Frame} {meth : Method} {c : Code} {D : va_G} {ct : Nat → ClassId} {bs : Nat} {res : Int32 × jq_H} {n : Nat} {KB : Nat → Int32 → Int32 → Int32 → jq_H → Option (Int32 × jq_H)} {K46 : Nat → Int32 → Int32 → jq_H → Option (Int32 × jq_H)} (C : jq_C p s m args c cX10_again 7 RX10 D ct bs) (hr : meth.sig.returnType = (some .int)) (hlk : meth.locks = false) (hKB : ∀ (u0 : Nat) (u1 : Int32) (u2 : Int32) (u3 : Int32) (h1 : jq_H) (H1 : Heap) (locs1 : List Loc) (ls1 : Array Slot), KB u0 u1 u2 u3 h1 = some res → jq_X bs D ct s.heap h1 H1 locs1 → lv_has ls1 7 [(0, .ref u0), (1, .int u1), (2, .int u2), (3, .int u3)] → W p l e rm_X10_again s m args below meth c H1 locs1 0 0 (MQ below (jq_Qi bs D ct res) args s rm_X10_again.cells rm_X10_again.slots (fun q => bs ≤ q)) (F0 m 18 ls1 [])) (hK46 : ∀ (u0 : Nat) (u1 : Int32) (u2 : Int32) (h1 : jq_H) (H1 : Heap) (locs1 : List Loc) (ls1 : Array Slot), K46 u0 u1 u2 h1 = some res → jq_X bs D ct s.heap h1 H1 locs1 → lv_has ls1 7 [(0, .ref u0), (1, .int u1), (2, .int u2)] → W p l e rm_X10_again s m args below meth c H1 locs1 0 0 (MQ below (jq_Qi bs D ct res) args s rm_X10_again.cells rm_X10_again.slots (fun q => bs ≤ q)) (F0 m 46 ls1 [])) {v0 : Nat} {v1 : Int32} {v2 : Int32} {v3 : Int32} {h : jq_H} {H : Heap} {locs : List Loc} {ls : Array Slot} (X : jq_X bs D ct s.heap h H locs) (hl : lv_has ls 7 [(0, .ref v0), (1, .int v1), (2, .int v2), (3, .int v3)]) (he : X10_again_b18 n KB K46 v0 v1 v2 v3 h = some res) :
    W p l e rm_X10_again s m args below meth c H locs 0 0 (MQ below (jq_Qi bs D ct res) args s rm_X10_again.cells rm_X10_again.slots (fun q => bs ≤ q)) (F0 m 18 ls []) := by
  unfold X10_again_b18 at he
  refine lv_iload_n C.1 C.2.1 dX10_again_18 rfl (lv_at hl 3 rfl) ?_
  refine lv_iload_n C.1 C.2.1 dX10_again_19 rfl (lv_at hl 1 rfl) ?_
  refine lv_icmp_gt (tgt := 46) C.1 C.2.1 dX10_again_20 (by decide) (fun hc23 => ?_) (fun hc23 => ?_)
  · have he := jq_t hc23 he
    exact hK46 _ _ _ _ _ _ _ he X (lv_sub hl [0, 1, 2] rfl)
  · have he := jq_n hc23 he
    refine lv_iload_n C.1 C.2.1 dX10_again_23 rfl (lv_at hl 2 rfl) ?_
    refine lv_iload_n C.1 C.2.1 dX10_again_24 rfl (lv_at hl 3 rfl) ?_
    obtain ⟨z24, hz24, he⟩ := jq_b he
    refine jq_gi (jq_runS (av := [.int v2, .int v3]) C X (M_X10_isIn l bs D ct n h v2 v3 _ hz24) mf_X10_isIn gw_683 (Or.inl gw_682) rfl hl.1 rfl (Nat.le_of_ble_eq_true rfl) ⟨by decide, by decide⟩ ⟨by decide, by decide⟩ dX10_again_25) X (fun H locs X => ?_)
    refine lv_if_eq (tgt := 40) C.1 C.2.1 dX10_again_28 (by decide) (fun hc25 => ?_) (fun hc25 => ?_)
    · have he := jq_t hc25 he
      exact TX10_again_b40 (n := n) C hr hlk hKB hK46 X (lv_sub hl [0, 1, 2, 3] rfl) he
    · have he := jq_n hc25 he
      refine lv_aload_n C.1 C.2.1 dX10_again_31 rfl (lv_at hl 0 rfl) ?_
      refine jq_rgR C X fs_X10_25 he dX10_again_32 (fun q26 he => ?_)
      refine lv_iload_n C.1 C.2.1 dX10_again_35 rfl (lv_at hl 3 rfl) ?_
      refine jq_rldN C X (Or.inl ⟨rfl, rfl⟩) he dX10_again_36 (fun q27 he => ?_)
      obtain ⟨z28, hz28, he⟩ := jq_b he
      have hrun : va_Run p l e rm_X10_again s m args below meth c H locs 0 0 0 0 (F0 m 37 ls [.ref q27]) [] (jq_Qv bs D ct z28 (Value.ref q27 :: []).toArray) (fun q => bs ≤ q) := by
        unfold V_forget at hz28
        by_cases hci0 : jq_ci z24.2 q27 = 0
        · exact jq_runU (a := q27) (av := []) (x := ⟨"WayGuesses$Guesser", "forget", "()V"⟩) (owner := "WayGuesses$Guesser") (E := RX0) C X (M_X3_forget l bs D ct n z24.2 q27 _ (jq_t hci0 hz28)) mf_X3_forget gw_665 gw_667 gw_664 gw_666 (Or.inl ⟨_, _, _, gw_665, gw_673⟩) rfl ⟨by decide, by decide⟩ rc_X0 hci0 (by decide) rfl hl.1 rfl (Nat.le_of_ble_eq_true rfl) ⟨by decide, by decide⟩ ⟨by decide, by decide⟩ dX10_again_37
        have hz28 := jq_n hci0 hz28
        by_cases hci1 : jq_ci z24.2 q27 = 1
        · exact jq_runU (a := q27) (av := []) (x := ⟨"WayGuesses$Guesser", "forget", "()V"⟩) (owner := "WayGuesses$Guesser") (E := RX1) C X (M_X3_forget l bs D ct n z24.2 q27 _ (jq_t hci1 hz28)) mf_X3_forget gw_665 gw_668 gw_664 gw_666 (Or.inl ⟨_, _, _, gw_665, gw_673⟩) rfl ⟨by decide, by decide⟩ rc_X1 hci1 (by decide) rfl hl.1 rfl (Nat.le_of_ble_eq_true rfl) ⟨by decide, by decide⟩ ⟨by decide, by decide⟩ dX10_again_37
        have hz28 := jq_n hci1 hz28
        by_cases hci2 : jq_ci z24.2 q27 = 2
        · exact jq_runU (a := q27) (av := []) (x := ⟨"WayGuesses$Guesser", "forget", "()V"⟩) (owner := "WayGuesses$Guesser") (E := RX2) C X (M_X3_forget l bs D ct n z24.2 q27 _ (jq_t hci2 hz28)) mf_X3_forget gw_665 gw_669 gw_664 gw_666 (Or.inl ⟨_, _, _, gw_665, gw_673⟩) rfl ⟨by decide, by decide⟩ rc_X2 hci2 (by decide) rfl hl.1 rfl (Nat.le_of_ble_eq_true rfl) ⟨by decide, by decide⟩ ⟨by decide, by decide⟩ dX10_again_37
        have hz28 := jq_n hci2 hz28
        by_cases hci4 : jq_ci z24.2 q27 = 4
        · exact jq_runU (a := q27) (av := []) (x := ⟨"WayGuesses$Guesser", "forget", "()V"⟩) (owner := "WayGuesses$Guesser") (E := RX5) C X (M_X3_forget l bs D ct n z24.2 q27 _ (jq_t hci4 hz28)) mf_X3_forget gw_665 gw_670 gw_664 gw_666 (Or.inl ⟨_, _, _, gw_665, gw_673⟩) rfl ⟨by decide, by decide⟩ rc_X5 hci4 (by decide) rfl hl.1 rfl (Nat.le_of_ble_eq_true rfl) ⟨by decide, by decide⟩ ⟨by decide, by decide⟩ dX10_again_37
        have hz28 := jq_n hci4 hz28
        by_cases hci7 : jq_ci z24.2 q27 = 7
        · exact jq_runU (a := q27) (av := []) (x := ⟨"WayGuesses$Guesser", "forget", "()V"⟩) (owner := "WayGuesses$Guesser") (E := RX8) C X (M_X3_forget l bs D ct n z24.2 q27 _ (jq_t hci7 hz28)) mf_X3_forget gw_665 gw_671 gw_664 gw_666 (Or.inl ⟨_, _, _, gw_665, gw_673⟩) rfl ⟨by decide, by decide⟩ rc_X8 hci7 (by decide) rfl hl.1 rfl (Nat.le_of_ble_eq_true rfl) ⟨by decide, by decide⟩ ⟨by decide, by decide⟩ dX10_again_37
        have hz28 := jq_n hci7 hz28
        by_cases hci8 : jq_ci z24.2 q27 = 8
        · exact jq_runU (a := q27) (av := []) (x := ⟨"WayGuesses$Guesser", "forget", "()V"⟩) (owner := "WayGuesses$Guesser") (E := RX9) C X (M_X3_forget l bs D ct n z24.2 q27 _ (jq_t hci8 hz28)) mf_X3_forget gw_665 gw_672 gw_664 gw_666 (Or.inl ⟨_, _, _, gw_665, gw_673⟩) rfl ⟨by decide, by decide⟩ rc_X9 hci8 (by decide) rfl hl.1 rfl (Nat.le_of_ble_eq_true rfl) ⟨by decide, by decide⟩ ⟨by decide, by decide⟩ dX10_again_37
        have hz28 := jq_n hci8 hz28
        cases hz28
      refine jq_gv (hrun) X (fun H locs X => ?_)
      exact TX10_again_b40 (n := n) C hr hlk hKB hK46 X (lv_sub hl [0, 1, 2, 3] rfl) he
set_option maxRecDepth 100000 in
set_option maxHeartbeats 4000000 in
theorem TX10_again_l18 {p : Program} {l : Launch} {e : Env} {s : State} {m : MethodId} {args : Array Value} {below : List Frame} {meth : Method} {c : Code} {D : va_G} {ct : Nat → ClassId} {bs : Nat} {res : Int32 × jq_H} {n : Nat} {K46 : Nat → Int32 → Int32 → jq_H → Option (Int32 × jq_H)} (C : jq_C p s m args c cX10_again 7 RX10 D ct bs) (hr : meth.sig.returnType = (some .int)) (hlk : meth.locks = false) (hK46 : ∀ (u0 : Nat) (u1 : Int32) (u2 : Int32) (h1 : jq_H) (H1 : Heap) (locs1 : List Loc) (ls1 : Array Slot), K46 u0 u1 u2 h1 = some res → jq_X bs D ct s.heap h1 H1 locs1 → lv_has ls1 7 [(0, .ref u0), (1, .int u1), (2, .int u2)] → W p l e rm_X10_again s m args below meth c H1 locs1 0 0 (MQ below (jq_Qi bs D ct res) args s rm_X10_again.cells rm_X10_again.slots (fun q => bs ≤ q)) (F0 m 46 ls1 [])) :
    ∀ (k : Nat) (v0 : Nat) (v1 : Int32) (v2 : Int32) (v3 : Int32) (h : jq_H) (H : Heap) (locs : List Loc) (ls : Array Slot), X10_again_l18 n K46 k v0 v1 v2 v3 h = some res → jq_X bs D ct s.heap h H locs → lv_has ls 7 [(0, .ref v0), (1, .int v1), (2, .int v2), (3, .int v3)] → W p l e rm_X10_again s m args below meth c H locs 0 0 (MQ below (jq_Qi bs D ct res) args s rm_X10_again.cells rm_X10_again.slots (fun q => bs ≤ q)) (F0 m 18 ls []) := by
  intro k
  induction k with
  | zero => intro v0 v1 v2 v3 h H locs ls he; cases (show (none : Option (Int32 × jq_H)) = some res from he)
  | succ k ih =>
    intro v0 v1 v2 v3 h H locs ls he X hl
    exact TX10_again_b18 (n := n) C hr hlk (KB := X10_again_l18 n K46 k) ih hK46 X hl he
set_option maxRecDepth 100000 in
set_option maxHeartbeats 4000000 in
theorem M_X10_again (l : Launch) (bs : Nat) (D : va_G) (ct : Nat → ClassId) (n : Nat) (h : jq_H) (a : Nat) (p0 : Int32) (res : Int32 × jq_H) (he : X10_again n h a p0 = some res) : jq_M l yX10_again cX10_again 7 (some .int) rm_X10_again (jq_P [.ref a, .int p0] bs D ct h) (jq_Qi bs D ct res) bs := by
  refine jq_start2 (by decide +kernel) (Nat.le_of_ble_eq_true rfl) ?_
  intro p e s m args below meth c ls H locs C hr hlk hin hl X
  have C : jq_C p s m args c cX10_again 7 RX10 D ct bs := C
  have hin : meth.name = "again" := hin
  have hl : lv_has ls 7 [(0, .ref a), (1, .int p0)] := hl
  unfold X10_again at he
  refine lv_aload_n C.1 C.2.1 dX10_again_0 rfl (lv_at hl 0 rfl) ?_
  refine lv_iload_n C.1 C.2.1 dX10_again_1 rfl (lv_at hl 1 rfl) ?_
  obtain ⟨z29, hz29, he⟩ := jq_b he
  obtain ⟨hz29c, hz29⟩ := jq_ite hz29
  refine jq_gi (jq_runV (a := a) (av := [.int p0]) C X (M_X10_isGuesser l bs D ct n h a p0 _ hz29) mf_X10_isGuesser gw_350 gs_16 (Or.inl gw_348) rc_X10 hz29c (by decide) rfl hl.1 rfl (Nat.le_of_ble_eq_true rfl) ⟨by decide, by decide⟩ ⟨by decide, by decide⟩ dX10_again_2) X (fun H locs X => ?_)
  refine lv_if_ne (tgt := 10) C.1 C.2.1 dX10_again_5 (by decide) (fun hc30 => ?_) (fun hc30 => ?_)
  · have he := jq_n hc30 he
    refine lv_aload_n C.1 C.2.1 dX10_again_10 rfl (lv_at hl 0 rfl) ?_
    refine lv_iload_n C.1 C.2.1 dX10_again_11 rfl (lv_at hl 1 rfl) ?_
    obtain ⟨z31, hz31, he⟩ := jq_b he
    obtain ⟨hz31c, hz31⟩ := jq_ite hz31
    refine jq_gi (jq_runV (a := a) (av := [.int p0]) C X (M_X10_groupOf l bs D ct n z29.2 a p0 _ hz31) mf_X10_groupOf gw_680 gs_22 (Or.inl gw_678) rc_X10 hz31c (by decide) rfl hl.1 rfl (Nat.le_of_ble_eq_true rfl) ⟨by decide, by decide⟩ ⟨by decide, by decide⟩ dX10_again_12) X (fun H locs X => ?_)
    obtain ⟨x32, hx32, he⟩ := jq_ln he
    refine jq_top hx32 ?_
    refine lv_istore_n (lv' := [(2, .int x32), (0, .ref a), (1, .int p0)]) C.1 C.2.1 dX10_again_15 rfl hl (by decide) rfl (fun ls hl => ?_)
    refine lv_iconst (v := 0) C.1 C.2.1 dX10_again_16 (by decide) ?_
    refine lv_istore_n (lv' := [(3, .int 0), (2, .int x32), (0, .ref a), (1, .int p0)]) C.1 C.2.1 dX10_again_17 rfl hl (by decide) rfl (fun ls hl => ?_)
    exact TX10_again_l18 (n := n) C hr hlk (fun w0 w1 w2 hh H locs ls he X hl => by
    exact TX10_again_b46 (n := n) C hr hlk X hl he) n _ _ _ _ _ _ _ _ he X (lv_sub hl [2, 3, 1, 0] rfl)
  · have he := jq_t hc30 he
    refine lv_iconst (v := (-1)) C.1 C.2.1 dX10_again_8 (by decide) ?_
    exact jq_iret C X hr hlk he (by decide) (by decide) dX10_again_9
set_option maxRecDepth 100000 in
set_option maxHeartbeats 4000000 in
theorem TX10_asked_b24 {p : Program} {l : Launch} {e : Env} {s : State} {m : MethodId} {args : Array Value} {below : List Frame} {meth : Method} {c : Code} {D : va_G} {ct : Nat → ClassId} {bs : Nat} {res : Int32 × jq_H} {n : Nat} (C : jq_C p s m args c cX10_asked 2 RX10 D ct bs) (hr : meth.sig.returnType = (some .int)) (hlk : meth.locks = false) {s0 : Int32} {h : jq_H} {H : Heap} {locs : List Loc} {ls : Array Slot} (X : jq_X bs D ct s.heap h H locs) (hl : lv_has ls 2 []) (he : X10_asked_b24 n s0 h = some res) :
    W p l e rm_X10_asked s m args below meth c H locs 0 0 (MQ below (jq_Qi bs D ct res) args s rm_X10_asked.cells rm_X10_asked.slots (fun q => bs ≤ q)) (F0 m 24 ls [.int s0]) := by
  unfold X10_asked_b24 at he
  exact jq_iret C X hr hlk he (by decide) (by decide) dX10_asked_24
set_option maxRecDepth 100000 in
set_option maxHeartbeats 4000000 in
theorem M_X10_asked (l : Launch) (bs : Nat) (D : va_G) (ct : Nat → ClassId) (n : Nat) (h : jq_H) (a : Nat) (p0 : Int32) (res : Int32 × jq_H) (he : X10_asked n h a p0 = some res) : jq_M l yX10_asked cX10_asked 2 (some .int) rm_X10_asked (jq_P [.ref a, .int p0] bs D ct h) (jq_Qi bs D ct res) bs := by
  refine jq_start2 (by decide +kernel) (Nat.le_of_ble_eq_true rfl) ?_
  intro p e s m args below meth c ls H locs C hr hlk hin hl X
  have C : jq_C p s m args c cX10_asked 2 RX10 D ct bs := C
  have hin : meth.name = "asked" := hin
  have hl : lv_has ls 2 [(0, .ref a), (1, .int p0)] := hl
  unfold X10_asked at he
  refine lv_aload_n C.1 C.2.1 dX10_asked_0 rfl (lv_at hl 0 rfl) ?_
  refine lv_iload_n C.1 C.2.1 dX10_asked_1 rfl (lv_at hl 1 rfl) ?_
  obtain ⟨z1, hz1, he⟩ := jq_b he
  obtain ⟨hz1c, hz1⟩ := jq_ite hz1
  refine jq_gi (jq_runV (a := a) (av := [.int p0]) C X (M_X10_isGuesser l bs D ct n h a p0 _ hz1) mf_X10_isGuesser gw_350 gs_16 (Or.inl gw_348) rc_X10 hz1c (by decide) rfl hl.1 rfl (Nat.le_of_ble_eq_true rfl) ⟨by decide, by decide⟩ ⟨by decide, by decide⟩ dX10_asked_2) X (fun H locs X => ?_)
  refine lv_if_eq (tgt := 23) C.1 C.2.1 dX10_asked_5 (by decide) (fun hc2 => ?_) (fun hc2 => ?_)
  · have he := jq_t hc2 he
    refine lv_iconst (v := (-1)) C.1 C.2.1 dX10_asked_23 (by decide) ?_
    exact TX10_asked_b24 (n := n) C hr hlk X (lv_sub hl [] rfl) he
  · have he := jq_n hc2 he
    refine lv_aload_n C.1 C.2.1 dX10_asked_8 rfl (lv_at hl 0 rfl) ?_
    refine jq_rgR C X fs_X10_25 he dX10_asked_9 (fun q3 he => ?_)
    refine lv_iload_n C.1 C.2.1 dX10_asked_12 rfl (lv_at hl 1 rfl) ?_
    refine jq_rldN C X (Or.inl ⟨rfl, rfl⟩) he dX10_asked_13 (fun q4 he => ?_)
    refine jq_rgR C X fs_X10_112 he dX10_asked_14 (fun q5 he => ?_)
    refine jq_rgI C X fs_X10_124 he dX10_asked_17 (fun x6 he => ?_)
    refine lv_goto (tgt := 24) C.1 C.2.1 dX10_asked_20 (by decide) ?_
    exact TX10_asked_b24 (n := n) C hr hlk X (lv_sub hl [] rfl) he
set_option maxRecDepth 100000 in
set_option maxHeartbeats 4000000 in
theorem M_X10_at (l : Launch) (bs : Nat) (D : va_G) (ct : Nat → ClassId) (n : Nat) (h : jq_H) (a : Nat) (p0 : Int32) (p1 : Int32) (res : Int32 × jq_H) (he : X10_at n h a p0 p1 = some res) : jq_M l yX10_at cX10_at 3 (some .int) rm_X10_at (jq_P [.ref a, .int p0, .int p1] bs D ct h) (jq_Qi bs D ct res) bs := by
  refine jq_start2 (by decide +kernel) (Nat.le_of_ble_eq_true rfl) ?_
  intro p e s m args below meth c ls H locs C hr hlk hin hl X
  have C : jq_C p s m args c cX10_at 3 RX10 D ct bs := C
  have hin : meth.name = "at" := hin
  have hl : lv_has ls 3 [(0, .ref a), (1, .int p0), (2, .int p1)] := hl
  unfold X10_at at he
  refine lv_iload_n C.1 C.2.1 dX10_at_0 rfl (lv_at hl 1 rfl) ?_
  refine lv_iconst (v := 0) C.1 C.2.1 dX10_at_1 (by decide) ?_
  refine lv_aload_n C.1 C.2.1 dX10_at_2 rfl (lv_at hl 0 rfl) ?_
  refine jq_rgR C X fs_X10_19 he dX10_at_3 (fun q1 he => ?_)
  refine jq_rgI C X fs_X10_75 he dX10_at_6 (fun x2 he => ?_)
  refine lv_iconst (v := 1) C.1 C.2.1 dX10_at_9 (by decide) ?_
  refine lv_isub C.1 C.2.1 dX10_at_10 ?_
  obtain ⟨z3, hz3, he⟩ := jq_b he
  refine jq_gi (jq_runS (av := [.int p0, .int 0, .int (x2 - 1)]) C X (M_X10_within l bs D ct n h p0 0 (x2 - 1) _ hz3) mf_X10_within gw_122 (Or.inl gw_121) rfl hl.1 rfl (Nat.le_of_ble_eq_true rfl) ⟨by decide, by decide⟩ ⟨by decide, by decide⟩ dX10_at_11) X (fun H locs X => ?_)
  refine lv_if_ne (tgt := 19) C.1 C.2.1 dX10_at_14 (by decide) (fun hc4 => ?_) (fun hc4 => ?_)
  · have he := jq_n hc4 he
    refine lv_iload_n C.1 C.2.1 dX10_at_19 rfl (lv_at hl 2 rfl) ?_
    refine lv_if_ne (tgt := 32) C.1 C.2.1 dX10_at_20 (by decide) (fun hc5 => ?_) (fun hc5 => ?_)
    · have he := jq_n hc5 he
      refine lv_iload_n C.1 C.2.1 dX10_at_32 rfl (lv_at hl 2 rfl) ?_
      refine lv_iconst (v := 1) C.1 C.2.1 dX10_at_33 (by decide) ?_
      refine lv_icmp_ne (tgt := 46) C.1 C.2.1 dX10_at_34 (by decide) (fun hc6 => ?_) (fun hc6 => ?_)
      · have he := jq_n hc6 he
        refine lv_bipush (v := (-2)) C.1 C.2.1 dX10_at_46 (by decide) ?_
        exact jq_iret C X hr hlk he (by decide) (by decide) dX10_at_48
      · have he := jq_t hc6 he
        refine lv_aload_n C.1 C.2.1 dX10_at_37 rfl (lv_at hl 0 rfl) ?_
        refine jq_rgR C X fs_X10_19 he dX10_at_38 (fun q7 he => ?_)
        refine lv_iload_n C.1 C.2.1 dX10_at_41 rfl (lv_at hl 1 rfl) ?_
        obtain ⟨z8, hz8, he⟩ := jq_b he
        obtain ⟨hz8c, hz8⟩ := jq_ite hz8
        refine jq_gi (jq_runV (a := q7) (av := [.int p0]) C X (M_X7_wayOf l bs D ct n z3.2 q7 p0 _ hz8) mf_X7_wayOf gw_342 gs_15 (Or.inr ⟨_, gw_340⟩) rc_X7 hz8c (by decide) rfl hl.1 rfl (Nat.le_of_ble_eq_true rfl) ⟨by decide, by decide⟩ ⟨by decide, by decide⟩ dX10_at_42) X (fun H locs X => ?_)
        exact jq_iret C X hr hlk he (by decide) (by decide) dX10_at_45
    · have he := jq_t hc5 he
      refine lv_aload_n C.1 C.2.1 dX10_at_23 rfl (lv_at hl 0 rfl) ?_
      refine jq_rgR C X fs_X10_19 he dX10_at_24 (fun q9 he => ?_)
      refine lv_iload_n C.1 C.2.1 dX10_at_27 rfl (lv_at hl 1 rfl) ?_
      obtain ⟨z10, hz10, he⟩ := jq_b he
      obtain ⟨hz10c, hz10⟩ := jq_ite hz10
      refine jq_gi (jq_runV (a := q9) (av := [.int p0]) C X (M_X7_placeOf l bs D ct n z3.2 q9 p0 _ hz10) mf_X7_placeOf gw_338 gs_14 (Or.inr ⟨_, gw_336⟩) rc_X7 hz10c (by decide) rfl hl.1 rfl (Nat.le_of_ble_eq_true rfl) ⟨by decide, by decide⟩ ⟨by decide, by decide⟩ dX10_at_28) X (fun H locs X => ?_)
      exact jq_iret C X hr hlk he (by decide) (by decide) dX10_at_31
  · have he := jq_t hc4 he
    refine lv_iconst (v := (-1)) C.1 C.2.1 dX10_at_17 (by decide) ?_
    exact jq_iret C X hr hlk he (by decide) (by decide) dX10_at_18
set_option maxRecDepth 100000 in
set_option maxHeartbeats 4000000 in
theorem TX10_back_b17 {p : Program} {l : Launch} {e : Env} {s : State} {m : MethodId} {args : Array Value} {below : List Frame} {meth : Method} {c : Code} {D : va_G} {ct : Nat → ClassId} {bs : Nat} {res : Int32 × jq_H} {n : Nat} (C : jq_C p s m args c cX10_back 4 RX10 D ct bs) (hr : meth.sig.returnType = (some .int)) (hlk : meth.locks = false) {h : jq_H} {H : Heap} {locs : List Loc} {ls : Array Slot} (X : jq_X bs D ct s.heap h H locs) (hl : lv_has ls 4 []) (he : X10_back_b17 n h = some res) :
    W p l e rm_X10_back s m args below meth c H locs 0 0 (MQ below (jq_Qi bs D ct res) args s rm_X10_back.cells rm_X10_back.slots (fun q => bs ≤ q)) (F0 m 17 ls []) := by
  unfold X10_back_b17 at he
  refine lv_iconst (v := (-1)) C.1 C.2.1 dX10_back_17 (by decide) ?_
  exact jq_iret C X hr hlk he (by decide) (by decide) dX10_back_18
set_option maxRecDepth 100000 in
set_option maxHeartbeats 4000000 in
theorem M_X10_back (l : Launch) (bs : Nat) (D : va_G) (ct : Nat → ClassId) (n : Nat) (h : jq_H) (a : Nat) (p0 : Int32) (p1 : Int32) (res : Int32 × jq_H) (he : X10_back n h a p0 p1 = some res) : jq_M l yX10_back cX10_back 4 (some .int) rm_X10_back (jq_P [.ref a, .int p0, .int p1] bs D ct h) (jq_Qi bs D ct res) bs := by
  refine jq_start2 (by decide +kernel) (Nat.le_of_ble_eq_true rfl) ?_
  intro p e s m args below meth c ls H locs C hr hlk hin hl X
  have C : jq_C p s m args c cX10_back 4 RX10 D ct bs := C
  have hin : meth.name = "back" := hin
  have hl : lv_has ls 4 [(0, .ref a), (1, .int p0), (2, .int p1)] := hl
  unfold X10_back at he
  refine lv_aload_n C.1 C.2.1 dX10_back_0 rfl (lv_at hl 0 rfl) ?_
  refine lv_iload_n C.1 C.2.1 dX10_back_1 rfl (lv_at hl 1 rfl) ?_
  obtain ⟨z1, hz1, he⟩ := jq_b he
  obtain ⟨hz1c, hz1⟩ := jq_ite hz1
  refine jq_gi (jq_runV (a := a) (av := [.int p0]) C X (M_X10_isGuesser l bs D ct n h a p0 _ hz1) mf_X10_isGuesser gw_350 gs_16 (Or.inl gw_348) rc_X10 hz1c (by decide) rfl hl.1 rfl (Nat.le_of_ble_eq_true rfl) ⟨by decide, by decide⟩ ⟨by decide, by decide⟩ dX10_back_2) X (fun H locs X => ?_)
  refine lv_if_eq (tgt := 17) C.1 C.2.1 dX10_back_5 (by decide) (fun hc2 => ?_) (fun hc2 => ?_)
  · have he := jq_t hc2 he
    exact TX10_back_b17 (n := n) C hr hlk X (lv_sub hl [] rfl) he
  · have he := jq_n hc2 he
    refine lv_iload_n C.1 C.2.1 dX10_back_8 rfl (lv_at hl 2 rfl) ?_
    refine lv_iconst (v := 0) C.1 C.2.1 dX10_back_9 (by decide) ?_
    refine lv_iconst (v := 1) C.1 C.2.1 dX10_back_10 (by decide) ?_
    obtain ⟨z3, hz3, he⟩ := jq_b he
    refine jq_gi (jq_runS (av := [.int p1, .int 0, .int 1]) C X (M_X10_within l bs D ct n z1.2 p1 0 1 _ hz3) mf_X10_within gw_122 (Or.inl gw_121) rfl hl.1 rfl (Nat.le_of_ble_eq_true rfl) ⟨by decide, by decide⟩ ⟨by decide, by decide⟩ dX10_back_11) X (fun H locs X => ?_)
    refine lv_if_ne (tgt := 19) C.1 C.2.1 dX10_back_14 (by decide) (fun hc4 => ?_) (fun hc4 => ?_)
    · have he := jq_n hc4 he
      refine lv_aload_n C.1 C.2.1 dX10_back_19 rfl (lv_at hl 0 rfl) ?_
      refine jq_rgR C X fs_X10_25 he dX10_back_20 (fun q5 he => ?_)
      refine lv_iload_n C.1 C.2.1 dX10_back_23 rfl (lv_at hl 1 rfl) ?_
      refine jq_rldN C X (Or.inl ⟨rfl, rfl⟩) he dX10_back_24 (fun q6 he => ?_)
      refine jq_rgR C X fs_X10_157 he dX10_back_25 (fun q7 he => ?_)
      refine lv_iload_n C.1 C.2.1 dX10_back_28 rfl (lv_at hl 2 rfl) ?_
      refine jq_rldR C X (Or.inr ⟨rfl, rfl⟩) he dX10_back_29 (fun o8 he => ?_)
      cases o8 with
      | none =>
        have he := jq_oN he
        show W p l e rm_X10_back s m args below meth c H locs 0 0 (MQ below (jq_Qi bs D ct res) args s rm_X10_back.cells rm_X10_back.slots (fun q => bs ≤ q)) (F0 m 30 ls [.null])
        refine lv_astore_nN (lv' := [(3, .null), (0, .ref a), (1, .int p0), (2, .int p1)]) C.1 C.2.1 dX10_back_30 rfl hl (by decide) rfl (fun ls hl => ?_)
        refine lv_aload_nN C.1 C.2.1 dX10_back_31 rfl (lv_at hl 0 rfl) ?_
        refine lv_ifnonnullN C.1 C.2.1 dX10_back_32 ?_
        refine lv_iconst (v := (-1)) C.1 C.2.1 dX10_back_35 (by decide) ?_
        exact jq_iret C X hr hlk he (by decide) (by decide) dX10_back_36
      | some q9 =>
        have he := jq_oS he
        show W p l e rm_X10_back s m args below meth c H locs 0 0 (MQ below (jq_Qi bs D ct res) args s rm_X10_back.cells rm_X10_back.slots (fun q => bs ≤ q)) (F0 m 30 ls [.ref q9])
        refine lv_astore_n (lv' := [(3, .ref q9), (0, .ref a), (1, .int p0), (2, .int p1)]) C.1 C.2.1 dX10_back_30 rfl hl (by decide) rfl (fun ls hl => ?_)
        refine lv_aload_n C.1 C.2.1 dX10_back_31 rfl (lv_at hl 0 rfl) ?_
        refine lv_ifnonnull (tgt := 37) C.1 C.2.1 dX10_back_32 (by decide) ?_
        refine lv_aload_n C.1 C.2.1 dX10_back_37 rfl (lv_at hl 1 rfl) ?_
        refine jq_rgR C X fs_X10_25 he dX10_back_38 (fun q10 he => ?_)
        refine lv_iload_n C.1 C.2.1 dX10_back_41 rfl (lv_at hl 2 rfl) ?_
        refine jq_rldN C X (Or.inl ⟨rfl, rfl⟩) he dX10_back_42 (fun q11 he => ?_)
        refine jq_rgR C X fs_X10_112 he dX10_back_43 (fun q12 he => ?_)
        refine lv_aload_n C.1 C.2.1 dX10_back_46 rfl (lv_at hl 0 rfl) ?_
        obtain ⟨z13, hz13, he⟩ := jq_b he
        obtain ⟨hz13c, hz13⟩ := jq_ite hz13
        refine jq_gv (jq_runV (a := q12) (av := [.ref q9]) C X (M_X4_take l bs D ct n z3.2 q12 q9 _ hz13) mf_X4_take gw_431 gs_19 (Or.inr ⟨_, gw_702⟩) rc_X4 hz13c (by decide) rfl hl.1 rfl (Nat.le_of_ble_eq_true rfl) ⟨by decide, by decide⟩ ⟨by decide, by decide⟩ dX10_back_47) X (fun H locs X => ?_)
        refine lv_aload_n C.1 C.2.1 dX10_back_50 rfl (lv_at hl 0 rfl) ?_
        refine jq_rgI C X fs_X10_124 he dX10_back_51 (fun x14 he => ?_)
        exact jq_iret C X hr hlk he (by decide) (by decide) dX10_back_54
    · have he := jq_t hc4 he
      exact TX10_back_b17 (n := n) C hr hlk X (lv_sub hl [] rfl) he
set_option maxRecDepth 100000 in
set_option maxHeartbeats 4000000 in
theorem TJ7_fill_53178_b20 {p : Program} {l : Launch} {e : Env} {s : State} {m : MethodId} {args : Array Value} {below : List Frame} {meth : Method} {c : Code} {D : va_G} {ct : Nat → ClassId} {bs : Nat} {res : jq_H} {n : Nat} (C : jq_C p s m args c cJ7_fill_53178 4 RJ7 D ct bs) (hr : meth.sig.returnType = none) (hlk : meth.locks = false) {h : jq_H} {H : Heap} {locs : List Loc} {ls : Array Slot} (X : jq_X bs D ct s.heap h H locs) (hl : lv_has ls 4 []) (he : J7_fill_53178_b20 n h = some res) :
    W p l e rm_J7_fill_53178 s m args below meth c H locs 0 0 (MQ below (jq_Qv bs D ct res) args s rm_J7_fill_53178.cells rm_J7_fill_53178.slots (fun q => bs ≤ q)) (F0 m 20 ls []) := by
  unfold J7_fill_53178_b20 at he
  exact jq_vret C X hr hlk he (by decide) (by decide) dJ7_fill_53178_20
set_option maxRecDepth 100000 in
set_option maxHeartbeats 4000000 in
theorem TJ7_fill_53178_b5 {p : Program} {l : Launch} {e : Env} {s : State} {m : MethodId} {args : Array Value} {below : List Frame} {meth : Method} {c : Code} {D : va_G} {ct : Nat → ClassId} {bs : Nat} {res : jq_H} {n : Nat} {KB : Nat → Int32 → Int32 → Int32 → jq_H → Option (jq_H)} {K20 : jq_H → Option (jq_H)} (C : jq_C p s m args c cJ7_fill_53178 4 RJ7 D ct bs) (hr : meth.sig.returnType = none) (hlk : meth.locks = false) (hKB : ∀ (u0 : Nat) (u1 : Int32) (u2 : Int32) (u3 : Int32) (h1 : jq_H) (H1 : Heap) (locs1 : List Loc) (ls1 : Array Slot), KB u0 u1 u2 u3 h1 = some res → jq_X bs D ct s.heap h1 H1 locs1 → lv_has ls1 4 [(0, .ref u0), (1, .int u1), (2, .int u2), (3, .int u3)] → W p l e rm_J7_fill_53178 s m args below meth c H1 locs1 0 0 (MQ below (jq_Qv bs D ct res) args s rm_J7_fill_53178.cells rm_J7_fill_53178.slots (fun q => bs ≤ q)) (F0 m 5 ls1 [])) (hK20 : ∀ (h1 : jq_H) (H1 : Heap) (locs1 : List Loc) (ls1 : Array Slot), K20 h1 = some res → jq_X bs D ct s.heap h1 H1 locs1 → lv_has ls1 4 [] → W p l e rm_J7_fill_53178 s m args below meth c H1 locs1 0 0 (MQ below (jq_Qv bs D ct res) args s rm_J7_fill_53178.cells rm_J7_fill_53178.slots (fun q => bs ≤ q)) (F0 m 20 ls1 [])) {v0 : Nat} {v1 : Int32} {v2 : Int32} {v3 : Int32} {h : jq_H} {H : Heap} {locs : List Loc} {ls : Array Slot} (X : jq_X bs D ct s.heap h H locs) (hl : lv_has ls 4 [(0, .ref v0), (1, .int v1), (2, .int v2), (3, .int v3)]) (he : J7_fill_53178_b5 n KB K20 v0 v1 v2 v3 h = some res) :
    W p l e rm_J7_fill_53178 s m args below meth c H locs 0 0 (MQ below (jq_Qv bs D ct res) args s rm_J7_fill_53178.cells rm_J7_fill_53178.slots (fun q => bs ≤ q)) (F0 m 5 ls []) := by
  unfold J7_fill_53178_b5 at he
  refine lv_iload_n C.1 C.2.1 dJ7_fill_53178_5 rfl (lv_at hl 2 rfl) ?_
  refine lv_iload_n C.1 C.2.1 dJ7_fill_53178_6 rfl (lv_at hl 3 rfl) ?_
  refine lv_icmp_ge (tgt := 20) C.1 C.2.1 dJ7_fill_53178_7 (by decide) (fun hc1 => ?_) (fun hc1 => ?_)
  · have he := jq_t hc1 he
    exact hK20 _ _ _ _ he X (lv_sub hl [] rfl)
  · have he := jq_n hc1 he
    refine lv_aload_n C.1 C.2.1 dJ7_fill_53178_10 rfl (lv_at hl 0 rfl) ?_
    refine lv_iload_n C.1 C.2.1 dJ7_fill_53178_11 rfl (lv_at hl 2 rfl) ?_
    refine lv_iload_n C.1 C.2.1 dJ7_fill_53178_12 rfl (lv_at hl 1 rfl) ?_
    refine jq_rstI C X he dJ7_fill_53178_13 (fun h2 H locs he X => ?_)
    obtain ⟨x3, hx3, he⟩ := jq_ln he
    refine lv_iinc (v := x3) (lv' := [(2, .int x3), (0, .ref v0), (1, .int v1), (3, .int v3)]) C.1 C.2.1 dJ7_fill_53178_14 hl (k := 2) rfl (by rw [hx3]; rfl) (by decide) rfl (fun ls hl => ?_)
    refine lv_goto (tgt := 5) C.1 C.2.1 dJ7_fill_53178_17 (by decide) ?_
    exact hKB _ _ _ _ _ _ _ _ he X (lv_sub hl [1, 2, 0, 3] rfl)
set_option maxRecDepth 100000 in
set_option maxHeartbeats 4000000 in
theorem TJ7_fill_53178_l5 {p : Program} {l : Launch} {e : Env} {s : State} {m : MethodId} {args : Array Value} {below : List Frame} {meth : Method} {c : Code} {D : va_G} {ct : Nat → ClassId} {bs : Nat} {res : jq_H} {n : Nat} {K20 : jq_H → Option (jq_H)} (C : jq_C p s m args c cJ7_fill_53178 4 RJ7 D ct bs) (hr : meth.sig.returnType = none) (hlk : meth.locks = false) (hK20 : ∀ (h1 : jq_H) (H1 : Heap) (locs1 : List Loc) (ls1 : Array Slot), K20 h1 = some res → jq_X bs D ct s.heap h1 H1 locs1 → lv_has ls1 4 [] → W p l e rm_J7_fill_53178 s m args below meth c H1 locs1 0 0 (MQ below (jq_Qv bs D ct res) args s rm_J7_fill_53178.cells rm_J7_fill_53178.slots (fun q => bs ≤ q)) (F0 m 20 ls1 [])) :
    ∀ (k : Nat) (v0 : Nat) (v1 : Int32) (v2 : Int32) (v3 : Int32) (h : jq_H) (H : Heap) (locs : List Loc) (ls : Array Slot), J7_fill_53178_l5 n K20 k v0 v1 v2 v3 h = some res → jq_X bs D ct s.heap h H locs → lv_has ls 4 [(0, .ref v0), (1, .int v1), (2, .int v2), (3, .int v3)] → W p l e rm_J7_fill_53178 s m args below meth c H locs 0 0 (MQ below (jq_Qv bs D ct res) args s rm_J7_fill_53178.cells rm_J7_fill_53178.slots (fun q => bs ≤ q)) (F0 m 5 ls []) := by
  intro k
  induction k with
  | zero => intro v0 v1 v2 v3 h H locs ls he; cases (show (none : Option (jq_H)) = some res from he)
  | succ k ih =>
    intro v0 v1 v2 v3 h H locs ls he X hl
    exact TJ7_fill_53178_b5 (n := n) C hr hlk (KB := J7_fill_53178_l5 n K20 k) ih hK20 X hl he
set_option maxRecDepth 100000 in
set_option maxHeartbeats 4000000 in
theorem M_J7_fill_53178 (l : Launch) (bs : Nat) (D : va_G) (ct : Nat → ClassId) (n : Nat) (h : jq_H) (p0 : Nat) (p1 : Int32) (res : jq_H) (he : J7_fill_53178 n h p0 p1 = some res) : jq_M l yJ7_fill_53178 cJ7_fill_53178 4 none rm_J7_fill_53178 (jq_P [.ref p0, .int p1] bs D ct h) (jq_Qv bs D ct res) bs := by
  refine jq_start2 (by decide +kernel) (Nat.le_of_ble_eq_true rfl) ?_
  intro p e s m args below meth c ls H locs C hr hlk hin hl X
  have C : jq_C p s m args c cJ7_fill_53178 4 RJ7 D ct bs := C
  have hin : meth.name = "fill" := hin
  have hl : lv_has ls 4 [(0, .ref p0), (1, .int p1)] := hl
  unfold J7_fill_53178 at he
  refine lv_iconst (v := 0) C.1 C.2.1 dJ7_fill_53178_0 (by decide) ?_
  refine lv_istore_n (lv' := [(2, .int 0), (0, .ref p0), (1, .int p1)]) C.1 C.2.1 dJ7_fill_53178_1 rfl hl (by decide) rfl (fun ls hl => ?_)
  refine lv_aload_n C.1 C.2.1 dJ7_fill_53178_2 rfl (lv_at hl 1 rfl) ?_
  refine jq_rlen C X he dJ7_fill_53178_3 (fun x4 he => ?_)
  refine lv_istore_n (lv' := [(3, .int x4), (2, .int 0), (0, .ref p0), (1, .int p1)]) C.1 C.2.1 dJ7_fill_53178_4 rfl hl (by decide) rfl (fun ls hl => ?_)
  exact TJ7_fill_53178_l5 (n := n) C hr hlk (fun  hh H locs ls he X hl => by
    exact TJ7_fill_53178_b20 (n := n) C hr hlk X hl he) n _ _ _ _ _ _ _ _ he X (lv_sub hl [2, 3, 1, 0] rfl)
set_option maxRecDepth 100000 in
set_option maxHeartbeats 4000000 in
theorem TX7_tally_b86 {p : Program} {l : Launch} {e : Env} {s : State} {m : MethodId} {args : Array Value} {below : List Frame} {meth : Method} {c : Code} {D : va_G} {ct : Nat → ClassId} {bs : Nat} {res : jq_H} {n : Nat} (C : jq_C p s m args c cX7_tally 5 RX7 D ct bs) (hr : meth.sig.returnType = none) (hlk : meth.locks = false) {s0 : Nat} {s1 : Int32} {s2 : Int32} {s3 : Int32} {h : jq_H} {H : Heap} {locs : List Loc} {ls : Array Slot} (X : jq_X bs D ct s.heap h H locs) (hl : lv_has ls 5 []) (he : X7_tally_b86 n s0 s1 s2 s3 h = some res) :
    W p l e rm_X7_tally s m args below meth c H locs 0 0 (MQ below (jq_Qv bs D ct res) args s rm_X7_tally.cells rm_X7_tally.slots (fun q => bs ≤ q)) (F0 m 86 ls [.int s3, .int s2, .int s1, .ref s0]) := by
  unfold X7_tally_b86 at he
  refine lv_iadd C.1 C.2.1 dX7_tally_86 ?_
  refine jq_rstI C X he dX7_tally_87 (fun h1 H locs he X => ?_)
  exact jq_vret C X hr hlk he (by decide) (by decide) dX7_tally_88
set_option maxRecDepth 100000 in
set_option maxHeartbeats 4000000 in
theorem TX7_tally_b68 {p : Program} {l : Launch} {e : Env} {s : State} {m : MethodId} {args : Array Value} {below : List Frame} {meth : Method} {c : Code} {D : va_G} {ct : Nat → ClassId} {bs : Nat} {res : jq_H} {n : Nat} (C : jq_C p s m args c cX7_tally 5 RX7 D ct bs) (hr : meth.sig.returnType = none) (hlk : meth.locks = false) {v0 : Nat} {v1 : Int32} {v2 : Int32} {h : jq_H} {H : Heap} {locs : List Loc} {ls : Array Slot} (X : jq_X bs D ct s.heap h H locs) (hl : lv_has ls 5 [(0, .ref v0), (1, .int v1), (2, .int v2)]) (he : X7_tally_b68 n v0 v1 v2 h = some res) :
    W p l e rm_X7_tally s m args below meth c H locs 0 0 (MQ below (jq_Qv bs D ct res) args s rm_X7_tally.cells rm_X7_tally.slots (fun q => bs ≤ q)) (F0 m 68 ls []) := by
  unfold X7_tally_b68 at he
  refine lv_aload_n C.1 C.2.1 dX7_tally_68 rfl (lv_at hl 0 rfl) ?_
  refine jq_rgR C X fs_X7_18 he dX7_tally_69 (fun q2 he => ?_)
  refine lv_iload_n C.1 C.2.1 dX7_tally_72 rfl (lv_at hl 1 rfl) ?_
  refine lv_dup2_11 C.1 C.2.1 dX7_tally_73 rfl rfl ?_
  refine jq_rldI C X he dX7_tally_74 (fun x3 he => ?_)
  refine lv_iload_n C.1 C.2.1 dX7_tally_75 rfl (lv_at hl 2 rfl) ?_
  refine lv_iconst (v := 1) C.1 C.2.1 dX7_tally_76 (by decide) ?_
  refine lv_icmp_ne (tgt := 85) C.1 C.2.1 dX7_tally_77 (by decide) (fun hc4 => ?_) (fun hc4 => ?_)
  · have he := jq_n hc4 he
    refine lv_iconst (v := 1) C.1 C.2.1 dX7_tally_85 (by decide) ?_
    exact TX7_tally_b86 (n := n) C hr hlk X (lv_sub hl [] rfl) he
  · have he := jq_t hc4 he
    refine lv_ldc (v := 65536) C.1 C.2.1 C.2.2.2.1 (C.2.2.2.2.1 _ gw_723) dX7_tally_80 ?_
    refine lv_goto (tgt := 86) C.1 C.2.1 dX7_tally_82 (by decide) ?_
    exact TX7_tally_b86 (n := n) C hr hlk X (lv_sub hl [] rfl) he
set_option maxRecDepth 100000 in
set_option maxHeartbeats 4000000 in
theorem TX7_tally_b58 {p : Program} {l : Launch} {e : Env} {s : State} {m : MethodId} {args : Array Value} {below : List Frame} {meth : Method} {c : Code} {D : va_G} {ct : Nat → ClassId} {bs : Nat} {res : jq_H} {n : Nat} (C : jq_C p s m args c cX7_tally 5 RX7 D ct bs) (hr : meth.sig.returnType = none) (hlk : meth.locks = false) {v0 : Nat} {v1 : Int32} {v2 : Int32} {h : jq_H} {H : Heap} {locs : List Loc} {ls : Array Slot} (X : jq_X bs D ct s.heap h H locs) (hl : lv_has ls 5 [(0, .ref v0), (1, .int v1), (2, .int v2)]) (he : X7_tally_b58 n v0 v1 v2 h = some res) :
    W p l e rm_X7_tally s m args below meth c H locs 0 0 (MQ below (jq_Qv bs D ct res) args s rm_X7_tally.cells rm_X7_tally.slots (fun q => bs ≤ q)) (F0 m 58 ls []) := by
  unfold X7_tally_b58 at he
  refine lv_aload_n C.1 C.2.1 dX7_tally_58 rfl (lv_at hl 0 rfl) ?_
  refine lv_dup C.1 C.2.1 dX7_tally_59 rfl ?_
  refine jq_rgI C X fs_X7_41 he dX7_tally_60 (fun x5 he => ?_)
  refine lv_iconst (v := 1) C.1 C.2.1 dX7_tally_63 (by decide) ?_
  refine lv_iadd C.1 C.2.1 dX7_tally_64 ?_
  refine jq_rp (ty := .int) C X fs_X7_41 (by decide +kernel) rfl rfl he dX7_tally_65 (fun h6 H locs he X => ?_)
  exact TX7_tally_b68 (n := n) C hr hlk X (lv_sub hl [0, 1, 2] rfl) he
set_option maxRecDepth 100000 in
set_option maxHeartbeats 4000000 in
theorem TX7_tally_b38 {p : Program} {l : Launch} {e : Env} {s : State} {m : MethodId} {args : Array Value} {below : List Frame} {meth : Method} {c : Code} {D : va_G} {ct : Nat → ClassId} {bs : Nat} {res : jq_H} {n : Nat} (C : jq_C p s m args c cX7_tally 5 RX7 D ct bs) (hr : meth.sig.returnType = none) (hlk : meth.locks = false) {v0 : Nat} {v1 : Int32} {v2 : Int32} {v3 : Int32} {v4 : Int32} {h : jq_H} {H : Heap} {locs : List Loc} {ls : Array Slot} (X : jq_X bs D ct s.heap h H locs) (hl : lv_has ls 5 [(0, .ref v0), (1, .int v1), (2, .int v2), (3, .int v3), (4, .int v4)]) (he : X7_tally_b38 n v0 v1 v2 v3 v4 h = some res) :
    W p l e rm_X7_tally s m args below meth c H locs 0 0 (MQ below (jq_Qv bs D ct res) args s rm_X7_tally.cells rm_X7_tally.slots (fun q => bs ≤ q)) (F0 m 38 ls []) := by
  unfold X7_tally_b38 at he
  refine lv_iload_n C.1 C.2.1 dX7_tally_38 rfl (lv_at hl 2 rfl) ?_
  refine lv_iconst (v := 1) C.1 C.2.1 dX7_tally_39 (by decide) ?_
  refine lv_icmp_ne (tgt := 52) C.1 C.2.1 dX7_tally_40 (by decide) (fun hc7 => ?_) (fun hc7 => ?_)
  · have he := jq_n hc7 he
    refine lv_iload_n C.1 C.2.1 dX7_tally_52 rfl (lv_at hl 3 rfl) ?_
    refine lv_iload C.1 C.2.1 dX7_tally_53 (lv_at hl 4 rfl) ?_
    refine lv_icmp_ge (tgt := 68) C.1 C.2.1 dX7_tally_55 (by decide) (fun hc8 => ?_) (fun hc8 => ?_)
    · have he := jq_t hc8 he
      exact TX7_tally_b68 (n := n) C hr hlk X (lv_sub hl [0, 1, 2] rfl) he
    · have he := jq_n hc8 he
      exact TX7_tally_b58 (n := n) C hr hlk X (lv_sub hl [0, 1, 2] rfl) he
  · have he := jq_t hc7 he
    refine lv_iload C.1 C.2.1 dX7_tally_43 (lv_at hl 4 rfl) ?_
    refine lv_iload_n C.1 C.2.1 dX7_tally_45 rfl (lv_at hl 3 rfl) ?_
    refine lv_icmp_ge (tgt := 68) C.1 C.2.1 dX7_tally_46 (by decide) (fun hc9 => ?_) (fun hc9 => ?_)
    · have he := jq_t hc9 he
      exact TX7_tally_b68 (n := n) C hr hlk X (lv_sub hl [0, 1, 2] rfl) he
    · have he := jq_n hc9 he
      refine lv_goto (tgt := 58) C.1 C.2.1 dX7_tally_49 (by decide) ?_
      exact TX7_tally_b58 (n := n) C hr hlk X (lv_sub hl [0, 1, 2] rfl) he
set_option maxRecDepth 100000 in
set_option maxHeartbeats 4000000 in
theorem M_X7_tally (l : Launch) (bs : Nat) (D : va_G) (ct : Nat → ClassId) (n : Nat) (h : jq_H) (a : Nat) (p0 : Int32) (p1 : Int32) (res : jq_H) (he : X7_tally n h a p0 p1 = some res) : jq_M l yX7_tally cX7_tally 5 none rm_X7_tally (jq_P [.ref a, .int p0, .int p1] bs D ct h) (jq_Qv bs D ct res) bs := by
  refine jq_start2 (by decide +kernel) (Nat.le_of_ble_eq_true rfl) ?_
  intro p e s m args below meth c ls H locs C hr hlk hin hl X
  have C : jq_C p s m args c cX7_tally 5 RX7 D ct bs := C
  have hin : meth.name = "tally" := hin
  have hl : lv_has ls 5 [(0, .ref a), (1, .int p0), (2, .int p1)] := hl
  unfold X7_tally at he
  refine lv_aload_n C.1 C.2.1 dX7_tally_0 rfl (lv_at hl 0 rfl) ?_
  refine jq_rgR C X fs_X7_18 he dX7_tally_1 (fun q10 he => ?_)
  refine lv_iload_n C.1 C.2.1 dX7_tally_4 rfl (lv_at hl 1 rfl) ?_
  refine jq_rldI C X he dX7_tally_5 (fun x11 he => ?_)
  refine lv_ldc (v := 65535) C.1 C.2.1 C.2.2.2.1 (C.2.2.2.2.1 _ gw_722) dX7_tally_6 ?_
  refine lv_iand C.1 C.2.1 dX7_tally_8 ?_
  obtain ⟨x12, hx12, he⟩ := jq_ln he
  refine jq_top hx12 ?_
  refine lv_istore_n (lv' := [(3, .int x12), (0, .ref a), (1, .int p0), (2, .int p1)]) C.1 C.2.1 dX7_tally_9 rfl hl (by decide) rfl (fun ls hl => ?_)
  refine lv_aload_n C.1 C.2.1 dX7_tally_10 rfl (lv_at hl 1 rfl) ?_
  refine jq_rgR C X fs_X7_18 he dX7_tally_11 (fun q13 he => ?_)
  refine lv_iload_n C.1 C.2.1 dX7_tally_14 rfl (lv_at hl 2 rfl) ?_
  refine jq_rldI C X he dX7_tally_15 (fun x14 he => ?_)
  refine lv_bipush (v := 16) C.1 C.2.1 dX7_tally_16 (by decide) ?_
  refine lv_ishr C.1 C.2.1 dX7_tally_18 ?_
  obtain ⟨x15, hx15, he⟩ := jq_ln he
  refine jq_top hx15 ?_
  refine lv_istore (lv' := [(4, .int x15), (3, .int x12), (0, .ref a), (1, .int p0), (2, .int p1)]) C.1 C.2.1 dX7_tally_19 hl (by decide) rfl (fun ls hl => ?_)
  refine lv_iload_n C.1 C.2.1 dX7_tally_21 rfl (lv_at hl 1 rfl) ?_
  refine lv_iload C.1 C.2.1 dX7_tally_22 (lv_at hl 0 rfl) ?_
  refine lv_iadd C.1 C.2.1 dX7_tally_24 ?_
  refine lv_if_ne (tgt := 38) C.1 C.2.1 dX7_tally_25 (by decide) (fun hc16 => ?_) (fun hc16 => ?_)
  · have he := jq_n hc16 he
    exact TX7_tally_b38 (n := n) C hr hlk X (lv_sub hl [2, 3, 4, 1, 0] rfl) he
  · have he := jq_t hc16 he
    refine lv_aload_n C.1 C.2.1 dX7_tally_28 rfl (lv_at hl 2 rfl) ?_
    refine lv_dup C.1 C.2.1 dX7_tally_29 rfl ?_
    refine jq_rgI C X fs_X7_44 he dX7_tally_30 (fun x17 he => ?_)
    refine lv_iconst (v := 1) C.1 C.2.1 dX7_tally_33 (by decide) ?_
    refine lv_iadd C.1 C.2.1 dX7_tally_34 ?_
    refine jq_rp (ty := .int) C X fs_X7_44 (by decide +kernel) rfl rfl he dX7_tally_35 (fun h18 H locs he X => ?_)
    exact TX7_tally_b38 (n := n) C hr hlk X (lv_sub hl [2, 3, 4, 1, 0] rfl) he
