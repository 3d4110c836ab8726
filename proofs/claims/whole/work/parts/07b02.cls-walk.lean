set_option maxRecDepth 100000 in
set_option maxHeartbeats 4000000 in
theorem TX9_ownWay_b13 {p : Program} {l : Launch} {e : Env} {s : State} {m : MethodId} {args : Array Value} {below : List Frame} {meth : Method} {c : Code} {D : va_G} {ct : Nat → ClassId} {bs : Nat} {res : Int32 × jq_H} {n : Nat} (C : jq_C p s m args c cX9_ownWay 2 RX9 D ct bs) (hr : meth.sig.returnType = (some .int)) (hlk : meth.locks = false) {s0 : Int32} {h : jq_H} {H : Heap} {locs : List Loc} {ls : Array Slot} (X : jq_X bs D ct s.heap h H locs) (hl : lv_has ls 2 []) (he : X9_ownWay_b13 n s0 h = some res) :
    W p l e rm_X9_ownWay s m args below meth c H locs 0 0 (MQ below (jq_Qi bs D ct res) args s rm_X9_ownWay.cells rm_X9_ownWay.slots (fun q => bs ≤ q)) (F0 m 13 ls [.int s0]) := by
  unfold X9_ownWay_b13 at he
  exact jq_iret C X hr hlk he (by decide) (by decide) dX9_ownWay_13
set_option maxRecDepth 100000 in
set_option maxHeartbeats 4000000 in
theorem M_X9_ownWay (l : Launch) (bs : Nat) (D : va_G) (ct : Nat → ClassId) (n : Nat) (h : jq_H) (a : Nat) (p0 : Int32) (res : Int32 × jq_H) (he : X9_ownWay n h a p0 = some res) : jq_M l yX9_ownWay cX9_ownWay 2 (some .int) rm_X9_ownWay (jq_P [.ref a, .int p0] bs D ct h) (jq_Qi bs D ct res) bs := by
  refine jq_start2 (by decide +kernel) (Nat.le_of_ble_eq_true rfl) ?_
  intro p e s m args below meth c ls H locs C hr hlk hin hl X
  have C : jq_C p s m args c cX9_ownWay 2 RX9 D ct bs := C
  have hin : meth.name = "ownWay" := hin
  have hl : lv_has ls 2 [(0, .ref a), (1, .int p0)] := hl
  unfold X9_ownWay at he
  refine lv_aload_n C.1 C.2.1 dX9_ownWay_0 rfl (lv_at hl 0 rfl) ?_
  refine lv_iload_n C.1 C.2.1 dX9_ownWay_1 rfl (lv_at hl 1 rfl) ?_
  obtain ⟨z1, hz1, he⟩ := jq_b he
  obtain ⟨hz1c, hz1⟩ := jq_ite hz1
  refine jq_gi (jq_runV (a := a) (av := [.int p0]) C X (M_X9_sumAt l bs D ct n h a p0 _ hz1) mf_X9_sumAt gw_243 gs_7 (Or.inl gw_241) rc_X9 hz1c (by decide) rfl hl.1 rfl (Nat.le_of_ble_eq_true rfl) ⟨by decide, by decide⟩ ⟨by decide, by decide⟩ dX9_ownWay_2) X (fun H locs X => ?_)
  refine lv_if_lt (tgt := 12) C.1 C.2.1 dX9_ownWay_5 (by decide) (fun hc2 => ?_) (fun hc2 => ?_)
  · have he := jq_t hc2 he
    refine lv_iconst (v := 0) C.1 C.2.1 dX9_ownWay_12 (by decide) ?_
    exact TX9_ownWay_b13 (n := n) C hr hlk X (lv_sub hl [] rfl) he
  · have he := jq_n hc2 he
    refine lv_iconst (v := 1) C.1 C.2.1 dX9_ownWay_8 (by decide) ?_
    refine lv_goto (tgt := 13) C.1 C.2.1 dX9_ownWay_9 (by decide) ?_
    exact TX9_ownWay_b13 (n := n) C hr hlk X (lv_sub hl [] rfl) he
set_option maxRecDepth 100000 in
set_option maxHeartbeats 4000000 in
theorem TX3_say_b25 {p : Program} {l : Launch} {e : Env} {s : State} {m : MethodId} {args : Array Value} {below : List Frame} {meth : Method} {c : Code} {D : va_G} {ct : Nat → ClassId} {bs : Nat} {res : jq_H} {n : Nat} (C : jq_C p s m args c cX3_say 2 RX3 D ct bs) (hr : meth.sig.returnType = none) (hlk : meth.locks = false) {s0 : Nat} {s1 : Int32} {h : jq_H} {H : Heap} {locs : List Loc} {ls : Array Slot} (X : jq_X bs D ct s.heap h H locs) (hl : lv_has ls 2 []) (he : X3_say_b25 n s0 s1 h = some res) :
    W p l e rm_X3_say s m args below meth c H locs 0 0 (MQ below (jq_Qv bs D ct res) args s rm_X3_say.cells rm_X3_say.slots (fun q => bs ≤ q)) (F0 m 25 ls [.int s1, .ref s0]) := by
  unfold X3_say_b25 at he
  refine jq_rp (ty := .int) C X fs_X3_62 (by decide +kernel) rfl rfl he dX3_say_25 (fun h1 H locs he X => ?_)
  exact jq_vret C X hr hlk he (by decide) (by decide) dX3_say_28
set_option maxRecDepth 100000 in
set_option maxHeartbeats 4000000 in
theorem M_X3_say (l : Launch) (bs : Nat) (D : va_G) (ct : Nat → ClassId) (n : Nat) (h : jq_H) (a : Nat) (p0 : Int32) (res : jq_H) (he : X3_say n h a p0 = some res) : jq_M l yX3_say cX3_say 2 none rm_X3_say (jq_P [.ref a, .int p0] bs D ct h) (jq_Qv bs D ct res) bs := by
  refine jq_start2 (by decide +kernel) (Nat.le_of_ble_eq_true rfl) ?_
  intro p e s m args below meth c ls H locs C hr hlk hin hl X
  have C : jq_C p s m args c cX3_say 2 RX3 D ct bs := C
  have hin : meth.name = "say" := hin
  have hl : lv_has ls 2 [(0, .ref a), (1, .int p0)] := hl
  unfold X3_say at he
  refine lv_aload_n C.1 C.2.1 dX3_say_0 rfl (lv_at hl 0 rfl) ?_
  refine lv_aload_n C.1 C.2.1 dX3_say_1 rfl (lv_at hl 0 rfl) ?_
  refine jq_rgR C X fs_X3_9 he dX3_say_2 (fun q2 he => ?_)
  refine lv_iload_n C.1 C.2.1 dX3_say_5 rfl (lv_at hl 1 rfl) ?_
  refine jq_rldI C X he dX3_say_6 (fun x3 he => ?_)
  refine lv_iconst (v := (-1)) C.1 C.2.1 dX3_say_7 (by decide) ?_
  refine lv_icmp_ne (tgt := 19) C.1 C.2.1 dX3_say_8 (by decide) (fun hc4 => ?_) (fun hc4 => ?_)
  · have he := jq_n hc4 he
    refine lv_aload_n C.1 C.2.1 dX3_say_19 rfl (lv_at hl 0 rfl) ?_
    refine jq_rgR C X fs_X3_9 he dX3_say_20 (fun q5 he => ?_)
    refine lv_iload_n C.1 C.2.1 dX3_say_23 rfl (lv_at hl 1 rfl) ?_
    refine jq_rldI C X he dX3_say_24 (fun x6 he => ?_)
    exact TX3_say_b25 (n := n) C hr hlk X (lv_sub hl [] rfl) he
  · have he := jq_t hc4 he
    refine lv_aload_n C.1 C.2.1 dX3_say_11 rfl (lv_at hl 0 rfl) ?_
    refine lv_iload_n C.1 C.2.1 dX3_say_12 rfl (lv_at hl 1 rfl) ?_
    obtain ⟨z7, hz7, he⟩ := jq_b he
    have hrun : va_Run p l e rm_X3_say s m args below meth c H locs 0 0 0 0 (F0 m 13 ls [.int p0, .ref a, .ref a]) [.ref a] (jq_Qi bs D ct z7 (Value.ref a :: [.int p0]).toArray) (fun q => bs ≤ q) := by
      unfold V_ownWay at hz7
      by_cases hci0 : jq_ci h a = 0
      · exact jq_runU (a := a) (av := [.int p0]) (x := ⟨"WayGuesses$Guesser", "ownWay", "(I)I"⟩) (owner := "WayGuesses$Guesser") (E := RX0) C X (M_X0_ownWay l bs D ct n h a p0 _ (jq_t hci0 hz7)) mf_X0_ownWay gw_201 gw_200 gw_197 gw_199 (Or.inr gw_198) rfl ⟨by decide, by decide⟩ rc_X0 hci0 (by decide) rfl hl.1 rfl (Nat.le_of_ble_eq_true rfl) ⟨by decide, by decide⟩ ⟨by decide, by decide⟩ dX3_say_13
      have hz7 := jq_n hci0 hz7
      by_cases hci1 : jq_ci h a = 1
      · exact jq_runU (a := a) (av := [.int p0]) (x := ⟨"WayGuesses$Guesser", "ownWay", "(I)I"⟩) (owner := "WayGuesses$Guesser") (E := RX1) C X (M_X1_ownWay l bs D ct n h a p0 _ (jq_t hci1 hz7)) mf_X1_ownWay gw_213 gw_212 gw_197 gw_199 (Or.inr gw_198) rfl ⟨by decide, by decide⟩ rc_X1 hci1 (by decide) rfl hl.1 rfl (Nat.le_of_ble_eq_true rfl) ⟨by decide, by decide⟩ ⟨by decide, by decide⟩ dX3_say_13
      have hz7 := jq_n hci1 hz7
      by_cases hci2 : jq_ci h a = 2
      · exact jq_runU (a := a) (av := [.int p0]) (x := ⟨"WayGuesses$Guesser", "ownWay", "(I)I"⟩) (owner := "WayGuesses$Guesser") (E := RX2) C X (M_X2_ownWay l bs D ct n h a p0 _ (jq_t hci2 hz7)) mf_X2_ownWay gw_221 gw_220 gw_197 gw_199 (Or.inr gw_198) rfl ⟨by decide, by decide⟩ rc_X2 hci2 (by decide) rfl hl.1 rfl (Nat.le_of_ble_eq_true rfl) ⟨by decide, by decide⟩ ⟨by decide, by decide⟩ dX3_say_13
      have hz7 := jq_n hci2 hz7
      by_cases hci4 : jq_ci h a = 4
      · exact jq_runU (a := a) (av := [.int p0]) (x := ⟨"WayGuesses$Guesser", "ownWay", "(I)I"⟩) (owner := "WayGuesses$Guesser") (E := RX5) C X (M_X5_ownWay l bs D ct n h a p0 _ (jq_t hci4 hz7)) mf_X5_ownWay gw_224 gw_223 gw_197 gw_199 (Or.inr gw_198) rfl ⟨by decide, by decide⟩ rc_X5 hci4 (by decide) rfl hl.1 rfl (Nat.le_of_ble_eq_true rfl) ⟨by decide, by decide⟩ ⟨by decide, by decide⟩ dX3_say_13
      have hz7 := jq_n hci4 hz7
      by_cases hci7 : jq_ci h a = 7
      · exact jq_runU (a := a) (av := [.int p0]) (x := ⟨"WayGuesses$Guesser", "ownWay", "(I)I"⟩) (owner := "WayGuesses$Guesser") (E := RX8) C X (M_X8_ownWay l bs D ct n h a p0 _ (jq_t hci7 hz7)) mf_X8_ownWay gw_227 gw_226 gw_197 gw_199 (Or.inr gw_198) rfl ⟨by decide, by decide⟩ rc_X8 hci7 (by decide) rfl hl.1 rfl (Nat.le_of_ble_eq_true rfl) ⟨by decide, by decide⟩ ⟨by decide, by decide⟩ dX3_say_13
      have hz7 := jq_n hci7 hz7
      by_cases hci8 : jq_ci h a = 8
      · exact jq_runU (a := a) (av := [.int p0]) (x := ⟨"WayGuesses$Guesser", "ownWay", "(I)I"⟩) (owner := "WayGuesses$Guesser") (E := RX9) C X (M_X9_ownWay l bs D ct n h a p0 _ (jq_t hci8 hz7)) mf_X9_ownWay gw_239 gw_238 gw_197 gw_199 (Or.inr gw_198) rfl ⟨by decide, by decide⟩ rc_X9 hci8 (by decide) rfl hl.1 rfl (Nat.le_of_ble_eq_true rfl) ⟨by decide, by decide⟩ ⟨by decide, by decide⟩ dX3_say_13
      have hz7 := jq_n hci8 hz7
      cases hz7
    refine jq_gi (hrun) X (fun H locs X => ?_)
    refine lv_goto (tgt := 25) C.1 C.2.1 dX3_say_16 (by decide) ?_
    exact TX3_say_b25 (n := n) C hr hlk X (lv_sub hl [] rfl) he
set_option maxRecDepth 100000 in
set_option maxHeartbeats 4000000 in
theorem M_X4_countAsked (l : Launch) (bs : Nat) (D : va_G) (ct : Nat → ClassId) (n : Nat) (h : jq_H) (a : Nat) (p0 : Int32) (p1 : Int32) (res : jq_H) (he : X4_countAsked n h a p0 p1 = some res) : jq_M l yX4_countAsked cX4_countAsked 3 none rm_X4_countAsked (jq_P [.ref a, .int p0, .int p1] bs D ct h) (jq_Qv bs D ct res) bs := by
  refine jq_start2 (by decide +kernel) (Nat.le_of_ble_eq_true rfl) ?_
  intro p e s m args below meth c ls H locs C hr hlk hin hl X
  have C : jq_C p s m args c cX4_countAsked 3 RX4 D ct bs := C
  have hin : meth.name = "countAsked" := hin
  have hl : lv_has ls 3 [(0, .ref a), (1, .int p0), (2, .int p1)] := hl
  unfold X4_countAsked at he
  refine lv_aload_n C.1 C.2.1 dX4_countAsked_0 rfl (lv_at hl 0 rfl) ?_
  refine lv_dup C.1 C.2.1 dX4_countAsked_1 rfl ?_
  refine jq_rgI C X fs_X4_52 he dX4_countAsked_2 (fun x1 he => ?_)
  refine lv_iconst (v := 1) C.1 C.2.1 dX4_countAsked_5 (by decide) ?_
  refine lv_iadd C.1 C.2.1 dX4_countAsked_6 ?_
  refine jq_rp (ty := .int) C X fs_X4_52 (by decide +kernel) rfl rfl he dX4_countAsked_7 (fun h2 H locs he X => ?_)
  refine lv_iload_n C.1 C.2.1 dX4_countAsked_10 rfl (lv_at hl 2 rfl) ?_
  refine lv_if_ne (tgt := 15) C.1 C.2.1 dX4_countAsked_11 (by decide) (fun hc3 => ?_) (fun hc3 => ?_)
  · have he := jq_n hc3 he
    refine lv_aload_n C.1 C.2.1 dX4_countAsked_15 rfl (lv_at hl 0 rfl) ?_
    refine lv_dup C.1 C.2.1 dX4_countAsked_16 rfl ?_
    refine jq_rgI C X fs_X4_55 he dX4_countAsked_17 (fun x4 he => ?_)
    refine lv_iconst (v := 1) C.1 C.2.1 dX4_countAsked_20 (by decide) ?_
    refine lv_iadd C.1 C.2.1 dX4_countAsked_21 ?_
    refine jq_rp (ty := .int) C X fs_X4_55 (by decide +kernel) rfl rfl he dX4_countAsked_22 (fun h5 H locs he X => ?_)
    refine lv_aload_n C.1 C.2.1 dX4_countAsked_25 rfl (lv_at hl 0 rfl) ?_
    refine jq_rgR C X fs_X4_15 he dX4_countAsked_26 (fun q6 he => ?_)
    refine lv_iload_n C.1 C.2.1 dX4_countAsked_29 rfl (lv_at hl 1 rfl) ?_
    refine lv_dup2_11 C.1 C.2.1 dX4_countAsked_30 rfl rfl ?_
    refine jq_rldI C X he dX4_countAsked_31 (fun x7 he => ?_)
    refine lv_iconst (v := 1) C.1 C.2.1 dX4_countAsked_32 (by decide) ?_
    refine lv_iadd C.1 C.2.1 dX4_countAsked_33 ?_
    refine jq_rstI C X he dX4_countAsked_34 (fun h8 H locs he X => ?_)
    exact jq_vret C X hr hlk he (by decide) (by decide) dX4_countAsked_35
  · have he := jq_t hc3 he
    exact jq_vret C X hr hlk he (by decide) (by decide) dX4_countAsked_14
set_option maxRecDepth 100000 in
set_option maxHeartbeats 4000000 in
theorem M_X2_slotOf (l : Launch) (bs : Nat) (D : va_G) (ct : Nat → ClassId) (n : Nat) (h : jq_H) (a : Nat) (p0 : Int32) (res : Int32 × jq_H) (he : X2_slotOf n h a p0 = some res) : jq_M l yX2_slotOf cX2_slotOf 2 (some .int) rm_X2_slotOf (jq_P [.ref a, .int p0] bs D ct h) (jq_Qi bs D ct res) bs := by
  refine jq_start2 (by decide +kernel) (Nat.le_of_ble_eq_true rfl) ?_
  intro p e s m args below meth c ls H locs C hr hlk hin hl X
  have C : jq_C p s m args c cX2_slotOf 2 RX2 D ct bs := C
  have hin : meth.name = "slotOf" := hin
  have hl : lv_has ls 2 [(0, .ref a), (1, .int p0)] := hl
  unfold X2_slotOf at he
  refine lv_iconst (v := (-1)) C.1 C.2.1 dX2_slotOf_0 (by decide) ?_
  exact jq_iret C X hr hlk he (by decide) (by decide) dX2_slotOf_1
set_option maxRecDepth 100000 in
set_option maxHeartbeats 4000000 in
theorem M_X5_slotOf (l : Launch) (bs : Nat) (D : va_G) (ct : Nat → ClassId) (n : Nat) (h : jq_H) (a : Nat) (p0 : Int32) (res : Int32 × jq_H) (he : X5_slotOf n h a p0 = some res) : jq_M l yX5_slotOf cX5_slotOf 2 (some .int) rm_X5_slotOf (jq_P [.ref a, .int p0] bs D ct h) (jq_Qi bs D ct res) bs := by
  refine jq_start2 (by decide +kernel) (Nat.le_of_ble_eq_true rfl) ?_
  intro p e s m args below meth c ls H locs C hr hlk hin hl X
  have C : jq_C p s m args c cX5_slotOf 2 RX5 D ct bs := C
  have hin : meth.name = "slotOf" := hin
  have hl : lv_has ls 2 [(0, .ref a), (1, .int p0)] := hl
  unfold X5_slotOf at he
  refine lv_iconst (v := (-1)) C.1 C.2.1 dX5_slotOf_0 (by decide) ?_
  exact jq_iret C X hr hlk he (by decide) (by decide) dX5_slotOf_1
set_option maxRecDepth 100000 in
set_option maxHeartbeats 4000000 in
theorem M_X8_slotOf (l : Launch) (bs : Nat) (D : va_G) (ct : Nat → ClassId) (n : Nat) (h : jq_H) (a : Nat) (p0 : Int32) (res : Int32 × jq_H) (he : X8_slotOf n h a p0 = some res) : jq_M l yX8_slotOf cX8_slotOf 2 (some .int) rm_X8_slotOf (jq_P [.ref a, .int p0] bs D ct h) (jq_Qi bs D ct res) bs := by
  refine jq_start2 (by decide +kernel) (Nat.le_of_ble_eq_true rfl) ?_
  intro p e s m args below meth c ls H locs C hr hlk hin hl X
  have C : jq_C p s m args c cX8_slotOf 2 RX8 D ct bs := C
  have hin : meth.name = "slotOf" := hin
  have hl : lv_has ls 2 [(0, .ref a), (1, .int p0)] := hl
  unfold X8_slotOf at he
  refine lv_iconst (v := (-1)) C.1 C.2.1 dX8_slotOf_0 (by decide) ?_
  exact jq_iret C X hr hlk he (by decide) (by decide) dX8_slotOf_1
set_option maxRecDepth 100000 in
set_option maxHeartbeats 4000000 in
theorem TX4_keepPair_b27 {p : Program} {l : Launch} {e : Env} {s : State} {m : MethodId} {args : Array Value} {below : List Frame} {meth : Method} {c : Code} {D : va_G} {ct : Nat → ClassId} {bs : Nat} {res : jq_H} {n : Nat} (C : jq_C p s m args c cX4_keepPair 3 RX4 D ct bs) (hr : meth.sig.returnType = none) (hlk : meth.locks = false) {v0 : Nat} {v1 : Int32} {h : jq_H} {H : Heap} {locs : List Loc} {ls : Array Slot} (X : jq_X bs D ct s.heap h H locs) (hl : lv_has ls 3 [(0, .ref v0), (1, .int v1)]) (he : X4_keepPair_b27 n v0 v1 h = some res) :
    W p l e rm_X4_keepPair s m args below meth c H locs 0 0 (MQ below (jq_Qv bs D ct res) args s rm_X4_keepPair.cells rm_X4_keepPair.slots (fun q => bs ≤ q)) (F0 m 27 ls []) := by
  unfold X4_keepPair_b27 at he
  refine lv_aload_n C.1 C.2.1 dX4_keepPair_27 rfl (lv_at hl 0 rfl) ?_
  refine jq_rgI C X fs_X4_61 he dX4_keepPair_28 (fun x1 he => ?_)
  refine lv_bipush (v := 40) C.1 C.2.1 dX4_keepPair_31 (by decide) ?_
  refine lv_icmp_lt (tgt := 37) C.1 C.2.1 dX4_keepPair_33 (by decide) (fun hc2 => ?_) (fun hc2 => ?_)
  · have he := jq_t hc2 he
    refine lv_aload_n C.1 C.2.1 dX4_keepPair_37 rfl (lv_at hl 0 rfl) ?_
    refine jq_rgR C X fs_X4_18 he dX4_keepPair_38 (fun q3 he => ?_)
    refine lv_aload_n C.1 C.2.1 dX4_keepPair_41 rfl (lv_at hl 0 rfl) ?_
    refine jq_rgI C X fs_X4_61 he dX4_keepPair_42 (fun x4 he => ?_)
    refine lv_iload_n C.1 C.2.1 dX4_keepPair_45 rfl (lv_at hl 1 rfl) ?_
    refine jq_rstI C X he dX4_keepPair_46 (fun h5 H locs he X => ?_)
    refine lv_aload_n C.1 C.2.1 dX4_keepPair_47 rfl (lv_at hl 0 rfl) ?_
    refine lv_dup C.1 C.2.1 dX4_keepPair_48 rfl ?_
    refine jq_rgI C X fs_X4_61 he dX4_keepPair_49 (fun x6 he => ?_)
    refine lv_iconst (v := 1) C.1 C.2.1 dX4_keepPair_52 (by decide) ?_
    refine lv_iadd C.1 C.2.1 dX4_keepPair_53 ?_
    refine jq_rp (ty := .int) C X fs_X4_61 (by decide +kernel) rfl rfl he dX4_keepPair_54 (fun h7 H locs he X => ?_)
    exact jq_vret C X hr hlk he (by decide) (by decide) dX4_keepPair_57
  · have he := jq_n hc2 he
    exact jq_vret C X hr hlk he (by decide) (by decide) dX4_keepPair_36
set_option maxRecDepth 100000 in
set_option maxHeartbeats 4000000 in
theorem TX4_keepPair_b20 {p : Program} {l : Launch} {e : Env} {s : State} {m : MethodId} {args : Array Value} {below : List Frame} {meth : Method} {c : Code} {D : va_G} {ct : Nat → ClassId} {bs : Nat} {res : jq_H} {n : Nat} (C : jq_C p s m args c cX4_keepPair 3 RX4 D ct bs) (hr : meth.sig.returnType = none) (hlk : meth.locks = false) {h : jq_H} {H : Heap} {locs : List Loc} {ls : Array Slot} (X : jq_X bs D ct s.heap h H locs) (hl : lv_has ls 3 []) (he : X4_keepPair_b20 n h = some res) :
    W p l e rm_X4_keepPair s m args below meth c H locs 0 0 (MQ below (jq_Qv bs D ct res) args s rm_X4_keepPair.cells rm_X4_keepPair.slots (fun q => bs ≤ q)) (F0 m 20 ls []) := by
  unfold X4_keepPair_b20 at he
  exact jq_vret C X hr hlk he (by decide) (by decide) dX4_keepPair_20
set_option maxRecDepth 100000 in
set_option maxHeartbeats 4000000 in
theorem TX4_keepPair_b2 {p : Program} {l : Launch} {e : Env} {s : State} {m : MethodId} {args : Array Value} {below : List Frame} {meth : Method} {c : Code} {D : va_G} {ct : Nat → ClassId} {bs : Nat} {res : jq_H} {n : Nat} {KB : Nat → Int32 → Int32 → jq_H → Option (jq_H)} {K20 : jq_H → Option (jq_H)} {K27 : Nat → Int32 → jq_H → Option (jq_H)} (C : jq_C p s m args c cX4_keepPair 3 RX4 D ct bs) (hr : meth.sig.returnType = none) (hlk : meth.locks = false) (hKB : ∀ (u0 : Nat) (u1 : Int32) (u2 : Int32) (h1 : jq_H) (H1 : Heap) (locs1 : List Loc) (ls1 : Array Slot), KB u0 u1 u2 h1 = some res → jq_X bs D ct s.heap h1 H1 locs1 → lv_has ls1 3 [(0, .ref u0), (1, .int u1), (2, .int u2)] → W p l e rm_X4_keepPair s m args below meth c H1 locs1 0 0 (MQ below (jq_Qv bs D ct res) args s rm_X4_keepPair.cells rm_X4_keepPair.slots (fun q => bs ≤ q)) (F0 m 2 ls1 [])) (hK20 : ∀ (h1 : jq_H) (H1 : Heap) (locs1 : List Loc) (ls1 : Array Slot), K20 h1 = some res → jq_X bs D ct s.heap h1 H1 locs1 → lv_has ls1 3 [] → W p l e rm_X4_keepPair s m args below meth c H1 locs1 0 0 (MQ below (jq_Qv bs D ct res) args s rm_X4_keepPair.cells rm_X4_keepPair.slots (fun q => bs ≤ q)) (F0 m 20 ls1 [])) (hK27 : ∀ (u0 : Nat) (u1 : Int32) (h1 : jq_H) (H1 : Heap) (locs1 : List Loc) (ls1 : Array Slot), K27 u0 u1 h1 = some res → jq_X bs D ct s.heap h1 H1 locs1 → lv_has ls1 3 [(0, .ref u0), (1, .int u1)] → W p l e rm_X4_keepPair s m args below meth c H1 locs1 0 0 (MQ below (jq_Qv bs D ct res) args s rm_X4_keepPair.cells rm_X4_keepPair.slots (fun q => bs ≤ q)) (F0 m 27 ls1 [])) {v0 : Nat} {v1 : Int32} {v2 : Int32} {h : jq_H} {H : Heap} {locs : List Loc} {ls : Array Slot} (X : jq_X bs D ct s.heap h H locs) (hl : lv_has ls 3 [(0, .ref v0), (1, .int v1), (2, .int v2)]) (he : X4_keepPair_b2 n KB K20 K27 v0 v1 v2 h = some res) :
    W p l e rm_X4_keepPair s m args below meth c H locs 0 0 (MQ below (jq_Qv bs D ct res) args s rm_X4_keepPair.cells rm_X4_keepPair.slots (fun q => bs ≤ q)) (F0 m 2 ls []) := by
  unfold X4_keepPair_b2 at he
  refine lv_iload_n C.1 C.2.1 dX4_keepPair_2 rfl (lv_at hl 2 rfl) ?_
  refine lv_aload_n C.1 C.2.1 dX4_keepPair_3 rfl (lv_at hl 0 rfl) ?_
  refine jq_rgI C X fs_X4_61 he dX4_keepPair_4 (fun x8 he => ?_)
  refine lv_icmp_ge (tgt := 27) C.1 C.2.1 dX4_keepPair_7 (by decide) (fun hc9 => ?_) (fun hc9 => ?_)
  · have he := jq_t hc9 he
    exact hK27 _ _ _ _ _ _ he X (lv_sub hl [0, 1] rfl)
  · have he := jq_n hc9 he
    refine lv_aload_n C.1 C.2.1 dX4_keepPair_10 rfl (lv_at hl 0 rfl) ?_
    refine jq_rgR C X fs_X4_18 he dX4_keepPair_11 (fun q10 he => ?_)
    refine lv_iload_n C.1 C.2.1 dX4_keepPair_14 rfl (lv_at hl 2 rfl) ?_
    refine jq_rldI C X he dX4_keepPair_15 (fun x11 he => ?_)
    refine lv_iload_n C.1 C.2.1 dX4_keepPair_16 rfl (lv_at hl 1 rfl) ?_
    refine lv_icmp_ne (tgt := 21) C.1 C.2.1 dX4_keepPair_17 (by decide) (fun hc12 => ?_) (fun hc12 => ?_)
    · have he := jq_n hc12 he
      obtain ⟨x13, hx13, he⟩ := jq_ln he
      refine lv_iinc (v := x13) (lv' := [(2, .int x13), (0, .ref v0), (1, .int v1)]) C.1 C.2.1 dX4_keepPair_21 hl (k := 2) rfl (by rw [hx13]; rfl) (by decide) rfl (fun ls hl => ?_)
      refine lv_goto (tgt := 2) C.1 C.2.1 dX4_keepPair_24 (by decide) ?_
      exact hKB _ _ _ _ _ _ _ he X (lv_sub hl [1, 2, 0] rfl)
    · have he := jq_t hc12 he
      exact hK20 _ _ _ _ he X (lv_sub hl [] rfl)
set_option maxRecDepth 100000 in
set_option maxHeartbeats 4000000 in
theorem TX4_keepPair_l2 {p : Program} {l : Launch} {e : Env} {s : State} {m : MethodId} {args : Array Value} {below : List Frame} {meth : Method} {c : Code} {D : va_G} {ct : Nat → ClassId} {bs : Nat} {res : jq_H} {n : Nat} {K20 : jq_H → Option (jq_H)} {K27 : Nat → Int32 → jq_H → Option (jq_H)} (C : jq_C p s m args c cX4_keepPair 3 RX4 D ct bs) (hr : meth.sig.returnType = none) (hlk : meth.locks = false) (hK20 : ∀ (h1 : jq_H) (H1 : Heap) (locs1 : List Loc) (ls1 : Array Slot), K20 h1 = some res → jq_X bs D ct s.heap h1 H1 locs1 → lv_has ls1 3 [] → W p l e rm_X4_keepPair s m args below meth c H1 locs1 0 0 (MQ below (jq_Qv bs D ct res) args s rm_X4_keepPair.cells rm_X4_keepPair.slots (fun q => bs ≤ q)) (F0 m 20 ls1 [])) (hK27 : ∀ (u0 : Nat) (u1 : Int32) (h1 : jq_H) (H1 : Heap) (locs1 : List Loc) (ls1 : Array Slot), K27 u0 u1 h1 = some res → jq_X bs D ct s.heap h1 H1 locs1 → lv_has ls1 3 [(0, .ref u0), (1, .int u1)] → W p l e rm_X4_keepPair s m args below meth c H1 locs1 0 0 (MQ below (jq_Qv bs D ct res) args s rm_X4_keepPair.cells rm_X4_keepPair.slots (fun q => bs ≤ q)) (F0 m 27 ls1 [])) :
    ∀ (k : Nat) (v0 : Nat) (v1 : Int32) (v2 : Int32) (h : jq_H) (H : Heap) (locs : List Loc) (ls : Array Slot), X4_keepPair_l2 n K20 K27 k v0 v1 v2 h = some res → jq_X bs D ct s.heap h H locs → lv_has ls 3 [(0, .ref v0), (1, .int v1), (2, .int v2)] → W p l e rm_X4_keepPair s m args below meth c H locs 0 0 (MQ below (jq_Qv bs D ct res) args s rm_X4_keepPair.cells rm_X4_keepPair.slots (fun q => bs ≤ q)) (F0 m 2 ls []) := by
  intro k
  induction k with
  | zero => intro v0 v1 v2 h H locs ls he; cases (show (none : Option (jq_H)) = some res from he)
  | succ k ih =>
    intro v0 v1 v2 h H locs ls he X hl
    exact TX4_keepPair_b2 (n := n) C hr hlk (KB := X4_keepPair_l2 n K20 K27 k) ih hK20 hK27 X hl he
set_option maxRecDepth 100000 in
set_option maxHeartbeats 4000000 in
theorem M_X4_keepPair (l : Launch) (bs : Nat) (D : va_G) (ct : Nat → ClassId) (n : Nat) (h : jq_H) (a : Nat) (p0 : Int32) (res : jq_H) (he : X4_keepPair n h a p0 = some res) : jq_M l yX4_keepPair cX4_keepPair 3 none rm_X4_keepPair (jq_P [.ref a, .int p0] bs D ct h) (jq_Qv bs D ct res) bs := by
  refine jq_start2 (by decide +kernel) (Nat.le_of_ble_eq_true rfl) ?_
  intro p e s m args below meth c ls H locs C hr hlk hin hl X
  have C : jq_C p s m args c cX4_keepPair 3 RX4 D ct bs := C
  have hin : meth.name = "keepPair" := hin
  have hl : lv_has ls 3 [(0, .ref a), (1, .int p0)] := hl
  unfold X4_keepPair at he
  refine lv_iconst (v := 0) C.1 C.2.1 dX4_keepPair_0 (by decide) ?_
  refine lv_istore_n (lv' := [(2, .int 0), (0, .ref a), (1, .int p0)]) C.1 C.2.1 dX4_keepPair_1 rfl hl (by decide) rfl (fun ls hl => ?_)
  exact TX4_keepPair_l2 (n := n) C hr hlk (fun  hh H locs ls he X hl => by
    exact TX4_keepPair_b20 (n := n) C hr hlk X hl he) (fun w0 w1 hh H locs ls he X hl => by
    exact TX4_keepPair_b27 (n := n) C hr hlk X hl he) n _ _ _ _ _ _ _ he X (lv_sub hl [1, 2, 0] rfl)
set_option maxRecDepth 100000 in
set_option maxHeartbeats 4000000 in
theorem TX4_useSlot_b25 {p : Program} {l : Launch} {e : Env} {s : State} {m : MethodId} {args : Array Value} {below : List Frame} {meth : Method} {c : Code} {D : va_G} {ct : Nat → ClassId} {bs : Nat} {res : jq_H} {n : Nat} (C : jq_C p s m args c cX4_useSlot 4 RX4 D ct bs) (hr : meth.sig.returnType = none) (hlk : meth.locks = false) {h : jq_H} {H : Heap} {locs : List Loc} {ls : Array Slot} (X : jq_X bs D ct s.heap h H locs) (hl : lv_has ls 4 []) (he : X4_useSlot_b25 n h = some res) :
    W p l e rm_X4_useSlot s m args below meth c H locs 0 0 (MQ below (jq_Qv bs D ct res) args s rm_X4_useSlot.cells rm_X4_useSlot.slots (fun q => bs ≤ q)) (F0 m 25 ls []) := by
  unfold X4_useSlot_b25 at he
  exact jq_vret C X hr hlk he (by decide) (by decide) dX4_useSlot_25
set_option maxRecDepth 100000 in
set_option maxHeartbeats 4000000 in
theorem M_X4_useSlot (l : Launch) (bs : Nat) (D : va_G) (ct : Nat → ClassId) (n : Nat) (h : jq_H) (a : Nat) (p0 : Int32) (p1 : Int32) (res : jq_H) (he : X4_useSlot n h a p0 p1 = some res) : jq_M l yX4_useSlot cX4_useSlot 4 none rm_X4_useSlot (jq_P [.ref a, .int p0, .int p1] bs D ct h) (jq_Qv bs D ct res) bs := by
  refine jq_start2 (by decide +kernel) (Nat.le_of_ble_eq_true rfl) ?_
  intro p e s m args below meth c ls H locs C hr hlk hin hl X
  have C : jq_C p s m args c cX4_useSlot 4 RX4 D ct bs := C
  have hin : meth.name = "useSlot" := hin
  have hl : lv_has ls 4 [(0, .ref a), (1, .int p0), (2, .int p1)] := hl
  unfold X4_useSlot at he
  refine lv_aload_n C.1 C.2.1 dX4_useSlot_0 rfl (lv_at hl 0 rfl) ?_
  refine jq_rgR C X fs_X4_24 he dX4_useSlot_1 (fun q1 he => ?_)
  refine lv_iload_n C.1 C.2.1 dX4_useSlot_4 rfl (lv_at hl 1 rfl) ?_
  refine jq_rldI C X he dX4_useSlot_5 (fun x2 he => ?_)
  refine lv_istore_n (lv' := [(3, .int x2), (0, .ref a), (1, .int p0), (2, .int p1)]) C.1 C.2.1 dX4_useSlot_6 rfl hl (by decide) rfl (fun ls hl => ?_)
  refine lv_aload_n C.1 C.2.1 dX4_useSlot_7 rfl (lv_at hl 1 rfl) ?_
  refine jq_rgR C X fs_X4_24 he dX4_useSlot_8 (fun q3 he => ?_)
  refine lv_iload_n C.1 C.2.1 dX4_useSlot_11 rfl (lv_at hl 2 rfl) ?_
  refine lv_iload_n C.1 C.2.1 dX4_useSlot_12 rfl (lv_at hl 3 rfl) ?_
  refine jq_rstI C X he dX4_useSlot_13 (fun h4 H locs he X => ?_)
  refine lv_iload_n C.1 C.2.1 dX4_useSlot_14 rfl (lv_at hl 0 rfl) ?_
  refine lv_bipush (v := (-6)) C.1 C.2.1 dX4_useSlot_15 (by decide) ?_
  refine lv_icmp_eq (tgt := 25) C.1 C.2.1 dX4_useSlot_17 (by decide) (fun hc5 => ?_) (fun hc5 => ?_)
  · have he := jq_t hc5 he
    exact TX4_useSlot_b25 (n := n) C hr hlk X (lv_sub hl [] rfl) he
  · have he := jq_n hc5 he
    refine lv_iload_n C.1 C.2.1 dX4_useSlot_20 rfl (lv_at hl 0 rfl) ?_
    refine lv_iload_n C.1 C.2.1 dX4_useSlot_21 rfl (lv_at hl 3 rfl) ?_
    refine lv_icmp_ne (tgt := 26) C.1 C.2.1 dX4_useSlot_22 (by decide) (fun hc6 => ?_) (fun hc6 => ?_)
    · have he := jq_n hc6 he
      refine lv_aload_n C.1 C.2.1 dX4_useSlot_26 rfl (lv_at hl 1 rfl) ?_
      refine lv_dup C.1 C.2.1 dX4_useSlot_27 rfl ?_
      refine jq_rgI C X fs_X4_58 he dX4_useSlot_28 (fun x7 he => ?_)
      refine lv_iconst (v := 1) C.1 C.2.1 dX4_useSlot_31 (by decide) ?_
      refine lv_iadd C.1 C.2.1 dX4_useSlot_32 ?_
      refine jq_rp (ty := .int) C X fs_X4_58 (by decide +kernel) rfl rfl he dX4_useSlot_33 (fun h8 H locs he X => ?_)
      refine lv_aload_n C.1 C.2.1 dX4_useSlot_36 rfl (lv_at hl 1 rfl) ?_
      refine lv_bipush (v := 64) C.1 C.2.1 dX4_useSlot_37 (by decide) ?_
      refine lv_iload_n C.1 C.2.1 dX4_useSlot_39 rfl (lv_at hl 0 rfl) ?_
      refine lv_iload_n C.1 C.2.1 dX4_useSlot_40 rfl (lv_at hl 3 rfl) ?_
      refine va_mmin C.1 C.2.1 (C.2.2.1.trans hl.1.symm) C.2.2.2.1 (C.2.2.2.2.1 _ gw_277) (C.2.2.2.2.1 _ gw_278) (C.2.2.2.2.1 _ gw_5) (C.2.2.2.2.1 _ gw_279) (by decide) (Nat.le_of_ble_eq_true rfl) (by decide) (by decide) dX4_useSlot_41 ?_
      obtain ⟨x9, hx9, he⟩ := jq_ln he
      refine jq_top hx9 ?_
      refine lv_imul C.1 C.2.1 dX4_useSlot_44 ?_
      refine lv_iload_n C.1 C.2.1 dX4_useSlot_45 rfl (lv_at hl 0 rfl) ?_
      refine lv_iload_n C.1 C.2.1 dX4_useSlot_46 rfl (lv_at hl 3 rfl) ?_
      refine va_mmax C.1 C.2.1 (C.2.2.1.trans hl.1.symm) C.2.2.2.1 (C.2.2.2.2.1 _ gw_280) (C.2.2.2.2.1 _ gw_281) (C.2.2.2.2.1 _ gw_5) (C.2.2.2.2.1 _ gw_282) (by decide) (Nat.le_of_ble_eq_true rfl) (by decide) (by decide) dX4_useSlot_47 ?_
      obtain ⟨x10, hx10, he⟩ := jq_ln he
      refine jq_top hx10 ?_
      refine lv_iadd C.1 C.2.1 dX4_useSlot_50 ?_
      obtain ⟨z11, hz11, he⟩ := jq_b he
      obtain ⟨hz11c, hz11⟩ := jq_ite hz11
      refine jq_gv (jq_runV (a := a) (av := [.int ((64 * x9) + x10)]) C X (M_X4_keepPair l bs D ct n h8 a ((64 * x9) + x10) _ hz11) mf_X4_keepPair gw_285 gs_11 (Or.inl gw_283) rc_X4 hz11c (by decide) rfl hl.1 rfl (Nat.le_of_ble_eq_true rfl) ⟨by decide, by decide⟩ ⟨by decide, by decide⟩ dX4_useSlot_51) X (fun H locs X => ?_)
      exact jq_vret C X hr hlk he (by decide) (by decide) dX4_useSlot_54
    · have he := jq_t hc6 he
      exact TX4_useSlot_b25 (n := n) C hr hlk X (lv_sub hl [] rfl) he
set_option maxRecDepth 100000 in
set_option maxHeartbeats 4000000 in
theorem TX4_teachCounter_b37 {p : Program} {l : Launch} {e : Env} {s : State} {m : MethodId} {args : Array Value} {below : List Frame} {meth : Method} {c : Code} {D : va_G} {ct : Nat → ClassId} {bs : Nat} {res : jq_H} {n : Nat} (C : jq_C p s m args c cX4_teachCounter 3 RX4 D ct bs) (hr : meth.sig.returnType = none) (hlk : meth.locks = false) {s0 : Nat} {s1 : Int32} {s2 : Int32} {h : jq_H} {H : Heap} {locs : List Loc} {ls : Array Slot} (X : jq_X bs D ct s.heap h H locs) (hl : lv_has ls 3 []) (he : X4_teachCounter_b37 n s0 s1 s2 h = some res) :
    W p l e rm_X4_teachCounter s m args below meth c H locs 0 0 (MQ below (jq_Qv bs D ct res) args s rm_X4_teachCounter.cells rm_X4_teachCounter.slots (fun q => bs ≤ q)) (F0 m 37 ls [.int s2, .int s1, .ref s0]) := by
  unfold X4_teachCounter_b37 at he
  refine jq_rstI C X he dX4_teachCounter_37 (fun h1 H locs he X => ?_)
  exact jq_vret C X hr hlk he (by decide) (by decide) dX4_teachCounter_38
set_option maxRecDepth 100000 in
set_option maxHeartbeats 4000000 in
theorem M_X4_teachCounter (l : Launch) (bs : Nat) (D : va_G) (ct : Nat → ClassId) (n : Nat) (h : jq_H) (a : Nat) (p0 : Int32) (p1 : Int32) (res : jq_H) (he : X4_teachCounter n h a p0 p1 = some res) : jq_M l yX4_teachCounter cX4_teachCounter 3 none rm_X4_teachCounter (jq_P [.ref a, .int p0, .int p1] bs D ct h) (jq_Qv bs D ct res) bs := by
  refine jq_start2 (by decide +kernel) (Nat.le_of_ble_eq_true rfl) ?_
  intro p e s m args below meth c ls H locs C hr hlk hin hl X
  have C : jq_C p s m args c cX4_teachCounter 3 RX4 D ct bs := C
  have hin : meth.name = "teachCounter" := hin
  have hl : lv_has ls 3 [(0, .ref a), (1, .int p0), (2, .int p1)] := hl
  unfold X4_teachCounter at he
  refine lv_aload_n C.1 C.2.1 dX4_teachCounter_0 rfl (lv_at hl 0 rfl) ?_
  refine jq_rgR C X fs_X4_21 he dX4_teachCounter_1 (fun q2 he => ?_)
  refine lv_iload_n C.1 C.2.1 dX4_teachCounter_4 rfl (lv_at hl 1 rfl) ?_
  refine lv_iload_n C.1 C.2.1 dX4_teachCounter_5 rfl (lv_at hl 2 rfl) ?_
  refine lv_iconst (v := 1) C.1 C.2.1 dX4_teachCounter_6 (by decide) ?_
  refine lv_icmp_ne (tgt := 25) C.1 C.2.1 dX4_teachCounter_7 (by decide) (fun hc3 => ?_) (fun hc3 => ?_)
  · have he := jq_n hc3 he
    refine lv_aload_n C.1 C.2.1 dX4_teachCounter_25 rfl (lv_at hl 0 rfl) ?_
    refine jq_rgR C X fs_X4_21 he dX4_teachCounter_26 (fun q4 he => ?_)
    refine lv_iload_n C.1 C.2.1 dX4_teachCounter_29 rfl (lv_at hl 1 rfl) ?_
    refine jq_rldI C X he dX4_teachCounter_30 (fun x5 he => ?_)
    refine lv_iconst (v := 1) C.1 C.2.1 dX4_teachCounter_31 (by decide) ?_
    refine lv_isub C.1 C.2.1 dX4_teachCounter_32 ?_
    refine lv_iconst (v := 0) C.1 C.2.1 dX4_teachCounter_33 (by decide) ?_
    refine va_mmax C.1 C.2.1 (C.2.2.1.trans hl.1.symm) C.2.2.2.1 (C.2.2.2.2.1 _ gw_280) (C.2.2.2.2.1 _ gw_281) (C.2.2.2.2.1 _ gw_5) (C.2.2.2.2.1 _ gw_282) (by decide) (Nat.le_of_ble_eq_true rfl) (by decide) (by decide) dX4_teachCounter_34 ?_
    obtain ⟨x6, hx6, he⟩ := jq_ln he
    refine jq_top hx6 ?_
    exact TX4_teachCounter_b37 (n := n) C hr hlk X (lv_sub hl [] rfl) he
  · have he := jq_t hc3 he
    refine lv_aload_n C.1 C.2.1 dX4_teachCounter_10 rfl (lv_at hl 0 rfl) ?_
    refine jq_rgR C X fs_X4_21 he dX4_teachCounter_11 (fun q7 he => ?_)
    refine lv_iload_n C.1 C.2.1 dX4_teachCounter_14 rfl (lv_at hl 1 rfl) ?_
    refine jq_rldI C X he dX4_teachCounter_15 (fun x8 he => ?_)
    refine lv_iconst (v := 1) C.1 C.2.1 dX4_teachCounter_16 (by decide) ?_
    refine lv_iadd C.1 C.2.1 dX4_teachCounter_17 ?_
    refine lv_iconst (v := 3) C.1 C.2.1 dX4_teachCounter_18 (by decide) ?_
    refine va_mmin C.1 C.2.1 (C.2.2.1.trans hl.1.symm) C.2.2.2.1 (C.2.2.2.2.1 _ gw_277) (C.2.2.2.2.1 _ gw_278) (C.2.2.2.2.1 _ gw_5) (C.2.2.2.2.1 _ gw_279) (by decide) (Nat.le_of_ble_eq_true rfl) (by decide) (by decide) dX4_teachCounter_19 ?_
    obtain ⟨x9, hx9, he⟩ := jq_ln he
    refine jq_top hx9 ?_
    refine lv_goto (tgt := 37) C.1 C.2.1 dX4_teachCounter_22 (by decide) ?_
    exact TX4_teachCounter_b37 (n := n) C hr hlk X (lv_sub hl [] rfl) he
set_option maxRecDepth 100000 in
set_option maxHeartbeats 4000000 in
theorem TX0_learn_b45 {p : Program} {l : Launch} {e : Env} {s : State} {m : MethodId} {args : Array Value} {below : List Frame} {meth : Method} {c : Code} {D : va_G} {ct : Nat → ClassId} {bs : Nat} {res : jq_H} {n : Nat} (C : jq_C p s m args c cX0_learn 3 RX0 D ct bs) (hr : meth.sig.returnType = none) (hlk : meth.locks = false) {h : jq_H} {H : Heap} {locs : List Loc} {ls : Array Slot} (X : jq_X bs D ct s.heap h H locs) (hl : lv_has ls 3 []) (he : X0_learn_b45 n h = some res) :
    W p l e rm_X0_learn s m args below meth c H locs 0 0 (MQ below (jq_Qv bs D ct res) args s rm_X0_learn.cells rm_X0_learn.slots (fun q => bs ≤ q)) (F0 m 45 ls []) := by
  unfold X0_learn_b45 at he
  exact jq_vret C X hr hlk he (by decide) (by decide) dX0_learn_45
set_option maxRecDepth 100000 in
set_option maxHeartbeats 4000000 in
theorem TX0_learn_b42 {p : Program} {l : Launch} {e : Env} {s : State} {m : MethodId} {args : Array Value} {below : List Frame} {meth : Method} {c : Code} {D : va_G} {ct : Nat → ClassId} {bs : Nat} {res : jq_H} {n : Nat} (C : jq_C p s m args c cX0_learn 3 RX0 D ct bs) (hr : meth.sig.returnType = none) (hlk : meth.locks = false) {s0 : Nat} {s1 : Int32} {s2 : Int32} {h : jq_H} {H : Heap} {locs : List Loc} {ls : Array Slot} (X : jq_X bs D ct s.heap h H locs) (hl : lv_has ls 3 []) (he : X0_learn_b42 n s0 s1 s2 h = some res) :
    W p l e rm_X0_learn s m args below meth c H locs 0 0 (MQ below (jq_Qv bs D ct res) args s rm_X0_learn.cells rm_X0_learn.slots (fun q => bs ≤ q)) (F0 m 42 ls [.int s2, .int s1, .ref s0]) := by
  unfold X0_learn_b42 at he
  obtain ⟨z1, hz1, he⟩ := jq_b he
  obtain ⟨hz1c, hz1⟩ := jq_ite hz1
  refine jq_gv (jq_runV (a := s0) (av := [.int s1, .int s2]) C X (M_X4_teachCounter l bs D ct n h s0 s1 s2 _ hz1) mf_X4_teachCounter gw_295 gs_12 (Or.inr ⟨_, gw_293⟩) rc_X4 hz1c (by decide) rfl hl.1 rfl (Nat.le_of_ble_eq_true rfl) ⟨by decide, by decide⟩ ⟨by decide, by decide⟩ dX0_learn_42) X (fun H locs X => ?_)
  exact TX0_learn_b45 (n := n) C hr hlk X (lv_sub hl [] rfl) he
set_option maxRecDepth 100000 in
set_option maxHeartbeats 4000000 in
theorem M_X0_learn (l : Launch) (bs : Nat) (D : va_G) (ct : Nat → ClassId) (n : Nat) (h : jq_H) (a : Nat) (p0 : Int32) (p1 : Int32) (res : jq_H) (he : X0_learn n h a p0 p1 = some res) : jq_M l yX0_learn cX0_learn 3 none rm_X0_learn (jq_P [.ref a, .int p0, .int p1] bs D ct h) (jq_Qv bs D ct res) bs := by
  refine jq_start2 (by decide +kernel) (Nat.le_of_ble_eq_true rfl) ?_
  intro p e s m args below meth c ls H locs C hr hlk hin hl X
  have C : jq_C p s m args c cX0_learn 3 RX0 D ct bs := C
  have hin : meth.name = "learn" := hin
  have hl : lv_has ls 3 [(0, .ref a), (1, .int p0), (2, .int p1)] := hl
  unfold X0_learn at he
  refine lv_aload_n C.1 C.2.1 dX0_learn_0 rfl (lv_at hl 0 rfl) ?_
  refine jq_rgR C X fs_X0_7 he dX0_learn_1 (fun q2 he => ?_)
  refine jq_rgI C X fs_X0_41 he dX0_learn_4 (fun x3 he => ?_)
  refine lv_aload_n C.1 C.2.1 dX0_learn_7 rfl (lv_at hl 0 rfl) ?_
  refine jq_rgR C X fs_X0_13 he dX0_learn_8 (fun q4 he => ?_)
  refine jq_rgI C X fs_X0_41 he dX0_learn_11 (fun x5 he => ?_)
  refine lv_icmp_eq (tgt := 45) C.1 C.2.1 dX0_learn_14 (by decide) (fun hc6 => ?_) (fun hc6 => ?_)
  · have he := jq_t hc6 he
    exact TX0_learn_b45 (n := n) C hr hlk X (lv_sub hl [] rfl) he
  · have he := jq_n hc6 he
    refine lv_aload_n C.1 C.2.1 dX0_learn_17 rfl (lv_at hl 0 rfl) ?_
    refine jq_rgR C X fs_X0_29 he dX0_learn_18 (fun q7 he => ?_)
    refine lv_aload_n C.1 C.2.1 dX0_learn_21 rfl (lv_at hl 0 rfl) ?_
    refine lv_iload_n C.1 C.2.1 dX0_learn_22 rfl (lv_at hl 1 rfl) ?_
    obtain ⟨z8, hz8, he⟩ := jq_b he
    obtain ⟨hz8c, hz8⟩ := jq_ite hz8
    refine jq_gi (jq_runV (a := a) (av := [.int p0]) C X (M_X0_slotOf l bs D ct n h a p0 _ hz8) mf_X0_slotOf gw_204 gw_205 (Or.inl gw_203) rc_X0 hz8c (by decide) rfl hl.1 rfl (Nat.le_of_ble_eq_true rfl) ⟨by decide, by decide⟩ ⟨by decide, by decide⟩ dX0_learn_23) X (fun H locs X => ?_)
    refine lv_aload_n C.1 C.2.1 dX0_learn_26 rfl (lv_at hl 0 rfl) ?_
    refine jq_rgR C X fs_X0_13 he dX0_learn_27 (fun q9 he => ?_)
    refine jq_rgI C X fs_X0_41 he dX0_learn_30 (fun x10 he => ?_)
    refine lv_iload_n C.1 C.2.1 dX0_learn_33 rfl (lv_at hl 2 rfl) ?_
    refine lv_icmp_ne (tgt := 41) C.1 C.2.1 dX0_learn_34 (by decide) (fun hc11 => ?_) (fun hc11 => ?_)
    · have he := jq_n hc11 he
      refine lv_iconst (v := 0) C.1 C.2.1 dX0_learn_41 (by decide) ?_
      exact TX0_learn_b42 (n := n) C hr hlk X (lv_sub hl [] rfl) he
    · have he := jq_t hc11 he
      refine lv_iconst (v := 1) C.1 C.2.1 dX0_learn_37 (by decide) ?_
      refine lv_goto (tgt := 42) C.1 C.2.1 dX0_learn_38 (by decide) ?_
      exact TX0_learn_b42 (n := n) C hr hlk X (lv_sub hl [] rfl) he
set_option maxRecDepth 100000 in
set_option maxHeartbeats 4000000 in
theorem M_X1_learn (l : Launch) (bs : Nat) (D : va_G) (ct : Nat → ClassId) (n : Nat) (h : jq_H) (a : Nat) (p0 : Int32) (p1 : Int32) (res : jq_H) (he : X1_learn n h a p0 p1 = some res) : jq_M l yX1_learn cX1_learn 3 none rm_X1_learn (jq_P [.ref a, .int p0, .int p1] bs D ct h) (jq_Qv bs D ct res) bs := by
  refine jq_start2 (by decide +kernel) (Nat.le_of_ble_eq_true rfl) ?_
  intro p e s m args below meth c ls H locs C hr hlk hin hl X
  have C : jq_C p s m args c cX1_learn 3 RX1 D ct bs := C
  have hin : meth.name = "learn" := hin
  have hl : lv_has ls 3 [(0, .ref a), (1, .int p0), (2, .int p1)] := hl
  unfold X1_learn at he
  refine lv_aload_n C.1 C.2.1 dX1_learn_0 rfl (lv_at hl 0 rfl) ?_
  refine jq_rgR C X fs_X1_29 he dX1_learn_1 (fun q1 he => ?_)
  refine lv_aload_n C.1 C.2.1 dX1_learn_4 rfl (lv_at hl 0 rfl) ?_
  refine lv_iload_n C.1 C.2.1 dX1_learn_5 rfl (lv_at hl 1 rfl) ?_
  obtain ⟨z2, hz2, he⟩ := jq_b he
  obtain ⟨hz2c, hz2⟩ := jq_ite hz2
  refine jq_gi (jq_runV (a := a) (av := [.int p0]) C X (M_X1_slotOf l bs D ct n h a p0 _ hz2) mf_X1_slotOf gw_216 gw_217 (Or.inl gw_215) rc_X1 hz2c (by decide) rfl hl.1 rfl (Nat.le_of_ble_eq_true rfl) ⟨by decide, by decide⟩ ⟨by decide, by decide⟩ dX1_learn_6) X (fun H locs X => ?_)
  refine lv_iload_n C.1 C.2.1 dX1_learn_9 rfl (lv_at hl 2 rfl) ?_
  obtain ⟨z3, hz3, he⟩ := jq_b he
  obtain ⟨hz3c, hz3⟩ := jq_ite hz3
  refine jq_gv (jq_runV (a := q1) (av := [.int z2.1, .int p1]) C X (M_X4_teachCounter l bs D ct n z2.2 q1 z2.1 p1 _ hz3) mf_X4_teachCounter gw_295 gs_12 (Or.inr ⟨_, gw_300⟩) rc_X4 hz3c (by decide) rfl hl.1 rfl (Nat.le_of_ble_eq_true rfl) ⟨by decide, by decide⟩ ⟨by decide, by decide⟩ dX1_learn_10) X (fun H locs X => ?_)
  exact jq_vret C X hr hlk he (by decide) (by decide) dX1_learn_13
set_option maxRecDepth 100000 in
set_option maxHeartbeats 4000000 in
theorem M_X2_learn (l : Launch) (bs : Nat) (D : va_G) (ct : Nat → ClassId) (n : Nat) (h : jq_H) (a : Nat) (p0 : Int32) (p1 : Int32) (res : jq_H) (he : X2_learn n h a p0 p1 = some res) : jq_M l yX2_learn cX2_learn 3 none rm_X2_learn (jq_P [.ref a, .int p0, .int p1] bs D ct h) (jq_Qv bs D ct res) bs := by
  refine jq_start2 (by decide +kernel) (Nat.le_of_ble_eq_true rfl) ?_
  intro p e s m args below meth c ls H locs C hr hlk hin hl X
  have C : jq_C p s m args c cX2_learn 3 RX2 D ct bs := C
  have hin : meth.name = "learn" := hin
  have hl : lv_has ls 3 [(0, .ref a), (1, .int p0), (2, .int p1)] := hl
  unfold X2_learn at he
  exact jq_vret C X hr hlk he (by decide) (by decide) dX2_learn_0
set_option maxRecDepth 100000 in
set_option maxHeartbeats 4000000 in
theorem TX5_learn_b103 {p : Program} {l : Launch} {e : Env} {s : State} {m : MethodId} {args : Array Value} {below : List Frame} {meth : Method} {c : Code} {D : va_G} {ct : Nat → ClassId} {bs : Nat} {res : jq_H} {n : Nat} (C : jq_C p s m args c cX5_learn 6 RX5 D ct bs) (hr : meth.sig.returnType = none) (hlk : meth.locks = false) {v0 : Nat} {v3 : Int32} {v4 : Int32} {s0 : Nat} {s1 : Int32} {s2 : Int32} {h : jq_H} {H : Heap} {locs : List Loc} {ls : Array Slot} (X : jq_X bs D ct s.heap h H locs) (hl : lv_has ls 6 [(0, .ref v0), (3, .int v3), (4, .int v4)]) (he : X5_learn_b103 n v0 v3 v4 s0 s1 s2 h = some res) :
    W p l e rm_X5_learn s m args below meth c H locs 0 0 (MQ below (jq_Qv bs D ct res) args s rm_X5_learn.cells rm_X5_learn.slots (fun q => bs ≤ q)) (F0 m 103 ls [.int s2, .int s1, .ref s0]) := by
  unfold X5_learn_b103 at he
  refine jq_rstI C X he dX5_learn_103 (fun h1 H locs he X => ?_)
  refine lv_aload_n C.1 C.2.1 dX5_learn_104 rfl (lv_at hl 0 rfl) ?_
  refine jq_rgR C X fs_X5_25 he dX5_learn_105 (fun q2 he => ?_)
  refine jq_rgR C X fs_X5_19 he dX5_learn_108 (fun q3 he => ?_)
  refine lv_iload_n C.1 C.2.1 dX5_learn_111 rfl (lv_at hl 1 rfl) ?_
  refine lv_iconst (v := 1) C.1 C.2.1 dX5_learn_112 (by decide) ?_
  refine lv_iadd C.1 C.2.1 dX5_learn_113 ?_
  refine lv_iload C.1 C.2.1 dX5_learn_114 (lv_at hl 2 rfl) ?_
  refine jq_rstI C X he dX5_learn_116 (fun h4 H locs he X => ?_)
  refine lv_aload_n C.1 C.2.1 dX5_learn_117 rfl (lv_at hl 0 rfl) ?_
  refine jq_rgR C X fs_X5_25 he dX5_learn_118 (fun q5 he => ?_)
  refine jq_rgR C X fs_X5_19 he dX5_learn_121 (fun q6 he => ?_)
  refine lv_iload_n C.1 C.2.1 dX5_learn_124 rfl (lv_at hl 1 rfl) ?_
  refine lv_iconst (v := 0) C.1 C.2.1 dX5_learn_125 (by decide) ?_
  refine lv_iadd C.1 C.2.1 dX5_learn_126 ?_
  refine lv_iconst (v := 0) C.1 C.2.1 dX5_learn_127 (by decide) ?_
  refine jq_rstI C X he dX5_learn_128 (fun h7 H locs he X => ?_)
  exact jq_vret C X hr hlk he (by decide) (by decide) dX5_learn_129
set_option maxRecDepth 100000 in
set_option maxHeartbeats 4000000 in
theorem TX5_learn_b65 {p : Program} {l : Launch} {e : Env} {s : State} {m : MethodId} {args : Array Value} {below : List Frame} {meth : Method} {c : Code} {D : va_G} {ct : Nat → ClassId} {bs : Nat} {res : jq_H} {n : Nat} (C : jq_C p s m args c cX5_learn 6 RX5 D ct bs) (hr : meth.sig.returnType = none) (hlk : meth.locks = false) {v0 : Nat} {v3 : Int32} {v4 : Int32} {s0 : Int32} {h : jq_H} {H : Heap} {locs : List Loc} {ls : Array Slot} (X : jq_X bs D ct s.heap h H locs) (hl : lv_has ls 6 [(0, .ref v0), (3, .int v3), (4, .int v4)]) (he : X5_learn_b65 n v0 v3 v4 s0 h = some res) :
    W p l e rm_X5_learn s m args below meth c H locs 0 0 (MQ below (jq_Qv bs D ct res) args s rm_X5_learn.cells rm_X5_learn.slots (fun q => bs ≤ q)) (F0 m 65 ls [.int s0]) := by
  unfold X5_learn_b65 at he
  refine lv_istore (lv' := [(5, .int s0), (0, .ref v0), (3, .int v3), (4, .int v4)]) C.1 C.2.1 dX5_learn_65 hl (by decide) rfl (fun ls hl => ?_)
  refine lv_aload_n C.1 C.2.1 dX5_learn_67 rfl (lv_at hl 1 rfl) ?_
  refine jq_rgR C X fs_X5_25 he dX5_learn_68 (fun q8 he => ?_)
  refine jq_rgR C X fs_X5_19 he dX5_learn_71 (fun q9 he => ?_)
  refine lv_iload_n C.1 C.2.1 dX5_learn_74 rfl (lv_at hl 2 rfl) ?_
  refine lv_iconst (v := 2) C.1 C.2.1 dX5_learn_75 (by decide) ?_
  refine lv_iadd C.1 C.2.1 dX5_learn_76 ?_
  refine lv_iload C.1 C.2.1 dX5_learn_77 (lv_at hl 0 rfl) ?_
  refine lv_if_eq (tgt := 102) C.1 C.2.1 dX5_learn_79 (by decide) (fun hc10 => ?_) (fun hc10 => ?_)
  · have he := jq_t hc10 he
    refine lv_iconst (v := 0) C.1 C.2.1 dX5_learn_102 (by decide) ?_
    exact TX5_learn_b103 (n := n) C hr hlk X (lv_sub hl [1, 2, 3] rfl) he
  · have he := jq_n hc10 he
    refine lv_aload_n C.1 C.2.1 dX5_learn_82 rfl (lv_at hl 1 rfl) ?_
    refine jq_rgR C X fs_X5_25 he dX5_learn_83 (fun q11 he => ?_)
    refine jq_rgR C X fs_X5_19 he dX5_learn_86 (fun q12 he => ?_)
    refine lv_iload_n C.1 C.2.1 dX5_learn_89 rfl (lv_at hl 2 rfl) ?_
    refine lv_iconst (v := 2) C.1 C.2.1 dX5_learn_90 (by decide) ?_
    refine lv_iadd C.1 C.2.1 dX5_learn_91 ?_
    refine jq_rldI C X he dX5_learn_92 (fun x13 he => ?_)
    refine lv_iconst (v := 1) C.1 C.2.1 dX5_learn_93 (by decide) ?_
    refine lv_iadd C.1 C.2.1 dX5_learn_94 ?_
    refine lv_iconst (v := 3) C.1 C.2.1 dX5_learn_95 (by decide) ?_
    refine va_mmin C.1 C.2.1 (C.2.2.1.trans hl.1.symm) C.2.2.2.1 (C.2.2.2.2.1 _ gw_307) (C.2.2.2.2.1 _ gw_278) (C.2.2.2.2.1 _ gw_5) (C.2.2.2.2.1 _ gw_279) (by decide) (Nat.le_of_ble_eq_true rfl) (by decide) (by decide) dX5_learn_96 ?_
    obtain ⟨x14, hx14, he⟩ := jq_ln he
    refine jq_top hx14 ?_
    refine lv_goto (tgt := 103) C.1 C.2.1 dX5_learn_99 (by decide) ?_
    exact TX5_learn_b103 (n := n) C hr hlk X (lv_sub hl [1, 2, 3] rfl) he
set_option maxRecDepth 100000 in
set_option maxHeartbeats 4000000 in
theorem M_X5_learn (l : Launch) (bs : Nat) (D : va_G) (ct : Nat → ClassId) (n : Nat) (h : jq_H) (a : Nat) (p0 : Int32) (p1 : Int32) (res : jq_H) (he : X5_learn n h a p0 p1 = some res) : jq_M l yX5_learn cX5_learn 6 none rm_X5_learn (jq_P [.ref a, .int p0, .int p1] bs D ct h) (jq_Qv bs D ct res) bs := by
  refine jq_start2 (by decide +kernel) (Nat.le_of_ble_eq_true rfl) ?_
  intro p e s m args below meth c ls H locs C hr hlk hin hl X
  have C : jq_C p s m args c cX5_learn 6 RX5 D ct bs := C
  have hin : meth.name = "learn" := hin
  have hl : lv_has ls 6 [(0, .ref a), (1, .int p0), (2, .int p1)] := hl
  unfold X5_learn at he
  refine lv_iload_n C.1 C.2.1 dX5_learn_0 rfl (lv_at hl 1 rfl) ?_
  refine lv_iconst (v := 3) C.1 C.2.1 dX5_learn_1 (by decide) ?_
  refine lv_imul C.1 C.2.1 dX5_learn_2 ?_
  obtain ⟨x15, hx15, he⟩ := jq_ln he
  refine jq_top hx15 ?_
  refine lv_istore_n (lv' := [(3, .int x15), (0, .ref a), (1, .int p0), (2, .int p1)]) C.1 C.2.1 dX5_learn_3 rfl hl (by decide) rfl (fun ls hl => ?_)
  refine lv_aload_n C.1 C.2.1 dX5_learn_4 rfl (lv_at hl 1 rfl) ?_
  refine jq_rgR C X fs_X5_25 he dX5_learn_5 (fun q16 he => ?_)
  refine jq_rgR C X fs_X5_19 he dX5_learn_8 (fun q17 he => ?_)
  refine lv_iload_n C.1 C.2.1 dX5_learn_11 rfl (lv_at hl 0 rfl) ?_
  refine lv_iconst (v := 0) C.1 C.2.1 dX5_learn_12 (by decide) ?_
  refine lv_iadd C.1 C.2.1 dX5_learn_13 ?_
  refine jq_rldI C X he dX5_learn_14 (fun x18 he => ?_)
  refine lv_istore (lv' := [(4, .int x18), (3, .int x15), (0, .ref a), (1, .int p0), (2, .int p1)]) C.1 C.2.1 dX5_learn_15 hl (by decide) rfl (fun ls hl => ?_)
  refine lv_iload_n C.1 C.2.1 dX5_learn_17 rfl (lv_at hl 4 rfl) ?_
  refine lv_iconst (v := 1) C.1 C.2.1 dX5_learn_18 (by decide) ?_
  refine lv_icmp_ne (tgt := 44) C.1 C.2.1 dX5_learn_19 (by decide) (fun hc19 => ?_) (fun hc19 => ?_)
  · have he := jq_n hc19 he
    refine lv_iload C.1 C.2.1 dX5_learn_44 (lv_at hl 0 rfl) ?_
    refine lv_aload_n C.1 C.2.1 dX5_learn_46 rfl (lv_at hl 2 rfl) ?_
    refine jq_rgR C X fs_X5_25 he dX5_learn_47 (fun q20 he => ?_)
    refine jq_rgR C X fs_X5_19 he dX5_learn_50 (fun q21 he => ?_)
    refine lv_iload_n C.1 C.2.1 dX5_learn_53 rfl (lv_at hl 1 rfl) ?_
    refine lv_iconst (v := 1) C.1 C.2.1 dX5_learn_54 (by decide) ?_
    refine lv_iadd C.1 C.2.1 dX5_learn_55 ?_
    refine jq_rldI C X he dX5_learn_56 (fun x22 he => ?_)
    refine lv_icmp_ne (tgt := 64) C.1 C.2.1 dX5_learn_57 (by decide) (fun hc23 => ?_) (fun hc23 => ?_)
    · have he := jq_n hc23 he
      refine lv_iconst (v := 0) C.1 C.2.1 dX5_learn_64 (by decide) ?_
      exact TX5_learn_b65 (n := n) C hr hlk X (lv_sub hl [2, 1, 0] rfl) he
    · have he := jq_t hc23 he
      refine lv_iconst (v := 1) C.1 C.2.1 dX5_learn_60 (by decide) ?_
      refine lv_goto (tgt := 65) C.1 C.2.1 dX5_learn_61 (by decide) ?_
      exact TX5_learn_b65 (n := n) C hr hlk X (lv_sub hl [2, 1, 0] rfl) he
  · have he := jq_t hc19 he
    refine lv_aload_n C.1 C.2.1 dX5_learn_22 rfl (lv_at hl 2 rfl) ?_
    refine jq_rgR C X fs_X5_25 he dX5_learn_23 (fun q24 he => ?_)
    refine jq_rgR C X fs_X5_19 he dX5_learn_26 (fun q25 he => ?_)
    refine lv_iload_n C.1 C.2.1 dX5_learn_29 rfl (lv_at hl 1 rfl) ?_
    refine lv_iconst (v := 0) C.1 C.2.1 dX5_learn_30 (by decide) ?_
    refine lv_iadd C.1 C.2.1 dX5_learn_31 ?_
    refine lv_iload C.1 C.2.1 dX5_learn_32 (lv_at hl 0 rfl) ?_
    refine lv_iconst (v := 1) C.1 C.2.1 dX5_learn_34 (by decide) ?_
    refine lv_iadd C.1 C.2.1 dX5_learn_35 ?_
    refine lv_sipush (v := 255) C.1 C.2.1 dX5_learn_36 (by decide) ?_
    refine va_mmin C.1 C.2.1 (C.2.2.1.trans hl.1.symm) C.2.2.2.1 (C.2.2.2.2.1 _ gw_307) (C.2.2.2.2.1 _ gw_278) (C.2.2.2.2.1 _ gw_5) (C.2.2.2.2.1 _ gw_279) (by decide) (Nat.le_of_ble_eq_true rfl) (by decide) (by decide) dX5_learn_39 ?_
    obtain ⟨x26, hx26, he⟩ := jq_ln he
    refine jq_top hx26 ?_
    refine jq_rstI C X he dX5_learn_42 (fun h27 H locs he X => ?_)
    exact jq_vret C X hr hlk he (by decide) (by decide) dX5_learn_43
set_option maxRecDepth 100000 in
set_option maxHeartbeats 4000000 in
theorem TX8_learn_b27 {p : Program} {l : Launch} {e : Env} {s : State} {m : MethodId} {args : Array Value} {below : List Frame} {meth : Method} {c : Code} {D : va_G} {ct : Nat → ClassId} {bs : Nat} {res : jq_H} {n : Nat} (C : jq_C p s m args c cX8_learn 4 RX8 D ct bs) (hr : meth.sig.returnType = none) (hlk : meth.locks = false) {h : jq_H} {H : Heap} {locs : List Loc} {ls : Array Slot} (X : jq_X bs D ct s.heap h H locs) (hl : lv_has ls 4 []) (he : X8_learn_b27 n h = some res) :
    W p l e rm_X8_learn s m args below meth c H locs 0 0 (MQ below (jq_Qv bs D ct res) args s rm_X8_learn.cells rm_X8_learn.slots (fun q => bs ≤ q)) (F0 m 27 ls []) := by
  unfold X8_learn_b27 at he
  exact jq_vret C X hr hlk he (by decide) (by decide) dX8_learn_27
set_option maxRecDepth 100000 in
set_option maxHeartbeats 4000000 in
theorem TX8_learn_b2 {p : Program} {l : Launch} {e : Env} {s : State} {m : MethodId} {args : Array Value} {below : List Frame} {meth : Method} {c : Code} {D : va_G} {ct : Nat → ClassId} {bs : Nat} {res : jq_H} {n : Nat} {KB : Nat → Int32 → Int32 → Int32 → jq_H → Option (jq_H)} {K27 : jq_H → Option (jq_H)} (C : jq_C p s m args c cX8_learn 4 RX8 D ct bs) (hr : meth.sig.returnType = none) (hlk : meth.locks = false) (hKB : ∀ (u0 : Nat) (u1 : Int32) (u2 : Int32) (u3 : Int32) (h1 : jq_H) (H1 : Heap) (locs1 : List Loc) (ls1 : Array Slot), KB u0 u1 u2 u3 h1 = some res → jq_X bs D ct s.heap h1 H1 locs1 → lv_has ls1 4 [(0, .ref u0), (1, .int u1), (2, .int u2), (3, .int u3)] → W p l e rm_X8_learn s m args below meth c H1 locs1 0 0 (MQ below (jq_Qv bs D ct res) args s rm_X8_learn.cells rm_X8_learn.slots (fun q => bs ≤ q)) (F0 m 2 ls1 [])) (hK27 : ∀ (h1 : jq_H) (H1 : Heap) (locs1 : List Loc) (ls1 : Array Slot), K27 h1 = some res → jq_X bs D ct s.heap h1 H1 locs1 → lv_has ls1 4 [] → W p l e rm_X8_learn s m args below meth c H1 locs1 0 0 (MQ below (jq_Qv bs D ct res) args s rm_X8_learn.cells rm_X8_learn.slots (fun q => bs ≤ q)) (F0 m 27 ls1 [])) {v0 : Nat} {v1 : Int32} {v2 : Int32} {v3 : Int32} {h : jq_H} {H : Heap} {locs : List Loc} {ls : Array Slot} (X : jq_X bs D ct s.heap h H locs) (hl : lv_has ls 4 [(0, .ref v0), (1, .int v1), (2, .int v2), (3, .int v3)]) (he : X8_learn_b2 n KB K27 v0 v1 v2 v3 h = some res) :
    W p l e rm_X8_learn s m args below meth c H locs 0 0 (MQ below (jq_Qv bs D ct res) args s rm_X8_learn.cells rm_X8_learn.slots (fun q => bs ≤ q)) (F0 m 2 ls []) := by
  unfold X8_learn_b2 at he
  refine lv_iload_n C.1 C.2.1 dX8_learn_2 rfl (lv_at hl 3 rfl) ?_
  refine lv_iconst (v := 3) C.1 C.2.1 dX8_learn_3 (by decide) ?_
  refine lv_icmp_ge (tgt := 27) C.1 C.2.1 dX8_learn_4 (by decide) (fun hc1 => ?_) (fun hc1 => ?_)
  · have he := jq_t hc1 he
    exact hK27 _ _ _ _ he X (lv_sub hl [] rfl)
  · have he := jq_n hc1 he
    refine lv_aload_n C.1 C.2.1 dX8_learn_7 rfl (lv_at hl 0 rfl) ?_
    refine jq_rgR C X fs_X8_22 he dX8_learn_8 (fun q2 he => ?_)
    refine lv_aload_n C.1 C.2.1 dX8_learn_11 rfl (lv_at hl 0 rfl) ?_
    refine lv_iload_n C.1 C.2.1 dX8_learn_12 rfl (lv_at hl 3 rfl) ?_
    refine lv_iload_n C.1 C.2.1 dX8_learn_13 rfl (lv_at hl 1 rfl) ?_
    obtain ⟨z3, hz3, he⟩ := jq_b he
    obtain ⟨hz3c, hz3⟩ := jq_ite hz3
    refine jq_gi (jq_runV (a := v0) (av := [.int v3, .int v1]) C X (M_X8_cellOf l bs D ct n h v0 v3 v1 _ hz3) mf_X8_cellOf gw_231 gs_6 (Or.inl gw_229) rc_X8 hz3c (by decide) rfl hl.1 rfl (Nat.le_of_ble_eq_true rfl) ⟨by decide, by decide⟩ ⟨by decide, by decide⟩ dX8_learn_14) X (fun H locs X => ?_)
    refine lv_iload_n C.1 C.2.1 dX8_learn_17 rfl (lv_at hl 2 rfl) ?_
    obtain ⟨z4, hz4, he⟩ := jq_b he
    obtain ⟨hz4c, hz4⟩ := jq_ite hz4
    refine jq_gv (jq_runV (a := q2) (av := [.int z3.1, .int v2]) C X (M_X4_teachCounter l bs D ct n z3.2 q2 z3.1 v2 _ hz4) mf_X4_teachCounter gw_295 gs_12 (Or.inr ⟨_, gw_311⟩) rc_X4 hz4c (by decide) rfl hl.1 rfl (Nat.le_of_ble_eq_true rfl) ⟨by decide, by decide⟩ ⟨by decide, by decide⟩ dX8_learn_18) X (fun H locs X => ?_)
    obtain ⟨x5, hx5, he⟩ := jq_ln he
    refine lv_iinc (v := x5) (lv' := [(3, .int x5), (0, .ref v0), (1, .int v1), (2, .int v2)]) C.1 C.2.1 dX8_learn_21 hl (k := 3) rfl (by rw [hx5]; rfl) (by decide) rfl (fun ls hl => ?_)
    refine lv_goto (tgt := 2) C.1 C.2.1 dX8_learn_24 (by decide) ?_
    exact hKB _ _ _ _ _ _ _ _ he X (lv_sub hl [1, 2, 3, 0] rfl)
set_option maxRecDepth 100000 in
set_option maxHeartbeats 4000000 in
theorem TX8_learn_l2 {p : Program} {l : Launch} {e : Env} {s : State} {m : MethodId} {args : Array Value} {below : List Frame} {meth : Method} {c : Code} {D : va_G} {ct : Nat → ClassId} {bs : Nat} {res : jq_H} {n : Nat} {K27 : jq_H → Option (jq_H)} (C : jq_C p s m args c cX8_learn 4 RX8 D ct bs) (hr : meth.sig.returnType = none) (hlk : meth.locks = false) (hK27 : ∀ (h1 : jq_H) (H1 : Heap) (locs1 : List Loc) (ls1 : Array Slot), K27 h1 = some res → jq_X bs D ct s.heap h1 H1 locs1 → lv_has ls1 4 [] → W p l e rm_X8_learn s m args below meth c H1 locs1 0 0 (MQ below (jq_Qv bs D ct res) args s rm_X8_learn.cells rm_X8_learn.slots (fun q => bs ≤ q)) (F0 m 27 ls1 [])) :
    ∀ (k : Nat) (v0 : Nat) (v1 : Int32) (v2 : Int32) (v3 : Int32) (h : jq_H) (H : Heap) (locs : List Loc) (ls : Array Slot), X8_learn_l2 n K27 k v0 v1 v2 v3 h = some res → jq_X bs D ct s.heap h H locs → lv_has ls 4 [(0, .ref v0), (1, .int v1), (2, .int v2), (3, .int v3)] → W p l e rm_X8_learn s m args below meth c H locs 0 0 (MQ below (jq_Qv bs D ct res) args s rm_X8_learn.cells rm_X8_learn.slots (fun q => bs ≤ q)) (F0 m 2 ls []) := by
  intro k
  induction k with
  | zero => intro v0 v1 v2 v3 h H locs ls he; cases (show (none : Option (jq_H)) = some res from he)
  | succ k ih =>
    intro v0 v1 v2 v3 h H locs ls he X hl
    exact TX8_learn_b2 (n := n) C hr hlk (KB := X8_learn_l2 n K27 k) ih hK27 X hl he
set_option maxRecDepth 100000 in
set_option maxHeartbeats 4000000 in
theorem M_X8_learn (l : Launch) (bs : Nat) (D : va_G) (ct : Nat → ClassId) (n : Nat) (h : jq_H) (a : Nat) (p0 : Int32) (p1 : Int32) (res : jq_H) (he : X8_learn n h a p0 p1 = some res) : jq_M l yX8_learn cX8_learn 4 none rm_X8_learn (jq_P [.ref a, .int p0, .int p1] bs D ct h) (jq_Qv bs D ct res) bs := by
  refine jq_start2 (by decide +kernel) (Nat.le_of_ble_eq_true rfl) ?_
  intro p e s m args below meth c ls H locs C hr hlk hin hl X
  have C : jq_C p s m args c cX8_learn 4 RX8 D ct bs := C
  have hin : meth.name = "learn" := hin
  have hl : lv_has ls 4 [(0, .ref a), (1, .int p0), (2, .int p1)] := hl
  unfold X8_learn at he
  refine lv_iconst (v := 0) C.1 C.2.1 dX8_learn_0 (by decide) ?_
  refine lv_istore_n (lv' := [(3, .int 0), (0, .ref a), (1, .int p0), (2, .int p1)]) C.1 C.2.1 dX8_learn_1 rfl hl (by decide) rfl (fun ls hl => ?_)
  exact TX8_learn_l2 (n := n) C hr hlk (fun  hh H locs ls he X hl => by
    exact TX8_learn_b27 (n := n) C hr hlk X hl he) n _ _ _ _ _ _ _ _ he X (lv_sub hl [1, 2, 3, 0] rfl)
set_option maxRecDepth 100000 in
set_option maxHeartbeats 4000000 in
theorem TX9_learn_b138 {p : Program} {l : Launch} {e : Env} {s : State} {m : MethodId} {args : Array Value} {below : List Frame} {meth : Method} {c : Code} {D : va_G} {ct : Nat → ClassId} {bs : Nat} {res : jq_H} {n : Nat} (C : jq_C p s m args c cX9_learn 8 RX9 D ct bs) (hr : meth.sig.returnType = none) (hlk : meth.locks = false) {h : jq_H} {H : Heap} {locs : List Loc} {ls : Array Slot} (X : jq_X bs D ct s.heap h H locs) (hl : lv_has ls 8 []) (he : X9_learn_b138 n h = some res) :
    W p l e rm_X9_learn s m args below meth c H locs 0 0 (MQ below (jq_Qv bs D ct res) args s rm_X9_learn.cells rm_X9_learn.slots (fun q => bs ≤ q)) (F0 m 138 ls []) := by
  unfold X9_learn_b138 at he
  exact jq_vret C X hr hlk he (by decide) (by decide) dX9_learn_138
set_option maxRecDepth 100000 in
set_option maxHeartbeats 4000000 in
theorem TX9_learn_b104 {p : Program} {l : Launch} {e : Env} {s : State} {m : MethodId} {args : Array Value} {below : List Frame} {meth : Method} {c : Code} {D : va_G} {ct : Nat → ClassId} {bs : Nat} {res : jq_H} {n : Nat} {KB : Nat → Int32 → Int32 → Int32 → jq_H → Option (jq_H)} {K138 : jq_H → Option (jq_H)} (C : jq_C p s m args c cX9_learn 8 RX9 D ct bs) (hr : meth.sig.returnType = none) (hlk : meth.locks = false) (hKB : ∀ (u0 : Nat) (u2 : Int32) (u5 : Int32) (u6 : Int32) (h1 : jq_H) (H1 : Heap) (locs1 : List Loc) (ls1 : Array Slot), KB u0 u2 u5 u6 h1 = some res → jq_X bs D ct s.heap h1 H1 locs1 → lv_has ls1 8 [(0, .ref u0), (2, .int u2), (5, .int u5), (6, .int u6)] → W p l e rm_X9_learn s m args below meth c H1 locs1 0 0 (MQ below (jq_Qv bs D ct res) args s rm_X9_learn.cells rm_X9_learn.slots (fun q => bs ≤ q)) (F0 m 67 ls1 [])) (hK138 : ∀ (h1 : jq_H) (H1 : Heap) (locs1 : List Loc) (ls1 : Array Slot), K138 h1 = some res → jq_X bs D ct s.heap h1 H1 locs1 → lv_has ls1 8 [] → W p l e rm_X9_learn s m args below meth c H1 locs1 0 0 (MQ below (jq_Qv bs D ct res) args s rm_X9_learn.cells rm_X9_learn.slots (fun q => bs ≤ q)) (F0 m 138 ls1 [])) {v0 : Nat} {v2 : Int32} {v5 : Int32} {v6 : Int32} {s0 : Int32} {s1 : Int32} {h : jq_H} {H : Heap} {locs : List Loc} {ls : Array Slot} (X : jq_X bs D ct s.heap h H locs) (hl : lv_has ls 8 [(0, .ref v0), (2, .int v2), (5, .int v5), (6, .int v6)]) (he : X9_learn_b104 n KB K138 v0 v2 v5 v6 s0 s1 h = some res) :
    W p l e rm_X9_learn s m args below meth c H locs 0 0 (MQ below (jq_Qv bs D ct res) args s rm_X9_learn.cells rm_X9_learn.slots (fun q => bs ≤ q)) (F0 m 104 ls [.int s1, .int s0]) := by
  unfold X9_learn_b104 at he
  refine lv_iadd C.1 C.2.1 dX9_learn_104 ?_
  obtain ⟨x1, hx1, he⟩ := jq_ln he
  refine jq_top hx1 ?_
  refine lv_istore (lv' := [(7, .int x1), (0, .ref v0), (2, .int v2), (5, .int v5), (6, .int v6)]) C.1 C.2.1 dX9_learn_105 hl (by decide) rfl (fun ls hl => ?_)
  refine lv_aload_n C.1 C.2.1 dX9_learn_107 rfl (lv_at hl 1 rfl) ?_
  refine jq_rgR C X fs_X9_22 he dX9_learn_108 (fun q2 he => ?_)
  refine jq_rgR C X fs_X9_40 he dX9_learn_111 (fun q3 he => ?_)
  refine lv_iload C.1 C.2.1 dX9_learn_114 (lv_at hl 3 rfl) ?_
  refine lv_iload C.1 C.2.1 dX9_learn_116 (lv_at hl 4 rfl) ?_
  refine lv_iadd C.1 C.2.1 dX9_learn_118 ?_
  refine lv_bipush (v := (-64)) C.1 C.2.1 dX9_learn_119 (by decide) ?_
  refine lv_bipush (v := 63) C.1 C.2.1 dX9_learn_121 (by decide) ?_
  refine lv_iload C.1 C.2.1 dX9_learn_123 (lv_at hl 0 rfl) ?_
  refine va_mmin C.1 C.2.1 (C.2.2.1.trans hl.1.symm) C.2.2.2.1 (C.2.2.2.2.1 _ gw_318) (C.2.2.2.2.1 _ gw_278) (C.2.2.2.2.1 _ gw_5) (C.2.2.2.2.1 _ gw_279) (by decide) (Nat.le_of_ble_eq_true rfl) (by decide) (by decide) dX9_learn_125 ?_
  obtain ⟨x4, hx4, he⟩ := jq_ln he
  refine jq_top hx4 ?_
  refine va_mmax C.1 C.2.1 (C.2.2.1.trans hl.1.symm) C.2.2.2.1 (C.2.2.2.2.1 _ gw_319) (C.2.2.2.2.1 _ gw_281) (C.2.2.2.2.1 _ gw_5) (C.2.2.2.2.1 _ gw_282) (by decide) (Nat.le_of_ble_eq_true rfl) (by decide) (by decide) dX9_learn_128 ?_
  obtain ⟨x5, hx5, he⟩ := jq_ln he
  refine jq_top hx5 ?_
  refine jq_rstI C X he dX9_learn_131 (fun h6 H locs he X => ?_)
  obtain ⟨x7, hx7, he⟩ := jq_ln he
  refine lv_iinc (v := x7) (lv' := [(6, .int x7), (7, .int x1), (0, .ref v0), (2, .int v2), (5, .int v5)]) C.1 C.2.1 dX9_learn_132 hl (k := 4) rfl (by rw [hx7]; rfl) (by decide) rfl (fun ls hl => ?_)
  refine lv_goto (tgt := 67) C.1 C.2.1 dX9_learn_135 (by decide) ?_
  exact hKB _ _ _ _ _ _ _ _ he X (lv_sub hl [2, 3, 4, 0] rfl)
set_option maxRecDepth 100000 in
set_option maxHeartbeats 4000000 in
theorem TX9_learn_b67 {p : Program} {l : Launch} {e : Env} {s : State} {m : MethodId} {args : Array Value} {below : List Frame} {meth : Method} {c : Code} {D : va_G} {ct : Nat → ClassId} {bs : Nat} {res : jq_H} {n : Nat} {KB : Nat → Int32 → Int32 → Int32 → jq_H → Option (jq_H)} {K138 : jq_H → Option (jq_H)} (C : jq_C p s m args c cX9_learn 8 RX9 D ct bs) (hr : meth.sig.returnType = none) (hlk : meth.locks = false) (hKB : ∀ (u0 : Nat) (u2 : Int32) (u5 : Int32) (u6 : Int32) (h1 : jq_H) (H1 : Heap) (locs1 : List Loc) (ls1 : Array Slot), KB u0 u2 u5 u6 h1 = some res → jq_X bs D ct s.heap h1 H1 locs1 → lv_has ls1 8 [(0, .ref u0), (2, .int u2), (5, .int u5), (6, .int u6)] → W p l e rm_X9_learn s m args below meth c H1 locs1 0 0 (MQ below (jq_Qv bs D ct res) args s rm_X9_learn.cells rm_X9_learn.slots (fun q => bs ≤ q)) (F0 m 67 ls1 [])) (hK138 : ∀ (h1 : jq_H) (H1 : Heap) (locs1 : List Loc) (ls1 : Array Slot), K138 h1 = some res → jq_X bs D ct s.heap h1 H1 locs1 → lv_has ls1 8 [] → W p l e rm_X9_learn s m args below meth c H1 locs1 0 0 (MQ below (jq_Qv bs D ct res) args s rm_X9_learn.cells rm_X9_learn.slots (fun q => bs ≤ q)) (F0 m 138 ls1 [])) {v0 : Nat} {v2 : Int32} {v5 : Int32} {v6 : Int32} {h : jq_H} {H : Heap} {locs : List Loc} {ls : Array Slot} (X : jq_X bs D ct s.heap h H locs) (hl : lv_has ls 8 [(0, .ref v0), (2, .int v2), (5, .int v5), (6, .int v6)]) (he : X9_learn_b67 n KB K138 v0 v2 v5 v6 h = some res) :
    W p l e rm_X9_learn s m args below meth c H locs 0 0 (MQ below (jq_Qv bs D ct res) args s rm_X9_learn.cells rm_X9_learn.slots (fun q => bs ≤ q)) (F0 m 67 ls []) := by
  unfold X9_learn_b67 at he
  refine lv_iload C.1 C.2.1 dX9_learn_67 (lv_at hl 3 rfl) ?_
  refine lv_aload_n C.1 C.2.1 dX9_learn_69 rfl (lv_at hl 0 rfl) ?_
  refine jq_rgI C X fs_X9_34 he dX9_learn_70 (fun x8 he => ?_)
  refine lv_icmp_ge (tgt := 138) C.1 C.2.1 dX9_learn_73 (by decide) (fun hc9 => ?_) (fun hc9 => ?_)
  · have he := jq_t hc9 he
    exact hK138 _ _ _ _ he X (lv_sub hl [] rfl)
  · have he := jq_n hc9 he
    refine lv_aload_n C.1 C.2.1 dX9_learn_76 rfl (lv_at hl 0 rfl) ?_
    refine jq_rgR C X fs_X9_22 he dX9_learn_77 (fun q10 he => ?_)
    refine jq_rgR C X fs_X9_40 he dX9_learn_80 (fun q11 he => ?_)
    refine lv_iload C.1 C.2.1 dX9_learn_83 (lv_at hl 2 rfl) ?_
    refine lv_iload C.1 C.2.1 dX9_learn_85 (lv_at hl 3 rfl) ?_
    refine lv_iadd C.1 C.2.1 dX9_learn_87 ?_
    refine jq_rldI C X he dX9_learn_88 (fun x12 he => ?_)
    refine lv_aload_n C.1 C.2.1 dX9_learn_89 rfl (lv_at hl 0 rfl) ?_
    refine lv_iload C.1 C.2.1 dX9_learn_90 (lv_at hl 3 rfl) ?_
    obtain ⟨z13, hz13, he⟩ := jq_b he
    obtain ⟨hz13c, hz13⟩ := jq_ite hz13
    refine jq_gi (jq_runV (a := v0) (av := [.int v6]) C X (M_X9_bitOf l bs D ct n h v0 v6 _ hz13) mf_X9_bitOf gw_252 gs_8 (Or.inl gw_250) rc_X9 hz13c (by decide) rfl hl.1 rfl (Nat.le_of_ble_eq_true rfl) ⟨by decide, by decide⟩ ⟨by decide, by decide⟩ dX9_learn_92) X (fun H locs X => ?_)
    refine lv_iload_n C.1 C.2.1 dX9_learn_95 rfl (lv_at hl 1 rfl) ?_
    refine lv_icmp_ne (tgt := 103) C.1 C.2.1 dX9_learn_96 (by decide) (fun hc14 => ?_) (fun hc14 => ?_)
    · have he := jq_n hc14 he
      refine lv_iconst (v := (-1)) C.1 C.2.1 dX9_learn_103 (by decide) ?_
      exact TX9_learn_b104 (n := n) C hr hlk hKB hK138 X (lv_sub hl [0, 1, 2, 3] rfl) he
    · have he := jq_t hc14 he
      refine lv_iconst (v := 1) C.1 C.2.1 dX9_learn_99 (by decide) ?_
      refine lv_goto (tgt := 104) C.1 C.2.1 dX9_learn_100 (by decide) ?_
      exact TX9_learn_b104 (n := n) C hr hlk hKB hK138 X (lv_sub hl [0, 1, 2, 3] rfl) he
set_option maxRecDepth 100000 in
set_option maxHeartbeats 4000000 in
theorem TX9_learn_l67 {p : Program} {l : Launch} {e : Env} {s : State} {m : MethodId} {args : Array Value} {below : List Frame} {meth : Method} {c : Code} {D : va_G} {ct : Nat → ClassId} {bs : Nat} {res : jq_H} {n : Nat} {K138 : jq_H → Option (jq_H)} (C : jq_C p s m args c cX9_learn 8 RX9 D ct bs) (hr : meth.sig.returnType = none) (hlk : meth.locks = false) (hK138 : ∀ (h1 : jq_H) (H1 : Heap) (locs1 : List Loc) (ls1 : Array Slot), K138 h1 = some res → jq_X bs D ct s.heap h1 H1 locs1 → lv_has ls1 8 [] → W p l e rm_X9_learn s m args below meth c H1 locs1 0 0 (MQ below (jq_Qv bs D ct res) args s rm_X9_learn.cells rm_X9_learn.slots (fun q => bs ≤ q)) (F0 m 138 ls1 [])) :
    ∀ (k : Nat) (v0 : Nat) (v2 : Int32) (v5 : Int32) (v6 : Int32) (h : jq_H) (H : Heap) (locs : List Loc) (ls : Array Slot), X9_learn_l67 n K138 k v0 v2 v5 v6 h = some res → jq_X bs D ct s.heap h H locs → lv_has ls 8 [(0, .ref v0), (2, .int v2), (5, .int v5), (6, .int v6)] → W p l e rm_X9_learn s m args below meth c H locs 0 0 (MQ below (jq_Qv bs D ct res) args s rm_X9_learn.cells rm_X9_learn.slots (fun q => bs ≤ q)) (F0 m 67 ls []) := by
  intro k
  induction k with
  | zero => intro v0 v2 v5 v6 h H locs ls he; cases (show (none : Option (jq_H)) = some res from he)
  | succ k ih =>
    intro v0 v2 v5 v6 h H locs ls he X hl
    exact TX9_learn_b67 (n := n) C hr hlk (KB := X9_learn_l67 n K138 k) ih hK138 X hl he
set_option maxRecDepth 100000 in
set_option maxHeartbeats 4000000 in
theorem TX9_learn_b52 {p : Program} {l : Launch} {e : Env} {s : State} {m : MethodId} {args : Array Value} {below : List Frame} {meth : Method} {c : Code} {D : va_G} {ct : Nat → ClassId} {bs : Nat} {res : jq_H} {n : Nat} (C : jq_C p s m args c cX9_learn 8 RX9 D ct bs) (hr : meth.sig.returnType = none) (hlk : meth.locks = false) {v0 : Nat} {v1 : Int32} {v2 : Int32} {h : jq_H} {H : Heap} {locs : List Loc} {ls : Array Slot} (X : jq_X bs D ct s.heap h H locs) (hl : lv_has ls 8 [(0, .ref v0), (1, .int v1), (2, .int v2)]) (he : X9_learn_b52 n v0 v1 v2 h = some res) :
    W p l e rm_X9_learn s m args below meth c H locs 0 0 (MQ below (jq_Qv bs D ct res) args s rm_X9_learn.cells rm_X9_learn.slots (fun q => bs ≤ q)) (F0 m 52 ls []) := by
  unfold X9_learn_b52 at he
  refine lv_aload_n C.1 C.2.1 dX9_learn_52 rfl (lv_at hl 0 rfl) ?_
  refine lv_iload_n C.1 C.2.1 dX9_learn_53 rfl (lv_at hl 1 rfl) ?_
  obtain ⟨z15, hz15, he⟩ := jq_b he
  obtain ⟨hz15c, hz15⟩ := jq_ite hz15
  refine jq_gi (jq_runV (a := v0) (av := [.int v1]) C X (M_X9_slotOf l bs D ct n h v0 v1 _ hz15) mf_X9_slotOf gw_247 gw_248 (Or.inl gw_246) rc_X9 hz15c (by decide) rfl hl.1 rfl (Nat.le_of_ble_eq_true rfl) ⟨by decide, by decide⟩ ⟨by decide, by decide⟩ dX9_learn_54) X (fun H locs X => ?_)
  refine lv_aload_n C.1 C.2.1 dX9_learn_57 rfl (lv_at hl 0 rfl) ?_
  refine jq_rgI C X fs_X9_34 he dX9_learn_58 (fun x16 he => ?_)
  refine lv_imul C.1 C.2.1 dX9_learn_61 ?_
  obtain ⟨x17, hx17, he⟩ := jq_ln he
  refine jq_top hx17 ?_
  refine lv_istore (lv' := [(5, .int x17), (0, .ref v0), (1, .int v1), (2, .int v2)]) C.1 C.2.1 dX9_learn_62 hl (by decide) rfl (fun ls hl => ?_)
  refine lv_iconst (v := 0) C.1 C.2.1 dX9_learn_64 (by decide) ?_
  refine lv_istore (lv' := [(6, .int 0), (5, .int x17), (0, .ref v0), (1, .int v1), (2, .int v2)]) C.1 C.2.1 dX9_learn_65 hl (by decide) rfl (fun ls hl => ?_)
  exact TX9_learn_l67 (n := n) C hr hlk (fun  hh H locs ls he X hl => by
    exact TX9_learn_b138 (n := n) C hr hlk X hl he) n _ _ _ _ _ _ _ _ he X (lv_sub hl [2, 4, 1, 0] rfl)
set_option maxRecDepth 100000 in
set_option maxHeartbeats 4000000 in
theorem TX9_learn_b33 {p : Program} {l : Launch} {e : Env} {s : State} {m : MethodId} {args : Array Value} {below : List Frame} {meth : Method} {c : Code} {D : va_G} {ct : Nat → ClassId} {bs : Nat} {res : jq_H} {n : Nat} (C : jq_C p s m args c cX9_learn 8 RX9 D ct bs) (hr : meth.sig.returnType = none) (hlk : meth.locks = false) {v0 : Nat} {v1 : Int32} {v2 : Int32} {v3 : Int32} {s0 : Int32} {h : jq_H} {H : Heap} {locs : List Loc} {ls : Array Slot} (X : jq_X bs D ct s.heap h H locs) (hl : lv_has ls 8 [(0, .ref v0), (1, .int v1), (2, .int v2), (3, .int v3)]) (he : X9_learn_b33 n v0 v1 v2 v3 s0 h = some res) :
    W p l e rm_X9_learn s m args below meth c H locs 0 0 (MQ below (jq_Qv bs D ct res) args s rm_X9_learn.cells rm_X9_learn.slots (fun q => bs ≤ q)) (F0 m 33 ls [.int s0]) := by
  unfold X9_learn_b33 at he
  refine lv_istore (lv' := [(4, .int s0), (0, .ref v0), (1, .int v1), (2, .int v2), (3, .int v3)]) C.1 C.2.1 dX9_learn_33 hl (by decide) rfl (fun ls hl => ?_)
  refine lv_iload C.1 C.2.1 dX9_learn_35 (lv_at hl 0 rfl) ?_
  refine lv_if_eq (tgt := 52) C.1 C.2.1 dX9_learn_37 (by decide) (fun hc18 => ?_) (fun hc18 => ?_)
  · have he := jq_t hc18 he
    exact TX9_learn_b52 (n := n) C hr hlk X (lv_sub hl [1, 2, 3] rfl) he
  · have he := jq_n hc18 he
    refine lv_iload_n C.1 C.2.1 dX9_learn_40 rfl (lv_at hl 4 rfl) ?_
    refine va_mabs C.1 C.2.1 (C.2.2.1.trans hl.1.symm) C.2.2.2.1 (C.2.2.2.2.1 _ gw_315) (C.2.2.2.2.1 _ gw_316) (C.2.2.2.2.1 _ gw_5) (C.2.2.2.2.1 _ gw_317) (by decide) (Nat.le_of_ble_eq_true rfl) (by decide) (by decide) dX9_learn_41 ?_
    obtain ⟨x19, hx19, he⟩ := jq_ln he
    refine jq_top hx19 ?_
    refine lv_aload_n C.1 C.2.1 dX9_learn_44 rfl (lv_at hl 1 rfl) ?_
    refine jq_rgI C X fs_X9_19 he dX9_learn_45 (fun x20 he => ?_)
    refine lv_icmp_le (tgt := 52) C.1 C.2.1 dX9_learn_48 (by decide) (fun hc21 => ?_) (fun hc21 => ?_)
    · have he := jq_t hc21 he
      exact TX9_learn_b52 (n := n) C hr hlk X (lv_sub hl [1, 2, 3] rfl) he
    · have he := jq_n hc21 he
      exact jq_vret C X hr hlk he (by decide) (by decide) dX9_learn_51
set_option maxRecDepth 100000 in
set_option maxHeartbeats 4000000 in
theorem TX9_learn_b25 {p : Program} {l : Launch} {e : Env} {s : State} {m : MethodId} {args : Array Value} {below : List Frame} {meth : Method} {c : Code} {D : va_G} {ct : Nat → ClassId} {bs : Nat} {res : jq_H} {n : Nat} (C : jq_C p s m args c cX9_learn 8 RX9 D ct bs) (hr : meth.sig.returnType = none) (hlk : meth.locks = false) {v0 : Nat} {v1 : Int32} {v2 : Int32} {v3 : Int32} {s0 : Int32} {s1 : Int32} {h : jq_H} {H : Heap} {locs : List Loc} {ls : Array Slot} (X : jq_X bs D ct s.heap h H locs) (hl : lv_has ls 8 [(0, .ref v0), (1, .int v1), (2, .int v2), (3, .int v3)]) (he : X9_learn_b25 n v0 v1 v2 v3 s0 s1 h = some res) :
    W p l e rm_X9_learn s m args below meth c H locs 0 0 (MQ below (jq_Qv bs D ct res) args s rm_X9_learn.cells rm_X9_learn.slots (fun q => bs ≤ q)) (F0 m 25 ls [.int s1, .int s0]) := by
  unfold X9_learn_b25 at he
  refine lv_icmp_ne (tgt := 32) C.1 C.2.1 dX9_learn_25 (by decide) (fun hc22 => ?_) (fun hc22 => ?_)
  · have he := jq_n hc22 he
    refine lv_iconst (v := 0) C.1 C.2.1 dX9_learn_32 (by decide) ?_
    exact TX9_learn_b33 (n := n) C hr hlk X (lv_sub hl [0, 1, 2, 3] rfl) he
  · have he := jq_t hc22 he
    refine lv_iconst (v := 1) C.1 C.2.1 dX9_learn_28 (by decide) ?_
    refine lv_goto (tgt := 33) C.1 C.2.1 dX9_learn_29 (by decide) ?_
    exact TX9_learn_b33 (n := n) C hr hlk X (lv_sub hl [0, 1, 2, 3] rfl) he
set_option maxRecDepth 100000 in
set_option maxHeartbeats 4000000 in
theorem TX9_learn_b15 {p : Program} {l : Launch} {e : Env} {s : State} {m : MethodId} {args : Array Value} {below : List Frame} {meth : Method} {c : Code} {D : va_G} {ct : Nat → ClassId} {bs : Nat} {res : jq_H} {n : Nat} (C : jq_C p s m args c cX9_learn 8 RX9 D ct bs) (hr : meth.sig.returnType = none) (hlk : meth.locks = false) {v0 : Nat} {v1 : Int32} {v2 : Int32} {v3 : Int32} {s0 : Int32} {h : jq_H} {H : Heap} {locs : List Loc} {ls : Array Slot} (X : jq_X bs D ct s.heap h H locs) (hl : lv_has ls 8 [(0, .ref v0), (1, .int v1), (2, .int v2), (3, .int v3)]) (he : X9_learn_b15 n v0 v1 v2 v3 s0 h = some res) :
    W p l e rm_X9_learn s m args below meth c H locs 0 0 (MQ below (jq_Qv bs D ct res) args s rm_X9_learn.cells rm_X9_learn.slots (fun q => bs ≤ q)) (F0 m 15 ls [.int s0]) := by
  unfold X9_learn_b15 at he
  refine lv_iload_n C.1 C.2.1 dX9_learn_15 rfl (lv_at hl 2 rfl) ?_
  refine lv_iconst (v := 1) C.1 C.2.1 dX9_learn_16 (by decide) ?_
  refine lv_icmp_ne (tgt := 24) C.1 C.2.1 dX9_learn_17 (by decide) (fun hc23 => ?_) (fun hc23 => ?_)
  · have he := jq_n hc23 he
    refine lv_iconst (v := 0) C.1 C.2.1 dX9_learn_24 (by decide) ?_
    exact TX9_learn_b25 (n := n) C hr hlk X (lv_sub hl [0, 1, 2, 3] rfl) he
  · have he := jq_t hc23 he
    refine lv_iconst (v := 1) C.1 C.2.1 dX9_learn_20 (by decide) ?_
    refine lv_goto (tgt := 25) C.1 C.2.1 dX9_learn_21 (by decide) ?_
    exact TX9_learn_b25 (n := n) C hr hlk X (lv_sub hl [0, 1, 2, 3] rfl) he
set_option maxRecDepth 100000 in
set_option maxHeartbeats 4000000 in
theorem M_X9_learn (l : Launch) (bs : Nat) (D : va_G) (ct : Nat → ClassId) (n : Nat) (h : jq_H) (a : Nat) (p0 : Int32) (p1 : Int32) (res : jq_H) (he : X9_learn n h a p0 p1 = some res) : jq_M l yX9_learn cX9_learn 8 none rm_X9_learn (jq_P [.ref a, .int p0, .int p1] bs D ct h) (jq_Qv bs D ct res) bs := by
  refine jq_start2 (by decide +kernel) (Nat.le_of_ble_eq_true rfl) ?_
  intro p e s m args below meth c ls H locs C hr hlk hin hl X
  have C : jq_C p s m args c cX9_learn 8 RX9 D ct bs := C
  have hin : meth.name = "learn" := hin
  have hl : lv_has ls 8 [(0, .ref a), (1, .int p0), (2, .int p1)] := hl
  unfold X9_learn at he
  refine lv_aload_n C.1 C.2.1 dX9_learn_0 rfl (lv_at hl 0 rfl) ?_
  refine lv_iload_n C.1 C.2.1 dX9_learn_1 rfl (lv_at hl 1 rfl) ?_
  obtain ⟨z24, hz24, he⟩ := jq_b he
  obtain ⟨hz24c, hz24⟩ := jq_ite hz24
  refine jq_gi (jq_runV (a := a) (av := [.int p0]) C X (M_X9_sumAt l bs D ct n h a p0 _ hz24) mf_X9_sumAt gw_243 gs_7 (Or.inl gw_241) rc_X9 hz24c (by decide) rfl hl.1 rfl (Nat.le_of_ble_eq_true rfl) ⟨by decide, by decide⟩ ⟨by decide, by decide⟩ dX9_learn_2) X (fun H locs X => ?_)
  obtain ⟨x25, hx25, he⟩ := jq_ln he
  refine jq_top hx25 ?_
  refine lv_istore_n (lv' := [(3, .int x25), (0, .ref a), (1, .int p0), (2, .int p1)]) C.1 C.2.1 dX9_learn_5 rfl hl (by decide) rfl (fun ls hl => ?_)
  refine lv_iload_n C.1 C.2.1 dX9_learn_6 rfl (lv_at hl 0 rfl) ?_
  refine lv_if_lt (tgt := 14) C.1 C.2.1 dX9_learn_7 (by decide) (fun hc26 => ?_) (fun hc26 => ?_)
  · have he := jq_t hc26 he
    refine lv_iconst (v := 0) C.1 C.2.1 dX9_learn_14 (by decide) ?_
    exact TX9_learn_b15 (n := n) C hr hlk X (lv_sub hl [1, 2, 3, 0] rfl) he
  · have he := jq_n hc26 he
    refine lv_iconst (v := 1) C.1 C.2.1 dX9_learn_10 (by decide) ?_
    refine lv_goto (tgt := 15) C.1 C.2.1 dX9_learn_11 (by decide) ?_
    exact TX9_learn_b15 (n := n) C hr hlk X (lv_sub hl [1, 2, 3, 0] rfl) he
set_option maxRecDepth 100000 in
set_option maxHeartbeats 4000000 in
theorem M_X4_addWay (l : Launch) (bs : Nat) (D : va_G) (ct : Nat → ClassId) (n : Nat) (h : jq_H) (a : Nat) (p0 : Int32) (p1 : Int32) (res : jq_H) (he : X4_addWay n h a p0 p1 = some res) : jq_M l yX4_addWay cX4_addWay 3 none rm_X4_addWay (jq_P [.ref a, .int p0, .int p1] bs D ct h) (jq_Qv bs D ct res) bs := by
  refine jq_start2 (by decide +kernel) (Nat.le_of_ble_eq_true rfl) ?_
  intro p e s m args below meth c ls H locs C hr hlk hin hl X
  have C : jq_C p s m args c cX4_addWay 3 RX4 D ct bs := C
  have hin : meth.name = "addWay" := hin
  have hl : lv_has ls 3 [(0, .ref a), (1, .int p0), (2, .int p1)] := hl
  unfold X4_addWay at he
  refine lv_aload_n C.1 C.2.1 dX4_addWay_0 rfl (lv_at hl 0 rfl) ?_
  refine lv_aload_n C.1 C.2.1 dX4_addWay_1 rfl (lv_at hl 0 rfl) ?_
  refine jq_rgI C X fs_X4_48 he dX4_addWay_2 (fun x1 he => ?_)
  refine lv_iconst (v := 1) C.1 C.2.1 dX4_addWay_5 (by decide) ?_
  refine lv_ishl C.1 C.2.1 dX4_addWay_6 ?_
  refine lv_iload_n C.1 C.2.1 dX4_addWay_7 rfl (lv_at hl 2 rfl) ?_
  refine lv_ior C.1 C.2.1 dX4_addWay_8 ?_
  refine lv_bipush (v := 8) C.1 C.2.1 dX4_addWay_9 (by decide) ?_
  obtain ⟨z2, hz2, he⟩ := jq_b he
  refine jq_gi (jq_runS (av := [.int 8]) C X (M_X10_lowBits l bs D ct n h 8 _ hz2) mf_X10_lowBits gw_235 (Or.inr ⟨_, gw_324⟩) rfl hl.1 rfl (Nat.le_of_ble_eq_true rfl) ⟨by decide, by decide⟩ ⟨by decide, by decide⟩ dX4_addWay_11) X (fun H locs X => ?_)
  refine lv_iand C.1 C.2.1 dX4_addWay_14 ?_
  refine jq_rp (ty := .int) C X fs_X4_48 (by decide +kernel) rfl rfl he dX4_addWay_15 (fun h3 H locs he X => ?_)
  refine lv_aload_n C.1 C.2.1 dX4_addWay_18 rfl (lv_at hl 0 rfl) ?_
  refine jq_rgR C X fs_X4_9 he dX4_addWay_19 (fun q4 he => ?_)
  refine lv_iload_n C.1 C.2.1 dX4_addWay_22 rfl (lv_at hl 1 rfl) ?_
  refine lv_aload_n C.1 C.2.1 dX4_addWay_23 rfl (lv_at hl 0 rfl) ?_
  refine jq_rgR C X fs_X4_9 he dX4_addWay_24 (fun q5 he => ?_)
  refine lv_iload_n C.1 C.2.1 dX4_addWay_27 rfl (lv_at hl 1 rfl) ?_
  refine jq_rldI C X he dX4_addWay_28 (fun x6 he => ?_)
  refine lv_iconst (v := 1) C.1 C.2.1 dX4_addWay_29 (by decide) ?_
  refine lv_ishl C.1 C.2.1 dX4_addWay_30 ?_
  refine lv_iload_n C.1 C.2.1 dX4_addWay_31 rfl (lv_at hl 2 rfl) ?_
  refine lv_ior C.1 C.2.1 dX4_addWay_32 ?_
  refine lv_bipush (v := 8) C.1 C.2.1 dX4_addWay_33 (by decide) ?_
  obtain ⟨z7, hz7, he⟩ := jq_b he
  refine jq_gi (jq_runS (av := [.int 8]) C X (M_X10_lowBits l bs D ct n h3 8 _ hz7) mf_X10_lowBits gw_235 (Or.inr ⟨_, gw_324⟩) rfl hl.1 rfl (Nat.le_of_ble_eq_true rfl) ⟨by decide, by decide⟩ ⟨by decide, by decide⟩ dX4_addWay_35) X (fun H locs X => ?_)
  refine lv_iand C.1 C.2.1 dX4_addWay_38 ?_
  refine jq_rstI C X he dX4_addWay_39 (fun h8 H locs he X => ?_)
  exact jq_vret C X hr hlk he (by decide) (by decide) dX4_addWay_40
