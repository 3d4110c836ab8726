set_option maxRecDepth 100000 in
set_option maxHeartbeats 4000000 in
theorem TX10_keep_b50 {p : Program} {l : Launch} {e : Env} {s : State} {m : MethodId} {args : Array Value} {below : List Frame} {meth : Method} {c : Code} {D : va_G} {ct : Nat → ClassId} {bs : Nat} {res : Int32 × jq_H} {n : Nat} (C : jq_C p s m args c cX10_keep 4 RX10 D ct bs) (hr : meth.sig.returnType = (some .int)) (hlk : meth.locks = false) {v0 : Nat} {v1 : Int32} {v2 : Int32} {v3 : Nat} {h : jq_H} {H : Heap} {locs : List Loc} {ls : Array Slot} (X : jq_X bs D ct s.heap h H locs) (hl : lv_has ls 4 [(0, .ref v0), (1, .int v1), (2, .int v2), (3, .ref v3)]) (he : X10_keep_b50 n v0 v1 v2 v3 h = some res) :
    W p l e rm_X10_keep s m args below meth c H locs 6 1202 (MQ below (jq_Qi bs D ct res) args s rm_X10_keep.cells rm_X10_keep.slots (fun q => bs ≤ q)) (F0 m 50 ls []) := by
  unfold X10_keep_b50 at he
  refine lv_aload_n C.1 C.2.1 dX10_keep_50 rfl (lv_at hl 3 rfl) ?_
  refine lv_iload_n C.1 C.2.1 dX10_keep_51 rfl (lv_at hl 2 rfl) ?_
  refine jq_rldN C X (Or.inr ⟨rfl, rfl⟩) he dX10_keep_52 (fun q1 he => ?_)
  refine lv_aload_n C.1 C.2.1 dX10_keep_53 rfl (lv_at hl 0 rfl) ?_
  refine jq_rgR C X fs_X10_25 he dX10_keep_54 (fun q2 he => ?_)
  refine lv_iload_n C.1 C.2.1 dX10_keep_57 rfl (lv_at hl 1 rfl) ?_
  refine jq_rldN C X (Or.inl ⟨rfl, rfl⟩) he dX10_keep_58 (fun q3 he => ?_)
  refine jq_rgR C X fs_X10_112 he dX10_keep_59 (fun q4 he => ?_)
  obtain ⟨z5, hz5, he⟩ := jq_b he
  obtain ⟨hz5c, hz5⟩ := jq_ite hz5
  refine jq_gv (jq_runV (a := q1) (av := [.ref q4]) C X (M_X4_take l bs D ct n h q1 q4 _ hz5) mf_X4_take gw_431 gs_19 (Or.inr ⟨_, gw_702⟩) rc_X4 hz5c (by decide) rfl hl.1 rfl (Nat.le_of_ble_eq_true rfl) ⟨by decide, by decide⟩ ⟨by decide, by decide⟩ dX10_keep_62) X (fun H locs X => ?_)
  refine lv_iconst (v := 1) C.1 C.2.1 dX10_keep_65 (by decide) ?_
  exact jq_iret C X hr hlk he (by decide) (by decide) dX10_keep_66
set_option maxRecDepth 100000 in
set_option maxHeartbeats 4000000 in
theorem TX10_keep_b17 {p : Program} {l : Launch} {e : Env} {s : State} {m : MethodId} {args : Array Value} {below : List Frame} {meth : Method} {c : Code} {D : va_G} {ct : Nat → ClassId} {bs : Nat} {res : Int32 × jq_H} {n : Nat} (C : jq_C p s m args c cX10_keep 4 RX10 D ct bs) (hr : meth.sig.returnType = (some .int)) (hlk : meth.locks = false) {h : jq_H} {H : Heap} {locs : List Loc} {ls : Array Slot} (X : jq_X bs D ct s.heap h H locs) (hl : lv_has ls 4 []) (he : X10_keep_b17 n h = some res) :
    W p l e rm_X10_keep s m args below meth c H locs 0 0 (MQ below (jq_Qi bs D ct res) args s rm_X10_keep.cells rm_X10_keep.slots (fun q => bs ≤ q)) (F0 m 17 ls []) := by
  unfold X10_keep_b17 at he
  refine lv_iconst (v := (-1)) C.1 C.2.1 dX10_keep_17 (by decide) ?_
  exact jq_iret C X hr hlk he (by decide) (by decide) dX10_keep_18
set_option maxRecDepth 100000 in
set_option maxHeartbeats 4000000 in
theorem M_X10_keep (l : Launch) (bs : Nat) (D : va_G) (ct : Nat → ClassId) (n : Nat) (h : jq_H) (a : Nat) (p0 : Int32) (p1 : Int32) (res : Int32 × jq_H) (he : X10_keep n h a p0 p1 = some res) : jq_M l yX10_keep cX10_keep 4 (some .int) rm_X10_keep (jq_P [.ref a, .int p0, .int p1] bs D ct h) (jq_Qi bs D ct res) bs := by
  refine jq_start2 (by decide +kernel) (Nat.le_of_ble_eq_true rfl) ?_
  intro p e s m args below meth c ls H locs C hr hlk hin hl X
  have C : jq_C p s m args c cX10_keep 4 RX10 D ct bs := C
  have hin : meth.name = "keep" := hin
  have hl : lv_has ls 4 [(0, .ref a), (1, .int p0), (2, .int p1)] := hl
  unfold X10_keep at he
  refine lv_aload_n C.1 C.2.1 dX10_keep_0 rfl (lv_at hl 0 rfl) ?_
  refine lv_iload_n C.1 C.2.1 dX10_keep_1 rfl (lv_at hl 1 rfl) ?_
  obtain ⟨z6, hz6, he⟩ := jq_b he
  obtain ⟨hz6c, hz6⟩ := jq_ite hz6
  refine jq_gi (jq_runV (a := a) (av := [.int p0]) C X (M_X10_isGuesser l bs D ct n h a p0 _ hz6) mf_X10_isGuesser gw_350 gs_16 (Or.inl gw_348) rc_X10 hz6c (by decide) rfl hl.1 rfl (Nat.le_of_ble_eq_true rfl) ⟨by decide, by decide⟩ ⟨by decide, by decide⟩ dX10_keep_2) X (fun H locs X => ?_)
  refine lv_if_eq (tgt := 17) C.1 C.2.1 dX10_keep_5 (by decide) (fun hc7 => ?_) (fun hc7 => ?_)
  · have he := jq_t hc7 he
    exact TX10_keep_b17 (n := n) C hr hlk X (lv_sub hl [] rfl) he
  · have he := jq_n hc7 he
    refine lv_iload_n C.1 C.2.1 dX10_keep_8 rfl (lv_at hl 2 rfl) ?_
    refine lv_iconst (v := 0) C.1 C.2.1 dX10_keep_9 (by decide) ?_
    refine lv_iconst (v := 1) C.1 C.2.1 dX10_keep_10 (by decide) ?_
    obtain ⟨z8, hz8, he⟩ := jq_b he
    refine jq_gi (jq_runS (av := [.int p1, .int 0, .int 1]) C X (M_X10_within l bs D ct n z6.2 p1 0 1 _ hz8) mf_X10_within gw_122 (Or.inl gw_121) rfl hl.1 rfl (Nat.le_of_ble_eq_true rfl) ⟨by decide, by decide⟩ ⟨by decide, by decide⟩ dX10_keep_11) X (fun H locs X => ?_)
    refine lv_if_ne (tgt := 19) C.1 C.2.1 dX10_keep_14 (by decide) (fun hc9 => ?_) (fun hc9 => ?_)
    · have he := jq_n hc9 he
      refine lv_aload_n C.1 C.2.1 dX10_keep_19 rfl (lv_at hl 0 rfl) ?_
      refine jq_rgR C X fs_X10_25 he dX10_keep_20 (fun q10 he => ?_)
      refine lv_iload_n C.1 C.2.1 dX10_keep_23 rfl (lv_at hl 1 rfl) ?_
      refine jq_rldN C X (Or.inl ⟨rfl, rfl⟩) he dX10_keep_24 (fun q11 he => ?_)
      refine jq_rgR C X fs_X10_157 he dX10_keep_25 (fun q12 he => ?_)
      refine lv_astore_n (lv' := [(3, .ref q12), (0, .ref a), (1, .int p0), (2, .int p1)]) C.1 C.2.1 dX10_keep_28 rfl hl (by decide) rfl (fun ls hl => ?_)
      refine lv_aload_n C.1 C.2.1 dX10_keep_29 rfl (lv_at hl 0 rfl) ?_
      refine lv_iload_n C.1 C.2.1 dX10_keep_30 rfl (lv_at hl 3 rfl) ?_
      refine jq_rldR C X (Or.inr ⟨rfl, rfl⟩) he dX10_keep_31 (fun o13 he => ?_)
      cases o13 with
      | none =>
        have he := jq_oN he
        show W p l e rm_X10_keep s m args below meth c H locs 0 0 (MQ below (jq_Qi bs D ct res) args s rm_X10_keep.cells rm_X10_keep.slots (fun q => bs ≤ q)) (F0 m 32 ls [.null])
        refine lv_ifnonnullN C.1 C.2.1 dX10_keep_32 ?_
        refine lv_aload_n C.1 C.2.1 dX10_keep_35 rfl (lv_at hl 0 rfl) ?_
        refine lv_iload_n C.1 C.2.1 dX10_keep_36 rfl (lv_at hl 3 rfl) ?_
        refine lv_aload_n C.1 C.2.1 dX10_keep_37 rfl (lv_at hl 1 rfl) ?_
        refine jq_rgR C X fs_X10_25 he dX10_keep_38 (fun q15 he => ?_)
        refine lv_iload_n C.1 C.2.1 dX10_keep_41 rfl (lv_at hl 2 rfl) ?_
        refine jq_rldN C X (Or.inl ⟨rfl, rfl⟩) he dX10_keep_42 (fun q16 he => ?_)
        refine jq_rgR C X fs_X10_112 he dX10_keep_43 (fun q17 he => ?_)
        obtain ⟨z18, hz18, he⟩ := jq_b he
        obtain ⟨hz18c, hz18⟩ := jq_ite hz18
        refine jq_gr (jq_runV (a := q17) (av := []) C X (M_X4_twin l bs D ct n z8.2 q17 _ hz18) mf_X4_twin gw_425 gs_18 (Or.inr ⟨_, gw_701⟩) rc_X4 hz18c (by decide) rfl hl.1 rfl (Nat.le_of_ble_eq_true rfl) ⟨by decide, by decide⟩ ⟨by decide, by decide⟩ dX10_keep_46) X (fun H locs X => ?_)
        refine jq_rstR C X (Or.inr ⟨rfl, rfl⟩) (fun ci hci => by obtain rfl := List.mem_singleton.mp hci; exact ⟨_, rfl, Or.inl rfl⟩) he dX10_keep_49 (fun h19 H locs he X => ?_)
        exact TX10_keep_b50 (n := n) C hr hlk X (lv_sub hl [1, 2, 3, 0] rfl) he
      | some q14 =>
        have he := jq_oS he
        show W p l e rm_X10_keep s m args below meth c H locs 0 0 (MQ below (jq_Qi bs D ct res) args s rm_X10_keep.cells rm_X10_keep.slots (fun q => bs ≤ q)) (F0 m 32 ls [.ref q14])
        refine lv_ifnonnull (tgt := 50) C.1 C.2.1 dX10_keep_32 (by decide) ?_
        refine W.widen (k := 6) (n := 1202) (by decide) (by decide) ?_
        exact TX10_keep_b50 (n := n) C hr hlk X (lv_sub hl [1, 2, 3, 0] rfl) he
    · have he := jq_t hc9 he
      exact TX10_keep_b17 (n := n) C hr hlk X (lv_sub hl [] rfl) he
set_option maxRecDepth 100000 in
set_option maxHeartbeats 4000000 in
theorem TX10_misses_b53 {p : Program} {l : Launch} {e : Env} {s : State} {m : MethodId} {args : Array Value} {below : List Frame} {meth : Method} {c : Code} {D : va_G} {ct : Nat → ClassId} {bs : Nat} {res : Int32 × jq_H} {n : Nat} (C : jq_C p s m args c cX10_misses 3 RX10 D ct bs) (hr : meth.sig.returnType = (some .int)) (hlk : meth.locks = false) {s0 : Int32} {h : jq_H} {H : Heap} {locs : List Loc} {ls : Array Slot} (X : jq_X bs D ct s.heap h H locs) (hl : lv_has ls 3 []) (he : X10_misses_b53 n s0 h = some res) :
    W p l e rm_X10_misses s m args below meth c H locs 0 0 (MQ below (jq_Qi bs D ct res) args s rm_X10_misses.cells rm_X10_misses.slots (fun q => bs ≤ q)) (F0 m 53 ls [.int s0]) := by
  unfold X10_misses_b53 at he
  exact jq_iret C X hr hlk he (by decide) (by decide) dX10_misses_53
set_option maxRecDepth 100000 in
set_option maxHeartbeats 4000000 in
theorem M_X10_misses (l : Launch) (bs : Nat) (D : va_G) (ct : Nat → ClassId) (n : Nat) (h : jq_H) (a : Nat) (p0 : Int32) (p1 : Int32) (res : Int32 × jq_H) (he : X10_misses n h a p0 p1 = some res) : jq_M l yX10_misses cX10_misses 3 (some .int) rm_X10_misses (jq_P [.ref a, .int p0, .int p1] bs D ct h) (jq_Qi bs D ct res) bs := by
  refine jq_start2 (by decide +kernel) (Nat.le_of_ble_eq_true rfl) ?_
  intro p e s m args below meth c ls H locs C hr hlk hin hl X
  have C : jq_C p s m args c cX10_misses 3 RX10 D ct bs := C
  have hin : meth.name = "misses" := hin
  have hl : lv_has ls 3 [(0, .ref a), (1, .int p0), (2, .int p1)] := hl
  unfold X10_misses at he
  refine lv_aload_n C.1 C.2.1 dX10_misses_0 rfl (lv_at hl 0 rfl) ?_
  refine lv_iload_n C.1 C.2.1 dX10_misses_1 rfl (lv_at hl 1 rfl) ?_
  obtain ⟨z1, hz1, he⟩ := jq_b he
  obtain ⟨hz1c, hz1⟩ := jq_ite hz1
  refine jq_gi (jq_runV (a := a) (av := [.int p0]) C X (M_X10_isGuesser l bs D ct n h a p0 _ hz1) mf_X10_isGuesser gw_350 gs_16 (Or.inl gw_348) rc_X10 hz1c (by decide) rfl hl.1 rfl (Nat.le_of_ble_eq_true rfl) ⟨by decide, by decide⟩ ⟨by decide, by decide⟩ dX10_misses_2) X (fun H locs X => ?_)
  refine lv_if_ne (tgt := 10) C.1 C.2.1 dX10_misses_5 (by decide) (fun hc2 => ?_) (fun hc2 => ?_)
  · have he := jq_n hc2 he
    refine lv_iload_n C.1 C.2.1 dX10_misses_10 rfl (lv_at hl 2 rfl) ?_
    refine lv_iconst (v := (-1)) C.1 C.2.1 dX10_misses_11 (by decide) ?_
    refine lv_icmp_ne (tgt := 28) C.1 C.2.1 dX10_misses_12 (by decide) (fun hc3 => ?_) (fun hc3 => ?_)
    · have he := jq_n hc3 he
      refine lv_iload_n C.1 C.2.1 dX10_misses_28 rfl (lv_at hl 2 rfl) ?_
      obtain ⟨z4, hz4, he⟩ := jq_b he
      refine jq_gi (jq_runS (av := [.int p1]) C X (M_X10_isPlace l bs D ct n z1.2 p1 _ hz4) mf_X10_isPlace gw_119 (Or.inl gw_118) rfl hl.1 rfl (Nat.le_of_ble_eq_true rfl) ⟨by decide, by decide⟩ ⟨by decide, by decide⟩ dX10_misses_29) X (fun H locs X => ?_)
      refine lv_if_eq (tgt := 52) C.1 C.2.1 dX10_misses_32 (by decide) (fun hc5 => ?_) (fun hc5 => ?_)
      · have he := jq_t hc5 he
        refine lv_iconst (v := (-1)) C.1 C.2.1 dX10_misses_52 (by decide) ?_
        exact TX10_misses_b53 (n := n) C hr hlk X (lv_sub hl [] rfl) he
      · have he := jq_n hc5 he
        refine lv_aload_n C.1 C.2.1 dX10_misses_35 rfl (lv_at hl 0 rfl) ?_
        refine jq_rgR C X fs_X10_25 he dX10_misses_36 (fun q6 he => ?_)
        refine lv_iload_n C.1 C.2.1 dX10_misses_39 rfl (lv_at hl 1 rfl) ?_
        refine jq_rldN C X (Or.inl ⟨rfl, rfl⟩) he dX10_misses_40 (fun q7 he => ?_)
        refine jq_rgR C X fs_X10_112 he dX10_misses_41 (fun q8 he => ?_)
        refine jq_rgR C X fs_X10_121 he dX10_misses_44 (fun q9 he => ?_)
        refine lv_iload_n C.1 C.2.1 dX10_misses_47 rfl (lv_at hl 2 rfl) ?_
        refine jq_rldI C X he dX10_misses_48 (fun x10 he => ?_)
        refine lv_goto (tgt := 53) C.1 C.2.1 dX10_misses_49 (by decide) ?_
        exact TX10_misses_b53 (n := n) C hr hlk X (lv_sub hl [] rfl) he
    · have he := jq_t hc3 he
      refine lv_aload_n C.1 C.2.1 dX10_misses_15 rfl (lv_at hl 0 rfl) ?_
      refine jq_rgR C X fs_X10_25 he dX10_misses_16 (fun q11 he => ?_)
      refine lv_iload_n C.1 C.2.1 dX10_misses_19 rfl (lv_at hl 1 rfl) ?_
      refine jq_rldN C X (Or.inl ⟨rfl, rfl⟩) he dX10_misses_20 (fun q12 he => ?_)
      refine jq_rgR C X fs_X10_112 he dX10_misses_21 (fun q13 he => ?_)
      refine jq_rgI C X fs_X10_116 he dX10_misses_24 (fun x14 he => ?_)
      exact jq_iret C X hr hlk he (by decide) (by decide) dX10_misses_27
  · have he := jq_t hc2 he
    refine lv_iconst (v := (-1)) C.1 C.2.1 dX10_misses_8 (by decide) ?_
    exact jq_iret C X hr hlk he (by decide) (by decide) dX10_misses_9
set_option maxRecDepth 100000 in
set_option maxHeartbeats 4000000 in
theorem M_X7_count (l : Launch) (bs : Nat) (D : va_G) (ct : Nat → ClassId) (n : Nat) (h : jq_H) (a : Nat) (p0 : Int32) (p1 : Int32) (res : Int32 × jq_H) (he : X7_count n h a p0 p1 = some res) : jq_M l yX7_count cX7_count 3 (some .int) rm_X7_count (jq_P [.ref a, .int p0, .int p1] bs D ct h) (jq_Qi bs D ct res) bs := by
  refine jq_start2 (by decide +kernel) (Nat.le_of_ble_eq_true rfl) ?_
  intro p e s m args below meth c ls H locs C hr hlk hin hl X
  have C : jq_C p s m args c cX7_count 3 RX7 D ct bs := C
  have hin : meth.name = "count" := hin
  have hl : lv_has ls 3 [(0, .ref a), (1, .int p0), (2, .int p1)] := hl
  unfold X7_count at he
  refine lv_aload_n C.1 C.2.1 dX7_count_0 rfl (lv_at hl 0 rfl) ?_
  refine jq_rgR C X fs_X7_15 he dX7_count_1 (fun q1 he => ?_)
  refine lv_iconst (v := 2) C.1 C.2.1 dX7_count_4 (by decide) ?_
  refine lv_iload_n C.1 C.2.1 dX7_count_5 rfl (lv_at hl 1 rfl) ?_
  refine lv_imul C.1 C.2.1 dX7_count_6 ?_
  refine lv_iload_n C.1 C.2.1 dX7_count_7 rfl (lv_at hl 2 rfl) ?_
  refine lv_iadd C.1 C.2.1 dX7_count_8 ?_
  refine jq_rldI C X he dX7_count_9 (fun x2 he => ?_)
  exact jq_iret C X hr hlk he (by decide) (by decide) dX7_count_10
set_option maxRecDepth 100000 in
set_option maxHeartbeats 4000000 in
theorem TX10_often_b55 {p : Program} {l : Launch} {e : Env} {s : State} {m : MethodId} {args : Array Value} {below : List Frame} {meth : Method} {c : Code} {D : va_G} {ct : Nat → ClassId} {bs : Nat} {res : Int32 × jq_H} {n : Nat} (C : jq_C p s m args c cX10_often 3 RX10 D ct bs) (hr : meth.sig.returnType = (some .int)) (hlk : meth.locks = false) {s0 : Int32} {h : jq_H} {H : Heap} {locs : List Loc} {ls : Array Slot} (X : jq_X bs D ct s.heap h H locs) (hl : lv_has ls 3 []) (he : X10_often_b55 n s0 h = some res) :
    W p l e rm_X10_often s m args below meth c H locs 0 0 (MQ below (jq_Qi bs D ct res) args s rm_X10_often.cells rm_X10_often.slots (fun q => bs ≤ q)) (F0 m 55 ls [.int s0]) := by
  unfold X10_often_b55 at he
  exact jq_iret C X hr hlk he (by decide) (by decide) dX10_often_55
set_option maxRecDepth 100000 in
set_option maxHeartbeats 4000000 in
theorem M_X10_often (l : Launch) (bs : Nat) (D : va_G) (ct : Nat → ClassId) (n : Nat) (h : jq_H) (a : Nat) (p0 : Int32) (p1 : Int32) (res : Int32 × jq_H) (he : X10_often n h a p0 p1 = some res) : jq_M l yX10_often cX10_often 3 (some .int) rm_X10_often (jq_P [.ref a, .int p0, .int p1] bs D ct h) (jq_Qi bs D ct res) bs := by
  refine jq_start2 (by decide +kernel) (Nat.le_of_ble_eq_true rfl) ?_
  intro p e s m args below meth c ls H locs C hr hlk hin hl X
  have C : jq_C p s m args c cX10_often 3 RX10 D ct bs := C
  have hin : meth.name = "often" := hin
  have hl : lv_has ls 3 [(0, .ref a), (1, .int p0), (2, .int p1)] := hl
  unfold X10_often at he
  refine lv_iload_n C.1 C.2.1 dX10_often_0 rfl (lv_at hl 1 rfl) ?_
  obtain ⟨z1, hz1, he⟩ := jq_b he
  refine jq_gi (jq_runS (av := [.int p0]) C X (M_X10_isPlace l bs D ct n h p0 _ hz1) mf_X10_isPlace gw_119 (Or.inl gw_118) rfl hl.1 rfl (Nat.le_of_ble_eq_true rfl) ⟨by decide, by decide⟩ ⟨by decide, by decide⟩ dX10_often_1) X (fun H locs X => ?_)
  refine lv_if_ne (tgt := 9) C.1 C.2.1 dX10_often_4 (by decide) (fun hc2 => ?_) (fun hc2 => ?_)
  · have he := jq_n hc2 he
    refine lv_iload_n C.1 C.2.1 dX10_often_9 rfl (lv_at hl 2 rfl) ?_
    refine lv_iconst (v := (-1)) C.1 C.2.1 dX10_often_10 (by decide) ?_
    refine lv_icmp_ne (tgt := 34) C.1 C.2.1 dX10_often_11 (by decide) (fun hc3 => ?_) (fun hc3 => ?_)
    · have he := jq_n hc3 he
      refine lv_iload_n C.1 C.2.1 dX10_often_34 rfl (lv_at hl 2 rfl) ?_
      obtain ⟨z4, hz4, he⟩ := jq_b he
      refine jq_gi (jq_runS (av := [.int p1]) C X (M_X10_isWay l bs D ct n z1.2 p1 _ hz4) mf_X10_isWay gw_330 (Or.inl gw_329) rfl hl.1 rfl (Nat.le_of_ble_eq_true rfl) ⟨by decide, by decide⟩ ⟨by decide, by decide⟩ dX10_often_35) X (fun H locs X => ?_)
      refine lv_if_eq (tgt := 53) C.1 C.2.1 dX10_often_38 (by decide) (fun hc5 => ?_) (fun hc5 => ?_)
      · have he := jq_t hc5 he
        refine lv_bipush (v := (-2)) C.1 C.2.1 dX10_often_53 (by decide) ?_
        exact TX10_often_b55 (n := n) C hr hlk X (lv_sub hl [] rfl) he
      · have he := jq_n hc5 he
        refine lv_aload_n C.1 C.2.1 dX10_often_41 rfl (lv_at hl 0 rfl) ?_
        refine jq_rgR C X fs_X10_19 he dX10_often_42 (fun q6 he => ?_)
        refine lv_iload_n C.1 C.2.1 dX10_often_45 rfl (lv_at hl 1 rfl) ?_
        refine lv_iload_n C.1 C.2.1 dX10_often_46 rfl (lv_at hl 2 rfl) ?_
        obtain ⟨z7, hz7, he⟩ := jq_b he
        obtain ⟨hz7c, hz7⟩ := jq_ite hz7
        refine jq_gi (jq_runV (a := q6) (av := [.int p0, .int p1]) C X (M_X7_count l bs D ct n z4.2 q6 p0 p1 _ hz7) mf_X7_count gw_615 gs_21 (Or.inr ⟨_, gw_733⟩) rc_X7 hz7c (by decide) rfl hl.1 rfl (Nat.le_of_ble_eq_true rfl) ⟨by decide, by decide⟩ ⟨by decide, by decide⟩ dX10_often_47) X (fun H locs X => ?_)
        refine lv_goto (tgt := 55) C.1 C.2.1 dX10_often_50 (by decide) ?_
        exact TX10_often_b55 (n := n) C hr hlk X (lv_sub hl [] rfl) he
    · have he := jq_t hc3 he
      refine lv_aload_n C.1 C.2.1 dX10_often_14 rfl (lv_at hl 0 rfl) ?_
      refine jq_rgR C X fs_X10_19 he dX10_often_15 (fun q8 he => ?_)
      refine lv_iload_n C.1 C.2.1 dX10_often_18 rfl (lv_at hl 1 rfl) ?_
      refine lv_iconst (v := 0) C.1 C.2.1 dX10_often_19 (by decide) ?_
      obtain ⟨z9, hz9, he⟩ := jq_b he
      obtain ⟨hz9c, hz9⟩ := jq_ite hz9
      refine jq_gi (jq_runV (a := q8) (av := [.int p0, .int 0]) C X (M_X7_count l bs D ct n z1.2 q8 p0 0 _ hz9) mf_X7_count gw_615 gs_21 (Or.inr ⟨_, gw_733⟩) rc_X7 hz9c (by decide) rfl hl.1 rfl (Nat.le_of_ble_eq_true rfl) ⟨by decide, by decide⟩ ⟨by decide, by decide⟩ dX10_often_20) X (fun H locs X => ?_)
      refine lv_aload_n C.1 C.2.1 dX10_often_23 rfl (lv_at hl 0 rfl) ?_
      refine jq_rgR C X fs_X10_19 he dX10_often_24 (fun q10 he => ?_)
      refine lv_iload_n C.1 C.2.1 dX10_often_27 rfl (lv_at hl 1 rfl) ?_
      refine lv_iconst (v := 1) C.1 C.2.1 dX10_often_28 (by decide) ?_
      obtain ⟨z11, hz11, he⟩ := jq_b he
      obtain ⟨hz11c, hz11⟩ := jq_ite hz11
      refine jq_gi (jq_runV (a := q10) (av := [.int p0, .int 1]) C X (M_X7_count l bs D ct n z9.2 q10 p0 1 _ hz11) mf_X7_count gw_615 gs_21 (Or.inr ⟨_, gw_733⟩) rc_X7 hz11c (by decide) rfl hl.1 rfl (Nat.le_of_ble_eq_true rfl) ⟨by decide, by decide⟩ ⟨by decide, by decide⟩ dX10_often_29) X (fun H locs X => ?_)
      refine lv_iadd C.1 C.2.1 dX10_often_32 ?_
      exact jq_iret C X hr hlk he (by decide) (by decide) dX10_often_33
  · have he := jq_t hc2 he
    refine lv_iconst (v := (-1)) C.1 C.2.1 dX10_often_7 (by decide) ?_
    exact jq_iret C X hr hlk he (by decide) (by decide) dX10_often_8
set_option maxRecDepth 100000 in
set_option maxHeartbeats 4000000 in
theorem M_X6_write (l : Launch) (bs : Nat) (D : va_G) (ct : Nat → ClassId) (n : Nat) (h : jq_H) (a : Nat) (p0 : Int32) (p1 : Int32) (p2 : Int32) (p3 : Int32) (p4 : Int32) (res : jq_H) (he : X6_write n h a p0 p1 p2 p3 p4 = some res) : jq_M l yX6_write cX6_write 6 none rm_X6_write (jq_P [.ref a, .int p0, .int p1, .int p2, .int p3, .int p4] bs D ct h) (jq_Qv bs D ct res) bs := by
  refine jq_start2 (by decide +kernel) (Nat.le_of_ble_eq_true rfl) ?_
  intro p e s m args below meth c ls H locs C hr hlk hin hl X
  have C : jq_C p s m args c cX6_write 6 RX6 D ct bs := C
  have hin : meth.name = "write" := hin
  have hl : lv_has ls 6 [(0, .ref a), (1, .int p0), (2, .int p1), (3, .int p2), (4, .int p3), (5, .int p4)] := hl
  unfold X6_write at he
  refine lv_aload_n C.1 C.2.1 dX6_write_0 rfl (lv_at hl 0 rfl) ?_
  refine jq_rgR C X fs_X6_9 he dX6_write_1 (fun q1 he => ?_)
  refine lv_iload_n C.1 C.2.1 dX6_write_4 rfl (lv_at hl 1 rfl) ?_
  refine lv_iload_n C.1 C.2.1 dX6_write_5 rfl (lv_at hl 2 rfl) ?_
  refine jq_rstI C X he dX6_write_6 (fun h2 H locs he X => ?_)
  refine lv_aload_n C.1 C.2.1 dX6_write_7 rfl (lv_at hl 0 rfl) ?_
  refine jq_rgR C X fs_X6_15 he dX6_write_8 (fun q3 he => ?_)
  refine lv_iload_n C.1 C.2.1 dX6_write_11 rfl (lv_at hl 1 rfl) ?_
  refine lv_iload_n C.1 C.2.1 dX6_write_12 rfl (lv_at hl 3 rfl) ?_
  refine jq_rstI C X he dX6_write_13 (fun h4 H locs he X => ?_)
  refine lv_aload_n C.1 C.2.1 dX6_write_14 rfl (lv_at hl 0 rfl) ?_
  refine jq_rgR C X fs_X6_18 he dX6_write_15 (fun q5 he => ?_)
  refine lv_iload_n C.1 C.2.1 dX6_write_18 rfl (lv_at hl 1 rfl) ?_
  refine lv_iload C.1 C.2.1 dX6_write_19 (lv_at hl 4 rfl) ?_
  refine jq_rstI C X he dX6_write_21 (fun h6 H locs he X => ?_)
  refine lv_aload_n C.1 C.2.1 dX6_write_22 rfl (lv_at hl 0 rfl) ?_
  refine jq_rgR C X fs_X6_21 he dX6_write_23 (fun q7 he => ?_)
  refine lv_iload_n C.1 C.2.1 dX6_write_26 rfl (lv_at hl 1 rfl) ?_
  refine lv_iload C.1 C.2.1 dX6_write_27 (lv_at hl 5 rfl) ?_
  refine jq_rstI C X he dX6_write_29 (fun h8 H locs he X => ?_)
  exact jq_vret C X hr hlk he (by decide) (by decide) dX6_write_30
set_option maxRecDepth 100000 in
set_option maxHeartbeats 4000000 in
theorem TX10_op_b54 {p : Program} {l : Launch} {e : Env} {s : State} {m : MethodId} {args : Array Value} {below : List Frame} {meth : Method} {c : Code} {D : va_G} {ct : Nat → ClassId} {bs : Nat} {res : Int32 × jq_H} {n : Nat} (C : jq_C p s m args c cX10_op 7 RX10 D ct bs) (hr : meth.sig.returnType = (some .int)) (hlk : meth.locks = false) {v0 : Nat} {v1 : Int32} {v2 : Int32} {v3 : Int32} {v4 : Int32} {v5 : Int32} {h : jq_H} {H : Heap} {locs : List Loc} {ls : Array Slot} (X : jq_X bs D ct s.heap h H locs) (hl : lv_has ls 7 [(0, .ref v0), (1, .int v1), (2, .int v2), (3, .int v3), (4, .int v4), (5, .int v5)]) (he : X10_op_b54 n v0 v1 v2 v3 v4 v5 h = some res) :
    W p l e rm_X10_op s m args below meth c H locs 0 0 (MQ below (jq_Qi bs D ct res) args s rm_X10_op.cells rm_X10_op.slots (fun q => bs ≤ q)) (F0 m 54 ls []) := by
  unfold X10_op_b54 at he
  refine lv_aload_n C.1 C.2.1 dX10_op_54 rfl (lv_at hl 0 rfl) ?_
  refine jq_rgR C X fs_X10_12 he dX10_op_55 (fun q1 he => ?_)
  refine jq_rgR C X fs_X10_40 he dX10_op_58 (fun q2 he => ?_)
  refine lv_iload_n C.1 C.2.1 dX10_op_61 rfl (lv_at hl 1 rfl) ?_
  refine jq_rldI C X he dX10_op_62 (fun x3 he => ?_)
  refine lv_istore (lv' := [(6, .int x3), (0, .ref v0), (1, .int v1), (2, .int v2), (3, .int v3), (4, .int v4), (5, .int v5)]) C.1 C.2.1 dX10_op_63 hl (by decide) rfl (fun ls hl => ?_)
  refine lv_aload_n C.1 C.2.1 dX10_op_65 rfl (lv_at hl 1 rfl) ?_
  refine jq_rgR C X fs_X10_12 he dX10_op_66 (fun q4 he => ?_)
  refine lv_iload_n C.1 C.2.1 dX10_op_69 rfl (lv_at hl 2 rfl) ?_
  refine lv_iload_n C.1 C.2.1 dX10_op_70 rfl (lv_at hl 3 rfl) ?_
  refine lv_iload_n C.1 C.2.1 dX10_op_71 rfl (lv_at hl 4 rfl) ?_
  refine lv_iload C.1 C.2.1 dX10_op_72 (lv_at hl 5 rfl) ?_
  refine lv_iload C.1 C.2.1 dX10_op_74 (lv_at hl 6 rfl) ?_
  obtain ⟨z5, hz5, he⟩ := jq_b he
  obtain ⟨hz5c, hz5⟩ := jq_ite hz5
  refine jq_gv (jq_runV (a := q4) (av := [.int v1, .int v2, .int v3, .int v4, .int v5]) C X (M_X6_write l bs D ct n h q4 v1 v2 v3 v4 v5 _ hz5) mf_X6_write gw_129 gs_0 (Or.inr ⟨_, gw_127⟩) rc_X6 hz5c (by decide) rfl hl.1 rfl (Nat.le_of_ble_eq_true rfl) ⟨by decide, by decide⟩ ⟨by decide, by decide⟩ dX10_op_76) X (fun H locs X => ?_)
  refine lv_iload C.1 C.2.1 dX10_op_79 (lv_at hl 0 rfl) ?_
  exact jq_iret C X hr hlk he (by decide) (by decide) dX10_op_81
set_option maxRecDepth 100000 in
set_option maxHeartbeats 4000000 in
theorem TX10_op_b34 {p : Program} {l : Launch} {e : Env} {s : State} {m : MethodId} {args : Array Value} {below : List Frame} {meth : Method} {c : Code} {D : va_G} {ct : Nat → ClassId} {bs : Nat} {res : Int32 × jq_H} {n : Nat} (C : jq_C p s m args c cX10_op 7 RX10 D ct bs) (hr : meth.sig.returnType = (some .int)) (hlk : meth.locks = false) {h : jq_H} {H : Heap} {locs : List Loc} {ls : Array Slot} (X : jq_X bs D ct s.heap h H locs) (hl : lv_has ls 7 []) (he : X10_op_b34 n h = some res) :
    W p l e rm_X10_op s m args below meth c H locs 0 0 (MQ below (jq_Qi bs D ct res) args s rm_X10_op.cells rm_X10_op.slots (fun q => bs ≤ q)) (F0 m 34 ls []) := by
  unfold X10_op_b34 at he
  refine lv_bipush (v := (-2)) C.1 C.2.1 dX10_op_34 (by decide) ?_
  exact jq_iret C X hr hlk he (by decide) (by decide) dX10_op_36
set_option maxRecDepth 100000 in
set_option maxHeartbeats 4000000 in
theorem M_X10_op (l : Launch) (bs : Nat) (D : va_G) (ct : Nat → ClassId) (n : Nat) (h : jq_H) (a : Nat) (p0 : Int32) (p1 : Int32) (p2 : Int32) (p3 : Int32) (p4 : Int32) (res : Int32 × jq_H) (he : X10_op n h a p0 p1 p2 p3 p4 = some res) : jq_M l yX10_op cX10_op 7 (some .int) rm_X10_op (jq_P [.ref a, .int p0, .int p1, .int p2, .int p3, .int p4] bs D ct h) (jq_Qi bs D ct res) bs := by
  refine jq_start2 (by decide +kernel) (Nat.le_of_ble_eq_true rfl) ?_
  intro p e s m args below meth c ls H locs C hr hlk hin hl X
  have C : jq_C p s m args c cX10_op 7 RX10 D ct bs := C
  have hin : meth.name = "op" := hin
  have hl : lv_has ls 7 [(0, .ref a), (1, .int p0), (2, .int p1), (3, .int p2), (4, .int p3), (5, .int p4)] := hl
  unfold X10_op at he
  refine lv_iload_n C.1 C.2.1 dX10_op_0 rfl (lv_at hl 1 rfl) ?_
  obtain ⟨z6, hz6, he⟩ := jq_b he
  refine jq_gi (jq_runS (av := [.int p0]) C X (M_X10_isPlace l bs D ct n h p0 _ hz6) mf_X10_isPlace gw_119 (Or.inl gw_118) rfl hl.1 rfl (Nat.le_of_ble_eq_true rfl) ⟨by decide, by decide⟩ ⟨by decide, by decide⟩ dX10_op_1) X (fun H locs X => ?_)
  refine lv_if_ne (tgt := 9) C.1 C.2.1 dX10_op_4 (by decide) (fun hc7 => ?_) (fun hc7 => ?_)
  · have he := jq_n hc7 he
    refine lv_iload_n C.1 C.2.1 dX10_op_9 rfl (lv_at hl 2 rfl) ?_
    refine lv_iconst (v := 0) C.1 C.2.1 dX10_op_10 (by decide) ?_
    refine lv_bipush (v := 12) C.1 C.2.1 dX10_op_11 (by decide) ?_
    obtain ⟨z8, hz8, he⟩ := jq_b he
    refine jq_gi (jq_runS (av := [.int p1, .int 0, .int 12]) C X (M_X10_within l bs D ct n z6.2 p1 0 12 _ hz8) mf_X10_within gw_122 (Or.inl gw_121) rfl hl.1 rfl (Nat.le_of_ble_eq_true rfl) ⟨by decide, by decide⟩ ⟨by decide, by decide⟩ dX10_op_13) X (fun H locs X => ?_)
    refine lv_if_eq (tgt := 34) C.1 C.2.1 dX10_op_16 (by decide) (fun hc9 => ?_) (fun hc9 => ?_)
    · have he := jq_t hc9 he
      exact TX10_op_b34 (n := n) C hr hlk X (lv_sub hl [] rfl) he
    · have he := jq_n hc9 he
      refine lv_iload_n C.1 C.2.1 dX10_op_19 rfl (lv_at hl 3 rfl) ?_
      obtain ⟨z10, hz10, he⟩ := jq_b he
      refine jq_gi (jq_runS (av := [.int p2]) C X (M_X10_isRegister l bs D ct n z8.2 p2 _ hz10) mf_X10_isRegister gw_125 (Or.inl gw_124) rfl hl.1 rfl (Nat.le_of_ble_eq_true rfl) ⟨by decide, by decide⟩ ⟨by decide, by decide⟩ dX10_op_20) X (fun H locs X => ?_)
      refine lv_if_eq (tgt := 34) C.1 C.2.1 dX10_op_23 (by decide) (fun hc11 => ?_) (fun hc11 => ?_)
      · have he := jq_t hc11 he
        exact TX10_op_b34 (n := n) C hr hlk X (lv_sub hl [] rfl) he
      · have he := jq_n hc11 he
        refine lv_iload C.1 C.2.1 dX10_op_26 (lv_at hl 4 rfl) ?_
        obtain ⟨z12, hz12, he⟩ := jq_b he
        refine jq_gi (jq_runS (av := [.int p3]) C X (M_X10_isRegister l bs D ct n z10.2 p3 _ hz12) mf_X10_isRegister gw_125 (Or.inl gw_124) rfl hl.1 rfl (Nat.le_of_ble_eq_true rfl) ⟨by decide, by decide⟩ ⟨by decide, by decide⟩ dX10_op_28) X (fun H locs X => ?_)
        refine lv_if_ne (tgt := 37) C.1 C.2.1 dX10_op_31 (by decide) (fun hc13 => ?_) (fun hc13 => ?_)
        · have he := jq_n hc13 he
          refine lv_iload_n C.1 C.2.1 dX10_op_37 rfl (lv_at hl 2 rfl) ?_
          refine lv_bipush (v := 9) C.1 C.2.1 dX10_op_38 (by decide) ?_
          refine lv_icmp_lt (tgt := 54) C.1 C.2.1 dX10_op_40 (by decide) (fun hc14 => ?_) (fun hc14 => ?_)
          · have he := jq_t hc14 he
            exact TX10_op_b54 (n := n) C hr hlk X (lv_sub hl [0, 1, 2, 3, 4, 5] rfl) he
          · have he := jq_n hc14 he
            refine lv_iload C.1 C.2.1 dX10_op_43 (lv_at hl 5 rfl) ?_
            obtain ⟨z15, hz15, he⟩ := jq_b he
            refine jq_gi (jq_runS (av := [.int p4]) C X (M_X10_isPlace l bs D ct n z12.2 p4 _ hz15) mf_X10_isPlace gw_119 (Or.inl gw_118) rfl hl.1 rfl (Nat.le_of_ble_eq_true rfl) ⟨by decide, by decide⟩ ⟨by decide, by decide⟩ dX10_op_45) X (fun H locs X => ?_)
            refine lv_if_ne (tgt := 54) C.1 C.2.1 dX10_op_48 (by decide) (fun hc16 => ?_) (fun hc16 => ?_)
            · have he := jq_n hc16 he
              exact TX10_op_b54 (n := n) C hr hlk X (lv_sub hl [0, 1, 2, 3, 4, 5] rfl) he
            · have he := jq_t hc16 he
              refine lv_bipush (v := (-2)) C.1 C.2.1 dX10_op_51 (by decide) ?_
              exact jq_iret C X hr hlk he (by decide) (by decide) dX10_op_53
        · have he := jq_t hc13 he
          exact TX10_op_b34 (n := n) C hr hlk X (lv_sub hl [] rfl) he
  · have he := jq_t hc7 he
    refine lv_iconst (v := (-1)) C.1 C.2.1 dX10_op_7 (by decide) ?_
    exact jq_iret C X hr hlk he (by decide) (by decide) dX10_op_8
set_option maxRecDepth 100000 in
set_option maxHeartbeats 4000000 in
theorem TX10_pair_b60 {p : Program} {l : Launch} {e : Env} {s : State} {m : MethodId} {args : Array Value} {below : List Frame} {meth : Method} {c : Code} {D : va_G} {ct : Nat → ClassId} {bs : Nat} {res : Int32 × jq_H} {n : Nat} (C : jq_C p s m args c cX10_pair 4 RX10 D ct bs) (hr : meth.sig.returnType = (some .int)) (hlk : meth.locks = false) {s0 : Int32} {h : jq_H} {H : Heap} {locs : List Loc} {ls : Array Slot} (X : jq_X bs D ct s.heap h H locs) (hl : lv_has ls 4 []) (he : X10_pair_b60 n s0 h = some res) :
    W p l e rm_X10_pair s m args below meth c H locs 0 0 (MQ below (jq_Qi bs D ct res) args s rm_X10_pair.cells rm_X10_pair.slots (fun q => bs ≤ q)) (F0 m 60 ls [.int s0]) := by
  unfold X10_pair_b60 at he
  exact jq_iret C X hr hlk he (by decide) (by decide) dX10_pair_60
set_option maxRecDepth 100000 in
set_option maxHeartbeats 4000000 in
theorem M_X10_pair (l : Launch) (bs : Nat) (D : va_G) (ct : Nat → ClassId) (n : Nat) (h : jq_H) (a : Nat) (p0 : Int32) (p1 : Int32) (res : Int32 × jq_H) (he : X10_pair n h a p0 p1 = some res) : jq_M l yX10_pair cX10_pair 4 (some .int) rm_X10_pair (jq_P [.ref a, .int p0, .int p1] bs D ct h) (jq_Qi bs D ct res) bs := by
  refine jq_start2 (by decide +kernel) (Nat.le_of_ble_eq_true rfl) ?_
  intro p e s m args below meth c ls H locs C hr hlk hin hl X
  have C : jq_C p s m args c cX10_pair 4 RX10 D ct bs := C
  have hin : meth.name = "pair" := hin
  have hl : lv_has ls 4 [(0, .ref a), (1, .int p0), (2, .int p1)] := hl
  unfold X10_pair at he
  refine lv_aload_n C.1 C.2.1 dX10_pair_0 rfl (lv_at hl 0 rfl) ?_
  refine lv_iload_n C.1 C.2.1 dX10_pair_1 rfl (lv_at hl 1 rfl) ?_
  obtain ⟨z1, hz1, he⟩ := jq_b he
  obtain ⟨hz1c, hz1⟩ := jq_ite hz1
  refine jq_gi (jq_runV (a := a) (av := [.int p0]) C X (M_X10_isGuesser l bs D ct n h a p0 _ hz1) mf_X10_isGuesser gw_350 gs_16 (Or.inl gw_348) rc_X10 hz1c (by decide) rfl hl.1 rfl (Nat.le_of_ble_eq_true rfl) ⟨by decide, by decide⟩ ⟨by decide, by decide⟩ dX10_pair_2) X (fun H locs X => ?_)
  refine lv_if_ne (tgt := 10) C.1 C.2.1 dX10_pair_5 (by decide) (fun hc2 => ?_) (fun hc2 => ?_)
  · have he := jq_n hc2 he
    refine lv_aload_n C.1 C.2.1 dX10_pair_10 rfl (lv_at hl 0 rfl) ?_
    refine jq_rgR C X fs_X10_25 he dX10_pair_11 (fun q3 he => ?_)
    refine lv_iload_n C.1 C.2.1 dX10_pair_14 rfl (lv_at hl 1 rfl) ?_
    refine jq_rldN C X (Or.inl ⟨rfl, rfl⟩) he dX10_pair_15 (fun q4 he => ?_)
    obtain ⟨z5, hz5, he⟩ := jq_b he
    have hrun : va_Run p l e rm_X10_pair s m args below meth c H locs 0 0 0 0 (F0 m 16 ls [.ref q4]) [] (jq_Qi bs D ct z5 (Value.ref q4 :: []).toArray) (fun q => bs ≤ q) := by
      unfold V_canClash at hz5
      by_cases hci0 : jq_ci z1.2 q4 = 0
      · exact jq_runU (a := q4) (av := []) (x := ⟨"WayGuesses$Guesser", "canClash", "()Z"⟩) (owner := "WayGuesses$Guesser") (E := RX0) C X (M_X3_canClash l bs D ct n z1.2 q4 _ (jq_t hci0 hz5)) mf_X3_canClash gw_630 gw_632 gw_629 gw_631 (Or.inl ⟨_, _, _, gw_630, gw_638⟩) rfl ⟨by decide, by decide⟩ rc_X0 hci0 (by decide) rfl hl.1 rfl (Nat.le_of_ble_eq_true rfl) ⟨by decide, by decide⟩ ⟨by decide, by decide⟩ dX10_pair_16
      have hz5 := jq_n hci0 hz5
      by_cases hci1 : jq_ci z1.2 q4 = 1
      · exact jq_runU (a := q4) (av := []) (x := ⟨"WayGuesses$Guesser", "canClash", "()Z"⟩) (owner := "WayGuesses$Guesser") (E := RX1) C X (M_X3_canClash l bs D ct n z1.2 q4 _ (jq_t hci1 hz5)) mf_X3_canClash gw_630 gw_633 gw_629 gw_631 (Or.inl ⟨_, _, _, gw_630, gw_638⟩) rfl ⟨by decide, by decide⟩ rc_X1 hci1 (by decide) rfl hl.1 rfl (Nat.le_of_ble_eq_true rfl) ⟨by decide, by decide⟩ ⟨by decide, by decide⟩ dX10_pair_16
      have hz5 := jq_n hci1 hz5
      by_cases hci2 : jq_ci z1.2 q4 = 2
      · exact jq_runU (a := q4) (av := []) (x := ⟨"WayGuesses$Guesser", "canClash", "()Z"⟩) (owner := "WayGuesses$Guesser") (E := RX2) C X (M_X3_canClash l bs D ct n z1.2 q4 _ (jq_t hci2 hz5)) mf_X3_canClash gw_630 gw_634 gw_629 gw_631 (Or.inl ⟨_, _, _, gw_630, gw_638⟩) rfl ⟨by decide, by decide⟩ rc_X2 hci2 (by decide) rfl hl.1 rfl (Nat.le_of_ble_eq_true rfl) ⟨by decide, by decide⟩ ⟨by decide, by decide⟩ dX10_pair_16
      have hz5 := jq_n hci2 hz5
      by_cases hci4 : jq_ci z1.2 q4 = 4
      · exact jq_runU (a := q4) (av := []) (x := ⟨"WayGuesses$Guesser", "canClash", "()Z"⟩) (owner := "WayGuesses$Guesser") (E := RX5) C X (M_X3_canClash l bs D ct n z1.2 q4 _ (jq_t hci4 hz5)) mf_X3_canClash gw_630 gw_635 gw_629 gw_631 (Or.inl ⟨_, _, _, gw_630, gw_638⟩) rfl ⟨by decide, by decide⟩ rc_X5 hci4 (by decide) rfl hl.1 rfl (Nat.le_of_ble_eq_true rfl) ⟨by decide, by decide⟩ ⟨by decide, by decide⟩ dX10_pair_16
      have hz5 := jq_n hci4 hz5
      by_cases hci7 : jq_ci z1.2 q4 = 7
      · exact jq_runU (a := q4) (av := []) (x := ⟨"WayGuesses$Guesser", "canClash", "()Z"⟩) (owner := "WayGuesses$Guesser") (E := RX8) C X (M_X3_canClash l bs D ct n z1.2 q4 _ (jq_t hci7 hz5)) mf_X3_canClash gw_630 gw_636 gw_629 gw_631 (Or.inl ⟨_, _, _, gw_630, gw_638⟩) rfl ⟨by decide, by decide⟩ rc_X8 hci7 (by decide) rfl hl.1 rfl (Nat.le_of_ble_eq_true rfl) ⟨by decide, by decide⟩ ⟨by decide, by decide⟩ dX10_pair_16
      have hz5 := jq_n hci7 hz5
      by_cases hci8 : jq_ci z1.2 q4 = 8
      · exact jq_runU (a := q4) (av := []) (x := ⟨"WayGuesses$Guesser", "canClash", "()Z"⟩) (owner := "WayGuesses$Guesser") (E := RX9) C X (M_X3_canClash l bs D ct n z1.2 q4 _ (jq_t hci8 hz5)) mf_X3_canClash gw_630 gw_637 gw_629 gw_631 (Or.inl ⟨_, _, _, gw_630, gw_638⟩) rfl ⟨by decide, by decide⟩ rc_X9 hci8 (by decide) rfl hl.1 rfl (Nat.le_of_ble_eq_true rfl) ⟨by decide, by decide⟩ ⟨by decide, by decide⟩ dX10_pair_16
      have hz5 := jq_n hci8 hz5
      cases hz5
    refine jq_gi (hrun) X (fun H locs X => ?_)
    refine lv_if_ne (tgt := 25) C.1 C.2.1 dX10_pair_19 (by decide) (fun hc6 => ?_) (fun hc6 => ?_)
    · have he := jq_n hc6 he
      refine lv_aload_n C.1 C.2.1 dX10_pair_25 rfl (lv_at hl 0 rfl) ?_
      refine jq_rgR C X fs_X10_25 he dX10_pair_26 (fun q7 he => ?_)
      refine lv_iload_n C.1 C.2.1 dX10_pair_29 rfl (lv_at hl 1 rfl) ?_
      refine jq_rldN C X (Or.inl ⟨rfl, rfl⟩) he dX10_pair_30 (fun q8 he => ?_)
      refine jq_rgR C X fs_X10_112 he dX10_pair_31 (fun q9 he => ?_)
      refine lv_astore_n (lv' := [(3, .ref q9), (0, .ref a), (1, .int p0), (2, .int p1)]) C.1 C.2.1 dX10_pair_34 rfl hl (by decide) rfl (fun ls hl => ?_)
      refine lv_iload_n C.1 C.2.1 dX10_pair_35 rfl (lv_at hl 3 rfl) ?_
      refine lv_iconst (v := 0) C.1 C.2.1 dX10_pair_36 (by decide) ?_
      refine lv_aload_n C.1 C.2.1 dX10_pair_37 rfl (lv_at hl 0 rfl) ?_
      refine jq_rgI C X fs_X10_134 he dX10_pair_38 (fun x10 he => ?_)
      refine lv_iconst (v := 1) C.1 C.2.1 dX10_pair_41 (by decide) ?_
      refine lv_isub C.1 C.2.1 dX10_pair_42 ?_
      obtain ⟨z11, hz11, he⟩ := jq_b he
      refine jq_gi (jq_runS (av := [.int p1, .int 0, .int (x10 - 1)]) C X (M_X10_within l bs D ct n z5.2 p1 0 (x10 - 1) _ hz11) mf_X10_within gw_122 (Or.inl gw_121) rfl hl.1 rfl (Nat.le_of_ble_eq_true rfl) ⟨by decide, by decide⟩ ⟨by decide, by decide⟩ dX10_pair_43) X (fun H locs X => ?_)
      refine lv_if_eq (tgt := 58) C.1 C.2.1 dX10_pair_46 (by decide) (fun hc12 => ?_) (fun hc12 => ?_)
      · have he := jq_t hc12 he
        refine lv_bipush (v := (-6)) C.1 C.2.1 dX10_pair_58 (by decide) ?_
        exact TX10_pair_b60 (n := n) C hr hlk X (lv_sub hl [] rfl) he
      · have he := jq_n hc12 he
        refine lv_aload_n C.1 C.2.1 dX10_pair_49 rfl (lv_at hl 0 rfl) ?_
        refine jq_rgR C X fs_X10_137 he dX10_pair_50 (fun q13 he => ?_)
        refine lv_iload_n C.1 C.2.1 dX10_pair_53 rfl (lv_at hl 3 rfl) ?_
        refine jq_rldI C X he dX10_pair_54 (fun x14 he => ?_)
        refine lv_goto (tgt := 60) C.1 C.2.1 dX10_pair_55 (by decide) ?_
        exact TX10_pair_b60 (n := n) C hr hlk X (lv_sub hl [] rfl) he
    · have he := jq_t hc6 he
      refine lv_bipush (v := (-5)) C.1 C.2.1 dX10_pair_22 (by decide) ?_
      exact jq_iret C X hr hlk he (by decide) (by decide) dX10_pair_24
  · have he := jq_t hc2 he
    refine lv_iconst (v := (-1)) C.1 C.2.1 dX10_pair_8 (by decide) ?_
    exact jq_iret C X hr hlk he (by decide) (by decide) dX10_pair_9
set_option maxRecDepth 100000 in
set_option maxHeartbeats 4000000 in
theorem TX7_usualWay_b32 {p : Program} {l : Launch} {e : Env} {s : State} {m : MethodId} {args : Array Value} {below : List Frame} {meth : Method} {c : Code} {D : va_G} {ct : Nat → ClassId} {bs : Nat} {res : Int32 × jq_H} {n : Nat} (C : jq_C p s m args c cX7_usualWay 4 RX7 D ct bs) (hr : meth.sig.returnType = (some .int)) (hlk : meth.locks = false) {s0 : Int32} {h : jq_H} {H : Heap} {locs : List Loc} {ls : Array Slot} (X : jq_X bs D ct s.heap h H locs) (hl : lv_has ls 4 []) (he : X7_usualWay_b32 n s0 h = some res) :
    W p l e rm_X7_usualWay s m args below meth c H locs 0 0 (MQ below (jq_Qi bs D ct res) args s rm_X7_usualWay.cells rm_X7_usualWay.slots (fun q => bs ≤ q)) (F0 m 32 ls [.int s0]) := by
  unfold X7_usualWay_b32 at he
  exact jq_iret C X hr hlk he (by decide) (by decide) dX7_usualWay_32
set_option maxRecDepth 100000 in
set_option maxHeartbeats 4000000 in
theorem M_X7_usualWay (l : Launch) (bs : Nat) (D : va_G) (ct : Nat → ClassId) (n : Nat) (h : jq_H) (a : Nat) (p0 : Int32) (res : Int32 × jq_H) (he : X7_usualWay n h a p0 = some res) : jq_M l yX7_usualWay cX7_usualWay 4 (some .int) rm_X7_usualWay (jq_P [.ref a, .int p0] bs D ct h) (jq_Qi bs D ct res) bs := by
  refine jq_start2 (by decide +kernel) (Nat.le_of_ble_eq_true rfl) ?_
  intro p e s m args below meth c ls H locs C hr hlk hin hl X
  have C : jq_C p s m args c cX7_usualWay 4 RX7 D ct bs := C
  have hin : meth.name = "usualWay" := hin
  have hl : lv_has ls 4 [(0, .ref a), (1, .int p0)] := hl
  unfold X7_usualWay at he
  refine lv_aload_n C.1 C.2.1 dX7_usualWay_0 rfl (lv_at hl 0 rfl) ?_
  refine lv_iload_n C.1 C.2.1 dX7_usualWay_1 rfl (lv_at hl 1 rfl) ?_
  refine lv_iconst (v := 0) C.1 C.2.1 dX7_usualWay_2 (by decide) ?_
  obtain ⟨z1, hz1, he⟩ := jq_b he
  obtain ⟨hz1c, hz1⟩ := jq_ite hz1
  refine jq_gi (jq_runV (a := a) (av := [.int p0, .int 0]) C X (M_X7_count l bs D ct n h a p0 0 _ hz1) mf_X7_count gw_615 gs_21 (Or.inl gw_613) rc_X7 hz1c (by decide) rfl hl.1 rfl (Nat.le_of_ble_eq_true rfl) ⟨by decide, by decide⟩ ⟨by decide, by decide⟩ dX7_usualWay_3) X (fun H locs X => ?_)
  obtain ⟨x2, hx2, he⟩ := jq_ln he
  refine jq_top hx2 ?_
  refine lv_istore_n (lv' := [(2, .int x2), (0, .ref a), (1, .int p0)]) C.1 C.2.1 dX7_usualWay_6 rfl hl (by decide) rfl (fun ls hl => ?_)
  refine lv_aload_n C.1 C.2.1 dX7_usualWay_7 rfl (lv_at hl 1 rfl) ?_
  refine lv_iload_n C.1 C.2.1 dX7_usualWay_8 rfl (lv_at hl 2 rfl) ?_
  refine lv_iconst (v := 1) C.1 C.2.1 dX7_usualWay_9 (by decide) ?_
  obtain ⟨z3, hz3, he⟩ := jq_b he
  obtain ⟨hz3c, hz3⟩ := jq_ite hz3
  refine jq_gi (jq_runV (a := a) (av := [.int p0, .int 1]) C X (M_X7_count l bs D ct n z1.2 a p0 1 _ hz3) mf_X7_count gw_615 gs_21 (Or.inl gw_613) rc_X7 hz3c (by decide) rfl hl.1 rfl (Nat.le_of_ble_eq_true rfl) ⟨by decide, by decide⟩ ⟨by decide, by decide⟩ dX7_usualWay_10) X (fun H locs X => ?_)
  obtain ⟨x4, hx4, he⟩ := jq_ln he
  refine jq_top hx4 ?_
  refine lv_istore_n (lv' := [(3, .int x4), (2, .int x2), (0, .ref a), (1, .int p0)]) C.1 C.2.1 dX7_usualWay_13 rfl hl (by decide) rfl (fun ls hl => ?_)
  refine lv_iload_n C.1 C.2.1 dX7_usualWay_14 rfl (lv_at hl 1 rfl) ?_
  refine lv_iload_n C.1 C.2.1 dX7_usualWay_15 rfl (lv_at hl 0 rfl) ?_
  refine lv_iadd C.1 C.2.1 dX7_usualWay_16 ?_
  refine lv_if_ne (tgt := 22) C.1 C.2.1 dX7_usualWay_17 (by decide) (fun hc5 => ?_) (fun hc5 => ?_)
  · have he := jq_n hc5 he
    refine lv_iload_n C.1 C.2.1 dX7_usualWay_22 rfl (lv_at hl 0 rfl) ?_
    refine lv_iload_n C.1 C.2.1 dX7_usualWay_23 rfl (lv_at hl 1 rfl) ?_
    refine lv_icmp_lt (tgt := 31) C.1 C.2.1 dX7_usualWay_24 (by decide) (fun hc6 => ?_) (fun hc6 => ?_)
    · have he := jq_t hc6 he
      refine lv_iconst (v := 0) C.1 C.2.1 dX7_usualWay_31 (by decide) ?_
      exact TX7_usualWay_b32 (n := n) C hr hlk X (lv_sub hl [] rfl) he
    · have he := jq_n hc6 he
      refine lv_iconst (v := 1) C.1 C.2.1 dX7_usualWay_27 (by decide) ?_
      refine lv_goto (tgt := 32) C.1 C.2.1 dX7_usualWay_28 (by decide) ?_
      exact TX7_usualWay_b32 (n := n) C hr hlk X (lv_sub hl [] rfl) he
  · have he := jq_t hc5 he
    refine lv_iconst (v := (-1)) C.1 C.2.1 dX7_usualWay_20 (by decide) ?_
    exact jq_iret C X hr hlk he (by decide) (by decide) dX7_usualWay_21
set_option maxRecDepth 100000 in
set_option maxHeartbeats 4000000 in
theorem TX10_profile_b62 {p : Program} {l : Launch} {e : Env} {s : State} {m : MethodId} {args : Array Value} {below : List Frame} {meth : Method} {c : Code} {D : va_G} {ct : Nat → ClassId} {bs : Nat} {res : Int32 × jq_H} {n : Nat} (C : jq_C p s m args c cX10_profile 5 RX10 D ct bs) (hr : meth.sig.returnType = (some .int)) (hlk : meth.locks = false) {v3 : Int32} {h : jq_H} {H : Heap} {locs : List Loc} {ls : Array Slot} (X : jq_X bs D ct s.heap h H locs) (hl : lv_has ls 5 [(3, .int v3)]) (he : X10_profile_b62 n v3 h = some res) :
    W p l e rm_X10_profile s m args below meth c H locs 0 0 (MQ below (jq_Qi bs D ct res) args s rm_X10_profile.cells rm_X10_profile.slots (fun q => bs ≤ q)) (F0 m 62 ls []) := by
  unfold X10_profile_b62 at he
  refine lv_iload_n C.1 C.2.1 dX10_profile_62 rfl (lv_at hl 0 rfl) ?_
  exact jq_iret C X hr hlk he (by decide) (by decide) dX10_profile_63
set_option maxRecDepth 100000 in
set_option maxHeartbeats 4000000 in
theorem TX10_profile_b56 {p : Program} {l : Launch} {e : Env} {s : State} {m : MethodId} {args : Array Value} {below : List Frame} {meth : Method} {c : Code} {D : va_G} {ct : Nat → ClassId} {bs : Nat} {res : Int32 × jq_H} {n : Nat} {KB : Nat → Nat → Int32 → Int32 → jq_H → Option (Int32 × jq_H)} {K62 : Int32 → jq_H → Option (Int32 × jq_H)} (C : jq_C p s m args c cX10_profile 5 RX10 D ct bs) (hr : meth.sig.returnType = (some .int)) (hlk : meth.locks = false) (hKB : ∀ (u0 : Nat) (u2 : Nat) (u3 : Int32) (u4 : Int32) (h1 : jq_H) (H1 : Heap) (locs1 : List Loc) (ls1 : Array Slot), KB u0 u2 u3 u4 h1 = some res → jq_X bs D ct s.heap h1 H1 locs1 → lv_has ls1 5 [(0, .ref u0), (2, .ref u2), (3, .int u3), (4, .int u4)] → W p l e rm_X10_profile s m args below meth c H1 locs1 0 0 (MQ below (jq_Qi bs D ct res) args s rm_X10_profile.cells rm_X10_profile.slots (fun q => bs ≤ q)) (F0 m 25 ls1 [])) (hK62 : ∀ (u3 : Int32) (h1 : jq_H) (H1 : Heap) (locs1 : List Loc) (ls1 : Array Slot), K62 u3 h1 = some res → jq_X bs D ct s.heap h1 H1 locs1 → lv_has ls1 5 [(3, .int u3)] → W p l e rm_X10_profile s m args below meth c H1 locs1 0 0 (MQ below (jq_Qi bs D ct res) args s rm_X10_profile.cells rm_X10_profile.slots (fun q => bs ≤ q)) (F0 m 62 ls1 [])) {v0 : Nat} {v2 : Nat} {v3 : Int32} {v4 : Int32} {h : jq_H} {H : Heap} {locs : List Loc} {ls : Array Slot} (X : jq_X bs D ct s.heap h H locs) (hl : lv_has ls 5 [(0, .ref v0), (2, .ref v2), (3, .int v3), (4, .int v4)]) (he : X10_profile_b56 n KB K62 v0 v2 v3 v4 h = some res) :
    W p l e rm_X10_profile s m args below meth c H locs 0 0 (MQ below (jq_Qi bs D ct res) args s rm_X10_profile.cells rm_X10_profile.slots (fun q => bs ≤ q)) (F0 m 56 ls []) := by
  unfold X10_profile_b56 at he
  obtain ⟨x1, hx1, he⟩ := jq_ln he
  refine lv_iinc (v := x1) (lv' := [(4, .int x1), (0, .ref v0), (2, .ref v2), (3, .int v3)]) C.1 C.2.1 dX10_profile_56 hl (k := 3) rfl (by rw [hx1]; rfl) (by decide) rfl (fun ls hl => ?_)
  refine lv_goto (tgt := 25) C.1 C.2.1 dX10_profile_59 (by decide) ?_
  exact hKB _ _ _ _ _ _ _ _ he X (lv_sub hl [1, 2, 3, 0] rfl)
set_option maxRecDepth 100000 in
set_option maxHeartbeats 4000000 in
theorem TX10_profile_b25 {p : Program} {l : Launch} {e : Env} {s : State} {m : MethodId} {args : Array Value} {below : List Frame} {meth : Method} {c : Code} {D : va_G} {ct : Nat → ClassId} {bs : Nat} {res : Int32 × jq_H} {n : Nat} {KB : Nat → Nat → Int32 → Int32 → jq_H → Option (Int32 × jq_H)} {K62 : Int32 → jq_H → Option (Int32 × jq_H)} (C : jq_C p s m args c cX10_profile 5 RX10 D ct bs) (hr : meth.sig.returnType = (some .int)) (hlk : meth.locks = false) (hKB : ∀ (u0 : Nat) (u2 : Nat) (u3 : Int32) (u4 : Int32) (h1 : jq_H) (H1 : Heap) (locs1 : List Loc) (ls1 : Array Slot), KB u0 u2 u3 u4 h1 = some res → jq_X bs D ct s.heap h1 H1 locs1 → lv_has ls1 5 [(0, .ref u0), (2, .ref u2), (3, .int u3), (4, .int u4)] → W p l e rm_X10_profile s m args below meth c H1 locs1 0 0 (MQ below (jq_Qi bs D ct res) args s rm_X10_profile.cells rm_X10_profile.slots (fun q => bs ≤ q)) (F0 m 25 ls1 [])) (hK62 : ∀ (u3 : Int32) (h1 : jq_H) (H1 : Heap) (locs1 : List Loc) (ls1 : Array Slot), K62 u3 h1 = some res → jq_X bs D ct s.heap h1 H1 locs1 → lv_has ls1 5 [(3, .int u3)] → W p l e rm_X10_profile s m args below meth c H1 locs1 0 0 (MQ below (jq_Qi bs D ct res) args s rm_X10_profile.cells rm_X10_profile.slots (fun q => bs ≤ q)) (F0 m 62 ls1 [])) {v0 : Nat} {v2 : Nat} {v3 : Int32} {v4 : Int32} {h : jq_H} {H : Heap} {locs : List Loc} {ls : Array Slot} (X : jq_X bs D ct s.heap h H locs) (hl : lv_has ls 5 [(0, .ref v0), (2, .ref v2), (3, .int v3), (4, .int v4)]) (he : X10_profile_b25 n KB K62 v0 v2 v3 v4 h = some res) :
    W p l e rm_X10_profile s m args below meth c H locs 0 0 (MQ below (jq_Qi bs D ct res) args s rm_X10_profile.cells rm_X10_profile.slots (fun q => bs ≤ q)) (F0 m 25 ls []) := by
  unfold X10_profile_b25 at he
  refine lv_iload C.1 C.2.1 dX10_profile_25 (lv_at hl 3 rfl) ?_
  refine lv_bipush (v := 64) C.1 C.2.1 dX10_profile_27 (by decide) ?_
  refine lv_icmp_ge (tgt := 62) C.1 C.2.1 dX10_profile_29 (by decide) (fun hc2 => ?_) (fun hc2 => ?_)
  · have he := jq_t hc2 he
    exact hK62 _ _ _ _ _ he X (lv_sub hl [2] rfl)
  · have he := jq_n hc2 he
    refine lv_aload_n C.1 C.2.1 dX10_profile_32 rfl (lv_at hl 1 rfl) ?_
    refine lv_iload C.1 C.2.1 dX10_profile_33 (lv_at hl 3 rfl) ?_
    refine lv_aload_n C.1 C.2.1 dX10_profile_35 rfl (lv_at hl 0 rfl) ?_
    refine jq_rgR C X fs_X10_19 he dX10_profile_36 (fun q3 he => ?_)
    refine lv_iload C.1 C.2.1 dX10_profile_39 (lv_at hl 3 rfl) ?_
    obtain ⟨z4, hz4, he⟩ := jq_b he
    obtain ⟨hz4c, hz4⟩ := jq_ite hz4
    refine jq_gi (jq_runV (a := q3) (av := [.int v4]) C X (M_X7_usualWay l bs D ct n h q3 v4 _ hz4) mf_X7_usualWay gw_611 gs_20 (Or.inr ⟨_, gw_609⟩) rc_X7 hz4c (by decide) rfl hl.1 rfl (Nat.le_of_ble_eq_true rfl) ⟨by decide, by decide⟩ ⟨by decide, by decide⟩ dX10_profile_41) X (fun H locs X => ?_)
    refine jq_rstI C X he dX10_profile_44 (fun h5 H locs he X => ?_)
    refine lv_aload_n C.1 C.2.1 dX10_profile_45 rfl (lv_at hl 1 rfl) ?_
    refine lv_iload C.1 C.2.1 dX10_profile_46 (lv_at hl 3 rfl) ?_
    refine jq_rldI C X he dX10_profile_48 (fun x6 he => ?_)
    refine lv_iconst (v := (-1)) C.1 C.2.1 dX10_profile_49 (by decide) ?_
    refine lv_icmp_eq (tgt := 56) C.1 C.2.1 dX10_profile_50 (by decide) (fun hc7 => ?_) (fun hc7 => ?_)
    · have he := jq_t hc7 he
      exact TX10_profile_b56 (n := n) C hr hlk hKB hK62 X (lv_sub hl [0, 1, 2, 3] rfl) he
    · have he := jq_n hc7 he
      obtain ⟨x8, hx8, he⟩ := jq_ln he
      refine lv_iinc (v := x8) (lv' := [(3, .int x8), (0, .ref v0), (2, .ref v2), (4, .int v4)]) C.1 C.2.1 dX10_profile_53 hl (k := 2) rfl (by rw [hx8]; rfl) (by decide) rfl (fun ls hl => ?_)
      exact TX10_profile_b56 (n := n) C hr hlk hKB hK62 X (lv_sub hl [1, 2, 0, 3] rfl) he
set_option maxRecDepth 100000 in
set_option maxHeartbeats 4000000 in
theorem TX10_profile_l25 {p : Program} {l : Launch} {e : Env} {s : State} {m : MethodId} {args : Array Value} {below : List Frame} {meth : Method} {c : Code} {D : va_G} {ct : Nat → ClassId} {bs : Nat} {res : Int32 × jq_H} {n : Nat} {K62 : Int32 → jq_H → Option (Int32 × jq_H)} (C : jq_C p s m args c cX10_profile 5 RX10 D ct bs) (hr : meth.sig.returnType = (some .int)) (hlk : meth.locks = false) (hK62 : ∀ (u3 : Int32) (h1 : jq_H) (H1 : Heap) (locs1 : List Loc) (ls1 : Array Slot), K62 u3 h1 = some res → jq_X bs D ct s.heap h1 H1 locs1 → lv_has ls1 5 [(3, .int u3)] → W p l e rm_X10_profile s m args below meth c H1 locs1 0 0 (MQ below (jq_Qi bs D ct res) args s rm_X10_profile.cells rm_X10_profile.slots (fun q => bs ≤ q)) (F0 m 62 ls1 [])) :
    ∀ (k : Nat) (v0 : Nat) (v2 : Nat) (v3 : Int32) (v4 : Int32) (h : jq_H) (H : Heap) (locs : List Loc) (ls : Array Slot), X10_profile_l25 n K62 k v0 v2 v3 v4 h = some res → jq_X bs D ct s.heap h H locs → lv_has ls 5 [(0, .ref v0), (2, .ref v2), (3, .int v3), (4, .int v4)] → W p l e rm_X10_profile s m args below meth c H locs 0 0 (MQ below (jq_Qi bs D ct res) args s rm_X10_profile.cells rm_X10_profile.slots (fun q => bs ≤ q)) (F0 m 25 ls []) := by
  intro k
  induction k with
  | zero => intro v0 v2 v3 v4 h H locs ls he; cases (show (none : Option (Int32 × jq_H)) = some res from he)
  | succ k ih =>
    intro v0 v2 v3 v4 h H locs ls he X hl
    exact TX10_profile_b25 (n := n) C hr hlk (KB := X10_profile_l25 n K62 k) ih hK62 X hl he
set_option maxRecDepth 100000 in
set_option maxHeartbeats 4000000 in
theorem M_X10_profile (l : Launch) (bs : Nat) (D : va_G) (ct : Nat → ClassId) (n : Nat) (h : jq_H) (a : Nat) (p0 : Int32) (res : Int32 × jq_H) (he : X10_profile n h a p0 = some res) : jq_M l yX10_profile cX10_profile 5 (some .int) rm_X10_profile (jq_P [.ref a, .int p0] bs D ct h) (jq_Qi bs D ct res) bs := by
  refine jq_start2 (by decide +kernel) (Nat.le_of_ble_eq_true rfl) ?_
  intro p e s m args below meth c ls H locs C hr hlk hin hl X
  have C : jq_C p s m args c cX10_profile 5 RX10 D ct bs := C
  have hin : meth.name = "profile" := hin
  have hl : lv_has ls 5 [(0, .ref a), (1, .int p0)] := hl
  unfold X10_profile at he
  refine lv_aload_n C.1 C.2.1 dX10_profile_0 rfl (lv_at hl 0 rfl) ?_
  refine lv_iload_n C.1 C.2.1 dX10_profile_1 rfl (lv_at hl 1 rfl) ?_
  obtain ⟨z9, hz9, he⟩ := jq_b he
  obtain ⟨hz9c, hz9⟩ := jq_ite hz9
  refine jq_gi (jq_runV (a := a) (av := [.int p0]) C X (M_X10_isGuesser l bs D ct n h a p0 _ hz9) mf_X10_isGuesser gw_350 gs_16 (Or.inl gw_348) rc_X10 hz9c (by decide) rfl hl.1 rfl (Nat.le_of_ble_eq_true rfl) ⟨by decide, by decide⟩ ⟨by decide, by decide⟩ dX10_profile_2) X (fun H locs X => ?_)
  refine lv_if_ne (tgt := 10) C.1 C.2.1 dX10_profile_5 (by decide) (fun hc10 => ?_) (fun hc10 => ?_)
  · have he := jq_n hc10 he
    refine lv_aload_n C.1 C.2.1 dX10_profile_10 rfl (lv_at hl 0 rfl) ?_
    refine jq_rgR C X fs_X10_25 he dX10_profile_11 (fun q11 he => ?_)
    refine lv_iload_n C.1 C.2.1 dX10_profile_14 rfl (lv_at hl 1 rfl) ?_
    refine jq_rldN C X (Or.inl ⟨rfl, rfl⟩) he dX10_profile_15 (fun q12 he => ?_)
    refine jq_rgR C X fs_X10_106 he dX10_profile_16 (fun q13 he => ?_)
    refine lv_astore_n (lv' := [(2, .ref q13), (0, .ref a), (1, .int p0)]) C.1 C.2.1 dX10_profile_19 rfl hl (by decide) rfl (fun ls hl => ?_)
    refine lv_iconst (v := 0) C.1 C.2.1 dX10_profile_20 (by decide) ?_
    refine lv_istore_n (lv' := [(3, .int 0), (2, .ref q13), (0, .ref a), (1, .int p0)]) C.1 C.2.1 dX10_profile_21 rfl hl (by decide) rfl (fun ls hl => ?_)
    refine lv_iconst (v := 0) C.1 C.2.1 dX10_profile_22 (by decide) ?_
    refine lv_istore (lv' := [(4, .int 0), (3, .int 0), (2, .ref q13), (0, .ref a), (1, .int p0)]) C.1 C.2.1 dX10_profile_23 hl (by decide) rfl (fun ls hl => ?_)
    exact TX10_profile_l25 (n := n) C hr hlk (fun w3 hh H locs ls he X hl => by
    exact TX10_profile_b62 (n := n) C hr hlk X hl he) n _ _ _ _ _ _ _ _ he X (lv_sub hl [3, 2, 1, 0] rfl)
  · have he := jq_t hc10 he
    refine lv_iconst (v := (-1)) C.1 C.2.1 dX10_profile_8 (by decide) ?_
    exact jq_iret C X hr hlk he (by decide) (by decide) dX10_profile_9
set_option maxRecDepth 100000 in
set_option maxHeartbeats 4000000 in
theorem M_X10_register (l : Launch) (bs : Nat) (D : va_G) (ct : Nat → ClassId) (n : Nat) (h : jq_H) (a : Nat) (p0 : Int32) (p1 : Int32) (res : Int32 × jq_H) (he : X10_register n h a p0 p1 = some res) : jq_M l yX10_register cX10_register 3 (some .int) rm_X10_register (jq_P [.ref a, .int p0, .int p1] bs D ct h) (jq_Qi bs D ct res) bs := by
  refine jq_start2 (by decide +kernel) (Nat.le_of_ble_eq_true rfl) ?_
  intro p e s m args below meth c ls H locs C hr hlk hin hl X
  have C : jq_C p s m args c cX10_register 3 RX10 D ct bs := C
  have hin : meth.name = "register" := hin
  have hl : lv_has ls 3 [(0, .ref a), (1, .int p0), (2, .int p1)] := hl
  unfold X10_register at he
  refine lv_iload_n C.1 C.2.1 dX10_register_0 rfl (lv_at hl 1 rfl) ?_
  obtain ⟨z1, hz1, he⟩ := jq_b he
  refine jq_gi (jq_runS (av := [.int p0]) C X (M_X10_isRegister l bs D ct n h p0 _ hz1) mf_X10_isRegister gw_125 (Or.inl gw_124) rfl hl.1 rfl (Nat.le_of_ble_eq_true rfl) ⟨by decide, by decide⟩ ⟨by decide, by decide⟩ dX10_register_1) X (fun H locs X => ?_)
  refine lv_if_ne (tgt := 10) C.1 C.2.1 dX10_register_4 (by decide) (fun hc2 => ?_) (fun hc2 => ?_)
  · have he := jq_n hc2 he
    refine lv_aload_n C.1 C.2.1 dX10_register_10 rfl (lv_at hl 0 rfl) ?_
    refine jq_rgR C X fs_X10_12 he dX10_register_11 (fun q3 he => ?_)
    refine jq_rgR C X fs_X10_48 he dX10_register_14 (fun q4 he => ?_)
    refine lv_iload_n C.1 C.2.1 dX10_register_17 rfl (lv_at hl 1 rfl) ?_
    refine lv_iload_n C.1 C.2.1 dX10_register_18 rfl (lv_at hl 2 rfl) ?_
    refine jq_rstI C X he dX10_register_19 (fun h5 H locs he X => ?_)
    refine lv_iconst (v := 1) C.1 C.2.1 dX10_register_20 (by decide) ?_
    exact jq_iret C X hr hlk he (by decide) (by decide) dX10_register_21
  · have he := jq_t hc2 he
    refine lv_bipush (v := (-2)) C.1 C.2.1 dX10_register_7 (by decide) ?_
    exact jq_iret C X hr hlk he (by decide) (by decide) dX10_register_9
set_option maxRecDepth 100000 in
set_option maxHeartbeats 4000000 in
theorem TX6_reckon_b188 {p : Program} {l : Launch} {e : Env} {s : State} {m : MethodId} {args : Array Value} {below : List Frame} {meth : Method} {c : Code} {D : va_G} {ct : Nat → ClassId} {bs : Nat} {res : jq_H} {n : Nat} (C : jq_C p s m args c cX6_reckon 6 RX6 D ct bs) (hr : meth.sig.returnType = none) (hlk : meth.locks = false) {h : jq_H} {H : Heap} {locs : List Loc} {ls : Array Slot} (X : jq_X bs D ct s.heap h H locs) (hl : lv_has ls 6 []) (he : X6_reckon_b188 n h = some res) :
    W p l e rm_X6_reckon s m args below meth c H locs 0 0 (MQ below (jq_Qv bs D ct res) args s rm_X6_reckon.cells rm_X6_reckon.slots (fun q => bs ≤ q)) (F0 m 188 ls []) := by
  unfold X6_reckon_b188 at he
  exact jq_vret C X hr hlk he (by decide) (by decide) dX6_reckon_188
set_option maxRecDepth 100000 in
set_option maxHeartbeats 4000000 in
theorem M_X6_reckon (l : Launch) (bs : Nat) (D : va_G) (ct : Nat → ClassId) (n : Nat) (h : jq_H) (a : Nat) (p0 : Int32) (p1 : Int32) (p2 : Int32) (p3 : Int32) (res : jq_H) (he : X6_reckon n h a p0 p1 p2 p3 = some res) : jq_M l yX6_reckon cX6_reckon 6 none rm_X6_reckon (jq_P [.ref a, .int p0, .int p1, .int p2, .int p3] bs D ct h) (jq_Qv bs D ct res) bs := by
  refine jq_start2 (by decide +kernel) (Nat.le_of_ble_eq_true rfl) ?_
  intro p e s m args below meth c ls H locs C hr hlk hin hl X
  have C : jq_C p s m args c cX6_reckon 6 RX6 D ct bs := C
  have hin : meth.name = "reckon" := hin
  have hl : lv_has ls 6 [(0, .ref a), (1, .int p0), (2, .int p1), (3, .int p2), (4, .int p3)] := hl
  unfold X6_reckon at he
  refine lv_aload_n C.1 C.2.1 dX6_reckon_0 rfl (lv_at hl 0 rfl) ?_
  refine jq_rgR C X fs_X6_24 he dX6_reckon_1 (fun q1 he => ?_)
  refine lv_iload_n C.1 C.2.1 dX6_reckon_4 rfl (lv_at hl 3 rfl) ?_
  refine jq_rldI C X he dX6_reckon_5 (fun x2 he => ?_)
  refine lv_bipush (v := 31) C.1 C.2.1 dX6_reckon_6 (by decide) ?_
  refine lv_iand C.1 C.2.1 dX6_reckon_8 ?_
  obtain ⟨x3, hx3, he⟩ := jq_ln he
  refine jq_top hx3 ?_
  refine lv_istore (lv' := [(5, .int x3), (0, .ref a), (1, .int p0), (2, .int p1), (3, .int p2), (4, .int p3)]) C.1 C.2.1 dX6_reckon_9 hl (by decide) rfl (fun ls hl => ?_)
  refine lv_iload_n C.1 C.2.1 dX6_reckon_11 rfl (lv_at hl 2 rfl) ?_
  by_cases hc6 : p0 = 1
  · have he := jq_t hc6 he
    refine lv_tableIn (tgt := 60) C.1 C.2.1 dX6_reckon_12 (by rw [hc6]; decide) (by rw [hc6]; decide) (by rw [hc6]; rfl) (by decide) ?_
    refine lv_aload_n C.1 C.2.1 dX6_reckon_60 rfl (lv_at hl 1 rfl) ?_
    refine jq_rgR C X fs_X6_24 he dX6_reckon_61 (fun q4 he => ?_)
    refine lv_iload_n C.1 C.2.1 dX6_reckon_64 rfl (lv_at hl 3 rfl) ?_
    refine lv_iload C.1 C.2.1 dX6_reckon_65 (lv_at hl 5 rfl) ?_
    refine jq_rstI C X he dX6_reckon_67 (fun h5 H locs he X => ?_)
    refine lv_goto (tgt := 188) C.1 C.2.1 dX6_reckon_68 (by decide) ?_
    exact TX6_reckon_b188 (n := n) C hr hlk X (lv_sub hl [] rfl) he
  have he := jq_n hc6 he
  by_cases hc12 : p0 = 2
  · have he := jq_t hc12 he
    refine lv_tableIn (tgt := 71) C.1 C.2.1 dX6_reckon_12 (by rw [hc12]; decide) (by rw [hc12]; decide) (by rw [hc12]; rfl) (by decide) ?_
    refine lv_aload_n C.1 C.2.1 dX6_reckon_71 rfl (lv_at hl 1 rfl) ?_
    refine jq_rgR C X fs_X6_24 he dX6_reckon_72 (fun q7 he => ?_)
    refine lv_iload_n C.1 C.2.1 dX6_reckon_75 rfl (lv_at hl 3 rfl) ?_
    refine lv_dup2_11 C.1 C.2.1 dX6_reckon_76 rfl rfl ?_
    refine jq_rldI C X he dX6_reckon_77 (fun x8 he => ?_)
    refine lv_aload_n C.1 C.2.1 dX6_reckon_78 rfl (lv_at hl 1 rfl) ?_
    refine jq_rgR C X fs_X6_24 he dX6_reckon_79 (fun q9 he => ?_)
    refine lv_iload_n C.1 C.2.1 dX6_reckon_82 rfl (lv_at hl 4 rfl) ?_
    refine jq_rldI C X he dX6_reckon_83 (fun x10 he => ?_)
    refine lv_iadd C.1 C.2.1 dX6_reckon_84 ?_
    refine jq_rstI C X he dX6_reckon_85 (fun h11 H locs he X => ?_)
    refine lv_goto (tgt := 188) C.1 C.2.1 dX6_reckon_86 (by decide) ?_
    exact TX6_reckon_b188 (n := n) C hr hlk X (lv_sub hl [] rfl) he
  have he := jq_n hc12 he
  by_cases hc18 : p0 = 3
  · have he := jq_t hc18 he
    refine lv_tableIn (tgt := 89) C.1 C.2.1 dX6_reckon_12 (by rw [hc18]; decide) (by rw [hc18]; decide) (by rw [hc18]; rfl) (by decide) ?_
    refine lv_aload_n C.1 C.2.1 dX6_reckon_89 rfl (lv_at hl 1 rfl) ?_
    refine jq_rgR C X fs_X6_24 he dX6_reckon_90 (fun q13 he => ?_)
    refine lv_iload_n C.1 C.2.1 dX6_reckon_93 rfl (lv_at hl 3 rfl) ?_
    refine lv_dup2_11 C.1 C.2.1 dX6_reckon_94 rfl rfl ?_
    refine jq_rldI C X he dX6_reckon_95 (fun x14 he => ?_)
    refine lv_aload_n C.1 C.2.1 dX6_reckon_96 rfl (lv_at hl 1 rfl) ?_
    refine jq_rgR C X fs_X6_24 he dX6_reckon_97 (fun q15 he => ?_)
    refine lv_iload_n C.1 C.2.1 dX6_reckon_100 rfl (lv_at hl 4 rfl) ?_
    refine jq_rldI C X he dX6_reckon_101 (fun x16 he => ?_)
    refine lv_isub C.1 C.2.1 dX6_reckon_102 ?_
    refine jq_rstI C X he dX6_reckon_103 (fun h17 H locs he X => ?_)
    refine lv_goto (tgt := 188) C.1 C.2.1 dX6_reckon_104 (by decide) ?_
    exact TX6_reckon_b188 (n := n) C hr hlk X (lv_sub hl [] rfl) he
  have he := jq_n hc18 he
  by_cases hc24 : p0 = 4
  · have he := jq_t hc24 he
    refine lv_tableIn (tgt := 107) C.1 C.2.1 dX6_reckon_12 (by rw [hc24]; decide) (by rw [hc24]; decide) (by rw [hc24]; rfl) (by decide) ?_
    refine lv_aload_n C.1 C.2.1 dX6_reckon_107 rfl (lv_at hl 1 rfl) ?_
    refine jq_rgR C X fs_X6_24 he dX6_reckon_108 (fun q19 he => ?_)
    refine lv_iload_n C.1 C.2.1 dX6_reckon_111 rfl (lv_at hl 3 rfl) ?_
    refine lv_dup2_11 C.1 C.2.1 dX6_reckon_112 rfl rfl ?_
    refine jq_rldI C X he dX6_reckon_113 (fun x20 he => ?_)
    refine lv_aload_n C.1 C.2.1 dX6_reckon_114 rfl (lv_at hl 1 rfl) ?_
    refine jq_rgR C X fs_X6_24 he dX6_reckon_115 (fun q21 he => ?_)
    refine lv_iload_n C.1 C.2.1 dX6_reckon_118 rfl (lv_at hl 4 rfl) ?_
    refine jq_rldI C X he dX6_reckon_119 (fun x22 he => ?_)
    refine lv_imul C.1 C.2.1 dX6_reckon_120 ?_
    refine jq_rstI C X he dX6_reckon_121 (fun h23 H locs he X => ?_)
    refine lv_goto (tgt := 188) C.1 C.2.1 dX6_reckon_122 (by decide) ?_
    exact TX6_reckon_b188 (n := n) C hr hlk X (lv_sub hl [] rfl) he
  have he := jq_n hc24 he
  by_cases hc30 : p0 = 5
  · have he := jq_t hc30 he
    refine lv_tableIn (tgt := 125) C.1 C.2.1 dX6_reckon_12 (by rw [hc30]; decide) (by rw [hc30]; decide) (by rw [hc30]; rfl) (by decide) ?_
    refine lv_aload_n C.1 C.2.1 dX6_reckon_125 rfl (lv_at hl 1 rfl) ?_
    refine jq_rgR C X fs_X6_24 he dX6_reckon_126 (fun q25 he => ?_)
    refine lv_iload_n C.1 C.2.1 dX6_reckon_129 rfl (lv_at hl 3 rfl) ?_
    refine lv_dup2_11 C.1 C.2.1 dX6_reckon_130 rfl rfl ?_
    refine jq_rldI C X he dX6_reckon_131 (fun x26 he => ?_)
    refine lv_aload_n C.1 C.2.1 dX6_reckon_132 rfl (lv_at hl 1 rfl) ?_
    refine jq_rgR C X fs_X6_24 he dX6_reckon_133 (fun q27 he => ?_)
    refine lv_iload_n C.1 C.2.1 dX6_reckon_136 rfl (lv_at hl 4 rfl) ?_
    refine jq_rldI C X he dX6_reckon_137 (fun x28 he => ?_)
    refine lv_iand C.1 C.2.1 dX6_reckon_138 ?_
    refine jq_rstI C X he dX6_reckon_139 (fun h29 H locs he X => ?_)
    refine lv_goto (tgt := 188) C.1 C.2.1 dX6_reckon_140 (by decide) ?_
    exact TX6_reckon_b188 (n := n) C hr hlk X (lv_sub hl [] rfl) he
  have he := jq_n hc30 he
  by_cases hc34 : p0 = 6
  · have he := jq_t hc34 he
    refine lv_tableIn (tgt := 143) C.1 C.2.1 dX6_reckon_12 (by rw [hc34]; decide) (by rw [hc34]; decide) (by rw [hc34]; rfl) (by decide) ?_
    refine lv_aload_n C.1 C.2.1 dX6_reckon_143 rfl (lv_at hl 1 rfl) ?_
    refine jq_rgR C X fs_X6_24 he dX6_reckon_144 (fun q31 he => ?_)
    refine lv_iload_n C.1 C.2.1 dX6_reckon_147 rfl (lv_at hl 3 rfl) ?_
    refine lv_dup2_11 C.1 C.2.1 dX6_reckon_148 rfl rfl ?_
    refine jq_rldI C X he dX6_reckon_149 (fun x32 he => ?_)
    refine lv_iconst (v := 1) C.1 C.2.1 dX6_reckon_150 (by decide) ?_
    refine lv_iushr C.1 C.2.1 dX6_reckon_151 rfl ?_
    refine jq_rstI C X he dX6_reckon_152 (fun h33 H locs he X => ?_)
    refine lv_goto (tgt := 188) C.1 C.2.1 dX6_reckon_153 (by decide) ?_
    exact TX6_reckon_b188 (n := n) C hr hlk X (lv_sub hl [] rfl) he
  have he := jq_n hc34 he
  by_cases hc39 : p0 = 7
  · have he := jq_t hc39 he
    refine lv_tableIn (tgt := 156) C.1 C.2.1 dX6_reckon_12 (by rw [hc39]; decide) (by rw [hc39]; decide) (by rw [hc39]; rfl) (by decide) ?_
    refine lv_aload_n C.1 C.2.1 dX6_reckon_156 rfl (lv_at hl 1 rfl) ?_
    refine jq_rgR C X fs_X6_24 he dX6_reckon_157 (fun q35 he => ?_)
    refine lv_iload_n C.1 C.2.1 dX6_reckon_160 rfl (lv_at hl 3 rfl) ?_
    refine lv_aload_n C.1 C.2.1 dX6_reckon_161 rfl (lv_at hl 1 rfl) ?_
    refine jq_rgR C X fs_X6_27 he dX6_reckon_162 (fun q36 he => ?_)
    refine lv_iload C.1 C.2.1 dX6_reckon_165 (lv_at hl 0 rfl) ?_
    refine jq_rldI C X he dX6_reckon_167 (fun x37 he => ?_)
    refine jq_rstI C X he dX6_reckon_168 (fun h38 H locs he X => ?_)
    refine lv_goto (tgt := 188) C.1 C.2.1 dX6_reckon_169 (by decide) ?_
    exact TX6_reckon_b188 (n := n) C hr hlk X (lv_sub hl [] rfl) he
  have he := jq_n hc39 he
  by_cases hc44 : p0 = 8
  · have he := jq_t hc44 he
    refine lv_tableIn (tgt := 172) C.1 C.2.1 dX6_reckon_12 (by rw [hc44]; decide) (by rw [hc44]; decide) (by rw [hc44]; rfl) (by decide) ?_
    refine lv_aload_n C.1 C.2.1 dX6_reckon_172 rfl (lv_at hl 1 rfl) ?_
    refine jq_rgR C X fs_X6_27 he dX6_reckon_173 (fun q40 he => ?_)
    refine lv_iload C.1 C.2.1 dX6_reckon_176 (lv_at hl 0 rfl) ?_
    refine lv_aload_n C.1 C.2.1 dX6_reckon_178 rfl (lv_at hl 1 rfl) ?_
    refine jq_rgR C X fs_X6_24 he dX6_reckon_179 (fun q41 he => ?_)
    refine lv_iload_n C.1 C.2.1 dX6_reckon_182 rfl (lv_at hl 3 rfl) ?_
    refine jq_rldI C X he dX6_reckon_183 (fun x42 he => ?_)
    refine jq_rstI C X he dX6_reckon_184 (fun h43 H locs he X => ?_)
    refine lv_goto (tgt := 188) C.1 C.2.1 dX6_reckon_185 (by decide) ?_
    exact TX6_reckon_b188 (n := n) C hr hlk X (lv_sub hl [] rfl) he
  have he := jq_n hc44 he
  refine lv_tableOut (tgt := 188) C.1 C.2.1 dX6_reckon_12 (jq_swo (fun k h1 h2 hk => by
    rcases (show k = 1 ∨ k = 2 ∨ k = 3 ∨ k = 4 ∨ k = 5 ∨ k = 6 ∨ k = 7 ∨ k = 8 by omega) with rfl | rfl | rfl | rfl | rfl | rfl | rfl | rfl
    · exact lv_neT hc6 (by decide) hk
    · exact lv_neT hc12 (by decide) hk
    · exact lv_neT hc18 (by decide) hk
    · exact lv_neT hc24 (by decide) hk
    · exact lv_neT hc30 (by decide) hk
    · exact lv_neT hc34 (by decide) hk
    · exact lv_neT hc39 (by decide) hk
    · exact lv_neT hc44 (by decide) hk)) (by decide) ?_
  exact TX6_reckon_b188 (n := n) C hr hlk X (lv_sub hl [] rfl) he
set_option maxRecDepth 100000 in
set_option maxHeartbeats 4000000 in
theorem TX6_holds_b43 {p : Program} {l : Launch} {e : Env} {s : State} {m : MethodId} {args : Array Value} {below : List Frame} {meth : Method} {c : Code} {D : va_G} {ct : Nat → ClassId} {bs : Nat} {res : Int32 × jq_H} {n : Nat} (C : jq_C p s m args c cX6_holds 3 RX6 D ct bs) (hr : meth.sig.returnType = (some .boolean)) (hlk : meth.locks = false) {s0 : Int32} {h : jq_H} {H : Heap} {locs : List Loc} {ls : Array Slot} (X : jq_X bs D ct s.heap h H locs) (hl : lv_has ls 3 []) (he : X6_holds_b43 n s0 h = some res) :
    W p l e rm_X6_holds s m args below meth c H locs 0 0 (MQ below (jq_Qi bs D ct res) args s rm_X6_holds.cells rm_X6_holds.slots (fun q => bs ≤ q)) (F0 m 43 ls [.int s0]) := by
  unfold X6_holds_b43 at he
  exact jq_zret C X hr hlk he (by decide) (by decide) dX6_holds_43
set_option maxRecDepth 100000 in
set_option maxHeartbeats 4000000 in
theorem TX6_holds_b33 {p : Program} {l : Launch} {e : Env} {s : State} {m : MethodId} {args : Array Value} {below : List Frame} {meth : Method} {c : Code} {D : va_G} {ct : Nat → ClassId} {bs : Nat} {res : Int32 × jq_H} {n : Nat} (C : jq_C p s m args c cX6_holds 3 RX6 D ct bs) (hr : meth.sig.returnType = (some .boolean)) (hlk : meth.locks = false) {s0 : Int32} {h : jq_H} {H : Heap} {locs : List Loc} {ls : Array Slot} (X : jq_X bs D ct s.heap h H locs) (hl : lv_has ls 3 []) (he : X6_holds_b33 n s0 h = some res) :
    W p l e rm_X6_holds s m args below meth c H locs 0 0 (MQ below (jq_Qi bs D ct res) args s rm_X6_holds.cells rm_X6_holds.slots (fun q => bs ≤ q)) (F0 m 33 ls [.int s0]) := by
  unfold X6_holds_b33 at he
  exact jq_zret C X hr hlk he (by decide) (by decide) dX6_holds_33
set_option maxRecDepth 100000 in
set_option maxHeartbeats 4000000 in
theorem TX6_holds_b16 {p : Program} {l : Launch} {e : Env} {s : State} {m : MethodId} {args : Array Value} {below : List Frame} {meth : Method} {c : Code} {D : va_G} {ct : Nat → ClassId} {bs : Nat} {res : Int32 × jq_H} {n : Nat} (C : jq_C p s m args c cX6_holds 3 RX6 D ct bs) (hr : meth.sig.returnType = (some .boolean)) (hlk : meth.locks = false) {s0 : Int32} {h : jq_H} {H : Heap} {locs : List Loc} {ls : Array Slot} (X : jq_X bs D ct s.heap h H locs) (hl : lv_has ls 3 []) (he : X6_holds_b16 n s0 h = some res) :
    W p l e rm_X6_holds s m args below meth c H locs 0 0 (MQ below (jq_Qi bs D ct res) args s rm_X6_holds.cells rm_X6_holds.slots (fun q => bs ≤ q)) (F0 m 16 ls [.int s0]) := by
  unfold X6_holds_b16 at he
  exact jq_zret C X hr hlk he (by decide) (by decide) dX6_holds_16
set_option maxRecDepth 100000 in
set_option maxHeartbeats 4000000 in
theorem M_X6_holds (l : Launch) (bs : Nat) (D : va_G) (ct : Nat → ClassId) (n : Nat) (h : jq_H) (p0 : Int32) (p1 : Int32) (p2 : Int32) (res : Int32 × jq_H) (he : X6_holds n h p0 p1 p2 = some res) : jq_M l yX6_holds cX6_holds 3 (some .boolean) rm_X6_holds (jq_P [.int p0, .int p1, .int p2] bs D ct h) (jq_Qi bs D ct res) bs := by
  refine jq_start2 (by decide +kernel) (Nat.le_of_ble_eq_true rfl) ?_
  intro p e s m args below meth c ls H locs C hr hlk hin hl X
  have C : jq_C p s m args c cX6_holds 3 RX6 D ct bs := C
  have hin : meth.name = "holds" := hin
  have hl : lv_has ls 3 [(0, .int p0), (1, .int p1), (2, .int p2)] := hl
  unfold X6_holds at he
  refine lv_iload_n C.1 C.2.1 dX6_holds_0 rfl (lv_at hl 0 rfl) ?_
  refine lv_bipush (v := 9) C.1 C.2.1 dX6_holds_1 (by decide) ?_
  refine lv_icmp_ne (tgt := 17) C.1 C.2.1 dX6_holds_3 (by decide) (fun hc1 => ?_) (fun hc1 => ?_)
  · have he := jq_n hc1 he
    refine lv_iload_n C.1 C.2.1 dX6_holds_17 rfl (lv_at hl 0 rfl) ?_
    refine lv_bipush (v := 10) C.1 C.2.1 dX6_holds_18 (by decide) ?_
    refine lv_icmp_ne (tgt := 34) C.1 C.2.1 dX6_holds_20 (by decide) (fun hc2 => ?_) (fun hc2 => ?_)
    · have he := jq_n hc2 he
      refine lv_iload_n C.1 C.2.1 dX6_holds_34 rfl (lv_at hl 1 rfl) ?_
      refine lv_if_eq (tgt := 42) C.1 C.2.1 dX6_holds_35 (by decide) (fun hc3 => ?_) (fun hc3 => ?_)
      · have he := jq_t hc3 he
        refine lv_iconst (v := 0) C.1 C.2.1 dX6_holds_42 (by decide) ?_
        exact TX6_holds_b43 (n := n) C hr hlk X (lv_sub hl [] rfl) he
      · have he := jq_n hc3 he
        refine lv_iconst (v := 1) C.1 C.2.1 dX6_holds_38 (by decide) ?_
        refine lv_goto (tgt := 43) C.1 C.2.1 dX6_holds_39 (by decide) ?_
        exact TX6_holds_b43 (n := n) C hr hlk X (lv_sub hl [] rfl) he
    · have he := jq_t hc2 he
      refine lv_iload_n C.1 C.2.1 dX6_holds_23 rfl (lv_at hl 1 rfl) ?_
      refine lv_iload_n C.1 C.2.1 dX6_holds_24 rfl (lv_at hl 2 rfl) ?_
      refine lv_icmp_ne (tgt := 32) C.1 C.2.1 dX6_holds_25 (by decide) (fun hc4 => ?_) (fun hc4 => ?_)
      · have he := jq_n hc4 he
        refine lv_iconst (v := 0) C.1 C.2.1 dX6_holds_32 (by decide) ?_
        exact TX6_holds_b33 (n := n) C hr hlk X (lv_sub hl [] rfl) he
      · have he := jq_t hc4 he
        refine lv_iconst (v := 1) C.1 C.2.1 dX6_holds_28 (by decide) ?_
        refine lv_goto (tgt := 33) C.1 C.2.1 dX6_holds_29 (by decide) ?_
        exact TX6_holds_b33 (n := n) C hr hlk X (lv_sub hl [] rfl) he
  · have he := jq_t hc1 he
    refine lv_iload_n C.1 C.2.1 dX6_holds_6 rfl (lv_at hl 1 rfl) ?_
    refine lv_iload_n C.1 C.2.1 dX6_holds_7 rfl (lv_at hl 2 rfl) ?_
    refine lv_icmp_ge (tgt := 15) C.1 C.2.1 dX6_holds_8 (by decide) (fun hc5 => ?_) (fun hc5 => ?_)
    · have he := jq_t hc5 he
      refine lv_iconst (v := 0) C.1 C.2.1 dX6_holds_15 (by decide) ?_
      exact TX6_holds_b16 (n := n) C hr hlk X (lv_sub hl [] rfl) he
    · have he := jq_n hc5 he
      refine lv_iconst (v := 1) C.1 C.2.1 dX6_holds_11 (by decide) ?_
      refine lv_goto (tgt := 16) C.1 C.2.1 dX6_holds_12 (by decide) ?_
      exact TX6_holds_b16 (n := n) C hr hlk X (lv_sub hl [] rfl) he
set_option maxRecDepth 100000 in
set_option maxHeartbeats 4000000 in
theorem TX6_step_b144 {p : Program} {l : Launch} {e : Env} {s : State} {m : MethodId} {args : Array Value} {below : List Frame} {meth : Method} {c : Code} {D : va_G} {ct : Nat → ClassId} {bs : Nat} {res : Int32 × jq_H} {n : Nat} (C : jq_C p s m args c cX6_step 4 RX6 D ct bs) (hr : meth.sig.returnType = (some .int)) (hlk : meth.locks = false) {s0 : Int32} {h : jq_H} {H : Heap} {locs : List Loc} {ls : Array Slot} (X : jq_X bs D ct s.heap h H locs) (hl : lv_has ls 4 []) (he : X6_step_b144 n s0 h = some res) :
    W p l e rm_X6_step s m args below meth c H locs 0 0 (MQ below (jq_Qi bs D ct res) args s rm_X6_step.cells rm_X6_step.slots (fun q => bs ≤ q)) (F0 m 144 ls [.int s0]) := by
  unfold X6_step_b144 at he
  exact jq_iret C X hr hlk he (by decide) (by decide) dX6_step_144
set_option maxRecDepth 100000 in
set_option maxHeartbeats 4000000 in
theorem TX6_step_b127 {p : Program} {l : Launch} {e : Env} {s : State} {m : MethodId} {args : Array Value} {below : List Frame} {meth : Method} {c : Code} {D : va_G} {ct : Nat → ClassId} {bs : Nat} {res : Int32 × jq_H} {n : Nat} (C : jq_C p s m args c cX6_step 4 RX6 D ct bs) (hr : meth.sig.returnType = (some .int)) (hlk : meth.locks = false) {v2 : Int32} {v3 : Int32} {h : jq_H} {H : Heap} {locs : List Loc} {ls : Array Slot} (X : jq_X bs D ct s.heap h H locs) (hl : lv_has ls 4 [(2, .int v2), (3, .int v3)]) (he : X6_step_b127 n v2 v3 h = some res) :
    W p l e rm_X6_step s m args below meth c H locs 0 0 (MQ below (jq_Qi bs D ct res) args s rm_X6_step.cells rm_X6_step.slots (fun q => bs ≤ q)) (F0 m 127 ls []) := by
  unfold X6_step_b127 at he
  refine lv_iload_n C.1 C.2.1 dX6_step_127 rfl (lv_at hl 0 rfl) ?_
  refine lv_bipush (v := 12) C.1 C.2.1 dX6_step_128 (by decide) ?_
  refine lv_icmp_ne (tgt := 135) C.1 C.2.1 dX6_step_130 (by decide) (fun hc1 => ?_) (fun hc1 => ?_)
  · have he := jq_n hc1 he
    refine lv_iload_n C.1 C.2.1 dX6_step_135 rfl (lv_at hl 1 rfl) ?_
    refine lv_if_eq (tgt := 143) C.1 C.2.1 dX6_step_136 (by decide) (fun hc2 => ?_) (fun hc2 => ?_)
    · have he := jq_t hc2 he
      refine lv_iconst (v := 0) C.1 C.2.1 dX6_step_143 (by decide) ?_
      exact TX6_step_b144 (n := n) C hr hlk X (lv_sub hl [] rfl) he
    · have he := jq_n hc2 he
      refine lv_iconst (v := 1) C.1 C.2.1 dX6_step_139 (by decide) ?_
      refine lv_goto (tgt := 144) C.1 C.2.1 dX6_step_140 (by decide) ?_
      exact TX6_step_b144 (n := n) C hr hlk X (lv_sub hl [] rfl) he
  · have he := jq_t hc1 he
    refine lv_iconst (v := 2) C.1 C.2.1 dX6_step_133 (by decide) ?_
    exact jq_iret C X hr hlk he (by decide) (by decide) dX6_step_134
set_option maxRecDepth 100000 in
set_option maxHeartbeats 4000000 in
theorem TX6_step_b109 {p : Program} {l : Launch} {e : Env} {s : State} {m : MethodId} {args : Array Value} {below : List Frame} {meth : Method} {c : Code} {D : va_G} {ct : Nat → ClassId} {bs : Nat} {res : Int32 × jq_H} {n : Nat} (C : jq_C p s m args c cX6_step 4 RX6 D ct bs) (hr : meth.sig.returnType = (some .int)) (hlk : meth.locks = false) {v0 : Nat} {v1 : Int32} {v2 : Int32} {s0 : Int32} {h : jq_H} {H : Heap} {locs : List Loc} {ls : Array Slot} (X : jq_X bs D ct s.heap h H locs) (hl : lv_has ls 4 [(0, .ref v0), (1, .int v1), (2, .int v2)]) (he : X6_step_b109 n v0 v1 v2 s0 h = some res) :
    W p l e rm_X6_step s m args below meth c H locs 0 0 (MQ below (jq_Qi bs D ct res) args s rm_X6_step.cells rm_X6_step.slots (fun q => bs ≤ q)) (F0 m 109 ls [.int s0]) := by
  unfold X6_step_b109 at he
  refine lv_istore_n (lv' := [(3, .int s0), (0, .ref v0), (1, .int v1), (2, .int v2)]) C.1 C.2.1 dX6_step_109 rfl hl (by decide) rfl (fun ls hl => ?_)
  refine lv_iload_n C.1 C.2.1 dX6_step_110 rfl (lv_at hl 0 rfl) ?_
  refine lv_if_eq (tgt := 127) C.1 C.2.1 dX6_step_111 (by decide) (fun hc3 => ?_) (fun hc3 => ?_)
  · have he := jq_t hc3 he
    exact TX6_step_b127 (n := n) C hr hlk X (lv_sub hl [3, 0] rfl) he
  · have he := jq_n hc3 he
    refine lv_aload_n C.1 C.2.1 dX6_step_114 rfl (lv_at hl 1 rfl) ?_
    refine lv_aload_n C.1 C.2.1 dX6_step_115 rfl (lv_at hl 1 rfl) ?_
    refine jq_rgR C X fs_X6_21 he dX6_step_116 (fun q4 he => ?_)
    refine lv_iload_n C.1 C.2.1 dX6_step_119 rfl (lv_at hl 2 rfl) ?_
    refine jq_rldI C X he dX6_step_120 (fun x5 he => ?_)
    refine lv_bipush (v := 63) C.1 C.2.1 dX6_step_121 (by decide) ?_
    refine lv_iand C.1 C.2.1 dX6_step_123 ?_
    refine jq_rp (ty := .int) C X fs_X6_30 (by decide +kernel) rfl rfl he dX6_step_124 (fun h6 H locs he X => ?_)
    exact TX6_step_b127 (n := n) C hr hlk X (lv_sub hl [3, 0] rfl) he
set_option maxRecDepth 100000 in
set_option maxHeartbeats 4000000 in
theorem TX6_step_b104 {p : Program} {l : Launch} {e : Env} {s : State} {m : MethodId} {args : Array Value} {below : List Frame} {meth : Method} {c : Code} {D : va_G} {ct : Nat → ClassId} {bs : Nat} {res : Int32 × jq_H} {n : Nat} (C : jq_C p s m args c cX6_step 4 RX6 D ct bs) (hr : meth.sig.returnType = (some .int)) (hlk : meth.locks = false) {v0 : Nat} {v1 : Int32} {v2 : Int32} {h : jq_H} {H : Heap} {locs : List Loc} {ls : Array Slot} (X : jq_X bs D ct s.heap h H locs) (hl : lv_has ls 4 [(0, .ref v0), (1, .int v1), (2, .int v2)]) (he : X6_step_b104 n v0 v1 v2 h = some res) :
    W p l e rm_X6_step s m args below meth c H locs 0 0 (MQ below (jq_Qi bs D ct res) args s rm_X6_step.cells rm_X6_step.slots (fun q => bs ≤ q)) (F0 m 104 ls []) := by
  unfold X6_step_b104 at he
  refine lv_iconst (v := 1) C.1 C.2.1 dX6_step_104 (by decide) ?_
  refine lv_goto (tgt := 109) C.1 C.2.1 dX6_step_105 (by decide) ?_
  exact TX6_step_b109 (n := n) C hr hlk X (lv_sub hl [0, 1, 2] rfl) he
set_option maxRecDepth 100000 in
set_option maxHeartbeats 4000000 in
theorem M_X6_step (l : Launch) (bs : Nat) (D : va_G) (ct : Nat → ClassId) (n : Nat) (h : jq_H) (a : Nat) (res : Int32 × jq_H) (he : X6_step n h a = some res) : jq_M l yX6_step cX6_step 4 (some .int) rm_X6_step (jq_P [.ref a] bs D ct h) (jq_Qi bs D ct res) bs := by
  refine jq_start2 (by decide +kernel) (Nat.le_of_ble_eq_true rfl) ?_
  intro p e s m args below meth c ls H locs C hr hlk hin hl X
  have C : jq_C p s m args c cX6_step 4 RX6 D ct bs := C
  have hin : meth.name = "step" := hin
  have hl : lv_has ls 4 [(0, .ref a)] := hl
  unfold X6_step at he
  refine lv_aload_n C.1 C.2.1 dX6_step_0 rfl (lv_at hl 0 rfl) ?_
  refine jq_rgI C X fs_X6_30 he dX6_step_1 (fun x7 he => ?_)
  refine lv_istore_n (lv' := [(1, .int x7), (0, .ref a)]) C.1 C.2.1 dX6_step_4 rfl hl (by decide) rfl (fun ls hl => ?_)
  refine lv_aload_n C.1 C.2.1 dX6_step_5 rfl (lv_at hl 1 rfl) ?_
  refine jq_rgR C X fs_X6_9 he dX6_step_6 (fun q8 he => ?_)
  refine lv_iload_n C.1 C.2.1 dX6_step_9 rfl (lv_at hl 0 rfl) ?_
  refine jq_rldI C X he dX6_step_10 (fun x9 he => ?_)
  refine lv_istore_n (lv' := [(2, .int x9), (1, .int x7), (0, .ref a)]) C.1 C.2.1 dX6_step_11 rfl hl (by decide) rfl (fun ls hl => ?_)
  refine lv_iload_n C.1 C.2.1 dX6_step_12 rfl (lv_at hl 0 rfl) ?_
  refine lv_if_ne (tgt := 18) C.1 C.2.1 dX6_step_13 (by decide) (fun hc10 => ?_) (fun hc10 => ?_)
  · have he := jq_n hc10 he
    refine lv_aload_n C.1 C.2.1 dX6_step_18 rfl (lv_at hl 2 rfl) ?_
    refine lv_dup C.1 C.2.1 dX6_step_19 rfl ?_
    refine jq_rgI C X fs_X6_34 he dX6_step_20 (fun x11 he => ?_)
    refine lv_iconst (v := 1) C.1 C.2.1 dX6_step_23 (by decide) ?_
    refine lv_iadd C.1 C.2.1 dX6_step_24 ?_
    refine jq_rp (ty := .int) C X fs_X6_34 (by decide +kernel) rfl rfl he dX6_step_25 (fun h12 H locs he X => ?_)
    refine lv_aload_n C.1 C.2.1 dX6_step_28 rfl (lv_at hl 2 rfl) ?_
    refine lv_iload_n C.1 C.2.1 dX6_step_29 rfl (lv_at hl 1 rfl) ?_
    refine lv_iconst (v := 1) C.1 C.2.1 dX6_step_30 (by decide) ?_
    refine lv_iadd C.1 C.2.1 dX6_step_31 ?_
    refine lv_bipush (v := 63) C.1 C.2.1 dX6_step_32 (by decide) ?_
    refine lv_iand C.1 C.2.1 dX6_step_34 ?_
    refine jq_rp (ty := .int) C X fs_X6_30 (by decide +kernel) rfl rfl he dX6_step_35 (fun h13 H locs he X => ?_)
    refine lv_iload_n C.1 C.2.1 dX6_step_38 rfl (lv_at hl 0 rfl) ?_
    refine lv_bipush (v := 9) C.1 C.2.1 dX6_step_39 (by decide) ?_
    refine lv_icmp_ge (tgt := 69) C.1 C.2.1 dX6_step_41 (by decide) (fun hc14 => ?_) (fun hc14 => ?_)
    · have he := jq_t hc14 he
      refine lv_iload_n C.1 C.2.1 dX6_step_69 rfl (lv_at hl 0 rfl) ?_
      refine lv_bipush (v := 12) C.1 C.2.1 dX6_step_70 (by decide) ?_
      refine lv_icmp_eq (tgt := 104) C.1 C.2.1 dX6_step_72 (by decide) (fun hc15 => ?_) (fun hc15 => ?_)
      · have he := jq_t hc15 he
        exact TX6_step_b104 (n := n) C hr hlk X (lv_sub hl [2, 1, 0] rfl) he
      · have he := jq_n hc15 he
        refine lv_iload_n C.1 C.2.1 dX6_step_75 rfl (lv_at hl 0 rfl) ?_
        refine lv_aload_n C.1 C.2.1 dX6_step_76 rfl (lv_at hl 2 rfl) ?_
        refine jq_rgR C X fs_X6_24 he dX6_step_77 (fun q16 he => ?_)
        refine lv_aload_n C.1 C.2.1 dX6_step_80 rfl (lv_at hl 2 rfl) ?_
        refine jq_rgR C X fs_X6_15 he dX6_step_81 (fun q17 he => ?_)
        refine lv_iload_n C.1 C.2.1 dX6_step_84 rfl (lv_at hl 1 rfl) ?_
        refine jq_rldI C X he dX6_step_85 (fun x18 he => ?_)
        refine jq_rldI C X he dX6_step_86 (fun x19 he => ?_)
        refine lv_aload_n C.1 C.2.1 dX6_step_87 rfl (lv_at hl 2 rfl) ?_
        refine jq_rgR C X fs_X6_24 he dX6_step_88 (fun q20 he => ?_)
        refine lv_aload_n C.1 C.2.1 dX6_step_91 rfl (lv_at hl 2 rfl) ?_
        refine jq_rgR C X fs_X6_18 he dX6_step_92 (fun q21 he => ?_)
        refine lv_iload_n C.1 C.2.1 dX6_step_95 rfl (lv_at hl 1 rfl) ?_
        refine jq_rldI C X he dX6_step_96 (fun x22 he => ?_)
        refine jq_rldI C X he dX6_step_97 (fun x23 he => ?_)
        obtain ⟨z24, hz24, he⟩ := jq_b he
        refine jq_gi (jq_runS (av := [.int x9, .int x19, .int x23]) C X (M_X6_holds l bs D ct n h13 x9 x19 x23 _ hz24) mf_X6_holds gw_167 (Or.inl gw_166) rfl hl.1 rfl (Nat.le_of_ble_eq_true rfl) ⟨by decide, by decide⟩ ⟨by decide, by decide⟩ dX6_step_98) X (fun H locs X => ?_)
        refine lv_if_eq (tgt := 108) C.1 C.2.1 dX6_step_101 (by decide) (fun hc25 => ?_) (fun hc25 => ?_)
        · have he := jq_t hc25 he
          refine lv_iconst (v := 0) C.1 C.2.1 dX6_step_108 (by decide) ?_
          exact TX6_step_b109 (n := n) C hr hlk X (lv_sub hl [2, 1, 0] rfl) he
        · have he := jq_n hc25 he
          exact TX6_step_b104 (n := n) C hr hlk X (lv_sub hl [2, 1, 0] rfl) he
    · have he := jq_n hc14 he
      refine lv_aload_n C.1 C.2.1 dX6_step_44 rfl (lv_at hl 2 rfl) ?_
      refine lv_iload_n C.1 C.2.1 dX6_step_45 rfl (lv_at hl 0 rfl) ?_
      refine lv_aload_n C.1 C.2.1 dX6_step_46 rfl (lv_at hl 2 rfl) ?_
      refine jq_rgR C X fs_X6_15 he dX6_step_47 (fun q26 he => ?_)
      refine lv_iload_n C.1 C.2.1 dX6_step_50 rfl (lv_at hl 1 rfl) ?_
      refine jq_rldI C X he dX6_step_51 (fun x27 he => ?_)
      refine lv_aload_n C.1 C.2.1 dX6_step_52 rfl (lv_at hl 2 rfl) ?_
      refine jq_rgR C X fs_X6_18 he dX6_step_53 (fun q28 he => ?_)
      refine lv_iload_n C.1 C.2.1 dX6_step_56 rfl (lv_at hl 1 rfl) ?_
      refine jq_rldI C X he dX6_step_57 (fun x29 he => ?_)
      refine lv_aload_n C.1 C.2.1 dX6_step_58 rfl (lv_at hl 2 rfl) ?_
      refine jq_rgR C X fs_X6_21 he dX6_step_59 (fun q30 he => ?_)
      refine lv_iload_n C.1 C.2.1 dX6_step_62 rfl (lv_at hl 1 rfl) ?_
      refine jq_rldI C X he dX6_step_63 (fun x31 he => ?_)
      obtain ⟨z32, hz32, he⟩ := jq_b he
      obtain ⟨hz32c, hz32⟩ := jq_ite hz32
      refine jq_gv (jq_runV (a := a) (av := [.int x9, .int x27, .int x29, .int x31]) C X (M_X6_reckon l bs D ct n h13 a x9 x27 x29 x31 _ hz32) mf_X6_reckon gw_164 gs_2 (Or.inl gw_162) rc_X6 hz32c (by decide) rfl hl.1 rfl (Nat.le_of_ble_eq_true rfl) ⟨by decide, by decide⟩ ⟨by decide, by decide⟩ dX6_step_64) X (fun H locs X => ?_)
      refine lv_iconst (v := 2) C.1 C.2.1 dX6_step_67 (by decide) ?_
      exact jq_iret C X hr hlk he (by decide) (by decide) dX6_step_68
  · have he := jq_t hc10 he
    refine lv_iconst (v := (-1)) C.1 C.2.1 dX6_step_16 (by decide) ?_
    exact jq_iret C X hr hlk he (by decide) (by decide) dX6_step_17
