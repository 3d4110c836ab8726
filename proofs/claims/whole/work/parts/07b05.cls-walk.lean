set_option maxRecDepth 100000 in
set_option maxHeartbeats 4000000 in
theorem TX10_guess_b40 {p : Program} {l : Launch} {e : Env} {s : State} {m : MethodId} {args : Array Value} {below : List Frame} {meth : Method} {c : Code} {D : va_G} {ct : Nat → ClassId} {bs : Nat} {res : Int32 × jq_H} {n : Nat} (C : jq_C p s m args c cX10_guess 4 RX10 D ct bs) (hr : meth.sig.returnType = (some .int)) (hlk : meth.locks = false) {v0 : Nat} {v1 : Int32} {h : jq_H} {H : Heap} {locs : List Loc} {ls : Array Slot} (X : jq_X bs D ct s.heap h H locs) (hl : lv_has ls 4 [(0, .ref v0), (1, .int v1)]) (he : X10_guess_b40 n v0 v1 h = some res) :
    W p l e rm_X10_guess s m args below meth c H locs 0 0 (MQ below (jq_Qi bs D ct res) args s rm_X10_guess.cells rm_X10_guess.slots (fun q => bs ≤ q)) (F0 m 40 ls []) := by
  unfold X10_guess_b40 at he
  refine lv_aload_n C.1 C.2.1 dX10_guess_40 rfl (lv_at hl 0 rfl) ?_
  refine jq_rgR C X fs_X10_25 he dX10_guess_41 (fun q1 he => ?_)
  refine lv_iload_n C.1 C.2.1 dX10_guess_44 rfl (lv_at hl 1 rfl) ?_
  refine jq_rldN C X (Or.inl ⟨rfl, rfl⟩) he dX10_guess_45 (fun q2 he => ?_)
  refine jq_rgI C X fs_X10_103 he dX10_guess_46 (fun x3 he => ?_)
  exact jq_iret C X hr hlk he (by decide) (by decide) dX10_guess_49
set_option maxRecDepth 100000 in
set_option maxHeartbeats 4000000 in
theorem TX10_guess_b19 {p : Program} {l : Launch} {e : Env} {s : State} {m : MethodId} {args : Array Value} {below : List Frame} {meth : Method} {c : Code} {D : va_G} {ct : Nat → ClassId} {bs : Nat} {res : Int32 × jq_H} {n : Nat} {KB : Nat → Int32 → Int32 → Int32 → jq_H → Option (Int32 × jq_H)} {K40 : Nat → Int32 → jq_H → Option (Int32 × jq_H)} (C : jq_C p s m args c cX10_guess 4 RX10 D ct bs) (hr : meth.sig.returnType = (some .int)) (hlk : meth.locks = false) (hKB : ∀ (u0 : Nat) (u1 : Int32) (u2 : Int32) (u3 : Int32) (h1 : jq_H) (H1 : Heap) (locs1 : List Loc) (ls1 : Array Slot), KB u0 u1 u2 u3 h1 = some res → jq_X bs D ct s.heap h1 H1 locs1 → lv_has ls1 4 [(0, .ref u0), (1, .int u1), (2, .int u2), (3, .int u3)] → W p l e rm_X10_guess s m args below meth c H1 locs1 0 0 (MQ below (jq_Qi bs D ct res) args s rm_X10_guess.cells rm_X10_guess.slots (fun q => bs ≤ q)) (F0 m 19 ls1 [])) (hK40 : ∀ (u0 : Nat) (u1 : Int32) (h1 : jq_H) (H1 : Heap) (locs1 : List Loc) (ls1 : Array Slot), K40 u0 u1 h1 = some res → jq_X bs D ct s.heap h1 H1 locs1 → lv_has ls1 4 [(0, .ref u0), (1, .int u1)] → W p l e rm_X10_guess s m args below meth c H1 locs1 0 0 (MQ below (jq_Qi bs D ct res) args s rm_X10_guess.cells rm_X10_guess.slots (fun q => bs ≤ q)) (F0 m 40 ls1 [])) {v0 : Nat} {v1 : Int32} {v2 : Int32} {v3 : Int32} {h : jq_H} {H : Heap} {locs : List Loc} {ls : Array Slot} (X : jq_X bs D ct s.heap h H locs) (hl : lv_has ls 4 [(0, .ref v0), (1, .int v1), (2, .int v2), (3, .int v3)]) (he : X10_guess_b19 n KB K40 v0 v1 v2 v3 h = some res) :
    W p l e rm_X10_guess s m args below meth c H locs 0 0 (MQ below (jq_Qi bs D ct res) args s rm_X10_guess.cells rm_X10_guess.slots (fun q => bs ≤ q)) (F0 m 19 ls []) := by
  unfold X10_guess_b19 at he
  refine lv_iload_n C.1 C.2.1 dX10_guess_19 rfl (lv_at hl 3 rfl) ?_
  refine lv_iload_n C.1 C.2.1 dX10_guess_20 rfl (lv_at hl 1 rfl) ?_
  refine lv_icmp_gt (tgt := 40) C.1 C.2.1 dX10_guess_21 (by decide) (fun hc4 => ?_) (fun hc4 => ?_)
  · have he := jq_t hc4 he
    exact hK40 _ _ _ _ _ _ he X (lv_sub hl [0, 1] rfl)
  · have he := jq_n hc4 he
    refine lv_aload_n C.1 C.2.1 dX10_guess_24 rfl (lv_at hl 0 rfl) ?_
    refine jq_rgR C X fs_X10_25 he dX10_guess_25 (fun q5 he => ?_)
    refine lv_iload_n C.1 C.2.1 dX10_guess_28 rfl (lv_at hl 3 rfl) ?_
    refine jq_rldN C X (Or.inl ⟨rfl, rfl⟩) he dX10_guess_29 (fun q6 he => ?_)
    refine lv_iload_n C.1 C.2.1 dX10_guess_30 rfl (lv_at hl 2 rfl) ?_
    obtain ⟨z7, hz7, he⟩ := jq_b he
    have hrun : va_Run p l e rm_X10_guess s m args below meth c H locs 0 0 0 0 (F0 m 31 ls [.int v2, .ref q6]) [] (jq_Qv bs D ct z7 (Value.ref q6 :: [.int v2]).toArray) (fun q => bs ≤ q) := by
      unfold V_say at hz7
      by_cases hci0 : jq_ci h q6 = 0
      · exact jq_runU (a := q6) (av := [.int v2]) (x := ⟨"WayGuesses$Guesser", "say", "(I)V"⟩) (owner := "WayGuesses$Guesser") (E := RX0) C X (M_X3_say l bs D ct n h q6 v2 _ (jq_t hci0 hz7)) mf_X3_say gw_188 gw_190 gw_600 gw_189 (Or.inl ⟨_, _, _, gw_188, gw_196⟩) rfl ⟨by decide, by decide⟩ rc_X0 hci0 (by decide) rfl hl.1 rfl (Nat.le_of_ble_eq_true rfl) ⟨by decide, by decide⟩ ⟨by decide, by decide⟩ dX10_guess_31
      have hz7 := jq_n hci0 hz7
      by_cases hci1 : jq_ci h q6 = 1
      · exact jq_runU (a := q6) (av := [.int v2]) (x := ⟨"WayGuesses$Guesser", "say", "(I)V"⟩) (owner := "WayGuesses$Guesser") (E := RX1) C X (M_X3_say l bs D ct n h q6 v2 _ (jq_t hci1 hz7)) mf_X3_say gw_188 gw_191 gw_600 gw_189 (Or.inl ⟨_, _, _, gw_188, gw_196⟩) rfl ⟨by decide, by decide⟩ rc_X1 hci1 (by decide) rfl hl.1 rfl (Nat.le_of_ble_eq_true rfl) ⟨by decide, by decide⟩ ⟨by decide, by decide⟩ dX10_guess_31
      have hz7 := jq_n hci1 hz7
      by_cases hci2 : jq_ci h q6 = 2
      · exact jq_runU (a := q6) (av := [.int v2]) (x := ⟨"WayGuesses$Guesser", "say", "(I)V"⟩) (owner := "WayGuesses$Guesser") (E := RX2) C X (M_X3_say l bs D ct n h q6 v2 _ (jq_t hci2 hz7)) mf_X3_say gw_188 gw_192 gw_600 gw_189 (Or.inl ⟨_, _, _, gw_188, gw_196⟩) rfl ⟨by decide, by decide⟩ rc_X2 hci2 (by decide) rfl hl.1 rfl (Nat.le_of_ble_eq_true rfl) ⟨by decide, by decide⟩ ⟨by decide, by decide⟩ dX10_guess_31
      have hz7 := jq_n hci2 hz7
      by_cases hci4 : jq_ci h q6 = 4
      · exact jq_runU (a := q6) (av := [.int v2]) (x := ⟨"WayGuesses$Guesser", "say", "(I)V"⟩) (owner := "WayGuesses$Guesser") (E := RX5) C X (M_X3_say l bs D ct n h q6 v2 _ (jq_t hci4 hz7)) mf_X3_say gw_188 gw_193 gw_600 gw_189 (Or.inl ⟨_, _, _, gw_188, gw_196⟩) rfl ⟨by decide, by decide⟩ rc_X5 hci4 (by decide) rfl hl.1 rfl (Nat.le_of_ble_eq_true rfl) ⟨by decide, by decide⟩ ⟨by decide, by decide⟩ dX10_guess_31
      have hz7 := jq_n hci4 hz7
      by_cases hci7 : jq_ci h q6 = 7
      · exact jq_runU (a := q6) (av := [.int v2]) (x := ⟨"WayGuesses$Guesser", "say", "(I)V"⟩) (owner := "WayGuesses$Guesser") (E := RX8) C X (M_X3_say l bs D ct n h q6 v2 _ (jq_t hci7 hz7)) mf_X3_say gw_188 gw_194 gw_600 gw_189 (Or.inl ⟨_, _, _, gw_188, gw_196⟩) rfl ⟨by decide, by decide⟩ rc_X8 hci7 (by decide) rfl hl.1 rfl (Nat.le_of_ble_eq_true rfl) ⟨by decide, by decide⟩ ⟨by decide, by decide⟩ dX10_guess_31
      have hz7 := jq_n hci7 hz7
      by_cases hci8 : jq_ci h q6 = 8
      · exact jq_runU (a := q6) (av := [.int v2]) (x := ⟨"WayGuesses$Guesser", "say", "(I)V"⟩) (owner := "WayGuesses$Guesser") (E := RX9) C X (M_X3_say l bs D ct n h q6 v2 _ (jq_t hci8 hz7)) mf_X3_say gw_188 gw_195 gw_600 gw_189 (Or.inl ⟨_, _, _, gw_188, gw_196⟩) rfl ⟨by decide, by decide⟩ rc_X9 hci8 (by decide) rfl hl.1 rfl (Nat.le_of_ble_eq_true rfl) ⟨by decide, by decide⟩ ⟨by decide, by decide⟩ dX10_guess_31
      have hz7 := jq_n hci8 hz7
      cases hz7
    refine jq_gv (hrun) X (fun H locs X => ?_)
    obtain ⟨x8, hx8, he⟩ := jq_ln he
    refine lv_iinc (v := x8) (lv' := [(3, .int x8), (0, .ref v0), (1, .int v1), (2, .int v2)]) C.1 C.2.1 dX10_guess_34 hl (k := 3) rfl (by rw [hx8]; rfl) (by decide) rfl (fun ls hl => ?_)
    refine lv_goto (tgt := 19) C.1 C.2.1 dX10_guess_37 (by decide) ?_
    exact hKB _ _ _ _ _ _ _ _ he X (lv_sub hl [1, 2, 3, 0] rfl)
set_option maxRecDepth 100000 in
set_option maxHeartbeats 4000000 in
theorem TX10_guess_l19 {p : Program} {l : Launch} {e : Env} {s : State} {m : MethodId} {args : Array Value} {below : List Frame} {meth : Method} {c : Code} {D : va_G} {ct : Nat → ClassId} {bs : Nat} {res : Int32 × jq_H} {n : Nat} {K40 : Nat → Int32 → jq_H → Option (Int32 × jq_H)} (C : jq_C p s m args c cX10_guess 4 RX10 D ct bs) (hr : meth.sig.returnType = (some .int)) (hlk : meth.locks = false) (hK40 : ∀ (u0 : Nat) (u1 : Int32) (h1 : jq_H) (H1 : Heap) (locs1 : List Loc) (ls1 : Array Slot), K40 u0 u1 h1 = some res → jq_X bs D ct s.heap h1 H1 locs1 → lv_has ls1 4 [(0, .ref u0), (1, .int u1)] → W p l e rm_X10_guess s m args below meth c H1 locs1 0 0 (MQ below (jq_Qi bs D ct res) args s rm_X10_guess.cells rm_X10_guess.slots (fun q => bs ≤ q)) (F0 m 40 ls1 [])) :
    ∀ (k : Nat) (v0 : Nat) (v1 : Int32) (v2 : Int32) (v3 : Int32) (h : jq_H) (H : Heap) (locs : List Loc) (ls : Array Slot), X10_guess_l19 n K40 k v0 v1 v2 v3 h = some res → jq_X bs D ct s.heap h H locs → lv_has ls 4 [(0, .ref v0), (1, .int v1), (2, .int v2), (3, .int v3)] → W p l e rm_X10_guess s m args below meth c H locs 0 0 (MQ below (jq_Qi bs D ct res) args s rm_X10_guess.cells rm_X10_guess.slots (fun q => bs ≤ q)) (F0 m 19 ls []) := by
  intro k
  induction k with
  | zero => intro v0 v1 v2 v3 h H locs ls he; cases (show (none : Option (Int32 × jq_H)) = some res from he)
  | succ k ih =>
    intro v0 v1 v2 v3 h H locs ls he X hl
    exact TX10_guess_b19 (n := n) C hr hlk (KB := X10_guess_l19 n K40 k) ih hK40 X hl he
set_option maxRecDepth 100000 in
set_option maxHeartbeats 4000000 in
theorem TX10_guess_b15 {p : Program} {l : Launch} {e : Env} {s : State} {m : MethodId} {args : Array Value} {below : List Frame} {meth : Method} {c : Code} {D : va_G} {ct : Nat → ClassId} {bs : Nat} {res : Int32 × jq_H} {n : Nat} (C : jq_C p s m args c cX10_guess 4 RX10 D ct bs) (hr : meth.sig.returnType = (some .int)) (hlk : meth.locks = false) {h : jq_H} {H : Heap} {locs : List Loc} {ls : Array Slot} (X : jq_X bs D ct s.heap h H locs) (hl : lv_has ls 4 []) (he : X10_guess_b15 n h = some res) :
    W p l e rm_X10_guess s m args below meth c H locs 0 0 (MQ below (jq_Qi bs D ct res) args s rm_X10_guess.cells rm_X10_guess.slots (fun q => bs ≤ q)) (F0 m 15 ls []) := by
  unfold X10_guess_b15 at he
  refine lv_iconst (v := (-1)) C.1 C.2.1 dX10_guess_15 (by decide) ?_
  exact jq_iret C X hr hlk he (by decide) (by decide) dX10_guess_16
set_option maxRecDepth 100000 in
set_option maxHeartbeats 4000000 in
theorem M_X10_guess (l : Launch) (bs : Nat) (D : va_G) (ct : Nat → ClassId) (n : Nat) (h : jq_H) (a : Nat) (p0 : Int32) (p1 : Int32) (res : Int32 × jq_H) (he : X10_guess n h a p0 p1 = some res) : jq_M l yX10_guess cX10_guess 4 (some .int) rm_X10_guess (jq_P [.ref a, .int p0, .int p1] bs D ct h) (jq_Qi bs D ct res) bs := by
  refine jq_start2 (by decide +kernel) (Nat.le_of_ble_eq_true rfl) ?_
  intro p e s m args below meth c ls H locs C hr hlk hin hl X
  have C : jq_C p s m args c cX10_guess 4 RX10 D ct bs := C
  have hin : meth.name = "guess" := hin
  have hl : lv_has ls 4 [(0, .ref a), (1, .int p0), (2, .int p1)] := hl
  unfold X10_guess at he
  refine lv_aload_n C.1 C.2.1 dX10_guess_0 rfl (lv_at hl 0 rfl) ?_
  refine lv_iload_n C.1 C.2.1 dX10_guess_1 rfl (lv_at hl 1 rfl) ?_
  obtain ⟨z9, hz9, he⟩ := jq_b he
  obtain ⟨hz9c, hz9⟩ := jq_ite hz9
  refine jq_gi (jq_runV (a := a) (av := [.int p0]) C X (M_X10_isGuesser l bs D ct n h a p0 _ hz9) mf_X10_isGuesser gw_350 gs_16 (Or.inl gw_348) rc_X10 hz9c (by decide) rfl hl.1 rfl (Nat.le_of_ble_eq_true rfl) ⟨by decide, by decide⟩ ⟨by decide, by decide⟩ dX10_guess_2) X (fun H locs X => ?_)
  refine lv_if_eq (tgt := 15) C.1 C.2.1 dX10_guess_5 (by decide) (fun hc10 => ?_) (fun hc10 => ?_)
  · have he := jq_t hc10 he
    exact TX10_guess_b15 (n := n) C hr hlk X (lv_sub hl [] rfl) he
  · have he := jq_n hc10 he
    refine lv_iload_n C.1 C.2.1 dX10_guess_8 rfl (lv_at hl 2 rfl) ?_
    obtain ⟨z11, hz11, he⟩ := jq_b he
    refine jq_gi (jq_runS (av := [.int p1]) C X (M_X10_isPlace l bs D ct n z9.2 p1 _ hz11) mf_X10_isPlace gw_119 (Or.inl gw_118) rfl hl.1 rfl (Nat.le_of_ble_eq_true rfl) ⟨by decide, by decide⟩ ⟨by decide, by decide⟩ dX10_guess_9) X (fun H locs X => ?_)
    refine lv_if_ne (tgt := 17) C.1 C.2.1 dX10_guess_12 (by decide) (fun hc12 => ?_) (fun hc12 => ?_)
    · have he := jq_n hc12 he
      refine lv_iconst (v := 0) C.1 C.2.1 dX10_guess_17 (by decide) ?_
      refine lv_istore_n (lv' := [(3, .int 0), (0, .ref a), (1, .int p0), (2, .int p1)]) C.1 C.2.1 dX10_guess_18 rfl hl (by decide) rfl (fun ls hl => ?_)
      exact TX10_guess_l19 (n := n) C hr hlk (fun w0 w1 hh H locs ls he X hl => by
    exact TX10_guess_b40 (n := n) C hr hlk X hl he) n _ _ _ _ _ _ _ _ he X (lv_sub hl [1, 2, 3, 0] rfl)
    · have he := jq_t hc12 he
      exact TX10_guess_b15 (n := n) C hr hlk X (lv_sub hl [] rfl) he
set_option maxRecDepth 100000 in
set_option maxHeartbeats 4000000 in
theorem M_X4_init (l : Launch) (bs : Nat) (D : va_G) (ct : Nat → ClassId) (n : Nat) (h : jq_H) (a : Nat) (p0 : Int32) (p1 : Int32) (res : jq_H) (he : X4_init n h a p0 p1 = some res) : jq_M l yX4_init cX4_init 3 none rm_X4_init (jq_P [.ref a, .int p0, .int p1] bs D ct h) (jq_Qv bs D ct res) bs := by
  refine jq_start2 (by decide +kernel) (Nat.le_of_ble_eq_true rfl) ?_
  intro p e s m args below meth c ls H locs C hr hlk hin hl X
  have C : jq_C p s m args c cX4_init 3 RX4 D ct bs := C
  have hin : meth.name = "<init>" := hin
  have hl : lv_has ls 3 [(0, .ref a), (1, .int p0), (2, .int p1)] := hl
  unfold X4_init at he
  refine lv_aload_n C.1 C.2.1 dX4_init_0 rfl (lv_at hl 0 rfl) ?_
  refine W.objInit C.1 C.2.1 C.2.2.2.1 (C.2.2.2.2.1 _ gw_376) (C.2.2.2.2.1 _ gw_22) (C.2.2.2.2.1 _ gw_23) rfl (hl.1.trans C.2.2.1.symm) rfl dX4_init_1 (by decide) (Nat.le_of_ble_eq_true rfl) ?_
  refine W.eq (g2 := F0 m 4 ls []) rfl ?_
  refine lv_aload_n C.1 C.2.1 dX4_init_4 rfl (lv_at hl 0 rfl) ?_
  refine lv_bipush (v := 64) C.1 C.2.1 dX4_init_5 (by decide) ?_
  refine jq_rnewI (aty := .int) C X (Or.inl ⟨rfl, rfl⟩) gw_61 (by decide) he (by decide) (by decide) dX4_init_7 (fun z1 H he X => ?_)
  refine jq_rpF (ty := .array .int) C X fs_X4_9 hin rfl (by decide +kernel) rfl rfl he dX4_init_9 (fun h2 H locs he X => ?_)
  refine lv_aload_n C.1 C.2.1 dX4_init_12 rfl (lv_at hl 0 rfl) ?_
  refine lv_bipush (v := 64) C.1 C.2.1 dX4_init_13 (by decide) ?_
  refine jq_rnewI (aty := .int) C X (Or.inl ⟨rfl, rfl⟩) gw_61 (by decide) he (by decide) (by decide) dX4_init_15 (fun z3 H he X => ?_)
  refine jq_rpF (ty := .array .int) C X fs_X4_15 hin rfl (by decide +kernel) rfl rfl he dX4_init_17 (fun h4 H locs he X => ?_)
  refine lv_aload_n C.1 C.2.1 dX4_init_20 rfl (lv_at hl 0 rfl) ?_
  refine lv_bipush (v := 40) C.1 C.2.1 dX4_init_21 (by decide) ?_
  refine jq_rnewI (aty := .int) C X (Or.inl ⟨rfl, rfl⟩) gw_61 (by decide) he (by decide) (by decide) dX4_init_23 (fun z5 H he X => ?_)
  refine jq_rpF (ty := .array .int) C X fs_X4_18 hin rfl (by decide +kernel) rfl rfl he dX4_init_25 (fun h6 H locs he X => ?_)
  refine lv_aload_n C.1 C.2.1 dX4_init_28 rfl (lv_at hl 0 rfl) ?_
  refine lv_iload_n C.1 C.2.1 dX4_init_29 rfl (lv_at hl 1 rfl) ?_
  refine jq_rnewI (aty := .int) C X (Or.inl ⟨rfl, rfl⟩) gw_61 (by decide) he (by decide) (by decide) dX4_init_30 (fun z7 H he X => ?_)
  refine jq_rpF (ty := .array .int) C X fs_X4_21 hin rfl (by decide +kernel) rfl rfl he dX4_init_32 (fun h8 H locs he X => ?_)
  refine lv_aload_n C.1 C.2.1 dX4_init_35 rfl (lv_at hl 0 rfl) ?_
  refine lv_iload_n C.1 C.2.1 dX4_init_36 rfl (lv_at hl 2 rfl) ?_
  refine jq_rnewI (aty := .int) C X (Or.inl ⟨rfl, rfl⟩) gw_61 (by decide) he (by decide) (by decide) dX4_init_37 (fun z9 H he X => ?_)
  refine jq_rpF (ty := .array .int) C X fs_X4_24 hin rfl (by decide +kernel) rfl rfl he dX4_init_39 (fun h10 H locs he X => ?_)
  refine lv_aload_n C.1 C.2.1 dX4_init_42 rfl (lv_at hl 0 rfl) ?_
  refine jq_rgR C X fs_X4_24 he dX4_init_43 (fun q11 he => ?_)
  refine lv_bipush (v := (-6)) C.1 C.2.1 dX4_init_46 (by decide) ?_
  obtain ⟨z12, hz12, he⟩ := jq_b he
  refine jq_gv (jq_runS (av := [.ref q11, .int (-6)]) C X (M_J7_fill_53178 l bs D ct n h10 q11 (-6) _ hz12) mf_J7_fill_53178 gw_371 (Or.inl gw_377) rfl hl.1 rfl (Nat.le_of_ble_eq_true rfl) ⟨by decide, by decide⟩ ⟨by decide, by decide⟩ dX4_init_48) X (fun H locs X => ?_)
  exact jq_vret C X hr hlk he (by decide) (by decide) dX4_init_51
set_option maxRecDepth 100000 in
set_option maxHeartbeats 4000000 in
theorem M_X4_twin (l : Launch) (bs : Nat) (D : va_G) (ct : Nat → ClassId) (n : Nat) (h : jq_H) (a : Nat) (res : Nat × jq_H) (he : X4_twin n h a = some res) : jq_M l yX4_twin cX4_twin 1 (some (.object "WayGuesses$Learnt")) rm_X4_twin (jq_P [.ref a] bs D ct h) (jq_Qr bs D ct res) bs := by
  refine jq_start2 (by decide +kernel) (Nat.le_of_ble_eq_true rfl) ?_
  intro p e s m args below meth c ls H locs C hr hlk hin hl X
  have C : jq_C p s m args c cX4_twin 1 RX4 D ct bs := C
  have hin : meth.name = "twin" := hin
  have hl : lv_has ls 1 [(0, .ref a)] := hl
  unfold X4_twin at he
  refine jq_rnewO (fs := [.null, .null, .null, .null, .null, .int 0, .int 0, .int 0, .int 0, .int 0]) C X cf_X4 gw_427 gw_210 gw_9 (fun j hj => by rcases (show j = 0 ∨ j = 1 ∨ j = 2 ∨ j = 3 ∨ j = 4 ∨ j = 5 ∨ j = 6 ∨ j = 7 ∨ j = 8 ∨ j = 9 by omega) with rfl | rfl | rfl | rfl | rfl | rfl | rfl | rfl | rfl | rfl <;> rfl) he (by decide) (by decide) dX4_twin_0 (fun z1 H he X => ?_)
  refine lv_dup C.1 C.2.1 dX4_twin_3 rfl ?_
  refine lv_aload_n C.1 C.2.1 dX4_twin_4 rfl (lv_at hl 0 rfl) ?_
  refine jq_rgR C X fs_X4_21 he dX4_twin_5 (fun q2 he => ?_)
  refine jq_rlen C X he dX4_twin_8 (fun x3 he => ?_)
  refine lv_aload_n C.1 C.2.1 dX4_twin_9 rfl (lv_at hl 0 rfl) ?_
  refine jq_rgR C X fs_X4_24 he dX4_twin_10 (fun q4 he => ?_)
  refine jq_rlen C X he dX4_twin_13 (fun x5 he => ?_)
  obtain ⟨z6, hz6, he⟩ := jq_b he
  refine jq_gv (jq_runI (a := z1.1) (av := [.int x3, .int x5]) C X (M_X4_init l bs D ct n z1.2 z1.1 x3 x5 _ hz6) mf_X4_init rfl gw_374 (Or.inl gw_428) rfl hl.1 rfl (Nat.le_of_ble_eq_true rfl) ⟨by decide, by decide⟩ ⟨by decide, by decide⟩ dX4_twin_14) X (fun H locs X => ?_)
  exact jq_aret C X hr hlk he (by decide) (by decide) dX4_twin_17
set_option maxRecDepth 100000 in
set_option maxHeartbeats 4000000 in
theorem M_X3_init (l : Launch) (bs : Nat) (D : va_G) (ct : Nat → ClassId) (n : Nat) (h : jq_H) (a : Nat) (p0 : Int32) (p1 : Int32) (p2 : Int32) (p3 : Int32) (res : jq_H) (he : X3_init n h a p0 p1 p2 p3 = some res) : jq_M l yX3_init cX3_init 5 none rm_X3_init (jq_P [.ref a, .int p0, .int p1, .int p2, .int p3] bs D ct h) (jq_Qv bs D ct res) bs := by
  refine jq_start2 (by decide +kernel) (Nat.le_of_ble_eq_true rfl) ?_
  intro p e s m args below meth c ls H locs C hr hlk hin hl X
  have C : jq_C p s m args c cX3_init 5 RX3 D ct bs := C
  have hin : meth.name = "<init>" := hin
  have hl : lv_has ls 5 [(0, .ref a), (1, .int p0), (2, .int p1), (3, .int p2), (4, .int p3)] := hl
  unfold X3_init at he
  refine lv_aload_n C.1 C.2.1 dX3_init_0 rfl (lv_at hl 0 rfl) ?_
  refine W.objInit C.1 C.2.1 C.2.2.2.1 (C.2.2.2.2.1 _ gw_367) (C.2.2.2.2.1 _ gw_22) (C.2.2.2.2.1 _ gw_23) rfl (hl.1.trans C.2.2.1.symm) rfl dX3_init_1 (by decide) (Nat.le_of_ble_eq_true rfl) ?_
  refine W.eq (g2 := F0 m 4 ls []) rfl ?_
  refine lv_aload_n C.1 C.2.1 dX3_init_4 rfl (lv_at hl 0 rfl) ?_
  refine lv_bipush (v := 64) C.1 C.2.1 dX3_init_5 (by decide) ?_
  refine jq_rnewI (aty := .int) C X (Or.inl ⟨rfl, rfl⟩) gw_61 (by decide) he (by decide) (by decide) dX3_init_7 (fun z1 H he X => ?_)
  refine jq_rpF (ty := .array .int) C X fs_X3_9 hin rfl (by decide +kernel) rfl rfl he dX3_init_9 (fun h2 H locs he X => ?_)
  refine lv_aload_n C.1 C.2.1 dX3_init_12 rfl (lv_at hl 0 rfl) ?_
  refine lv_iconst (v := 2) C.1 C.2.1 dX3_init_13 (by decide) ?_
  refine jq_rnewR C X (Or.inr ⟨rfl, rfl⟩) gw_368 gw_369 (by decide) he (by decide) (by decide) dX3_init_14 (fun z3 H he X => ?_)
  refine jq_rpF (ty := .array (.object "WayGuesses$Learnt")) C X fs_X3_17 hin rfl (by decide +kernel) rfl rfl he dX3_init_17 (fun h4 H locs he X => ?_)
  refine lv_aload_n C.1 C.2.1 dX3_init_20 rfl (lv_at hl 0 rfl) ?_
  refine lv_iload_n C.1 C.2.1 dX3_init_21 rfl (lv_at hl 1 rfl) ?_
  refine jq_rpF (ty := .int) C X fs_X3_21 hin rfl (by decide +kernel) rfl rfl he dX3_init_22 (fun h5 H locs he X => ?_)
  refine lv_aload_n C.1 C.2.1 dX3_init_25 rfl (lv_at hl 0 rfl) ?_
  refine lv_iload_n C.1 C.2.1 dX3_init_26 rfl (lv_at hl 2 rfl) ?_
  refine jq_rpF (ty := .int) C X fs_X3_25 hin rfl (by decide +kernel) rfl rfl he dX3_init_27 (fun h6 H locs he X => ?_)
  refine lv_aload_n C.1 C.2.1 dX3_init_30 rfl (lv_at hl 0 rfl) ?_
  refine jq_rgR C X fs_X3_9 he dX3_init_31 (fun q7 he => ?_)
  refine lv_iconst (v := (-1)) C.1 C.2.1 dX3_init_34 (by decide) ?_
  obtain ⟨z8, hz8, he⟩ := jq_b he
  refine jq_gv (jq_runS (av := [.ref q7, .int (-1)]) C X (M_J7_fill_53178 l bs D ct n h6 q7 (-1) _ hz8) mf_J7_fill_53178 gw_371 (Or.inl gw_370) rfl hl.1 rfl (Nat.le_of_ble_eq_true rfl) ⟨by decide, by decide⟩ ⟨by decide, by decide⟩ dX3_init_35) X (fun H locs X => ?_)
  refine lv_aload_n C.1 C.2.1 dX3_init_38 rfl (lv_at hl 0 rfl) ?_
  refine jq_rnewO (fs := [.null, .null, .null, .null, .null, .int 0, .int 0, .int 0, .int 0, .int 0]) C X cf_X4 gw_368 gw_210 gw_9 (fun j hj => by rcases (show j = 0 ∨ j = 1 ∨ j = 2 ∨ j = 3 ∨ j = 4 ∨ j = 5 ∨ j = 6 ∨ j = 7 ∨ j = 8 ∨ j = 9 by omega) with rfl | rfl | rfl | rfl | rfl | rfl | rfl | rfl | rfl | rfl <;> rfl) he (by decide) (by decide) dX3_init_39 (fun z9 H he X => ?_)
  refine lv_dup C.1 C.2.1 dX3_init_42 rfl ?_
  refine lv_iload_n C.1 C.2.1 dX3_init_43 rfl (lv_at hl 1 rfl) ?_
  refine lv_iload_n C.1 C.2.1 dX3_init_44 rfl (lv_at hl 2 rfl) ?_
  refine lv_imul C.1 C.2.1 dX3_init_45 ?_
  refine lv_iload_n C.1 C.2.1 dX3_init_46 rfl (lv_at hl 3 rfl) ?_
  obtain ⟨z10, hz10, he⟩ := jq_b he
  refine jq_gv (jq_runI (a := z9.1) (av := [.int (p0 * p1), .int p2]) C X (M_X4_init l bs D ct n z9.2 z9.1 (p0 * p1) p2 _ hz10) mf_X4_init rfl gw_374 (Or.inr ⟨_, gw_373⟩) rfl hl.1 rfl (Nat.le_of_ble_eq_true rfl) ⟨by decide, by decide⟩ ⟨by decide, by decide⟩ dX3_init_47) X (fun H locs X => ?_)
  refine jq_rpF (ty := .object "WayGuesses$Learnt") C X fs_X3_37 hin rfl (by decide +kernel) rfl rfl he dX3_init_50 (fun h11 H locs he X => ?_)
  refine lv_aload_n C.1 C.2.1 dX3_init_53 rfl (lv_at hl 0 rfl) ?_
  refine jq_rgR C X fs_X3_37 he dX3_init_54 (fun q12 he => ?_)
  refine jq_rgR C X fs_X3_41 he dX3_init_57 (fun q13 he => ?_)
  refine lv_iload C.1 C.2.1 dX3_init_60 (lv_at hl 4 rfl) ?_
  obtain ⟨z14, hz14, he⟩ := jq_b he
  refine jq_gv (jq_runS (av := [.ref q13, .int p3]) C X (M_J7_fill_53178 l bs D ct n h11 q13 p3 _ hz14) mf_J7_fill_53178 gw_371 (Or.inl gw_370) rfl hl.1 rfl (Nat.le_of_ble_eq_true rfl) ⟨by decide, by decide⟩ ⟨by decide, by decide⟩ dX3_init_62) X (fun H locs X => ?_)
  refine lv_aload_n C.1 C.2.1 dX3_init_65 rfl (lv_at hl 0 rfl) ?_
  refine lv_aload_n C.1 C.2.1 dX3_init_66 rfl (lv_at hl 0 rfl) ?_
  refine jq_rgR C X fs_X3_37 he dX3_init_67 (fun q15 he => ?_)
  obtain ⟨z16, hz16, he⟩ := jq_b he
  obtain ⟨hz16c, hz16⟩ := jq_ite hz16
  refine jq_gr (jq_runV (a := q15) (av := []) C X (M_X4_twin l bs D ct n z14 q15 _ hz16) mf_X4_twin gw_425 gs_18 (Or.inr ⟨_, gw_423⟩) rc_X4 hz16c (by decide) rfl hl.1 rfl (Nat.le_of_ble_eq_true rfl) ⟨by decide, by decide⟩ ⟨by decide, by decide⟩ dX3_init_70) X (fun H locs X => ?_)
  refine jq_rpF (ty := .object "WayGuesses$Learnt") C X fs_X3_48 hin rfl (by decide +kernel) rfl rfl he dX3_init_73 (fun h17 H locs he X => ?_)
  refine lv_aload_n C.1 C.2.1 dX3_init_76 rfl (lv_at hl 0 rfl) ?_
  refine jq_rgR C X fs_X3_48 he dX3_init_77 (fun q18 he => ?_)
  refine lv_aload_n C.1 C.2.1 dX3_init_80 rfl (lv_at hl 0 rfl) ?_
  refine jq_rgR C X fs_X3_37 he dX3_init_81 (fun q19 he => ?_)
  obtain ⟨z20, hz20, he⟩ := jq_b he
  obtain ⟨hz20c, hz20⟩ := jq_ite hz20
  refine jq_gv (jq_runV (a := q18) (av := [.ref q19]) C X (M_X4_take l bs D ct n h17 q18 q19 _ hz20) mf_X4_take gw_431 gs_19 (Or.inr ⟨_, gw_429⟩) rc_X4 hz20c (by decide) rfl hl.1 rfl (Nat.le_of_ble_eq_true rfl) ⟨by decide, by decide⟩ ⟨by decide, by decide⟩ dX3_init_84) X (fun H locs X => ?_)
  exact jq_vret C X hr hlk he (by decide) (by decide) dX3_init_87
set_option maxRecDepth 100000 in
set_option maxHeartbeats 4000000 in
theorem M_X1_init (l : Launch) (bs : Nat) (D : va_G) (ct : Nat → ClassId) (n : Nat) (h : jq_H) (a : Nat) (p0 : Int32) (p1 : Int32) (p2 : Int32) (p3 : Int32) (res : jq_H) (he : X1_init n h a p0 p1 p2 p3 = some res) : jq_M l yX1_init cX1_init 5 none rm_X1_init (jq_P [.ref a, .int p0, .int p1, .int p2, .int p3] bs D ct h) (jq_Qv bs D ct res) bs := by
  refine jq_start2 (by decide +kernel) (Nat.le_of_ble_eq_true rfl) ?_
  intro p e s m args below meth c ls H locs C hr hlk hin hl X
  have C : jq_C p s m args c cX1_init 5 RX1 D ct bs := C
  have hin : meth.name = "<init>" := hin
  have hl : lv_has ls 5 [(0, .ref a), (1, .int p0), (2, .int p1), (3, .int p2), (4, .int p3)] := hl
  unfold X1_init at he
  refine lv_aload_n C.1 C.2.1 dX1_init_0 rfl (lv_at hl 0 rfl) ?_
  refine lv_iconst (v := 1) C.1 C.2.1 dX1_init_1 (by decide) ?_
  refine lv_iconst (v := 1) C.1 C.2.1 dX1_init_2 (by decide) ?_
  refine lv_iload_n C.1 C.2.1 dX1_init_3 rfl (lv_at hl 1 rfl) ?_
  refine lv_ishl C.1 C.2.1 dX1_init_4 ?_
  refine lv_iconst (v := 1) C.1 C.2.1 dX1_init_5 (by decide) ?_
  refine lv_iload_n C.1 C.2.1 dX1_init_6 rfl (lv_at hl 1 rfl) ?_
  refine lv_ishl C.1 C.2.1 dX1_init_7 ?_
  refine lv_iconst (v := 1) C.1 C.2.1 dX1_init_8 (by decide) ?_
  obtain ⟨z1, hz1, he⟩ := jq_b he
  refine jq_gv (jq_runI (a := a) (av := [.int 1, .int (1 <<< (p0 &&& 31)), .int (1 <<< (p0 &&& 31)), .int 1]) C X (M_X3_init l bs D ct n h a 1 (1 <<< (p0 &&& 31)) (1 <<< (p0 &&& 31)) 1 _ hz1) mf_X3_init rfl gw_365 (Or.inl gw_364) rfl hl.1 rfl (Nat.le_of_ble_eq_true rfl) ⟨by decide, by decide⟩ ⟨by decide, by decide⟩ dX1_init_9) X (fun H locs X => ?_)
  refine lv_aload_n C.1 C.2.1 dX1_init_12 rfl (lv_at hl 0 rfl) ?_
  refine lv_iload_n C.1 C.2.1 dX1_init_13 rfl (lv_at hl 1 rfl) ?_
  obtain ⟨z2, hz2, he⟩ := jq_b he
  refine jq_gi (jq_runS (av := [.int p0]) C X (M_X10_lowBits l bs D ct n z1 p0 _ hz2) mf_X10_lowBits gw_235 (Or.inr ⟨_, gw_436⟩) rfl hl.1 rfl (Nat.le_of_ble_eq_true rfl) ⟨by decide, by decide⟩ ⟨by decide, by decide⟩ dX1_init_14) X (fun H locs X => ?_)
  refine jq_rpF (ty := .int) C X fs_X1_13 hin rfl (by decide +kernel) rfl rfl he dX1_init_17 (fun h3 H locs he X => ?_)
  refine lv_aload_n C.1 C.2.1 dX1_init_20 rfl (lv_at hl 0 rfl) ?_
  refine lv_iload_n C.1 C.2.1 dX1_init_21 rfl (lv_at hl 2 rfl) ?_
  obtain ⟨z4, hz4, he⟩ := jq_b he
  refine jq_gi (jq_runS (av := [.int p1]) C X (M_X10_lowBits l bs D ct n h3 p1 _ hz4) mf_X10_lowBits gw_235 (Or.inr ⟨_, gw_436⟩) rfl hl.1 rfl (Nat.le_of_ble_eq_true rfl) ⟨by decide, by decide⟩ ⟨by decide, by decide⟩ dX1_init_22) X (fun H locs X => ?_)
  refine jq_rpF (ty := .int) C X fs_X1_19 hin rfl (by decide +kernel) rfl rfl he dX1_init_25 (fun h5 H locs he X => ?_)
  refine lv_aload_n C.1 C.2.1 dX1_init_28 rfl (lv_at hl 0 rfl) ?_
  refine lv_iload_n C.1 C.2.1 dX1_init_29 rfl (lv_at hl 3 rfl) ?_
  obtain ⟨hz7, he⟩ := jq_ite he
  refine jq_rpF (ty := .boolean) C X fs_X1_22 hin rfl (by decide +kernel) (jq_nar hz7) (jq_fitZ hz7) he dX1_init_30 (fun h6 H locs he X => ?_)
  refine lv_aload_n C.1 C.2.1 dX1_init_33 rfl (lv_at hl 0 rfl) ?_
  refine lv_iload C.1 C.2.1 dX1_init_34 (lv_at hl 4 rfl) ?_
  refine jq_rpF (ty := .int) C X fs_X1_26 hin rfl (by decide +kernel) rfl rfl he dX1_init_36 (fun h8 H locs he X => ?_)
  exact jq_vret C X hr hlk he (by decide) (by decide) dX1_init_39
set_option maxRecDepth 100000 in
set_option maxHeartbeats 4000000 in
theorem M_X8_init (l : Launch) (bs : Nat) (D : va_G) (ct : Nat → ClassId) (n : Nat) (h : jq_H) (a : Nat) (p0 : Int32) (p1 : Int32) (res : jq_H) (he : X8_init n h a p0 p1 = some res) : jq_M l yX8_init cX8_init 3 none rm_X8_init (jq_P [.ref a, .int p0, .int p1] bs D ct h) (jq_Qv bs D ct res) bs := by
  refine jq_start2 (by decide +kernel) (Nat.le_of_ble_eq_true rfl) ?_
  intro p e s m args below meth c ls H locs C hr hlk hin hl X
  have C : jq_C p s m args c cX8_init 3 RX8 D ct bs := C
  have hin : meth.name = "<init>" := hin
  have hl : lv_has ls 3 [(0, .ref a), (1, .int p0), (2, .int p1)] := hl
  unfold X8_init at he
  refine lv_aload_n C.1 C.2.1 dX8_init_0 rfl (lv_at hl 0 rfl) ?_
  refine lv_iconst (v := 3) C.1 C.2.1 dX8_init_1 (by decide) ?_
  refine lv_iconst (v := 1) C.1 C.2.1 dX8_init_2 (by decide) ?_
  refine lv_iload_n C.1 C.2.1 dX8_init_3 rfl (lv_at hl 1 rfl) ?_
  refine lv_ishl C.1 C.2.1 dX8_init_4 ?_
  refine lv_iconst (v := 0) C.1 C.2.1 dX8_init_5 (by decide) ?_
  refine lv_iconst (v := 1) C.1 C.2.1 dX8_init_6 (by decide) ?_
  obtain ⟨z1, hz1, he⟩ := jq_b he
  refine jq_gv (jq_runI (a := a) (av := [.int 3, .int (1 <<< (p0 &&& 31)), .int 0, .int 1]) C X (M_X3_init l bs D ct n h a 3 (1 <<< (p0 &&& 31)) 0 1 _ hz1) mf_X3_init rfl gw_365 (Or.inl gw_496) rfl hl.1 rfl (Nat.le_of_ble_eq_true rfl) ⟨by decide, by decide⟩ ⟨by decide, by decide⟩ dX8_init_7) X (fun H locs X => ?_)
  refine lv_aload_n C.1 C.2.1 dX8_init_10 rfl (lv_at hl 0 rfl) ?_
  refine lv_iload_n C.1 C.2.1 dX8_init_11 rfl (lv_at hl 1 rfl) ?_
  obtain ⟨z2, hz2, he⟩ := jq_b he
  refine jq_gi (jq_runS (av := [.int p0]) C X (M_X10_lowBits l bs D ct n z1 p0 _ hz2) mf_X10_lowBits gw_235 (Or.inr ⟨_, gw_234⟩) rfl hl.1 rfl (Nat.le_of_ble_eq_true rfl) ⟨by decide, by decide⟩ ⟨by decide, by decide⟩ dX8_init_12) X (fun H locs X => ?_)
  refine jq_rpF (ty := .int) C X fs_X8_15 hin rfl (by decide +kernel) rfl rfl he dX8_init_15 (fun h3 H locs he X => ?_)
  refine lv_aload_n C.1 C.2.1 dX8_init_18 rfl (lv_at hl 0 rfl) ?_
  refine lv_iload_n C.1 C.2.1 dX8_init_19 rfl (lv_at hl 2 rfl) ?_
  refine jq_rpF (ty := .int) C X fs_X8_19 hin rfl (by decide +kernel) rfl rfl he dX8_init_20 (fun h4 H locs he X => ?_)
  exact jq_vret C X hr hlk he (by decide) (by decide) dX8_init_23
set_option maxRecDepth 100000 in
set_option maxHeartbeats 4000000 in
theorem M_X9_init (l : Launch) (bs : Nat) (D : va_G) (ct : Nat → ClassId) (n : Nat) (h : jq_H) (a : Nat) (p0 : Int32) (p1 : Int32) (p2 : Int32) (res : jq_H) (he : X9_init n h a p0 p1 p2 = some res) : jq_M l yX9_init cX9_init 4 none rm_X9_init (jq_P [.ref a, .int p0, .int p1, .int p2] bs D ct h) (jq_Qv bs D ct res) bs := by
  refine jq_start2 (by decide +kernel) (Nat.le_of_ble_eq_true rfl) ?_
  intro p e s m args below meth c ls H locs C hr hlk hin hl X
  have C : jq_C p s m args c cX9_init 4 RX9 D ct bs := C
  have hin : meth.name = "<init>" := hin
  have hl : lv_has ls 4 [(0, .ref a), (1, .int p0), (2, .int p1), (3, .int p2)] := hl
  unfold X9_init at he
  refine lv_aload_n C.1 C.2.1 dX9_init_0 rfl (lv_at hl 0 rfl) ?_
  refine lv_iconst (v := 1) C.1 C.2.1 dX9_init_1 (by decide) ?_
  refine lv_iload_n C.1 C.2.1 dX9_init_2 rfl (lv_at hl 1 rfl) ?_
  refine lv_ishl C.1 C.2.1 dX9_init_3 ?_
  refine lv_iload_n C.1 C.2.1 dX9_init_4 rfl (lv_at hl 2 rfl) ?_
  refine lv_iconst (v := 1) C.1 C.2.1 dX9_init_5 (by decide) ?_
  refine lv_iadd C.1 C.2.1 dX9_init_6 ?_
  refine lv_iconst (v := 1) C.1 C.2.1 dX9_init_7 (by decide) ?_
  refine lv_iload_n C.1 C.2.1 dX9_init_8 rfl (lv_at hl 1 rfl) ?_
  refine lv_ishl C.1 C.2.1 dX9_init_9 ?_
  refine lv_iconst (v := 0) C.1 C.2.1 dX9_init_10 (by decide) ?_
  obtain ⟨z1, hz1, he⟩ := jq_b he
  refine jq_gv (jq_runI (a := a) (av := [.int (1 <<< (p0 &&& 31)), .int (p1 + 1), .int (1 <<< (p0 &&& 31)), .int 0]) C X (M_X3_init l bs D ct n h a (1 <<< (p0 &&& 31)) (p1 + 1) (1 <<< (p0 &&& 31)) 0 _ hz1) mf_X3_init rfl gw_365 (Or.inl gw_515) rfl hl.1 rfl (Nat.le_of_ble_eq_true rfl) ⟨by decide, by decide⟩ ⟨by decide, by decide⟩ dX9_init_11) X (fun H locs X => ?_)
  refine lv_aload_n C.1 C.2.1 dX9_init_14 rfl (lv_at hl 0 rfl) ?_
  refine lv_iload_n C.1 C.2.1 dX9_init_15 rfl (lv_at hl 1 rfl) ?_
  obtain ⟨z2, hz2, he⟩ := jq_b he
  refine jq_gi (jq_runS (av := [.int p0]) C X (M_X10_lowBits l bs D ct n z1 p0 _ hz2) mf_X10_lowBits gw_235 (Or.inr ⟨_, gw_516⟩) rfl hl.1 rfl (Nat.le_of_ble_eq_true rfl) ⟨by decide, by decide⟩ ⟨by decide, by decide⟩ dX9_init_16) X (fun H locs X => ?_)
  refine jq_rpF (ty := .int) C X fs_X9_13 hin rfl (by decide +kernel) rfl rfl he dX9_init_19 (fun h3 H locs he X => ?_)
  refine lv_aload_n C.1 C.2.1 dX9_init_22 rfl (lv_at hl 0 rfl) ?_
  refine lv_iload_n C.1 C.2.1 dX9_init_23 rfl (lv_at hl 3 rfl) ?_
  refine jq_rpF (ty := .int) C X fs_X9_19 hin rfl (by decide +kernel) rfl rfl he dX9_init_24 (fun h4 H locs he X => ?_)
  exact jq_vret C X hr hlk he (by decide) (by decide) dX9_init_27
set_option maxRecDepth 100000 in
set_option maxHeartbeats 4000000 in
theorem TX5_init_b42 {p : Program} {l : Launch} {e : Env} {s : State} {m : MethodId} {args : Array Value} {below : List Frame} {meth : Method} {c : Code} {D : va_G} {ct : Nat → ClassId} {bs : Nat} {res : jq_H} {n : Nat} (C : jq_C p s m args c cX5_init 3 RX5 D ct bs) (hr : meth.sig.returnType = none) (hlk : meth.locks = false) (hin : meth.name = "<init>") {v0 : Nat} {h : jq_H} {H : Heap} {locs : List Loc} {ls : Array Slot} (X : jq_X bs D ct s.heap h H locs) (hl : lv_has ls 3 [(0, .ref v0)]) (he : X5_init_b42 n v0 h = some res) :
    W p l e rm_X5_init s m args below meth c H locs 14 2470 (MQ below (jq_Qv bs D ct res) args s rm_X5_init.cells rm_X5_init.slots (fun q => bs ≤ q)) (F0 m 42 ls []) := by
  unfold X5_init_b42 at he
  refine lv_aload_n C.1 C.2.1 dX5_init_42 rfl (lv_at hl 0 rfl) ?_
  refine jq_rgR C X fs_X5_25 he dX5_init_43 (fun q1 he => ?_)
  refine lv_aload_n C.1 C.2.1 dX5_init_46 rfl (lv_at hl 0 rfl) ?_
  refine jq_rgR C X fs_X5_15 he dX5_init_47 (fun q2 he => ?_)
  obtain ⟨z3, hz3, he⟩ := jq_b he
  obtain ⟨hz3c, hz3⟩ := jq_ite hz3
  refine jq_gv (jq_runV (a := q1) (av := [.ref q2]) C X (M_X4_take l bs D ct n h q1 q2 _ hz3) mf_X4_take gw_431 gs_19 (Or.inr ⟨_, gw_537⟩) rc_X4 hz3c (by decide) rfl hl.1 rfl (Nat.le_of_ble_eq_true rfl) ⟨by decide, by decide⟩ ⟨by decide, by decide⟩ dX5_init_50) X (fun H locs X => ?_)
  exact jq_vret C X hr hlk he (by decide) (by decide) dX5_init_53
set_option maxRecDepth 100000 in
set_option maxHeartbeats 4000000 in
theorem TX5_init_b16 {p : Program} {l : Launch} {e : Env} {s : State} {m : MethodId} {args : Array Value} {below : List Frame} {meth : Method} {c : Code} {D : va_G} {ct : Nat → ClassId} {bs : Nat} {res : jq_H} {n : Nat} {KB : Nat → Int32 → jq_H → Option (jq_H)} {K42 : Nat → jq_H → Option (jq_H)} (C : jq_C p s m args c cX5_init 3 RX5 D ct bs) (hr : meth.sig.returnType = none) (hlk : meth.locks = false) (hin : meth.name = "<init>") (hKB : ∀ (u0 : Nat) (u2 : Int32) (h1 : jq_H) (H1 : Heap) (locs1 : List Loc) (ls1 : Array Slot), KB u0 u2 h1 = some res → jq_X bs D ct s.heap h1 H1 locs1 → lv_has ls1 3 [(0, .ref u0), (2, .int u2)] → W p l e rm_X5_init s m args below meth c H1 locs1 14 2470 (MQ below (jq_Qv bs D ct res) args s rm_X5_init.cells rm_X5_init.slots (fun q => bs ≤ q)) (F0 m 16 ls1 [])) (hK42 : ∀ (u0 : Nat) (h1 : jq_H) (H1 : Heap) (locs1 : List Loc) (ls1 : Array Slot), K42 u0 h1 = some res → jq_X bs D ct s.heap h1 H1 locs1 → lv_has ls1 3 [(0, .ref u0)] → W p l e rm_X5_init s m args below meth c H1 locs1 14 2470 (MQ below (jq_Qv bs D ct res) args s rm_X5_init.cells rm_X5_init.slots (fun q => bs ≤ q)) (F0 m 42 ls1 [])) {v0 : Nat} {v2 : Int32} {h : jq_H} {H : Heap} {locs : List Loc} {ls : Array Slot} (X : jq_X bs D ct s.heap h H locs) (hl : lv_has ls 3 [(0, .ref v0), (2, .int v2)]) (he : X5_init_b16 n KB K42 v0 v2 h = some res) :
    W p l e rm_X5_init s m args below meth c H locs 14 2470 (MQ below (jq_Qv bs D ct res) args s rm_X5_init.cells rm_X5_init.slots (fun q => bs ≤ q)) (F0 m 16 ls []) := by
  unfold X5_init_b16 at he
  refine lv_iload_n C.1 C.2.1 dX5_init_16 rfl (lv_at hl 1 rfl) ?_
  refine lv_bipush (v := 64) C.1 C.2.1 dX5_init_17 (by decide) ?_
  refine lv_icmp_ge (tgt := 42) C.1 C.2.1 dX5_init_19 (by decide) (fun hc4 => ?_) (fun hc4 => ?_)
  · have he := jq_t hc4 he
    exact hK42 _ _ _ _ _ he X (lv_sub hl [0] rfl)
  · have he := jq_n hc4 he
    refine lv_aload_n C.1 C.2.1 dX5_init_22 rfl (lv_at hl 0 rfl) ?_
    refine jq_rgR C X fs_X5_15 he dX5_init_23 (fun q5 he => ?_)
    refine jq_rgR C X fs_X5_19 he dX5_init_26 (fun q6 he => ?_)
    refine lv_iload_n C.1 C.2.1 dX5_init_29 rfl (lv_at hl 1 rfl) ?_
    refine lv_iconst (v := 3) C.1 C.2.1 dX5_init_30 (by decide) ?_
    refine lv_imul C.1 C.2.1 dX5_init_31 ?_
    refine lv_iconst (v := 1) C.1 C.2.1 dX5_init_32 (by decide) ?_
    refine lv_iadd C.1 C.2.1 dX5_init_33 ?_
    refine lv_iconst (v := (-1)) C.1 C.2.1 dX5_init_34 (by decide) ?_
    refine jq_rstI C X he dX5_init_35 (fun h7 H locs he X => ?_)
    obtain ⟨x8, hx8, he⟩ := jq_ln he
    refine lv_iinc (v := x8) (lv' := [(2, .int x8), (0, .ref v0)]) C.1 C.2.1 dX5_init_36 hl (k := 1) rfl (by rw [hx8]; rfl) (by decide) rfl (fun ls hl => ?_)
    refine lv_goto (tgt := 16) C.1 C.2.1 dX5_init_39 (by decide) ?_
    exact hKB _ _ _ _ _ _ he X (lv_sub hl [1, 0] rfl)
set_option maxRecDepth 100000 in
set_option maxHeartbeats 4000000 in
theorem TX5_init_l16 {p : Program} {l : Launch} {e : Env} {s : State} {m : MethodId} {args : Array Value} {below : List Frame} {meth : Method} {c : Code} {D : va_G} {ct : Nat → ClassId} {bs : Nat} {res : jq_H} {n : Nat} {K42 : Nat → jq_H → Option (jq_H)} (C : jq_C p s m args c cX5_init 3 RX5 D ct bs) (hr : meth.sig.returnType = none) (hlk : meth.locks = false) (hin : meth.name = "<init>") (hK42 : ∀ (u0 : Nat) (h1 : jq_H) (H1 : Heap) (locs1 : List Loc) (ls1 : Array Slot), K42 u0 h1 = some res → jq_X bs D ct s.heap h1 H1 locs1 → lv_has ls1 3 [(0, .ref u0)] → W p l e rm_X5_init s m args below meth c H1 locs1 14 2470 (MQ below (jq_Qv bs D ct res) args s rm_X5_init.cells rm_X5_init.slots (fun q => bs ≤ q)) (F0 m 42 ls1 [])) :
    ∀ (k : Nat) (v0 : Nat) (v2 : Int32) (h : jq_H) (H : Heap) (locs : List Loc) (ls : Array Slot), X5_init_l16 n K42 k v0 v2 h = some res → jq_X bs D ct s.heap h H locs → lv_has ls 3 [(0, .ref v0), (2, .int v2)] → W p l e rm_X5_init s m args below meth c H locs 14 2470 (MQ below (jq_Qv bs D ct res) args s rm_X5_init.cells rm_X5_init.slots (fun q => bs ≤ q)) (F0 m 16 ls []) := by
  intro k
  induction k with
  | zero => intro v0 v2 h H locs ls he; cases (show (none : Option (jq_H)) = some res from he)
  | succ k ih =>
    intro v0 v2 h H locs ls he X hl
    exact TX5_init_b16 (n := n) C hr hlk hin (KB := X5_init_l16 n K42 k) ih hK42 X hl he
set_option maxRecDepth 100000 in
set_option maxHeartbeats 4000000 in
theorem M_X5_init (l : Launch) (bs : Nat) (D : va_G) (ct : Nat → ClassId) (n : Nat) (h : jq_H) (a : Nat) (p0 : Int32) (res : jq_H) (he : X5_init n h a p0 = some res) : jq_M l yX5_init cX5_init 3 none rm_X5_init (jq_P [.ref a, .int p0] bs D ct h) (jq_Qv bs D ct res) bs := by
  refine jq_start2 (by decide +kernel) (Nat.le_of_ble_eq_true rfl) ?_
  intro p e s m args below meth c ls H locs C hr hlk hin hl X
  have C : jq_C p s m args c cX5_init 3 RX5 D ct bs := C
  have hin : meth.name = "<init>" := hin
  have hl : lv_has ls 3 [(0, .ref a), (1, .int p0)] := hl
  unfold X5_init at he
  refine lv_aload_n C.1 C.2.1 dX5_init_0 rfl (lv_at hl 0 rfl) ?_
  refine lv_bipush (v := 64) C.1 C.2.1 dX5_init_1 (by decide) ?_
  refine lv_iconst (v := 3) C.1 C.2.1 dX5_init_3 (by decide) ?_
  refine lv_iconst (v := 0) C.1 C.2.1 dX5_init_4 (by decide) ?_
  refine lv_iconst (v := 0) C.1 C.2.1 dX5_init_5 (by decide) ?_
  obtain ⟨z9, hz9, he⟩ := jq_b he
  refine jq_gv (jq_runI (a := a) (av := [.int 64, .int 3, .int 0, .int 0]) C X (M_X3_init l bs D ct n h a 64 3 0 0 _ hz9) mf_X3_init rfl gw_365 (Or.inl gw_536) rfl hl.1 rfl (Nat.le_of_ble_eq_true rfl) ⟨by decide, by decide⟩ ⟨by decide, by decide⟩ dX5_init_6) X (fun H locs X => ?_)
  refine lv_aload_n C.1 C.2.1 dX5_init_9 rfl (lv_at hl 0 rfl) ?_
  refine lv_iload_n C.1 C.2.1 dX5_init_10 rfl (lv_at hl 1 rfl) ?_
  refine jq_rpF (ty := .int) C X fs_X5_11 hin rfl (by decide +kernel) rfl rfl he dX5_init_11 (fun h10 H locs he X => ?_)
  refine lv_iconst (v := 0) C.1 C.2.1 dX5_init_14 (by decide) ?_
  refine lv_istore_n (lv' := [(2, .int 0), (0, .ref a), (1, .int p0)]) C.1 C.2.1 dX5_init_15 rfl hl (by decide) rfl (fun ls hl => ?_)
  exact TX5_init_l16 (n := n) C hr hlk hin (fun w0 hh H locs ls he X hl => by
    exact TX5_init_b42 (n := n) C hr hlk hin X hl he) n _ _ _ _ _ _ he X (lv_sub hl [1, 0] rfl)
set_option maxRecDepth 100000 in
set_option maxHeartbeats 4000000 in
theorem M_X0_init (l : Launch) (bs : Nat) (D : va_G) (ct : Nat → ClassId) (n : Nat) (h : jq_H) (a : Nat) (p0 : Nat) (p1 : Nat) (p2 : Int32) (p3 : Int32) (res : jq_H) (he : X0_init n h a p0 p1 p2 p3 = some res) : jq_M l yX0_init cX0_init 5 none rm_X0_init (jq_P [.ref a, .ref p0, .ref p1, .int p2, .int p3] bs D ct h) (jq_Qv bs D ct res) bs := by
  refine jq_start2 (by decide +kernel) (Nat.le_of_ble_eq_true rfl) ?_
  intro p e s m args below meth c ls H locs C hr hlk hin hl X
  have C : jq_C p s m args c cX0_init 5 RX0 D ct bs := C
  have hin : meth.name = "<init>" := hin
  have hl : lv_has ls 5 [(0, .ref a), (1, .ref p0), (2, .ref p1), (3, .int p2), (4, .int p3)] := hl
  unfold X0_init at he
  refine lv_aload_n C.1 C.2.1 dX0_init_0 rfl (lv_at hl 0 rfl) ?_
  refine lv_iconst (v := 1) C.1 C.2.1 dX0_init_1 (by decide) ?_
  refine lv_iconst (v := 1) C.1 C.2.1 dX0_init_2 (by decide) ?_
  refine lv_iload C.1 C.2.1 dX0_init_3 (lv_at hl 4 rfl) ?_
  refine lv_ishl C.1 C.2.1 dX0_init_5 ?_
  refine lv_iconst (v := 1) C.1 C.2.1 dX0_init_6 (by decide) ?_
  refine lv_iload C.1 C.2.1 dX0_init_7 (lv_at hl 4 rfl) ?_
  refine lv_ishl C.1 C.2.1 dX0_init_9 ?_
  refine lv_iconst (v := 1) C.1 C.2.1 dX0_init_10 (by decide) ?_
  obtain ⟨z1, hz1, he⟩ := jq_b he
  refine jq_gv (jq_runI (a := a) (av := [.int 1, .int (1 <<< (p3 &&& 31)), .int (1 <<< (p3 &&& 31)), .int 1]) C X (M_X3_init l bs D ct n h a 1 (1 <<< (p3 &&& 31)) (1 <<< (p3 &&& 31)) 1 _ hz1) mf_X3_init rfl gw_365 (Or.inl gw_554) rfl hl.1 rfl (Nat.le_of_ble_eq_true rfl) ⟨by decide, by decide⟩ ⟨by decide, by decide⟩ dX0_init_11) X (fun H locs X => ?_)
  refine lv_aload_n C.1 C.2.1 dX0_init_14 rfl (lv_at hl 0 rfl) ?_
  refine lv_aload_n C.1 C.2.1 dX0_init_15 rfl (lv_at hl 1 rfl) ?_
  refine jq_rpF (ty := .object "WayGuesses$Guesser") C X fs_X0_7 hin rfl (by decide +kernel) rfl rfl he dX0_init_16 (fun h2 H locs he X => ?_)
  refine lv_aload_n C.1 C.2.1 dX0_init_19 rfl (lv_at hl 0 rfl) ?_
  refine lv_aload_n C.1 C.2.1 dX0_init_20 rfl (lv_at hl 2 rfl) ?_
  refine jq_rpF (ty := .object "WayGuesses$Guesser") C X fs_X0_13 hin rfl (by decide +kernel) rfl rfl he dX0_init_21 (fun h3 H locs he X => ?_)
  refine lv_aload_n C.1 C.2.1 dX0_init_24 rfl (lv_at hl 0 rfl) ?_
  refine lv_iload_n C.1 C.2.1 dX0_init_25 rfl (lv_at hl 3 rfl) ?_
  refine jq_rpF (ty := .int) C X fs_X0_16 hin rfl (by decide +kernel) rfl rfl he dX0_init_26 (fun h4 H locs he X => ?_)
  refine lv_aload_n C.1 C.2.1 dX0_init_29 rfl (lv_at hl 0 rfl) ?_
  refine lv_iload C.1 C.2.1 dX0_init_30 (lv_at hl 4 rfl) ?_
  obtain ⟨z5, hz5, he⟩ := jq_b he
  refine jq_gi (jq_runS (av := [.int p3]) C X (M_X10_lowBits l bs D ct n h4 p3 _ hz5) mf_X10_lowBits gw_235 (Or.inr ⟨_, gw_555⟩) rfl hl.1 rfl (Nat.le_of_ble_eq_true rfl) ⟨by decide, by decide⟩ ⟨by decide, by decide⟩ dX0_init_32) X (fun H locs X => ?_)
  refine jq_rpF (ty := .int) C X fs_X0_26 hin rfl (by decide +kernel) rfl rfl he dX0_init_35 (fun h6 H locs he X => ?_)
  exact jq_vret C X hr hlk he (by decide) (by decide) dX0_init_38
set_option maxRecDepth 100000 in
set_option maxHeartbeats 4000000 in
theorem M_X2_init (l : Launch) (bs : Nat) (D : va_G) (ct : Nat → ClassId) (n : Nat) (h : jq_H) (a : Nat) (p0 : Nat) (p1 : Int32) (res : jq_H) (he : X2_init n h a p0 p1 = some res) : jq_M l yX2_init cX2_init 3 none rm_X2_init (jq_P [.ref a, .ref p0, .int p1] bs D ct h) (jq_Qv bs D ct res) bs := by
  refine jq_start2 (by decide +kernel) (Nat.le_of_ble_eq_true rfl) ?_
  intro p e s m args below meth c ls H locs C hr hlk hin hl X
  have C : jq_C p s m args c cX2_init 3 RX2 D ct bs := C
  have hin : meth.name = "<init>" := hin
  have hl : lv_has ls 3 [(0, .ref a), (1, .ref p0), (2, .int p1)] := hl
  unfold X2_init at he
  refine lv_aload_n C.1 C.2.1 dX2_init_0 rfl (lv_at hl 0 rfl) ?_
  refine lv_iconst (v := 0) C.1 C.2.1 dX2_init_1 (by decide) ?_
  refine lv_iconst (v := 0) C.1 C.2.1 dX2_init_2 (by decide) ?_
  refine lv_iconst (v := 0) C.1 C.2.1 dX2_init_3 (by decide) ?_
  refine lv_iconst (v := 0) C.1 C.2.1 dX2_init_4 (by decide) ?_
  obtain ⟨z1, hz1, he⟩ := jq_b he
  refine jq_gv (jq_runI (a := a) (av := [.int 0, .int 0, .int 0, .int 0]) C X (M_X3_init l bs D ct n h a 0 0 0 0 _ hz1) mf_X3_init rfl gw_365 (Or.inl gw_581) rfl hl.1 rfl (Nat.le_of_ble_eq_true rfl) ⟨by decide, by decide⟩ ⟨by decide, by decide⟩ dX2_init_5) X (fun H locs X => ?_)
  refine lv_aload_n C.1 C.2.1 dX2_init_8 rfl (lv_at hl 0 rfl) ?_
  refine lv_aload_n C.1 C.2.1 dX2_init_9 rfl (lv_at hl 1 rfl) ?_
  refine jq_rpF (ty := .object "WayGuesses$Machine") C X fs_X2_9 hin rfl (by decide +kernel) rfl rfl he dX2_init_10 (fun h2 H locs he X => ?_)
  refine lv_aload_n C.1 C.2.1 dX2_init_13 rfl (lv_at hl 0 rfl) ?_
  refine lv_iload_n C.1 C.2.1 dX2_init_14 rfl (lv_at hl 2 rfl) ?_
  refine jq_rpF (ty := .int) C X fs_X2_15 hin rfl (by decide +kernel) rfl rfl he dX2_init_15 (fun h3 H locs he X => ?_)
  exact jq_vret C X hr hlk he (by decide) (by decide) dX2_init_18
set_option maxRecDepth 100000 in
set_option maxHeartbeats 4000000 in
theorem M_X10_made (l : Launch) (bs : Nat) (D : va_G) (ct : Nat → ClassId) (n : Nat) (h : jq_H) (a : Nat) (p0 : Int32) (p1 : Int32) (p2 : Int32) (p3 : Int32) (res : Nat × jq_H) (he : X10_made n h a p0 p1 p2 p3 = some res) : jq_M l yX10_made cX10_made 5 (some (.object "WayGuesses$Guesser")) rm_X10_made (jq_P [.ref a, .int p0, .int p1, .int p2, .int p3] bs D ct h) (jq_Qr bs D ct res) bs := by
  refine jq_start2 (by decide +kernel) (Nat.le_of_ble_eq_true rfl) ?_
  intro p e s m args below meth c ls H locs C hr hlk hin hl X
  have C : jq_C p s m args c cX10_made 5 RX10 D ct bs := C
  have hin : meth.name = "made" := hin
  have hl : lv_has ls 5 [(0, .ref a), (1, .int p0), (2, .int p1), (3, .int p2), (4, .int p3)] := hl
  unfold X10_made at he
  refine lv_iload_n C.1 C.2.1 dX10_made_0 rfl (lv_at hl 1 rfl) ?_
  by_cases hc3 : p0 = 1
  · have he := jq_t hc3 he
    refine lv_tableIn (tgt := 44) C.1 C.2.1 dX10_made_1 (by rw [hc3]; decide) (by rw [hc3]; decide) (by rw [hc3]; rfl) (by decide) ?_
    refine jq_rnewO (fs := [.null, .null, .null, .null, .int 0, .int 0, .int 0, .int 0, .int 0, .int 0, .int 0]) C X cf_X1 gw_359 gw_360 gw_7 (fun j hj => by rcases (show j = 0 ∨ j = 1 ∨ j = 2 ∨ j = 3 ∨ j = 4 ∨ j = 5 ∨ j = 6 ∨ j = 7 ∨ j = 8 ∨ j = 9 ∨ j = 10 by omega) with rfl | rfl | rfl | rfl | rfl | rfl | rfl | rfl | rfl | rfl | rfl <;> rfl) he (by decide) (by decide) dX10_made_44 (fun z1 H he X => ?_)
    refine lv_dup C.1 C.2.1 dX10_made_47 rfl ?_
    refine lv_iload_n C.1 C.2.1 dX10_made_48 rfl (lv_at hl 2 rfl) ?_
    refine lv_iconst (v := 0) C.1 C.2.1 dX10_made_49 (by decide) ?_
    refine lv_iconst (v := 0) C.1 C.2.1 dX10_made_50 (by decide) ?_
    refine lv_iconst (v := 1) C.1 C.2.1 dX10_made_51 (by decide) ?_
    obtain ⟨z2, hz2, he⟩ := jq_b he
    refine jq_gv (jq_runI (a := z1.1) (av := [.int p1, .int 0, .int 0, .int 1]) C X (M_X1_init l bs D ct n z1.2 z1.1 p1 0 0 1 _ hz2) mf_X1_init rfl gw_362 (Or.inr ⟨_, gw_361⟩) rfl hl.1 rfl (Nat.le_of_ble_eq_true rfl) ⟨by decide, by decide⟩ ⟨by decide, by decide⟩ dX10_made_52) X (fun H locs X => ?_)
    exact jq_aret C X hr hlk he (by decide) (by decide) dX10_made_55
  have he := jq_n hc3 he
  by_cases hc6 : p0 = 2
  · have he := jq_t hc6 he
    refine lv_tableIn (tgt := 56) C.1 C.2.1 dX10_made_1 (by rw [hc6]; decide) (by rw [hc6]; decide) (by rw [hc6]; rfl) (by decide) ?_
    refine jq_rnewO (fs := [.null, .null, .null, .null, .int 0, .int 0, .int 0, .int 0, .int 0, .int 0, .int 0]) C X cf_X1 gw_359 gw_360 gw_7 (fun j hj => by rcases (show j = 0 ∨ j = 1 ∨ j = 2 ∨ j = 3 ∨ j = 4 ∨ j = 5 ∨ j = 6 ∨ j = 7 ∨ j = 8 ∨ j = 9 ∨ j = 10 by omega) with rfl | rfl | rfl | rfl | rfl | rfl | rfl | rfl | rfl | rfl | rfl <;> rfl) he (by decide) (by decide) dX10_made_56 (fun z4 H he X => ?_)
    refine lv_dup C.1 C.2.1 dX10_made_59 rfl ?_
    refine lv_iload_n C.1 C.2.1 dX10_made_60 rfl (lv_at hl 2 rfl) ?_
    refine lv_iload_n C.1 C.2.1 dX10_made_61 rfl (lv_at hl 3 rfl) ?_
    refine lv_iconst (v := 0) C.1 C.2.1 dX10_made_62 (by decide) ?_
    refine lv_iconst (v := 1) C.1 C.2.1 dX10_made_63 (by decide) ?_
    obtain ⟨z5, hz5, he⟩ := jq_b he
    refine jq_gv (jq_runI (a := z4.1) (av := [.int p1, .int p2, .int 0, .int 1]) C X (M_X1_init l bs D ct n z4.2 z4.1 p1 p2 0 1 _ hz5) mf_X1_init rfl gw_362 (Or.inr ⟨_, gw_361⟩) rfl hl.1 rfl (Nat.le_of_ble_eq_true rfl) ⟨by decide, by decide⟩ ⟨by decide, by decide⟩ dX10_made_64) X (fun H locs X => ?_)
    exact jq_aret C X hr hlk he (by decide) (by decide) dX10_made_67
  have he := jq_n hc6 he
  by_cases hc9 : p0 = 3
  · have he := jq_t hc9 he
    refine lv_tableIn (tgt := 68) C.1 C.2.1 dX10_made_1 (by rw [hc9]; decide) (by rw [hc9]; decide) (by rw [hc9]; rfl) (by decide) ?_
    refine jq_rnewO (fs := [.null, .null, .null, .null, .int 0, .int 0, .int 0, .int 0, .int 0, .int 0, .int 0]) C X cf_X1 gw_359 gw_360 gw_7 (fun j hj => by rcases (show j = 0 ∨ j = 1 ∨ j = 2 ∨ j = 3 ∨ j = 4 ∨ j = 5 ∨ j = 6 ∨ j = 7 ∨ j = 8 ∨ j = 9 ∨ j = 10 by omega) with rfl | rfl | rfl | rfl | rfl | rfl | rfl | rfl | rfl | rfl | rfl <;> rfl) he (by decide) (by decide) dX10_made_68 (fun z7 H he X => ?_)
    refine lv_dup C.1 C.2.1 dX10_made_71 rfl ?_
    refine lv_iload_n C.1 C.2.1 dX10_made_72 rfl (lv_at hl 2 rfl) ?_
    refine lv_iload_n C.1 C.2.1 dX10_made_73 rfl (lv_at hl 3 rfl) ?_
    refine lv_iconst (v := 1) C.1 C.2.1 dX10_made_74 (by decide) ?_
    refine lv_iload C.1 C.2.1 dX10_made_75 (lv_at hl 4 rfl) ?_
    obtain ⟨z8, hz8, he⟩ := jq_b he
    refine jq_gv (jq_runI (a := z7.1) (av := [.int p1, .int p2, .int 1, .int p3]) C X (M_X1_init l bs D ct n z7.2 z7.1 p1 p2 1 p3 _ hz8) mf_X1_init rfl gw_362 (Or.inr ⟨_, gw_361⟩) rfl hl.1 rfl (Nat.le_of_ble_eq_true rfl) ⟨by decide, by decide⟩ ⟨by decide, by decide⟩ dX10_made_77) X (fun H locs X => ?_)
    exact jq_aret C X hr hlk he (by decide) (by decide) dX10_made_80
  have he := jq_n hc9 he
  by_cases hc12 : p0 = 4
  · have he := jq_t hc12 he
    refine lv_tableIn (tgt := 81) C.1 C.2.1 dX10_made_1 (by rw [hc12]; decide) (by rw [hc12]; decide) (by rw [hc12]; rfl) (by decide) ?_
    refine jq_rnewO (fs := [.null, .null, .null, .null, .int 0, .int 0, .int 0, .int 0, .int 0]) C X cf_X8 gw_492 gw_232 gw_11 (fun j hj => by rcases (show j = 0 ∨ j = 1 ∨ j = 2 ∨ j = 3 ∨ j = 4 ∨ j = 5 ∨ j = 6 ∨ j = 7 ∨ j = 8 by omega) with rfl | rfl | rfl | rfl | rfl | rfl | rfl | rfl | rfl <;> rfl) he (by decide) (by decide) dX10_made_81 (fun z10 H he X => ?_)
    refine lv_dup C.1 C.2.1 dX10_made_84 rfl ?_
    refine lv_iload_n C.1 C.2.1 dX10_made_85 rfl (lv_at hl 2 rfl) ?_
    refine lv_iload_n C.1 C.2.1 dX10_made_86 rfl (lv_at hl 3 rfl) ?_
    obtain ⟨z11, hz11, he⟩ := jq_b he
    refine jq_gv (jq_runI (a := z10.1) (av := [.int p1, .int p2]) C X (M_X8_init l bs D ct n z10.2 z10.1 p1 p2 _ hz11) mf_X8_init rfl gw_494 (Or.inr ⟨_, gw_493⟩) rfl hl.1 rfl (Nat.le_of_ble_eq_true rfl) ⟨by decide, by decide⟩ ⟨by decide, by decide⟩ dX10_made_87) X (fun H locs X => ?_)
    exact jq_aret C X hr hlk he (by decide) (by decide) dX10_made_90
  have he := jq_n hc12 he
  by_cases hc15 : p0 = 5
  · have he := jq_t hc15 he
    refine lv_tableIn (tgt := 91) C.1 C.2.1 dX10_made_1 (by rw [hc15]; decide) (by rw [hc15]; decide) (by rw [hc15]; rfl) (by decide) ?_
    refine jq_rnewO (fs := [.null, .null, .null, .null, .int 0, .int 0, .int 0, .int 0, .int 0]) C X cf_X9 gw_511 gw_244 gw_12 (fun j hj => by rcases (show j = 0 ∨ j = 1 ∨ j = 2 ∨ j = 3 ∨ j = 4 ∨ j = 5 ∨ j = 6 ∨ j = 7 ∨ j = 8 by omega) with rfl | rfl | rfl | rfl | rfl | rfl | rfl | rfl | rfl <;> rfl) he (by decide) (by decide) dX10_made_91 (fun z13 H he X => ?_)
    refine lv_dup C.1 C.2.1 dX10_made_94 rfl ?_
    refine lv_iload_n C.1 C.2.1 dX10_made_95 rfl (lv_at hl 2 rfl) ?_
    refine lv_iload_n C.1 C.2.1 dX10_made_96 rfl (lv_at hl 3 rfl) ?_
    refine lv_iload C.1 C.2.1 dX10_made_97 (lv_at hl 4 rfl) ?_
    obtain ⟨z14, hz14, he⟩ := jq_b he
    refine jq_gv (jq_runI (a := z13.1) (av := [.int p1, .int p2, .int p3]) C X (M_X9_init l bs D ct n z13.2 z13.1 p1 p2 p3 _ hz14) mf_X9_init rfl gw_513 (Or.inr ⟨_, gw_512⟩) rfl hl.1 rfl (Nat.le_of_ble_eq_true rfl) ⟨by decide, by decide⟩ ⟨by decide, by decide⟩ dX10_made_99) X (fun H locs X => ?_)
    exact jq_aret C X hr hlk he (by decide) (by decide) dX10_made_102
  have he := jq_n hc15 he
  by_cases hc18 : p0 = 6
  · have he := jq_t hc18 he
    refine lv_tableIn (tgt := 103) C.1 C.2.1 dX10_made_1 (by rw [hc18]; decide) (by rw [hc18]; decide) (by rw [hc18]; rfl) (by decide) ?_
    refine jq_rnewO (fs := [.null, .null, .null, .null, .int 0, .int 0, .int 0, .int 0]) C X cf_X5 gw_531 gw_532 gw_13 (fun j hj => by rcases (show j = 0 ∨ j = 1 ∨ j = 2 ∨ j = 3 ∨ j = 4 ∨ j = 5 ∨ j = 6 ∨ j = 7 by omega) with rfl | rfl | rfl | rfl | rfl | rfl | rfl | rfl <;> rfl) he (by decide) (by decide) dX10_made_103 (fun z16 H he X => ?_)
    refine lv_dup C.1 C.2.1 dX10_made_106 rfl ?_
    refine lv_iload_n C.1 C.2.1 dX10_made_107 rfl (lv_at hl 2 rfl) ?_
    obtain ⟨z17, hz17, he⟩ := jq_b he
    refine jq_gv (jq_runI (a := z16.1) (av := [.int p1]) C X (M_X5_init l bs D ct n z16.2 z16.1 p1 _ hz17) mf_X5_init rfl gw_534 (Or.inr ⟨_, gw_533⟩) rfl hl.1 rfl (Nat.le_of_ble_eq_true rfl) ⟨by decide, by decide⟩ ⟨by decide, by decide⟩ dX10_made_108) X (fun H locs X => ?_)
    exact jq_aret C X hr hlk he (by decide) (by decide) dX10_made_111
  have he := jq_n hc18 he
  by_cases hc25 : p0 = 7
  · have he := jq_t hc25 he
    refine lv_tableIn (tgt := 112) C.1 C.2.1 dX10_made_1 (by rw [hc25]; decide) (by rw [hc25]; decide) (by rw [hc25]; rfl) (by decide) ?_
    refine jq_rnewO (fs := [.null, .null, .null, .null, .int 0, .int 0, .int 0, .null, .null, .int 0, .int 0]) C X cf_X0 gw_549 gw_550 gw_14 (fun j hj => by rcases (show j = 0 ∨ j = 1 ∨ j = 2 ∨ j = 3 ∨ j = 4 ∨ j = 5 ∨ j = 6 ∨ j = 7 ∨ j = 8 ∨ j = 9 ∨ j = 10 by omega) with rfl | rfl | rfl | rfl | rfl | rfl | rfl | rfl | rfl | rfl | rfl <;> rfl) he (by decide) (by decide) dX10_made_112 (fun z19 H he X => ?_)
    refine lv_dup C.1 C.2.1 dX10_made_115 rfl ?_
    refine lv_aload_n C.1 C.2.1 dX10_made_116 rfl (lv_at hl 0 rfl) ?_
    refine jq_rgR C X fs_X10_25 he dX10_made_117 (fun q20 he => ?_)
    refine lv_iload_n C.1 C.2.1 dX10_made_120 rfl (lv_at hl 2 rfl) ?_
    refine jq_rldN C X (Or.inl ⟨rfl, rfl⟩) he dX10_made_121 (fun q21 he => ?_)
    refine lv_aload_n C.1 C.2.1 dX10_made_122 rfl (lv_at hl 0 rfl) ?_
    refine jq_rgR C X fs_X10_25 he dX10_made_123 (fun q22 he => ?_)
    refine lv_iload_n C.1 C.2.1 dX10_made_126 rfl (lv_at hl 3 rfl) ?_
    refine jq_rldN C X (Or.inl ⟨rfl, rfl⟩) he dX10_made_127 (fun q23 he => ?_)
    refine lv_iconst (v := 1) C.1 C.2.1 dX10_made_128 (by decide) ?_
    refine lv_iload_n C.1 C.2.1 dX10_made_129 rfl (lv_at hl 2 rfl) ?_
    refine lv_ishl C.1 C.2.1 dX10_made_130 ?_
    refine lv_iconst (v := 1) C.1 C.2.1 dX10_made_131 (by decide) ?_
    refine lv_iload_n C.1 C.2.1 dX10_made_132 rfl (lv_at hl 3 rfl) ?_
    refine lv_ishl C.1 C.2.1 dX10_made_133 ?_
    refine lv_ior C.1 C.2.1 dX10_made_134 ?_
    refine lv_iload C.1 C.2.1 dX10_made_135 (lv_at hl 4 rfl) ?_
    obtain ⟨z24, hz24, he⟩ := jq_b he
    refine jq_gv (jq_runI (a := z19.1) (av := [.ref q21, .ref q23, .int ((1 <<< (p1 &&& 31)) ||| (1 <<< (p2 &&& 31))), .int p3]) C X (M_X0_init l bs D ct n z19.2 z19.1 q21 q23 ((1 <<< (p1 &&& 31)) ||| (1 <<< (p2 &&& 31))) p3 _ hz24) mf_X0_init rfl gw_552 (Or.inr ⟨_, gw_551⟩) rfl hl.1 rfl (Nat.le_of_ble_eq_true rfl) ⟨by decide, by decide⟩ ⟨by decide, by decide⟩ dX10_made_137) X (fun H locs X => ?_)
    exact jq_aret C X hr hlk he (by decide) (by decide) dX10_made_140
  have he := jq_n hc25 he
  refine lv_tableOut (tgt := 141) C.1 C.2.1 dX10_made_1 (jq_swo (fun k h1 h2 hk => by
    rcases (show k = 1 ∨ k = 2 ∨ k = 3 ∨ k = 4 ∨ k = 5 ∨ k = 6 ∨ k = 7 by omega) with rfl | rfl | rfl | rfl | rfl | rfl | rfl
    · exact lv_neT hc3 (by decide) hk
    · exact lv_neT hc6 (by decide) hk
    · exact lv_neT hc9 (by decide) hk
    · exact lv_neT hc12 (by decide) hk
    · exact lv_neT hc15 (by decide) hk
    · exact lv_neT hc18 (by decide) hk
    · exact lv_neT hc25 (by decide) hk)) (by decide) ?_
  refine jq_rnewO (fs := [.null, .null, .null, .null, .int 0, .int 0, .int 0, .null, .int 0]) C X cf_X2 gw_576 gw_577 gw_15 (fun j hj => by rcases (show j = 0 ∨ j = 1 ∨ j = 2 ∨ j = 3 ∨ j = 4 ∨ j = 5 ∨ j = 6 ∨ j = 7 ∨ j = 8 by omega) with rfl | rfl | rfl | rfl | rfl | rfl | rfl | rfl | rfl <;> rfl) he (by decide) (by decide) dX10_made_141 (fun z26 H he X => ?_)
  refine lv_dup C.1 C.2.1 dX10_made_144 rfl ?_
  refine lv_aload_n C.1 C.2.1 dX10_made_145 rfl (lv_at hl 0 rfl) ?_
  refine jq_rgR C X fs_X10_12 he dX10_made_146 (fun q27 he => ?_)
  refine lv_iload_n C.1 C.2.1 dX10_made_149 rfl (lv_at hl 2 rfl) ?_
  obtain ⟨z28, hz28, he⟩ := jq_b he
  refine jq_gv (jq_runI (a := z26.1) (av := [.ref q27, .int p1]) C X (M_X2_init l bs D ct n z26.2 z26.1 q27 p1 _ hz28) mf_X2_init rfl gw_579 (Or.inr ⟨_, gw_578⟩) rfl hl.1 rfl (Nat.le_of_ble_eq_true rfl) ⟨by decide, by decide⟩ ⟨by decide, by decide⟩ dX10_made_150) X (fun H locs X => ?_)
  exact jq_aret C X hr hlk he (by decide) (by decide) dX10_made_153
set_option maxRecDepth 100000 in
set_option maxHeartbeats 4000000 in
theorem TX10_guesser_b24 {p : Program} {l : Launch} {e : Env} {s : State} {m : MethodId} {args : Array Value} {below : List Frame} {meth : Method} {c : Code} {D : va_G} {ct : Nat → ClassId} {bs : Nat} {res : Int32 × jq_H} {n : Nat} (C : jq_C p s m args c cX10_guesser 5 RX10 D ct bs) (hr : meth.sig.returnType = (some .int)) (hlk : meth.locks = false) {v0 : Nat} {v1 : Int32} {v2 : Int32} {v3 : Int32} {v4 : Int32} {h : jq_H} {H : Heap} {locs : List Loc} {ls : Array Slot} (X : jq_X bs D ct s.heap h H locs) (hl : lv_has ls 5 [(0, .ref v0), (1, .int v1), (2, .int v2), (3, .int v3), (4, .int v4)]) (he : X10_guesser_b24 n v0 v1 v2 v3 v4 h = some res) :
    W p l e rm_X10_guesser s m args below meth c H locs 0 0 (MQ below (jq_Qi bs D ct res) args s rm_X10_guesser.cells rm_X10_guesser.slots (fun q => bs ≤ q)) (F0 m 24 ls []) := by
  unfold X10_guesser_b24 at he
  refine lv_iload_n C.1 C.2.1 dX10_guesser_24 rfl (lv_at hl 1 rfl) ?_
  refine lv_iload_n C.1 C.2.1 dX10_guesser_25 rfl (lv_at hl 2 rfl) ?_
  refine lv_iload_n C.1 C.2.1 dX10_guesser_26 rfl (lv_at hl 3 rfl) ?_
  refine lv_iload C.1 C.2.1 dX10_guesser_27 (lv_at hl 4 rfl) ?_
  obtain ⟨z1, hz1, he⟩ := jq_b he
  refine jq_gi (jq_runS (av := [.int v1, .int v2, .int v3, .int v4]) C X (M_X10_fits l bs D ct n h v1 v2 v3 v4 _ hz1) mf_X10_fits gw_353 (Or.inl gw_352) rfl hl.1 rfl (Nat.le_of_ble_eq_true rfl) ⟨by decide, by decide⟩ ⟨by decide, by decide⟩ dX10_guesser_29) X (fun H locs X => ?_)
  refine lv_if_ne (tgt := 38) C.1 C.2.1 dX10_guesser_32 (by decide) (fun hc2 => ?_) (fun hc2 => ?_)
  · have he := jq_n hc2 he
    refine lv_aload_n C.1 C.2.1 dX10_guesser_38 rfl (lv_at hl 0 rfl) ?_
    refine jq_rgI C X fs_X10_92 he dX10_guesser_39 (fun x3 he => ?_)
    refine lv_bipush (v := 8) C.1 C.2.1 dX10_guesser_42 (by decide) ?_
    refine lv_icmp_lt (tgt := 50) C.1 C.2.1 dX10_guesser_44 (by decide) (fun hc4 => ?_) (fun hc4 => ?_)
    · have he := jq_t hc4 he
      refine lv_aload_n C.1 C.2.1 dX10_guesser_50 rfl (lv_at hl 0 rfl) ?_
      refine jq_rgR C X fs_X10_25 he dX10_guesser_51 (fun q5 he => ?_)
      refine lv_aload_n C.1 C.2.1 dX10_guesser_54 rfl (lv_at hl 0 rfl) ?_
      refine jq_rgI C X fs_X10_92 he dX10_guesser_55 (fun x6 he => ?_)
      refine lv_aload_n C.1 C.2.1 dX10_guesser_58 rfl (lv_at hl 0 rfl) ?_
      refine lv_iload_n C.1 C.2.1 dX10_guesser_59 rfl (lv_at hl 1 rfl) ?_
      refine lv_iload_n C.1 C.2.1 dX10_guesser_60 rfl (lv_at hl 2 rfl) ?_
      refine lv_iload_n C.1 C.2.1 dX10_guesser_61 rfl (lv_at hl 3 rfl) ?_
      refine lv_iload C.1 C.2.1 dX10_guesser_62 (lv_at hl 4 rfl) ?_
      obtain ⟨z7, hz7, he⟩ := jq_b he
      obtain ⟨hz7c, hz7⟩ := jq_ite hz7
      refine jq_gr (jq_runV (a := v0) (av := [.int v1, .int v2, .int v3, .int v4]) C X (M_X10_made l bs D ct n z1.2 v0 v1 v2 v3 v4 _ hz7) mf_X10_made gw_357 gs_17 (Or.inl gw_355) rc_X10 hz7c (by decide) rfl hl.1 rfl (Nat.le_of_ble_eq_true rfl) ⟨by decide, by decide⟩ ⟨by decide, by decide⟩ dX10_guesser_64) X (fun H locs X => ?_)
      refine jq_rstR C X (Or.inl ⟨rfl, rfl⟩) (fun ci hci => by
    simp only [List.mem_cons, List.not_mem_nil, or_false] at hci
    rcases hci with rfl | rfl | rfl | rfl | rfl | rfl
    · exact ⟨_, rfl, Or.inr gw_1023⟩
    · exact ⟨_, rfl, Or.inr gw_1024⟩
    · exact ⟨_, rfl, Or.inr gw_1025⟩
    · exact ⟨_, rfl, Or.inr gw_1026⟩
    · exact ⟨_, rfl, Or.inr gw_1027⟩
    · exact ⟨_, rfl, Or.inr gw_1028⟩) he dX10_guesser_67 (fun h8 H locs he X => ?_)
      refine lv_aload_n C.1 C.2.1 dX10_guesser_68 rfl (lv_at hl 0 rfl) ?_
      refine lv_dup C.1 C.2.1 dX10_guesser_69 rfl ?_
      refine jq_rgI C X fs_X10_92 he dX10_guesser_70 (fun x9 he => ?_)
      refine lv_iconst (v := 1) C.1 C.2.1 dX10_guesser_73 (by decide) ?_
      refine lv_iadd C.1 C.2.1 dX10_guesser_74 ?_
      refine jq_rp (ty := .int) C X fs_X10_92 (by decide +kernel) rfl rfl he dX10_guesser_75 (fun h10 H locs he X => ?_)
      refine lv_aload_n C.1 C.2.1 dX10_guesser_78 rfl (lv_at hl 0 rfl) ?_
      refine jq_rgI C X fs_X10_92 he dX10_guesser_79 (fun x11 he => ?_)
      refine lv_iconst (v := 1) C.1 C.2.1 dX10_guesser_82 (by decide) ?_
      refine lv_isub C.1 C.2.1 dX10_guesser_83 ?_
      exact jq_iret C X hr hlk he (by decide) (by decide) dX10_guesser_84
    · have he := jq_n hc4 he
      refine lv_bipush (v := (-4)) C.1 C.2.1 dX10_guesser_47 (by decide) ?_
      exact jq_iret C X hr hlk he (by decide) (by decide) dX10_guesser_49
  · have he := jq_t hc2 he
    refine lv_bipush (v := (-2)) C.1 C.2.1 dX10_guesser_35 (by decide) ?_
    exact jq_iret C X hr hlk he (by decide) (by decide) dX10_guesser_37
set_option maxRecDepth 100000 in
set_option maxHeartbeats 4000000 in
theorem TX10_guesser_b22 {p : Program} {l : Launch} {e : Env} {s : State} {m : MethodId} {args : Array Value} {below : List Frame} {meth : Method} {c : Code} {D : va_G} {ct : Nat → ClassId} {bs : Nat} {res : Int32 × jq_H} {n : Nat} (C : jq_C p s m args c cX10_guesser 5 RX10 D ct bs) (hr : meth.sig.returnType = (some .int)) (hlk : meth.locks = false) {h : jq_H} {H : Heap} {locs : List Loc} {ls : Array Slot} (X : jq_X bs D ct s.heap h H locs) (hl : lv_has ls 5 []) (he : X10_guesser_b22 n h = some res) :
    W p l e rm_X10_guesser s m args below meth c H locs 0 0 (MQ below (jq_Qi bs D ct res) args s rm_X10_guesser.cells rm_X10_guesser.slots (fun q => bs ≤ q)) (F0 m 22 ls []) := by
  unfold X10_guesser_b22 at he
  refine lv_iconst (v := (-1)) C.1 C.2.1 dX10_guesser_22 (by decide) ?_
  exact jq_iret C X hr hlk he (by decide) (by decide) dX10_guesser_23
set_option maxRecDepth 100000 in
set_option maxHeartbeats 4000000 in
theorem M_X10_guesser (l : Launch) (bs : Nat) (D : va_G) (ct : Nat → ClassId) (n : Nat) (h : jq_H) (a : Nat) (p0 : Int32) (p1 : Int32) (p2 : Int32) (p3 : Int32) (res : Int32 × jq_H) (he : X10_guesser n h a p0 p1 p2 p3 = some res) : jq_M l yX10_guesser cX10_guesser 5 (some .int) rm_X10_guesser (jq_P [.ref a, .int p0, .int p1, .int p2, .int p3] bs D ct h) (jq_Qi bs D ct res) bs := by
  refine jq_start2 (by decide +kernel) (Nat.le_of_ble_eq_true rfl) ?_
  intro p e s m args below meth c ls H locs C hr hlk hin hl X
  have C : jq_C p s m args c cX10_guesser 5 RX10 D ct bs := C
  have hin : meth.name = "guesser" := hin
  have hl : lv_has ls 5 [(0, .ref a), (1, .int p0), (2, .int p1), (3, .int p2), (4, .int p3)] := hl
  unfold X10_guesser at he
  refine lv_iload_n C.1 C.2.1 dX10_guesser_0 rfl (lv_at hl 1 rfl) ?_
  refine lv_bipush (v := 7) C.1 C.2.1 dX10_guesser_1 (by decide) ?_
  refine lv_icmp_ne (tgt := 24) C.1 C.2.1 dX10_guesser_3 (by decide) (fun hc12 => ?_) (fun hc12 => ?_)
  · have he := jq_n hc12 he
    exact TX10_guesser_b24 (n := n) C hr hlk X (lv_sub hl [0, 1, 2, 3, 4] rfl) he
  · have he := jq_t hc12 he
    refine lv_aload_n C.1 C.2.1 dX10_guesser_6 rfl (lv_at hl 0 rfl) ?_
    refine lv_iload_n C.1 C.2.1 dX10_guesser_7 rfl (lv_at hl 2 rfl) ?_
    obtain ⟨z13, hz13, he⟩ := jq_b he
    obtain ⟨hz13c, hz13⟩ := jq_ite hz13
    refine jq_gi (jq_runV (a := a) (av := [.int p1]) C X (M_X10_isGuesser l bs D ct n h a p1 _ hz13) mf_X10_isGuesser gw_350 gs_16 (Or.inl gw_348) rc_X10 hz13c (by decide) rfl hl.1 rfl (Nat.le_of_ble_eq_true rfl) ⟨by decide, by decide⟩ ⟨by decide, by decide⟩ dX10_guesser_8) X (fun H locs X => ?_)
    refine lv_if_eq (tgt := 22) C.1 C.2.1 dX10_guesser_11 (by decide) (fun hc14 => ?_) (fun hc14 => ?_)
    · have he := jq_t hc14 he
      exact TX10_guesser_b22 (n := n) C hr hlk X (lv_sub hl [] rfl) he
    · have he := jq_n hc14 he
      refine lv_aload_n C.1 C.2.1 dX10_guesser_14 rfl (lv_at hl 0 rfl) ?_
      refine lv_iload_n C.1 C.2.1 dX10_guesser_15 rfl (lv_at hl 3 rfl) ?_
      obtain ⟨z15, hz15, he⟩ := jq_b he
      obtain ⟨hz15c, hz15⟩ := jq_ite hz15
      refine jq_gi (jq_runV (a := a) (av := [.int p2]) C X (M_X10_isGuesser l bs D ct n z13.2 a p2 _ hz15) mf_X10_isGuesser gw_350 gs_16 (Or.inl gw_348) rc_X10 hz15c (by decide) rfl hl.1 rfl (Nat.le_of_ble_eq_true rfl) ⟨by decide, by decide⟩ ⟨by decide, by decide⟩ dX10_guesser_16) X (fun H locs X => ?_)
      refine lv_if_ne (tgt := 24) C.1 C.2.1 dX10_guesser_19 (by decide) (fun hc16 => ?_) (fun hc16 => ?_)
      · have he := jq_n hc16 he
        exact TX10_guesser_b24 (n := n) C hr hlk X (lv_sub hl [0, 1, 2, 3, 4] rfl) he
      · have he := jq_t hc16 he
        exact TX10_guesser_b22 (n := n) C hr hlk X (lv_sub hl [] rfl) he
set_option maxRecDepth 100000 in
set_option maxHeartbeats 4000000 in
theorem TX10_hint_b32 {p : Program} {l : Launch} {e : Env} {s : State} {m : MethodId} {args : Array Value} {below : List Frame} {meth : Method} {c : Code} {D : va_G} {ct : Nat → ClassId} {bs : Nat} {res : Int32 × jq_H} {n : Nat} (C : jq_C p s m args c cX10_hint 6 RX10 D ct bs) (hr : meth.sig.returnType = (some .int)) (hlk : meth.locks = false) {v0 : Nat} {v1 : Int32} {v2 : Int32} {v3 : Int32} {h : jq_H} {H : Heap} {locs : List Loc} {ls : Array Slot} (X : jq_X bs D ct s.heap h H locs) (hl : lv_has ls 6 [(0, .ref v0), (1, .int v1), (2, .int v2), (3, .int v3)]) (he : X10_hint_b32 n v0 v1 v2 v3 h = some res) :
    W p l e rm_X10_hint s m args below meth c H locs 0 0 (MQ below (jq_Qi bs D ct res) args s rm_X10_hint.cells rm_X10_hint.slots (fun q => bs ≤ q)) (F0 m 32 ls []) := by
  unfold X10_hint_b32 at he
  refine lv_aload_n C.1 C.2.1 dX10_hint_32 rfl (lv_at hl 0 rfl) ?_
  refine jq_rgR C X fs_X10_25 he dX10_hint_33 (fun q1 he => ?_)
  refine lv_iload_n C.1 C.2.1 dX10_hint_36 rfl (lv_at hl 1 rfl) ?_
  refine jq_rldN C X (Or.inl ⟨rfl, rfl⟩) he dX10_hint_37 (fun q2 he => ?_)
  refine jq_rgR C X fs_X10_106 he dX10_hint_38 (fun q3 he => ?_)
  refine lv_astore (lv' := [(4, .ref q3), (0, .ref v0), (1, .int v1), (2, .int v2), (3, .int v3)]) C.1 C.2.1 dX10_hint_41 hl (by decide) rfl (fun ls hl => ?_)
  refine lv_aload C.1 C.2.1 dX10_hint_43 (lv_at hl 0 rfl) ?_
  refine lv_iload_n C.1 C.2.1 dX10_hint_45 rfl (lv_at hl 3 rfl) ?_
  refine jq_rldI C X he dX10_hint_46 (fun x4 he => ?_)
  refine lv_istore (lv' := [(5, .int x4), (4, .ref q3), (0, .ref v0), (1, .int v1), (2, .int v2), (3, .int v3)]) C.1 C.2.1 dX10_hint_47 hl (by decide) rfl (fun ls hl => ?_)
  refine lv_aload C.1 C.2.1 dX10_hint_49 (lv_at hl 1 rfl) ?_
  refine lv_iload_n C.1 C.2.1 dX10_hint_51 rfl (lv_at hl 4 rfl) ?_
  refine lv_iload_n C.1 C.2.1 dX10_hint_52 rfl (lv_at hl 5 rfl) ?_
  refine jq_rstI C X he dX10_hint_53 (fun h5 H locs he X => ?_)
  refine lv_iload C.1 C.2.1 dX10_hint_54 (lv_at hl 0 rfl) ?_
  exact jq_iret C X hr hlk he (by decide) (by decide) dX10_hint_56
set_option maxRecDepth 100000 in
set_option maxHeartbeats 4000000 in
theorem TX10_hint_b15 {p : Program} {l : Launch} {e : Env} {s : State} {m : MethodId} {args : Array Value} {below : List Frame} {meth : Method} {c : Code} {D : va_G} {ct : Nat → ClassId} {bs : Nat} {res : Int32 × jq_H} {n : Nat} (C : jq_C p s m args c cX10_hint 6 RX10 D ct bs) (hr : meth.sig.returnType = (some .int)) (hlk : meth.locks = false) {h : jq_H} {H : Heap} {locs : List Loc} {ls : Array Slot} (X : jq_X bs D ct s.heap h H locs) (hl : lv_has ls 6 []) (he : X10_hint_b15 n h = some res) :
    W p l e rm_X10_hint s m args below meth c H locs 0 0 (MQ below (jq_Qi bs D ct res) args s rm_X10_hint.cells rm_X10_hint.slots (fun q => bs ≤ q)) (F0 m 15 ls []) := by
  unfold X10_hint_b15 at he
  refine lv_iconst (v := (-1)) C.1 C.2.1 dX10_hint_15 (by decide) ?_
  exact jq_iret C X hr hlk he (by decide) (by decide) dX10_hint_16
set_option maxRecDepth 100000 in
set_option maxHeartbeats 4000000 in
theorem M_X10_hint (l : Launch) (bs : Nat) (D : va_G) (ct : Nat → ClassId) (n : Nat) (h : jq_H) (a : Nat) (p0 : Int32) (p1 : Int32) (p2 : Int32) (res : Int32 × jq_H) (he : X10_hint n h a p0 p1 p2 = some res) : jq_M l yX10_hint cX10_hint 6 (some .int) rm_X10_hint (jq_P [.ref a, .int p0, .int p1, .int p2] bs D ct h) (jq_Qi bs D ct res) bs := by
  refine jq_start2 (by decide +kernel) (Nat.le_of_ble_eq_true rfl) ?_
  intro p e s m args below meth c ls H locs C hr hlk hin hl X
  have C : jq_C p s m args c cX10_hint 6 RX10 D ct bs := C
  have hin : meth.name = "hint" := hin
  have hl : lv_has ls 6 [(0, .ref a), (1, .int p0), (2, .int p1), (3, .int p2)] := hl
  unfold X10_hint at he
  refine lv_aload_n C.1 C.2.1 dX10_hint_0 rfl (lv_at hl 0 rfl) ?_
  refine lv_iload_n C.1 C.2.1 dX10_hint_1 rfl (lv_at hl 1 rfl) ?_
  obtain ⟨z6, hz6, he⟩ := jq_b he
  obtain ⟨hz6c, hz6⟩ := jq_ite hz6
  refine jq_gi (jq_runV (a := a) (av := [.int p0]) C X (M_X10_isGuesser l bs D ct n h a p0 _ hz6) mf_X10_isGuesser gw_350 gs_16 (Or.inl gw_348) rc_X10 hz6c (by decide) rfl hl.1 rfl (Nat.le_of_ble_eq_true rfl) ⟨by decide, by decide⟩ ⟨by decide, by decide⟩ dX10_hint_2) X (fun H locs X => ?_)
  refine lv_if_eq (tgt := 15) C.1 C.2.1 dX10_hint_5 (by decide) (fun hc7 => ?_) (fun hc7 => ?_)
  · have he := jq_t hc7 he
    exact TX10_hint_b15 (n := n) C hr hlk X (lv_sub hl [] rfl) he
  · have he := jq_n hc7 he
    refine lv_iload_n C.1 C.2.1 dX10_hint_8 rfl (lv_at hl 2 rfl) ?_
    obtain ⟨z8, hz8, he⟩ := jq_b he
    refine jq_gi (jq_runS (av := [.int p1]) C X (M_X10_isPlace l bs D ct n z6.2 p1 _ hz8) mf_X10_isPlace gw_119 (Or.inl gw_118) rfl hl.1 rfl (Nat.le_of_ble_eq_true rfl) ⟨by decide, by decide⟩ ⟨by decide, by decide⟩ dX10_hint_9) X (fun H locs X => ?_)
    refine lv_if_ne (tgt := 17) C.1 C.2.1 dX10_hint_12 (by decide) (fun hc9 => ?_) (fun hc9 => ?_)
    · have he := jq_n hc9 he
      refine lv_iload_n C.1 C.2.1 dX10_hint_17 rfl (lv_at hl 3 rfl) ?_
      refine lv_iconst (v := (-1)) C.1 C.2.1 dX10_hint_18 (by decide) ?_
      refine lv_icmp_eq (tgt := 32) C.1 C.2.1 dX10_hint_19 (by decide) (fun hc10 => ?_) (fun hc10 => ?_)
      · have he := jq_t hc10 he
        exact TX10_hint_b32 (n := n) C hr hlk X (lv_sub hl [0, 1, 2, 3] rfl) he
      · have he := jq_n hc10 he
        refine lv_iload_n C.1 C.2.1 dX10_hint_22 rfl (lv_at hl 3 rfl) ?_
        obtain ⟨z11, hz11, he⟩ := jq_b he
        refine jq_gi (jq_runS (av := [.int p2]) C X (M_X10_isWay l bs D ct n z8.2 p2 _ hz11) mf_X10_isWay gw_330 (Or.inl gw_329) rfl hl.1 rfl (Nat.le_of_ble_eq_true rfl) ⟨by decide, by decide⟩ ⟨by decide, by decide⟩ dX10_hint_23) X (fun H locs X => ?_)
        refine lv_if_ne (tgt := 32) C.1 C.2.1 dX10_hint_26 (by decide) (fun hc12 => ?_) (fun hc12 => ?_)
        · have he := jq_n hc12 he
          exact TX10_hint_b32 (n := n) C hr hlk X (lv_sub hl [0, 1, 2, 3] rfl) he
        · have he := jq_t hc12 he
          refine lv_bipush (v := (-2)) C.1 C.2.1 dX10_hint_29 (by decide) ?_
          exact jq_iret C X hr hlk he (by decide) (by decide) dX10_hint_31
    · have he := jq_t hc9 he
      exact TX10_hint_b15 (n := n) C hr hlk X (lv_sub hl [] rfl) he
set_option maxRecDepth 100000 in
set_option maxHeartbeats 4000000 in
theorem TX3_look_b28 {p : Program} {l : Launch} {e : Env} {s : State} {m : MethodId} {args : Array Value} {below : List Frame} {meth : Method} {c : Code} {D : va_G} {ct : Nat → ClassId} {bs : Nat} {res : Int32 × jq_H} {n : Nat} (C : jq_C p s m args c cX3_look 3 RX3 D ct bs) (hr : meth.sig.returnType = (some .int)) (hlk : meth.locks = false) {h : jq_H} {H : Heap} {locs : List Loc} {ls : Array Slot} (X : jq_X bs D ct s.heap h H locs) (hl : lv_has ls 3 []) (he : X3_look_b28 n h = some res) :
    W p l e rm_X3_look s m args below meth c H locs 0 0 (MQ below (jq_Qi bs D ct res) args s rm_X3_look.cells rm_X3_look.slots (fun q => bs ≤ q)) (F0 m 28 ls []) := by
  unfold X3_look_b28 at he
  refine lv_sipush (v := (-1000)) C.1 C.2.1 dX3_look_28 (by decide) ?_
  exact jq_iret C X hr hlk he (by decide) (by decide) dX3_look_31
set_option maxRecDepth 100000 in
set_option maxHeartbeats 4000000 in
theorem M_X3_look (l : Launch) (bs : Nat) (D : va_G) (ct : Nat → ClassId) (n : Nat) (h : jq_H) (a : Nat) (p0 : Int32) (p1 : Int32) (res : Int32 × jq_H) (he : X3_look n h a p0 p1 = some res) : jq_M l yX3_look cX3_look 3 (some .int) rm_X3_look (jq_P [.ref a, .int p0, .int p1] bs D ct h) (jq_Qi bs D ct res) bs := by
  refine jq_start2 (by decide +kernel) (Nat.le_of_ble_eq_true rfl) ?_
  intro p e s m args below meth c ls H locs C hr hlk hin hl X
  have C : jq_C p s m args c cX3_look 3 RX3 D ct bs := C
  have hin : meth.name = "look" := hin
  have hl : lv_has ls 3 [(0, .ref a), (1, .int p0), (2, .int p1)] := hl
  unfold X3_look at he
  refine lv_iload_n C.1 C.2.1 dX3_look_0 rfl (lv_at hl 1 rfl) ?_
  refine lv_iconst (v := 0) C.1 C.2.1 dX3_look_1 (by decide) ?_
  refine lv_aload_n C.1 C.2.1 dX3_look_2 rfl (lv_at hl 0 rfl) ?_
  refine jq_rgI C X fs_X3_21 he dX3_look_3 (fun x1 he => ?_)
  refine lv_iconst (v := 1) C.1 C.2.1 dX3_look_6 (by decide) ?_
  refine lv_isub C.1 C.2.1 dX3_look_7 ?_
  obtain ⟨z2, hz2, he⟩ := jq_b he
  refine jq_gi (jq_runS (av := [.int p0, .int 0, .int (x1 - 1)]) C X (M_X10_within l bs D ct n h p0 0 (x1 - 1) _ hz2) mf_X10_within gw_122 (Or.inr ⟨_, gw_659⟩) rfl hl.1 rfl (Nat.le_of_ble_eq_true rfl) ⟨by decide, by decide⟩ ⟨by decide, by decide⟩ dX3_look_8) X (fun H locs X => ?_)
  refine lv_if_eq (tgt := 28) C.1 C.2.1 dX3_look_11 (by decide) (fun hc3 => ?_) (fun hc3 => ?_)
  · have he := jq_t hc3 he
    exact TX3_look_b28 (n := n) C hr hlk X (lv_sub hl [] rfl) he
  · have he := jq_n hc3 he
    refine lv_iload_n C.1 C.2.1 dX3_look_14 rfl (lv_at hl 2 rfl) ?_
    refine lv_iconst (v := 0) C.1 C.2.1 dX3_look_15 (by decide) ?_
    refine lv_aload_n C.1 C.2.1 dX3_look_16 rfl (lv_at hl 0 rfl) ?_
    refine jq_rgI C X fs_X3_25 he dX3_look_17 (fun x4 he => ?_)
    refine lv_iconst (v := 1) C.1 C.2.1 dX3_look_20 (by decide) ?_
    refine lv_isub C.1 C.2.1 dX3_look_21 ?_
    obtain ⟨z5, hz5, he⟩ := jq_b he
    refine jq_gi (jq_runS (av := [.int p1, .int 0, .int (x4 - 1)]) C X (M_X10_within l bs D ct n z2.2 p1 0 (x4 - 1) _ hz5) mf_X10_within gw_122 (Or.inr ⟨_, gw_659⟩) rfl hl.1 rfl (Nat.le_of_ble_eq_true rfl) ⟨by decide, by decide⟩ ⟨by decide, by decide⟩ dX3_look_22) X (fun H locs X => ?_)
    refine lv_if_ne (tgt := 32) C.1 C.2.1 dX3_look_25 (by decide) (fun hc6 => ?_) (fun hc6 => ?_)
    · have he := jq_n hc6 he
      refine lv_aload_n C.1 C.2.1 dX3_look_32 rfl (lv_at hl 0 rfl) ?_
      refine jq_rgR C X fs_X3_48 he dX3_look_33 (fun q7 he => ?_)
      refine jq_rgR C X fs_X3_41 he dX3_look_36 (fun q8 he => ?_)
      refine lv_iload_n C.1 C.2.1 dX3_look_39 rfl (lv_at hl 1 rfl) ?_
      refine lv_aload_n C.1 C.2.1 dX3_look_40 rfl (lv_at hl 0 rfl) ?_
      refine jq_rgI C X fs_X3_25 he dX3_look_41 (fun x9 he => ?_)
      refine lv_imul C.1 C.2.1 dX3_look_44 ?_
      refine lv_iload_n C.1 C.2.1 dX3_look_45 rfl (lv_at hl 2 rfl) ?_
      refine lv_iadd C.1 C.2.1 dX3_look_46 ?_
      refine jq_rldI C X he dX3_look_47 (fun x10 he => ?_)
      exact jq_iret C X hr hlk he (by decide) (by decide) dX3_look_48
    · have he := jq_t hc6 he
      exact TX3_look_b28 (n := n) C hr hlk X (lv_sub hl [] rfl) he
set_option maxRecDepth 100000 in
set_option maxHeartbeats 4000000 in
theorem M_X2_look (l : Launch) (bs : Nat) (D : va_G) (ct : Nat → ClassId) (n : Nat) (h : jq_H) (a : Nat) (p0 : Int32) (p1 : Int32) (res : Int32 × jq_H) (he : X2_look n h a p0 p1 = some res) : jq_M l yX2_look cX2_look 3 (some .int) rm_X2_look (jq_P [.ref a, .int p0, .int p1] bs D ct h) (jq_Qi bs D ct res) bs := by
  refine jq_start2 (by decide +kernel) (Nat.le_of_ble_eq_true rfl) ?_
  intro p e s m args below meth c ls H locs C hr hlk hin hl X
  have C : jq_C p s m args c cX2_look 3 RX2 D ct bs := C
  have hin : meth.name = "look" := hin
  have hl : lv_has ls 3 [(0, .ref a), (1, .int p0), (2, .int p1)] := hl
  unfold X2_look at he
  refine lv_sipush (v := (-1001)) C.1 C.2.1 dX2_look_0 (by decide) ?_
  exact jq_iret C X hr hlk he (by decide) (by decide) dX2_look_3
set_option maxRecDepth 100000 in
set_option maxHeartbeats 4000000 in
theorem TX10_inside_b25 {p : Program} {l : Launch} {e : Env} {s : State} {m : MethodId} {args : Array Value} {below : List Frame} {meth : Method} {c : Code} {D : va_G} {ct : Nat → ClassId} {bs : Nat} {res : Int32 × jq_H} {n : Nat} (C : jq_C p s m args c cX10_inside 4 RX10 D ct bs) (hr : meth.sig.returnType = (some .int)) (hlk : meth.locks = false) {s0 : Int32} {h : jq_H} {H : Heap} {locs : List Loc} {ls : Array Slot} (X : jq_X bs D ct s.heap h H locs) (hl : lv_has ls 4 []) (he : X10_inside_b25 n s0 h = some res) :
    W p l e rm_X10_inside s m args below meth c H locs 0 0 (MQ below (jq_Qi bs D ct res) args s rm_X10_inside.cells rm_X10_inside.slots (fun q => bs ≤ q)) (F0 m 25 ls [.int s0]) := by
  unfold X10_inside_b25 at he
  exact jq_iret C X hr hlk he (by decide) (by decide) dX10_inside_25
set_option maxRecDepth 100000 in
set_option maxHeartbeats 4000000 in
theorem M_X10_inside (l : Launch) (bs : Nat) (D : va_G) (ct : Nat → ClassId) (n : Nat) (h : jq_H) (a : Nat) (p0 : Int32) (p1 : Int32) (p2 : Int32) (res : Int32 × jq_H) (he : X10_inside n h a p0 p1 p2 = some res) : jq_M l yX10_inside cX10_inside 4 (some .int) rm_X10_inside (jq_P [.ref a, .int p0, .int p1, .int p2] bs D ct h) (jq_Qi bs D ct res) bs := by
  refine jq_start2 (by decide +kernel) (Nat.le_of_ble_eq_true rfl) ?_
  intro p e s m args below meth c ls H locs C hr hlk hin hl X
  have C : jq_C p s m args c cX10_inside 4 RX10 D ct bs := C
  have hin : meth.name = "inside" := hin
  have hl : lv_has ls 4 [(0, .ref a), (1, .int p0), (2, .int p1), (3, .int p2)] := hl
  unfold X10_inside at he
  refine lv_aload_n C.1 C.2.1 dX10_inside_0 rfl (lv_at hl 0 rfl) ?_
  refine lv_iload_n C.1 C.2.1 dX10_inside_1 rfl (lv_at hl 1 rfl) ?_
  obtain ⟨z1, hz1, he⟩ := jq_b he
  obtain ⟨hz1c, hz1⟩ := jq_ite hz1
  refine jq_gi (jq_runV (a := a) (av := [.int p0]) C X (M_X10_isGuesser l bs D ct n h a p0 _ hz1) mf_X10_isGuesser gw_350 gs_16 (Or.inl gw_348) rc_X10 hz1c (by decide) rfl hl.1 rfl (Nat.le_of_ble_eq_true rfl) ⟨by decide, by decide⟩ ⟨by decide, by decide⟩ dX10_inside_2) X (fun H locs X => ?_)
  refine lv_if_eq (tgt := 22) C.1 C.2.1 dX10_inside_5 (by decide) (fun hc2 => ?_) (fun hc2 => ?_)
  · have he := jq_t hc2 he
    refine lv_sipush (v := (-1000)) C.1 C.2.1 dX10_inside_22 (by decide) ?_
    exact TX10_inside_b25 (n := n) C hr hlk X (lv_sub hl [] rfl) he
  · have he := jq_n hc2 he
    refine lv_aload_n C.1 C.2.1 dX10_inside_8 rfl (lv_at hl 0 rfl) ?_
    refine jq_rgR C X fs_X10_25 he dX10_inside_9 (fun q3 he => ?_)
    refine lv_iload_n C.1 C.2.1 dX10_inside_12 rfl (lv_at hl 1 rfl) ?_
    refine jq_rldN C X (Or.inl ⟨rfl, rfl⟩) he dX10_inside_13 (fun q4 he => ?_)
    refine lv_iload_n C.1 C.2.1 dX10_inside_14 rfl (lv_at hl 2 rfl) ?_
    refine lv_iload_n C.1 C.2.1 dX10_inside_15 rfl (lv_at hl 3 rfl) ?_
    obtain ⟨z5, hz5, he⟩ := jq_b he
    have hrun : va_Run p l e rm_X10_inside s m args below meth c H locs 0 0 0 0 (F0 m 16 ls [.int p2, .int p1, .ref q4]) [] (jq_Qi bs D ct z5 (Value.ref q4 :: [.int p1, .int p2]).toArray) (fun q => bs ≤ q) := by
      unfold V_look at hz5
      by_cases hci0 : jq_ci z1.2 q4 = 0
      · exact jq_runU (a := q4) (av := [.int p1, .int p2]) (x := ⟨"WayGuesses$Guesser", "look", "(II)I"⟩) (owner := "WayGuesses$Guesser") (E := RX0) C X (M_X3_look l bs D ct n z1.2 q4 p1 p2 _ (jq_t hci0 hz5)) mf_X3_look gw_648 gw_650 gw_647 gw_649 (Or.inl ⟨_, _, _, gw_648, gw_658⟩) rfl ⟨by decide, by decide⟩ rc_X0 hci0 (by decide) rfl hl.1 rfl (Nat.le_of_ble_eq_true rfl) ⟨by decide, by decide⟩ ⟨by decide, by decide⟩ dX10_inside_16
      have hz5 := jq_n hci0 hz5
      by_cases hci1 : jq_ci z1.2 q4 = 1
      · exact jq_runU (a := q4) (av := [.int p1, .int p2]) (x := ⟨"WayGuesses$Guesser", "look", "(II)I"⟩) (owner := "WayGuesses$Guesser") (E := RX1) C X (M_X3_look l bs D ct n z1.2 q4 p1 p2 _ (jq_t hci1 hz5)) mf_X3_look gw_648 gw_651 gw_647 gw_649 (Or.inl ⟨_, _, _, gw_648, gw_658⟩) rfl ⟨by decide, by decide⟩ rc_X1 hci1 (by decide) rfl hl.1 rfl (Nat.le_of_ble_eq_true rfl) ⟨by decide, by decide⟩ ⟨by decide, by decide⟩ dX10_inside_16
      have hz5 := jq_n hci1 hz5
      by_cases hci2 : jq_ci z1.2 q4 = 2
      · exact jq_runU (a := q4) (av := [.int p1, .int p2]) (x := ⟨"WayGuesses$Guesser", "look", "(II)I"⟩) (owner := "WayGuesses$Guesser") (E := RX2) C X (M_X2_look l bs D ct n z1.2 q4 p1 p2 _ (jq_t hci2 hz5)) mf_X2_look gw_653 gw_652 gw_647 gw_649 (Or.inl ⟨_, _, _, gw_648, gw_658⟩) rfl ⟨by decide, by decide⟩ rc_X2 hci2 (by decide) rfl hl.1 rfl (Nat.le_of_ble_eq_true rfl) ⟨by decide, by decide⟩ ⟨by decide, by decide⟩ dX10_inside_16
      have hz5 := jq_n hci2 hz5
      by_cases hci4 : jq_ci z1.2 q4 = 4
      · exact jq_runU (a := q4) (av := [.int p1, .int p2]) (x := ⟨"WayGuesses$Guesser", "look", "(II)I"⟩) (owner := "WayGuesses$Guesser") (E := RX5) C X (M_X3_look l bs D ct n z1.2 q4 p1 p2 _ (jq_t hci4 hz5)) mf_X3_look gw_648 gw_655 gw_647 gw_649 (Or.inl ⟨_, _, _, gw_648, gw_658⟩) rfl ⟨by decide, by decide⟩ rc_X5 hci4 (by decide) rfl hl.1 rfl (Nat.le_of_ble_eq_true rfl) ⟨by decide, by decide⟩ ⟨by decide, by decide⟩ dX10_inside_16
      have hz5 := jq_n hci4 hz5
      by_cases hci7 : jq_ci z1.2 q4 = 7
      · exact jq_runU (a := q4) (av := [.int p1, .int p2]) (x := ⟨"WayGuesses$Guesser", "look", "(II)I"⟩) (owner := "WayGuesses$Guesser") (E := RX8) C X (M_X3_look l bs D ct n z1.2 q4 p1 p2 _ (jq_t hci7 hz5)) mf_X3_look gw_648 gw_656 gw_647 gw_649 (Or.inl ⟨_, _, _, gw_648, gw_658⟩) rfl ⟨by decide, by decide⟩ rc_X8 hci7 (by decide) rfl hl.1 rfl (Nat.le_of_ble_eq_true rfl) ⟨by decide, by decide⟩ ⟨by decide, by decide⟩ dX10_inside_16
      have hz5 := jq_n hci7 hz5
      by_cases hci8 : jq_ci z1.2 q4 = 8
      · exact jq_runU (a := q4) (av := [.int p1, .int p2]) (x := ⟨"WayGuesses$Guesser", "look", "(II)I"⟩) (owner := "WayGuesses$Guesser") (E := RX9) C X (M_X3_look l bs D ct n z1.2 q4 p1 p2 _ (jq_t hci8 hz5)) mf_X3_look gw_648 gw_657 gw_647 gw_649 (Or.inl ⟨_, _, _, gw_648, gw_658⟩) rfl ⟨by decide, by decide⟩ rc_X9 hci8 (by decide) rfl hl.1 rfl (Nat.le_of_ble_eq_true rfl) ⟨by decide, by decide⟩ ⟨by decide, by decide⟩ dX10_inside_16
      have hz5 := jq_n hci8 hz5
      cases hz5
    refine jq_gi (hrun) X (fun H locs X => ?_)
    refine lv_goto (tgt := 25) C.1 C.2.1 dX10_inside_19 (by decide) ?_
    exact TX10_inside_b25 (n := n) C hr hlk X (lv_sub hl [] rfl) he
set_option maxRecDepth 100000 in
set_option maxHeartbeats 4000000 in
theorem M_X10_isRegister (l : Launch) (bs : Nat) (D : va_G) (ct : Nat → ClassId) (n : Nat) (h : jq_H) (p0 : Int32) (res : Int32 × jq_H) (he : X10_isRegister n h p0 = some res) : jq_M l yX10_isRegister cX10_isRegister 1 (some .boolean) rm_X10_isRegister (jq_P [.int p0] bs D ct h) (jq_Qi bs D ct res) bs := by
  refine jq_start2 (by decide +kernel) (Nat.le_of_ble_eq_true rfl) ?_
  intro p e s m args below meth c ls H locs C hr hlk hin hl X
  have C : jq_C p s m args c cX10_isRegister 1 RX10 D ct bs := C
  have hin : meth.name = "isRegister" := hin
  have hl : lv_has ls 1 [(0, .int p0)] := hl
  unfold X10_isRegister at he
  refine lv_iload_n C.1 C.2.1 dX10_isRegister_0 rfl (lv_at hl 0 rfl) ?_
  refine lv_iconst (v := 0) C.1 C.2.1 dX10_isRegister_1 (by decide) ?_
  refine lv_bipush (v := 7) C.1 C.2.1 dX10_isRegister_2 (by decide) ?_
  obtain ⟨z1, hz1, he⟩ := jq_b he
  refine jq_gi (jq_runS (av := [.int p0, .int 0, .int 7]) C X (M_X10_within l bs D ct n h p0 0 7 _ hz1) mf_X10_within gw_122 (Or.inl gw_121) rfl hl.1 rfl (Nat.le_of_ble_eq_true rfl) ⟨by decide, by decide⟩ ⟨by decide, by decide⟩ dX10_isRegister_4) X (fun H locs X => ?_)
  exact jq_zret C X hr hlk he (by decide) (by decide) dX10_isRegister_7
