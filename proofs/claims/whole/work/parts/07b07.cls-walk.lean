set_option maxRecDepth 100000 in
set_option maxHeartbeats 4000000 in
theorem TX10_run_b65 {p : Program} {l : Launch} {e : Env} {s : State} {m : MethodId} {args : Array Value} {below : List Frame} {meth : Method} {c : Code} {D : va_G} {ct : Nat → ClassId} {bs : Nat} {res : Int32 × jq_H} {n : Nat} (C : jq_C p s m args c cX10_run 5 RX10 D ct bs) (hr : meth.sig.returnType = (some .int)) (hlk : meth.locks = false) {v1 : Int32} {h : jq_H} {H : Heap} {locs : List Loc} {ls : Array Slot} (X : jq_X bs D ct s.heap h H locs) (hl : lv_has ls 5 [(1, .int v1)]) (he : X10_run_b65 n v1 h = some res) :
    W p l e rm_X10_run s m args below meth c H locs 0 0 (MQ below (jq_Qi bs D ct res) args s rm_X10_run.cells rm_X10_run.slots (fun q => bs ≤ q)) (F0 m 65 ls []) := by
  unfold X10_run_b65 at he
  refine lv_iload_n C.1 C.2.1 dX10_run_65 rfl (lv_at hl 0 rfl) ?_
  exact jq_iret C X hr hlk he (by decide) (by decide) dX10_run_66
set_option maxRecDepth 100000 in
set_option maxHeartbeats 4000000 in
theorem TX10_run_b59 {p : Program} {l : Launch} {e : Env} {s : State} {m : MethodId} {args : Array Value} {below : List Frame} {meth : Method} {c : Code} {D : va_G} {ct : Nat → ClassId} {bs : Nat} {res : Int32 × jq_H} {n : Nat} {KB : Nat → Int32 → Int32 → jq_H → Option (Int32 × jq_H)} {K44 : Int32 → jq_H → Option (Int32 × jq_H)} {K65 : Int32 → jq_H → Option (Int32 × jq_H)} (C : jq_C p s m args c cX10_run 5 RX10 D ct bs) (hr : meth.sig.returnType = (some .int)) (hlk : meth.locks = false) (hKB : ∀ (u0 : Nat) (u1 : Int32) (u2 : Int32) (h1 : jq_H) (H1 : Heap) (locs1 : List Loc) (ls1 : Array Slot), KB u0 u1 u2 h1 = some res → jq_X bs D ct s.heap h1 H1 locs1 → lv_has ls1 5 [(0, .ref u0), (1, .int u1), (2, .int u2)] → W p l e rm_X10_run s m args below meth c H1 locs1 0 0 (MQ below (jq_Qi bs D ct res) args s rm_X10_run.cells rm_X10_run.slots (fun q => bs ≤ q)) (F0 m 16 ls1 [])) (hK44 : ∀ (u2 : Int32) (h1 : jq_H) (H1 : Heap) (locs1 : List Loc) (ls1 : Array Slot), K44 u2 h1 = some res → jq_X bs D ct s.heap h1 H1 locs1 → lv_has ls1 5 [(2, .int u2)] → W p l e rm_X10_run s m args below meth c H1 locs1 0 0 (MQ below (jq_Qi bs D ct res) args s rm_X10_run.cells rm_X10_run.slots (fun q => bs ≤ q)) (F0 m 44 ls1 [])) (hK65 : ∀ (u1 : Int32) (h1 : jq_H) (H1 : Heap) (locs1 : List Loc) (ls1 : Array Slot), K65 u1 h1 = some res → jq_X bs D ct s.heap h1 H1 locs1 → lv_has ls1 5 [(1, .int u1)] → W p l e rm_X10_run s m args below meth c H1 locs1 0 0 (MQ below (jq_Qi bs D ct res) args s rm_X10_run.cells rm_X10_run.slots (fun q => bs ≤ q)) (F0 m 65 ls1 [])) {v0 : Nat} {v1 : Int32} {v2 : Int32} {h : jq_H} {H : Heap} {locs : List Loc} {ls : Array Slot} (X : jq_X bs D ct s.heap h H locs) (hl : lv_has ls 5 [(0, .ref v0), (1, .int v1), (2, .int v2)]) (he : X10_run_b59 n KB K44 K65 v0 v1 v2 h = some res) :
    W p l e rm_X10_run s m args below meth c H locs 0 0 (MQ below (jq_Qi bs D ct res) args s rm_X10_run.cells rm_X10_run.slots (fun q => bs ≤ q)) (F0 m 59 ls []) := by
  unfold X10_run_b59 at he
  obtain ⟨x1, hx1, he⟩ := jq_ln he
  refine lv_iinc (v := x1) (lv' := [(2, .int x1), (0, .ref v0), (1, .int v1)]) C.1 C.2.1 dX10_run_59 hl (k := 2) rfl (by rw [hx1]; rfl) (by decide) rfl (fun ls hl => ?_)
  refine lv_goto (tgt := 16) C.1 C.2.1 dX10_run_62 (by decide) ?_
  exact hKB _ _ _ _ _ _ _ he X (lv_sub hl [1, 2, 0] rfl)
set_option maxRecDepth 100000 in
set_option maxHeartbeats 4000000 in
theorem TX10_run_b44 {p : Program} {l : Launch} {e : Env} {s : State} {m : MethodId} {args : Array Value} {below : List Frame} {meth : Method} {c : Code} {D : va_G} {ct : Nat → ClassId} {bs : Nat} {res : Int32 × jq_H} {n : Nat} (C : jq_C p s m args c cX10_run 5 RX10 D ct bs) (hr : meth.sig.returnType = (some .int)) (hlk : meth.locks = false) {v2 : Int32} {h : jq_H} {H : Heap} {locs : List Loc} {ls : Array Slot} (X : jq_X bs D ct s.heap h H locs) (hl : lv_has ls 5 [(2, .int v2)]) (he : X10_run_b44 n v2 h = some res) :
    W p l e rm_X10_run s m args below meth c H locs 0 0 (MQ below (jq_Qi bs D ct res) args s rm_X10_run.cells rm_X10_run.slots (fun q => bs ≤ q)) (F0 m 44 ls []) := by
  unfold X10_run_b44 at he
  refine lv_iload_n C.1 C.2.1 dX10_run_44 rfl (lv_at hl 0 rfl) ?_
  exact jq_iret C X hr hlk he (by decide) (by decide) dX10_run_45
set_option maxRecDepth 100000 in
set_option maxHeartbeats 4000000 in
theorem TX10_run_b16 {p : Program} {l : Launch} {e : Env} {s : State} {m : MethodId} {args : Array Value} {below : List Frame} {meth : Method} {c : Code} {D : va_G} {ct : Nat → ClassId} {bs : Nat} {res : Int32 × jq_H} {n : Nat} {KB : Nat → Int32 → Int32 → jq_H → Option (Int32 × jq_H)} {K44 : Int32 → jq_H → Option (Int32 × jq_H)} {K65 : Int32 → jq_H → Option (Int32 × jq_H)} (C : jq_C p s m args c cX10_run 5 RX10 D ct bs) (hr : meth.sig.returnType = (some .int)) (hlk : meth.locks = false) (hKB : ∀ (u0 : Nat) (u1 : Int32) (u2 : Int32) (h1 : jq_H) (H1 : Heap) (locs1 : List Loc) (ls1 : Array Slot), KB u0 u1 u2 h1 = some res → jq_X bs D ct s.heap h1 H1 locs1 → lv_has ls1 5 [(0, .ref u0), (1, .int u1), (2, .int u2)] → W p l e rm_X10_run s m args below meth c H1 locs1 0 0 (MQ below (jq_Qi bs D ct res) args s rm_X10_run.cells rm_X10_run.slots (fun q => bs ≤ q)) (F0 m 16 ls1 [])) (hK44 : ∀ (u2 : Int32) (h1 : jq_H) (H1 : Heap) (locs1 : List Loc) (ls1 : Array Slot), K44 u2 h1 = some res → jq_X bs D ct s.heap h1 H1 locs1 → lv_has ls1 5 [(2, .int u2)] → W p l e rm_X10_run s m args below meth c H1 locs1 0 0 (MQ below (jq_Qi bs D ct res) args s rm_X10_run.cells rm_X10_run.slots (fun q => bs ≤ q)) (F0 m 44 ls1 [])) (hK65 : ∀ (u1 : Int32) (h1 : jq_H) (H1 : Heap) (locs1 : List Loc) (ls1 : Array Slot), K65 u1 h1 = some res → jq_X bs D ct s.heap h1 H1 locs1 → lv_has ls1 5 [(1, .int u1)] → W p l e rm_X10_run s m args below meth c H1 locs1 0 0 (MQ below (jq_Qi bs D ct res) args s rm_X10_run.cells rm_X10_run.slots (fun q => bs ≤ q)) (F0 m 65 ls1 [])) {v0 : Nat} {v1 : Int32} {v2 : Int32} {h : jq_H} {H : Heap} {locs : List Loc} {ls : Array Slot} (X : jq_X bs D ct s.heap h H locs) (hl : lv_has ls 5 [(0, .ref v0), (1, .int v1), (2, .int v2)]) (he : X10_run_b16 n KB K44 K65 v0 v1 v2 h = some res) :
    W p l e rm_X10_run s m args below meth c H locs 0 0 (MQ below (jq_Qi bs D ct res) args s rm_X10_run.cells rm_X10_run.slots (fun q => bs ≤ q)) (F0 m 16 ls []) := by
  unfold X10_run_b16 at he
  refine lv_iload_n C.1 C.2.1 dX10_run_16 rfl (lv_at hl 2 rfl) ?_
  refine lv_iload_n C.1 C.2.1 dX10_run_17 rfl (lv_at hl 1 rfl) ?_
  refine lv_icmp_ge (tgt := 65) C.1 C.2.1 dX10_run_18 (by decide) (fun hc2 => ?_) (fun hc2 => ?_)
  · have he := jq_t hc2 he
    exact hK65 _ _ _ _ _ he X (lv_sub hl [1] rfl)
  · have he := jq_n hc2 he
    refine lv_aload_n C.1 C.2.1 dX10_run_21 rfl (lv_at hl 0 rfl) ?_
    refine jq_rgR C X fs_X10_12 he dX10_run_22 (fun q3 he => ?_)
    refine jq_rgI C X fs_X10_57 he dX10_run_25 (fun x4 he => ?_)
    refine lv_istore_n (lv' := [(3, .int x4), (0, .ref v0), (1, .int v1), (2, .int v2)]) C.1 C.2.1 dX10_run_28 rfl hl (by decide) rfl (fun ls hl => ?_)
    refine lv_aload_n C.1 C.2.1 dX10_run_29 rfl (lv_at hl 1 rfl) ?_
    refine jq_rgR C X fs_X10_12 he dX10_run_30 (fun q5 he => ?_)
    obtain ⟨z6, hz6, he⟩ := jq_b he
    obtain ⟨hz6c, hz6⟩ := jq_ite hz6
    refine jq_gi (jq_runV (a := q5) (av := []) C X (M_X6_step l bs D ct n h q5 _ hz6) mf_X6_step gw_160 gs_1 (Or.inr ⟨_, gw_158⟩) rc_X6 hz6c (by decide) rfl hl.1 rfl (Nat.le_of_ble_eq_true rfl) ⟨by decide, by decide⟩ ⟨by decide, by decide⟩ dX10_run_33) X (fun H locs X => ?_)
    obtain ⟨x7, hx7, he⟩ := jq_ln he
    refine jq_top hx7 ?_
    refine lv_istore (lv' := [(4, .int x7), (3, .int x4), (0, .ref v0), (1, .int v1), (2, .int v2)]) C.1 C.2.1 dX10_run_36 hl (by decide) rfl (fun ls hl => ?_)
    refine lv_iload C.1 C.2.1 dX10_run_38 (lv_at hl 0 rfl) ?_
    refine lv_iconst (v := (-1)) C.1 C.2.1 dX10_run_40 (by decide) ?_
    refine lv_icmp_ne (tgt := 46) C.1 C.2.1 dX10_run_41 (by decide) (fun hc8 => ?_) (fun hc8 => ?_)
    · have he := jq_n hc8 he
      refine lv_iload C.1 C.2.1 dX10_run_46 (lv_at hl 0 rfl) ?_
      refine lv_iconst (v := 2) C.1 C.2.1 dX10_run_48 (by decide) ?_
      refine lv_icmp_eq (tgt := 59) C.1 C.2.1 dX10_run_49 (by decide) (fun hc9 => ?_) (fun hc9 => ?_)
      · have he := jq_t hc9 he
        exact TX10_run_b59 (n := n) C hr hlk hKB hK44 hK65 X (lv_sub hl [2, 3, 4] rfl) he
      · have he := jq_n hc9 he
        refine lv_aload_n C.1 C.2.1 dX10_run_52 rfl (lv_at hl 2 rfl) ?_
        refine lv_iload_n C.1 C.2.1 dX10_run_53 rfl (lv_at hl 1 rfl) ?_
        refine lv_iload C.1 C.2.1 dX10_run_54 (lv_at hl 0 rfl) ?_
        obtain ⟨z10, hz10, he⟩ := jq_b he
        obtain ⟨hz10c, hz10⟩ := jq_ite hz10
        refine jq_gv (jq_runV (a := v0) (av := [.int x4, .int x7]) C X (M_X10_meet l bs D ct n z6.2 v0 x4 x7 _ hz10) mf_X10_meet gw_171 gs_3 (Or.inl gw_169) rc_X10 hz10c (by decide) rfl hl.1 rfl (Nat.le_of_ble_eq_true rfl) ⟨by decide, by decide⟩ ⟨by decide, by decide⟩ dX10_run_56) X (fun H locs X => ?_)
        exact TX10_run_b59 (n := n) C hr hlk hKB hK44 hK65 X (lv_sub hl [2, 3, 4] rfl) he
    · have he := jq_t hc8 he
      exact hK44 _ _ _ _ _ he X (lv_sub hl [4] rfl)
set_option maxRecDepth 100000 in
set_option maxHeartbeats 4000000 in
theorem TX10_run_l16 {p : Program} {l : Launch} {e : Env} {s : State} {m : MethodId} {args : Array Value} {below : List Frame} {meth : Method} {c : Code} {D : va_G} {ct : Nat → ClassId} {bs : Nat} {res : Int32 × jq_H} {n : Nat} {K44 : Int32 → jq_H → Option (Int32 × jq_H)} {K65 : Int32 → jq_H → Option (Int32 × jq_H)} (C : jq_C p s m args c cX10_run 5 RX10 D ct bs) (hr : meth.sig.returnType = (some .int)) (hlk : meth.locks = false) (hK44 : ∀ (u2 : Int32) (h1 : jq_H) (H1 : Heap) (locs1 : List Loc) (ls1 : Array Slot), K44 u2 h1 = some res → jq_X bs D ct s.heap h1 H1 locs1 → lv_has ls1 5 [(2, .int u2)] → W p l e rm_X10_run s m args below meth c H1 locs1 0 0 (MQ below (jq_Qi bs D ct res) args s rm_X10_run.cells rm_X10_run.slots (fun q => bs ≤ q)) (F0 m 44 ls1 [])) (hK65 : ∀ (u1 : Int32) (h1 : jq_H) (H1 : Heap) (locs1 : List Loc) (ls1 : Array Slot), K65 u1 h1 = some res → jq_X bs D ct s.heap h1 H1 locs1 → lv_has ls1 5 [(1, .int u1)] → W p l e rm_X10_run s m args below meth c H1 locs1 0 0 (MQ below (jq_Qi bs D ct res) args s rm_X10_run.cells rm_X10_run.slots (fun q => bs ≤ q)) (F0 m 65 ls1 [])) :
    ∀ (k : Nat) (v0 : Nat) (v1 : Int32) (v2 : Int32) (h : jq_H) (H : Heap) (locs : List Loc) (ls : Array Slot), X10_run_l16 n K44 K65 k v0 v1 v2 h = some res → jq_X bs D ct s.heap h H locs → lv_has ls 5 [(0, .ref v0), (1, .int v1), (2, .int v2)] → W p l e rm_X10_run s m args below meth c H locs 0 0 (MQ below (jq_Qi bs D ct res) args s rm_X10_run.cells rm_X10_run.slots (fun q => bs ≤ q)) (F0 m 16 ls []) := by
  intro k
  induction k with
  | zero => intro v0 v1 v2 h H locs ls he; cases (show (none : Option (Int32 × jq_H)) = some res from he)
  | succ k ih =>
    intro v0 v1 v2 h H locs ls he X hl
    exact TX10_run_b16 (n := n) C hr hlk (KB := X10_run_l16 n K44 K65 k) ih hK44 hK65 X hl he
set_option maxRecDepth 100000 in
set_option maxHeartbeats 4000000 in
theorem M_X10_run (l : Launch) (bs : Nat) (D : va_G) (ct : Nat → ClassId) (n : Nat) (h : jq_H) (a : Nat) (p0 : Int32) (res : Int32 × jq_H) (he : X10_run n h a p0 = some res) : jq_M l yX10_run cX10_run 5 (some .int) rm_X10_run (jq_P [.ref a, .int p0] bs D ct h) (jq_Qi bs D ct res) bs := by
  refine jq_start2 (by decide +kernel) (Nat.le_of_ble_eq_true rfl) ?_
  intro p e s m args below meth c ls H locs C hr hlk hin hl X
  have C : jq_C p s m args c cX10_run 5 RX10 D ct bs := C
  have hin : meth.name = "run" := hin
  have hl : lv_has ls 5 [(0, .ref a), (1, .int p0)] := hl
  unfold X10_run at he
  refine lv_iload_n C.1 C.2.1 dX10_run_0 rfl (lv_at hl 1 rfl) ?_
  refine lv_iconst (v := 0) C.1 C.2.1 dX10_run_1 (by decide) ?_
  refine lv_sipush (v := 2000) C.1 C.2.1 dX10_run_2 (by decide) ?_
  obtain ⟨z11, hz11, he⟩ := jq_b he
  refine jq_gi (jq_runS (av := [.int p0, .int 0, .int 2000]) C X (M_X10_within l bs D ct n h p0 0 2000 _ hz11) mf_X10_within gw_122 (Or.inl gw_121) rfl hl.1 rfl (Nat.le_of_ble_eq_true rfl) ⟨by decide, by decide⟩ ⟨by decide, by decide⟩ dX10_run_5) X (fun H locs X => ?_)
  refine lv_if_ne (tgt := 14) C.1 C.2.1 dX10_run_8 (by decide) (fun hc12 => ?_) (fun hc12 => ?_)
  · have he := jq_n hc12 he
    refine lv_iconst (v := 0) C.1 C.2.1 dX10_run_14 (by decide) ?_
    refine lv_istore_n (lv' := [(2, .int 0), (0, .ref a), (1, .int p0)]) C.1 C.2.1 dX10_run_15 rfl hl (by decide) rfl (fun ls hl => ?_)
    exact TX10_run_l16 (n := n) C hr hlk (fun w2 hh H locs ls he X hl => by
    exact TX10_run_b44 (n := n) C hr hlk X hl he) (fun w1 hh H locs ls he X hl => by
    exact TX10_run_b65 (n := n) C hr hlk X hl he) n _ _ _ _ _ _ _ he X (lv_sub hl [1, 2, 0] rfl)
  · have he := jq_t hc12 he
    refine lv_bipush (v := (-2)) C.1 C.2.1 dX10_run_11 (by decide) ?_
    exact jq_iret C X hr hlk he (by decide) (by decide) dX10_run_13
set_option maxRecDepth 100000 in
set_option maxHeartbeats 4000000 in
theorem M_X10_seen (l : Launch) (bs : Nat) (D : va_G) (ct : Nat → ClassId) (n : Nat) (h : jq_H) (a : Nat) (p0 : Int32) (p1 : Int32) (res : Int32 × jq_H) (he : X10_seen n h a p0 p1 = some res) : jq_M l yX10_seen cX10_seen 3 (some .int) rm_X10_seen (jq_P [.ref a, .int p0, .int p1] bs D ct h) (jq_Qi bs D ct res) bs := by
  refine jq_start2 (by decide +kernel) (Nat.le_of_ble_eq_true rfl) ?_
  intro p e s m args below meth c ls H locs C hr hlk hin hl X
  have C : jq_C p s m args c cX10_seen 3 RX10 D ct bs := C
  have hin : meth.name = "seen" := hin
  have hl : lv_has ls 3 [(0, .ref a), (1, .int p0), (2, .int p1)] := hl
  unfold X10_seen at he
  refine lv_iload_n C.1 C.2.1 dX10_seen_0 rfl (lv_at hl 1 rfl) ?_
  refine lv_iconst (v := 0) C.1 C.2.1 dX10_seen_1 (by decide) ?_
  refine lv_bipush (v := 8) C.1 C.2.1 dX10_seen_2 (by decide) ?_
  obtain ⟨z1, hz1, he⟩ := jq_b he
  refine jq_gi (jq_runS (av := [.int p0, .int 0, .int 8]) C X (M_X10_within l bs D ct n h p0 0 8 _ hz1) mf_X10_within gw_122 (Or.inl gw_121) rfl hl.1 rfl (Nat.le_of_ble_eq_true rfl) ⟨by decide, by decide⟩ ⟨by decide, by decide⟩ dX10_seen_4) X (fun H locs X => ?_)
  refine lv_if_ne (tgt := 13) C.1 C.2.1 dX10_seen_7 (by decide) (fun hc2 => ?_) (fun hc2 => ?_)
  · have he := jq_n hc2 he
    refine lv_aload_n C.1 C.2.1 dX10_seen_13 rfl (lv_at hl 0 rfl) ?_
    refine jq_rgR C X fs_X10_19 he dX10_seen_14 (fun q3 he => ?_)
    refine lv_iload_n C.1 C.2.1 dX10_seen_17 rfl (lv_at hl 1 rfl) ?_
    refine lv_iload_n C.1 C.2.1 dX10_seen_18 rfl (lv_at hl 2 rfl) ?_
    obtain ⟨z4, hz4, he⟩ := jq_b he
    obtain ⟨hz4c, hz4⟩ := jq_ite hz4
    refine jq_gv (jq_runV (a := q3) (av := [.int p0, .int p1]) C X (M_X7_survey l bs D ct n z1.2 q3 p0 p1 _ hz4) mf_X7_survey gw_713 gs_23 (Or.inr ⟨_, gw_711⟩) rc_X7 hz4c (by decide) rfl hl.1 rfl (Nat.le_of_ble_eq_true rfl) ⟨by decide, by decide⟩ ⟨by decide, by decide⟩ dX10_seen_19) X (fun H locs X => ?_)
    refine lv_aload_n C.1 C.2.1 dX10_seen_22 rfl (lv_at hl 0 rfl) ?_
    refine jq_rgR C X fs_X10_19 he dX10_seen_23 (fun q5 he => ?_)
    refine jq_rgI C X fs_X10_176 he dX10_seen_26 (fun x6 he => ?_)
    exact jq_iret C X hr hlk he (by decide) (by decide) dX10_seen_29
  · have he := jq_t hc2 he
    refine lv_bipush (v := (-2)) C.1 C.2.1 dX10_seen_10 (by decide) ?_
    exact jq_iret C X hr hlk he (by decide) (by decide) dX10_seen_12
set_option maxRecDepth 100000 in
set_option maxHeartbeats 4000000 in
theorem M_X10_stand (l : Launch) (bs : Nat) (D : va_G) (ct : Nat → ClassId) (n : Nat) (h : jq_H) (a : Nat) (p0 : Int32) (res : Int32 × jq_H) (he : X10_stand n h a p0 = some res) : jq_M l yX10_stand cX10_stand 3 (some .int) rm_X10_stand (jq_P [.ref a, .int p0] bs D ct h) (jq_Qi bs D ct res) bs := by
  refine jq_start2 (by decide +kernel) (Nat.le_of_ble_eq_true rfl) ?_
  intro p e s m args below meth c ls H locs C hr hlk hin hl X
  have C : jq_C p s m args c cX10_stand 3 RX10 D ct bs := C
  have hin : meth.name = "stand" := hin
  have hl : lv_has ls 3 [(0, .ref a), (1, .int p0)] := hl
  unfold X10_stand at he
  refine lv_iload_n C.1 C.2.1 dX10_stand_0 rfl (lv_at hl 1 rfl) ?_
  obtain ⟨z1, hz1, he⟩ := jq_b he
  refine jq_gi (jq_runS (av := [.int p0]) C X (M_X10_isPlace l bs D ct n h p0 _ hz1) mf_X10_isPlace gw_119 (Or.inl gw_118) rfl hl.1 rfl (Nat.le_of_ble_eq_true rfl) ⟨by decide, by decide⟩ ⟨by decide, by decide⟩ dX10_stand_1) X (fun H locs X => ?_)
  refine lv_if_ne (tgt := 9) C.1 C.2.1 dX10_stand_4 (by decide) (fun hc2 => ?_) (fun hc2 => ?_)
  · have he := jq_n hc2 he
    refine lv_aload_n C.1 C.2.1 dX10_stand_9 rfl (lv_at hl 0 rfl) ?_
    refine jq_rgR C X fs_X10_12 he dX10_stand_10 (fun q3 he => ?_)
    refine jq_rgI C X fs_X10_57 he dX10_stand_13 (fun x4 he => ?_)
    refine lv_istore_n (lv' := [(2, .int x4), (0, .ref a), (1, .int p0)]) C.1 C.2.1 dX10_stand_16 rfl hl (by decide) rfl (fun ls hl => ?_)
    refine lv_aload_n C.1 C.2.1 dX10_stand_17 rfl (lv_at hl 1 rfl) ?_
    refine jq_rgR C X fs_X10_12 he dX10_stand_18 (fun q5 he => ?_)
    refine lv_iload_n C.1 C.2.1 dX10_stand_21 rfl (lv_at hl 2 rfl) ?_
    refine jq_rp (ty := .int) C X fs_X10_57 (by decide +kernel) rfl rfl he dX10_stand_22 (fun h6 H locs he X => ?_)
    refine lv_iload_n C.1 C.2.1 dX10_stand_25 rfl (lv_at hl 0 rfl) ?_
    exact jq_iret C X hr hlk he (by decide) (by decide) dX10_stand_26
  · have he := jq_t hc2 he
    refine lv_iconst (v := (-1)) C.1 C.2.1 dX10_stand_7 (by decide) ?_
    exact jq_iret C X hr hlk he (by decide) (by decide) dX10_stand_8
set_option maxRecDepth 100000 in
set_option maxHeartbeats 4000000 in
theorem TX10_stored_b20 {p : Program} {l : Launch} {e : Env} {s : State} {m : MethodId} {args : Array Value} {below : List Frame} {meth : Method} {c : Code} {D : va_G} {ct : Nat → ClassId} {bs : Nat} {res : Int32 × jq_H} {n : Nat} (C : jq_C p s m args c cX10_stored 2 RX10 D ct bs) (hr : meth.sig.returnType = (some .int)) (hlk : meth.locks = false) {s0 : Int32} {h : jq_H} {H : Heap} {locs : List Loc} {ls : Array Slot} (X : jq_X bs D ct s.heap h H locs) (hl : lv_has ls 2 []) (he : X10_stored_b20 n s0 h = some res) :
    W p l e rm_X10_stored s m args below meth c H locs 0 0 (MQ below (jq_Qi bs D ct res) args s rm_X10_stored.cells rm_X10_stored.slots (fun q => bs ≤ q)) (F0 m 20 ls [.int s0]) := by
  unfold X10_stored_b20 at he
  exact jq_iret C X hr hlk he (by decide) (by decide) dX10_stored_20
set_option maxRecDepth 100000 in
set_option maxHeartbeats 4000000 in
theorem M_X10_stored (l : Launch) (bs : Nat) (D : va_G) (ct : Nat → ClassId) (n : Nat) (h : jq_H) (a : Nat) (p0 : Int32) (res : Int32 × jq_H) (he : X10_stored n h a p0 = some res) : jq_M l yX10_stored cX10_stored 2 (some .int) rm_X10_stored (jq_P [.ref a, .int p0] bs D ct h) (jq_Qi bs D ct res) bs := by
  refine jq_start2 (by decide +kernel) (Nat.le_of_ble_eq_true rfl) ?_
  intro p e s m args below meth c ls H locs C hr hlk hin hl X
  have C : jq_C p s m args c cX10_stored 2 RX10 D ct bs := C
  have hin : meth.name = "stored" := hin
  have hl : lv_has ls 2 [(0, .ref a), (1, .int p0)] := hl
  unfold X10_stored at he
  refine lv_iload_n C.1 C.2.1 dX10_stored_0 rfl (lv_at hl 1 rfl) ?_
  obtain ⟨z1, hz1, he⟩ := jq_b he
  refine jq_gi (jq_runS (av := [.int p0]) C X (M_X10_isData l bs D ct n h p0 _ hz1) mf_X10_isData gw_144 (Or.inl gw_143) rfl hl.1 rfl (Nat.le_of_ble_eq_true rfl) ⟨by decide, by decide⟩ ⟨by decide, by decide⟩ dX10_stored_1) X (fun H locs X => ?_)
  refine lv_if_eq (tgt := 19) C.1 C.2.1 dX10_stored_4 (by decide) (fun hc2 => ?_) (fun hc2 => ?_)
  · have he := jq_t hc2 he
    refine lv_iconst (v := 0) C.1 C.2.1 dX10_stored_19 (by decide) ?_
    exact TX10_stored_b20 (n := n) C hr hlk X (lv_sub hl [] rfl) he
  · have he := jq_n hc2 he
    refine lv_aload_n C.1 C.2.1 dX10_stored_7 rfl (lv_at hl 0 rfl) ?_
    refine jq_rgR C X fs_X10_12 he dX10_stored_8 (fun q3 he => ?_)
    refine jq_rgR C X fs_X10_54 he dX10_stored_11 (fun q4 he => ?_)
    refine lv_iload_n C.1 C.2.1 dX10_stored_14 rfl (lv_at hl 1 rfl) ?_
    refine jq_rldI C X he dX10_stored_15 (fun x5 he => ?_)
    refine lv_goto (tgt := 20) C.1 C.2.1 dX10_stored_16 (by decide) ?_
    exact TX10_stored_b20 (n := n) C hr hlk X (lv_sub hl [] rfl) he
set_option maxRecDepth 100000 in
set_option maxHeartbeats 4000000 in
theorem M_X10_ticks (l : Launch) (bs : Nat) (D : va_G) (ct : Nat → ClassId) (n : Nat) (h : jq_H) (a : Nat) (p0 : Int32) (p1 : Int32) (res : Int32 × jq_H) (he : X10_ticks n h a p0 p1 = some res) : jq_M l yX10_ticks cX10_ticks 3 (some .int) rm_X10_ticks (jq_P [.ref a, .int p0, .int p1] bs D ct h) (jq_Qi bs D ct res) bs := by
  refine jq_start2 (by decide +kernel) (Nat.le_of_ble_eq_true rfl) ?_
  intro p e s m args below meth c ls H locs C hr hlk hin hl X
  have C : jq_C p s m args c cX10_ticks 3 RX10 D ct bs := C
  have hin : meth.name = "ticks" := hin
  have hl : lv_has ls 3 [(0, .ref a), (1, .int p0), (2, .int p1)] := hl
  unfold X10_ticks at he
  refine lv_aload_n C.1 C.2.1 dX10_ticks_0 rfl (lv_at hl 0 rfl) ?_
  refine lv_iload_n C.1 C.2.1 dX10_ticks_1 rfl (lv_at hl 1 rfl) ?_
  obtain ⟨z1, hz1, he⟩ := jq_b he
  obtain ⟨hz1c, hz1⟩ := jq_ite hz1
  refine jq_gi (jq_runV (a := a) (av := [.int p0]) C X (M_X10_isGuesser l bs D ct n h a p0 _ hz1) mf_X10_isGuesser gw_350 gs_16 (Or.inl gw_348) rc_X10 hz1c (by decide) rfl hl.1 rfl (Nat.le_of_ble_eq_true rfl) ⟨by decide, by decide⟩ ⟨by decide, by decide⟩ dX10_ticks_2) X (fun H locs X => ?_)
  refine lv_if_ne (tgt := 10) C.1 C.2.1 dX10_ticks_5 (by decide) (fun hc2 => ?_) (fun hc2 => ?_)
  · have he := jq_n hc2 he
    refine lv_iload_n C.1 C.2.1 dX10_ticks_10 rfl (lv_at hl 2 rfl) ?_
    refine lv_iconst (v := 0) C.1 C.2.1 dX10_ticks_11 (by decide) ?_
    refine lv_bipush (v := 100) C.1 C.2.1 dX10_ticks_12 (by decide) ?_
    obtain ⟨z3, hz3, he⟩ := jq_b he
    refine jq_gi (jq_runS (av := [.int p1, .int 0, .int 100]) C X (M_X10_within l bs D ct n z1.2 p1 0 100 _ hz3) mf_X10_within gw_122 (Or.inl gw_121) rfl hl.1 rfl (Nat.le_of_ble_eq_true rfl) ⟨by decide, by decide⟩ ⟨by decide, by decide⟩ dX10_ticks_14) X (fun H locs X => ?_)
    refine lv_if_ne (tgt := 23) C.1 C.2.1 dX10_ticks_17 (by decide) (fun hc4 => ?_) (fun hc4 => ?_)
    · have he := jq_n hc4 he
      refine lv_aload_n C.1 C.2.1 dX10_ticks_23 rfl (lv_at hl 0 rfl) ?_
      refine jq_rgR C X fs_X10_12 he dX10_ticks_24 (fun q5 he => ?_)
      refine jq_rgI C X fs_X10_182 he dX10_ticks_27 (fun x6 he => ?_)
      refine lv_iload_n C.1 C.2.1 dX10_ticks_30 rfl (lv_at hl 2 rfl) ?_
      refine lv_aload_n C.1 C.2.1 dX10_ticks_31 rfl (lv_at hl 0 rfl) ?_
      refine jq_rgR C X fs_X10_25 he dX10_ticks_32 (fun q7 he => ?_)
      refine lv_iload_n C.1 C.2.1 dX10_ticks_35 rfl (lv_at hl 1 rfl) ?_
      refine jq_rldN C X (Or.inl ⟨rfl, rfl⟩) he dX10_ticks_36 (fun q8 he => ?_)
      refine jq_rgR C X fs_X10_112 he dX10_ticks_37 (fun q9 he => ?_)
      refine jq_rgI C X fs_X10_116 he dX10_ticks_40 (fun x10 he => ?_)
      refine lv_imul C.1 C.2.1 dX10_ticks_43 ?_
      refine lv_iadd C.1 C.2.1 dX10_ticks_44 ?_
      exact jq_iret C X hr hlk he (by decide) (by decide) dX10_ticks_45
    · have he := jq_t hc4 he
      refine lv_bipush (v := (-2)) C.1 C.2.1 dX10_ticks_20 (by decide) ?_
      exact jq_iret C X hr hlk he (by decide) (by decide) dX10_ticks_22
  · have he := jq_t hc2 he
    refine lv_iconst (v := (-1)) C.1 C.2.1 dX10_ticks_8 (by decide) ?_
    exact jq_iret C X hr hlk he (by decide) (by decide) dX10_ticks_9
set_option maxRecDepth 100000 in
set_option maxHeartbeats 4000000 in
theorem M_X10_told (l : Launch) (bs : Nat) (D : va_G) (ct : Nat → ClassId) (n : Nat) (h : jq_H) (a : Nat) (p0 : Int32) (res : Int32 × jq_H) (he : X10_told n h a p0 = some res) : jq_M l yX10_told cX10_told 2 (some .int) rm_X10_told (jq_P [.ref a, .int p0] bs D ct h) (jq_Qi bs D ct res) bs := by
  refine jq_start2 (by decide +kernel) (Nat.le_of_ble_eq_true rfl) ?_
  intro p e s m args below meth c ls H locs C hr hlk hin hl X
  have C : jq_C p s m args c cX10_told 2 RX10 D ct bs := C
  have hin : meth.name = "told" := hin
  have hl : lv_has ls 2 [(0, .ref a), (1, .int p0)] := hl
  unfold X10_told at he
  refine lv_iload_n C.1 C.2.1 dX10_told_0 rfl (lv_at hl 1 rfl) ?_
  by_cases hc3 : p0 = 0
  · have he := jq_t hc3 he
    refine lv_tableIn (tgt := 36) C.1 C.2.1 dX10_told_1 (by rw [hc3]; decide) (by rw [hc3]; decide) (by rw [hc3]; rfl) (by decide) ?_
    refine lv_aload_n C.1 C.2.1 dX10_told_36 rfl (lv_at hl 0 rfl) ?_
    refine jq_rgR C X fs_X10_12 he dX10_told_37 (fun q1 he => ?_)
    refine jq_rgI C X fs_X10_57 he dX10_told_40 (fun x2 he => ?_)
    exact jq_iret C X hr hlk he (by decide) (by decide) dX10_told_43
  have he := jq_n hc3 he
  by_cases hc6 : p0 = 1
  · have he := jq_t hc6 he
    refine lv_tableIn (tgt := 44) C.1 C.2.1 dX10_told_1 (by rw [hc6]; decide) (by rw [hc6]; decide) (by rw [hc6]; rfl) (by decide) ?_
    refine lv_aload_n C.1 C.2.1 dX10_told_44 rfl (lv_at hl 0 rfl) ?_
    refine jq_rgR C X fs_X10_12 he dX10_told_45 (fun q4 he => ?_)
    refine jq_rgI C X fs_X10_182 he dX10_told_48 (fun x5 he => ?_)
    exact jq_iret C X hr hlk he (by decide) (by decide) dX10_told_51
  have he := jq_n hc6 he
  by_cases hc8 : p0 = 2
  · have he := jq_t hc8 he
    refine lv_tableIn (tgt := 52) C.1 C.2.1 dX10_told_1 (by rw [hc8]; decide) (by rw [hc8]; decide) (by rw [hc8]; rfl) (by decide) ?_
    refine lv_aload_n C.1 C.2.1 dX10_told_52 rfl (lv_at hl 0 rfl) ?_
    refine jq_rgI C X fs_X10_72 he dX10_told_53 (fun x7 he => ?_)
    exact jq_iret C X hr hlk he (by decide) (by decide) dX10_told_56
  have he := jq_n hc8 he
  by_cases hc11 : p0 = 3
  · have he := jq_t hc11 he
    refine lv_tableIn (tgt := 57) C.1 C.2.1 dX10_told_1 (by rw [hc11]; decide) (by rw [hc11]; decide) (by rw [hc11]; rfl) (by decide) ?_
    refine lv_aload_n C.1 C.2.1 dX10_told_57 rfl (lv_at hl 0 rfl) ?_
    refine jq_rgR C X fs_X10_19 he dX10_told_58 (fun q9 he => ?_)
    refine jq_rgI C X fs_X10_75 he dX10_told_61 (fun x10 he => ?_)
    exact jq_iret C X hr hlk he (by decide) (by decide) dX10_told_64
  have he := jq_n hc11 he
  by_cases hc13 : p0 = 4
  · have he := jq_t hc13 he
    refine lv_tableIn (tgt := 65) C.1 C.2.1 dX10_told_1 (by rw [hc13]; decide) (by rw [hc13]; decide) (by rw [hc13]; rfl) (by decide) ?_
    refine lv_aload_n C.1 C.2.1 dX10_told_65 rfl (lv_at hl 0 rfl) ?_
    refine jq_rgI C X fs_X10_92 he dX10_told_66 (fun x12 he => ?_)
    exact jq_iret C X hr hlk he (by decide) (by decide) dX10_told_69
  have he := jq_n hc13 he
  refine lv_tableOut (tgt := 70) C.1 C.2.1 dX10_told_1 (jq_swo (fun k h1 h2 hk => by
    rcases (show k = 0 ∨ k = 1 ∨ k = 2 ∨ k = 3 ∨ k = 4 by omega) with rfl | rfl | rfl | rfl | rfl
    · exact lv_neT hc3 (by decide) hk
    · exact lv_neT hc6 (by decide) hk
    · exact lv_neT hc8 (by decide) hk
    · exact lv_neT hc11 (by decide) hk
    · exact lv_neT hc13 (by decide) hk)) (by decide) ?_
  refine lv_bipush (v := (-2)) C.1 C.2.1 dX10_told_70 (by decide) ?_
  exact jq_iret C X hr hlk he (by decide) (by decide) dX10_told_72
set_option maxRecDepth 100000 in
set_option maxHeartbeats 4000000 in
theorem TX10_value_b20 {p : Program} {l : Launch} {e : Env} {s : State} {m : MethodId} {args : Array Value} {below : List Frame} {meth : Method} {c : Code} {D : va_G} {ct : Nat → ClassId} {bs : Nat} {res : Int32 × jq_H} {n : Nat} (C : jq_C p s m args c cX10_value 2 RX10 D ct bs) (hr : meth.sig.returnType = (some .int)) (hlk : meth.locks = false) {s0 : Int32} {h : jq_H} {H : Heap} {locs : List Loc} {ls : Array Slot} (X : jq_X bs D ct s.heap h H locs) (hl : lv_has ls 2 []) (he : X10_value_b20 n s0 h = some res) :
    W p l e rm_X10_value s m args below meth c H locs 0 0 (MQ below (jq_Qi bs D ct res) args s rm_X10_value.cells rm_X10_value.slots (fun q => bs ≤ q)) (F0 m 20 ls [.int s0]) := by
  unfold X10_value_b20 at he
  exact jq_iret C X hr hlk he (by decide) (by decide) dX10_value_20
set_option maxRecDepth 100000 in
set_option maxHeartbeats 4000000 in
theorem M_X10_value (l : Launch) (bs : Nat) (D : va_G) (ct : Nat → ClassId) (n : Nat) (h : jq_H) (a : Nat) (p0 : Int32) (res : Int32 × jq_H) (he : X10_value n h a p0 = some res) : jq_M l yX10_value cX10_value 2 (some .int) rm_X10_value (jq_P [.ref a, .int p0] bs D ct h) (jq_Qi bs D ct res) bs := by
  refine jq_start2 (by decide +kernel) (Nat.le_of_ble_eq_true rfl) ?_
  intro p e s m args below meth c ls H locs C hr hlk hin hl X
  have C : jq_C p s m args c cX10_value 2 RX10 D ct bs := C
  have hin : meth.name = "value" := hin
  have hl : lv_has ls 2 [(0, .ref a), (1, .int p0)] := hl
  unfold X10_value at he
  refine lv_iload_n C.1 C.2.1 dX10_value_0 rfl (lv_at hl 1 rfl) ?_
  obtain ⟨z1, hz1, he⟩ := jq_b he
  refine jq_gi (jq_runS (av := [.int p0]) C X (M_X10_isRegister l bs D ct n h p0 _ hz1) mf_X10_isRegister gw_125 (Or.inl gw_124) rfl hl.1 rfl (Nat.le_of_ble_eq_true rfl) ⟨by decide, by decide⟩ ⟨by decide, by decide⟩ dX10_value_1) X (fun H locs X => ?_)
  refine lv_if_eq (tgt := 19) C.1 C.2.1 dX10_value_4 (by decide) (fun hc2 => ?_) (fun hc2 => ?_)
  · have he := jq_t hc2 he
    refine lv_iconst (v := 0) C.1 C.2.1 dX10_value_19 (by decide) ?_
    exact TX10_value_b20 (n := n) C hr hlk X (lv_sub hl [] rfl) he
  · have he := jq_n hc2 he
    refine lv_aload_n C.1 C.2.1 dX10_value_7 rfl (lv_at hl 0 rfl) ?_
    refine jq_rgR C X fs_X10_12 he dX10_value_8 (fun q3 he => ?_)
    refine jq_rgR C X fs_X10_48 he dX10_value_11 (fun q4 he => ?_)
    refine lv_iload_n C.1 C.2.1 dX10_value_14 rfl (lv_at hl 1 rfl) ?_
    refine jq_rldI C X he dX10_value_15 (fun x5 he => ?_)
    refine lv_goto (tgt := 20) C.1 C.2.1 dX10_value_16 (by decide) ?_
    exact TX10_value_b20 (n := n) C hr hlk X (lv_sub hl [] rfl) he
