set_option maxRecDepth 100000 in
set_option maxHeartbeats 4000000 in
theorem TX11_profile_b93 {p : Program} {l : Launch} {e : Env} {s : State} {m : MethodId} {args : Array Value} {below : List Frame} {meth : Method} {c : Code} {D : va_G} {ct : Nat → ClassId} {bs : Nat} {res : Int32 × jq_H} {n : Nat} (C : jq_C p s m args c cX11_profile 6 RX11 D ct bs) (hr : meth.sig.returnType = (some .int)) (hlk : meth.locks = false) {v2 : Int32} {h : jq_H} {H : Heap} {locs : List Loc} {ls : Array Slot} (X : jq_X bs D ct s.heap h H locs) (hl : lv_has ls 6 [(2, .int v2)]) (he : X11_profile_b93 n v2 h = some res) :
    W p l e rm_X11_profile s m args below meth c H locs 0 0 (MQ below (jq_Qi bs D ct res) args s rm_X11_profile.cells rm_X11_profile.slots (fun q => bs ≤ q)) (F0 m 93 ls []) := by
  unfold X11_profile_b93 at he
  refine lv_iload_n C.1 C.2.1 dX11_profile_93 rfl (lv_at hl 0 rfl) ?_
  exact jq_iret C X hr hlk he (by decide) (by decide) dX11_profile_94
set_option maxRecDepth 100000 in
set_option maxHeartbeats 4000000 in
theorem TX11_profile_b85 {p : Program} {l : Launch} {e : Env} {s : State} {m : MethodId} {args : Array Value} {below : List Frame} {meth : Method} {c : Code} {D : va_G} {ct : Nat → ClassId} {bs : Nat} {res : Int32 × jq_H} {n : Nat} {KB : Nat → Int32 → Int32 → Int32 → jq_H → Option (Int32 × jq_H)} {K93 : Int32 → jq_H → Option (Int32 × jq_H)} (C : jq_C p s m args c cX11_profile 6 RX11 D ct bs) (hr : meth.sig.returnType = (some .int)) (hlk : meth.locks = false) (hKB : ∀ (u0 : Nat) (u1 : Int32) (u2 : Int32) (u3 : Int32) (h1 : jq_H) (H1 : Heap) (locs1 : List Loc) (ls1 : Array Slot), KB u0 u1 u2 u3 h1 = some res → jq_X bs D ct s.heap h1 H1 locs1 → lv_has ls1 6 [(0, .ref u0), (1, .int u1), (2, .int u2), (3, .int u3)] → W p l e rm_X11_profile s m args below meth c H1 locs1 0 0 (MQ below (jq_Qi bs D ct res) args s rm_X11_profile.cells rm_X11_profile.slots (fun q => bs ≤ q)) (F0 m 14 ls1 [])) (hK93 : ∀ (u2 : Int32) (h1 : jq_H) (H1 : Heap) (locs1 : List Loc) (ls1 : Array Slot), K93 u2 h1 = some res → jq_X bs D ct s.heap h1 H1 locs1 → lv_has ls1 6 [(2, .int u2)] → W p l e rm_X11_profile s m args below meth c H1 locs1 0 0 (MQ below (jq_Qi bs D ct res) args s rm_X11_profile.cells rm_X11_profile.slots (fun q => bs ≤ q)) (F0 m 93 ls1 [])) {v0 : Nat} {v1 : Int32} {v3 : Int32} {s0 : Int32} {s1 : Int32} {h : jq_H} {H : Heap} {locs : List Loc} {ls : Array Slot} (X : jq_X bs D ct s.heap h H locs) (hl : lv_has ls 6 [(0, .ref v0), (1, .int v1), (3, .int v3)]) (he : X11_profile_b85 n KB K93 v0 v1 v3 s0 s1 h = some res) :
    W p l e rm_X11_profile s m args below meth c H locs 0 0 (MQ below (jq_Qi bs D ct res) args s rm_X11_profile.cells rm_X11_profile.slots (fun q => bs ≤ q)) (F0 m 85 ls [.int s1, .int s0]) := by
  unfold X11_profile_b85 at he
  refine lv_iadd C.1 C.2.1 dX11_profile_85 ?_
  obtain ⟨x1, hx1, he⟩ := jq_ln he
  refine jq_top hx1 ?_
  refine lv_istore_n (lv' := [(2, .int x1), (0, .ref v0), (1, .int v1), (3, .int v3)]) C.1 C.2.1 dX11_profile_86 rfl hl (by decide) rfl (fun ls hl => ?_)
  obtain ⟨x2, hx2, he⟩ := jq_ln he
  refine lv_iinc (v := x2) (lv' := [(3, .int x2), (2, .int x1), (0, .ref v0), (1, .int v1)]) C.1 C.2.1 dX11_profile_87 hl (k := 3) rfl (by rw [hx2]; rfl) (by decide) rfl (fun ls hl => ?_)
  refine lv_goto (tgt := 14) C.1 C.2.1 dX11_profile_90 (by decide) ?_
  exact hKB _ _ _ _ _ _ _ _ he X (lv_sub hl [2, 3, 1, 0] rfl)
set_option maxRecDepth 100000 in
set_option maxHeartbeats 4000000 in
theorem TX11_profile_b70 {p : Program} {l : Launch} {e : Env} {s : State} {m : MethodId} {args : Array Value} {below : List Frame} {meth : Method} {c : Code} {D : va_G} {ct : Nat → ClassId} {bs : Nat} {res : Int32 × jq_H} {n : Nat} {KB : Nat → Int32 → Int32 → Int32 → jq_H → Option (Int32 × jq_H)} {K93 : Int32 → jq_H → Option (Int32 × jq_H)} (C : jq_C p s m args c cX11_profile 6 RX11 D ct bs) (hr : meth.sig.returnType = (some .int)) (hlk : meth.locks = false) (hKB : ∀ (u0 : Nat) (u1 : Int32) (u2 : Int32) (u3 : Int32) (h1 : jq_H) (H1 : Heap) (locs1 : List Loc) (ls1 : Array Slot), KB u0 u1 u2 u3 h1 = some res → jq_X bs D ct s.heap h1 H1 locs1 → lv_has ls1 6 [(0, .ref u0), (1, .int u1), (2, .int u2), (3, .int u3)] → W p l e rm_X11_profile s m args below meth c H1 locs1 0 0 (MQ below (jq_Qi bs D ct res) args s rm_X11_profile.cells rm_X11_profile.slots (fun q => bs ≤ q)) (F0 m 14 ls1 [])) (hK93 : ∀ (u2 : Int32) (h1 : jq_H) (H1 : Heap) (locs1 : List Loc) (ls1 : Array Slot), K93 u2 h1 = some res → jq_X bs D ct s.heap h1 H1 locs1 → lv_has ls1 6 [(2, .int u2)] → W p l e rm_X11_profile s m args below meth c H1 locs1 0 0 (MQ below (jq_Qi bs D ct res) args s rm_X11_profile.cells rm_X11_profile.slots (fun q => bs ≤ q)) (F0 m 93 ls1 [])) {v0 : Nat} {v1 : Int32} {v2 : Int32} {v3 : Int32} {v4 : Int32} {v5 : Int32} {s0 : Nat} {s1 : Int32} {s2 : Int32} {h : jq_H} {H : Heap} {locs : List Loc} {ls : Array Slot} (X : jq_X bs D ct s.heap h H locs) (hl : lv_has ls 6 [(0, .ref v0), (1, .int v1), (2, .int v2), (3, .int v3), (4, .int v4), (5, .int v5)]) (he : X11_profile_b70 n KB K93 v0 v1 v2 v3 v4 v5 s0 s1 s2 h = some res) :
    W p l e rm_X11_profile s m args below meth c H locs 0 0 (MQ below (jq_Qi bs D ct res) args s rm_X11_profile.cells rm_X11_profile.slots (fun q => bs ≤ q)) (F0 m 70 ls [.int s2, .int s1, .ref s0]) := by
  unfold X11_profile_b70 at he
  refine jq_rstI C X he dX11_profile_70 (fun h3 H locs he X => ?_)
  refine lv_iload_n C.1 C.2.1 dX11_profile_71 rfl (lv_at hl 2 rfl) ?_
  refine lv_iload C.1 C.2.1 dX11_profile_72 (lv_at hl 4 rfl) ?_
  refine lv_iload C.1 C.2.1 dX11_profile_74 (lv_at hl 5 rfl) ?_
  refine lv_iadd C.1 C.2.1 dX11_profile_76 ?_
  refine lv_if_le (tgt := 84) C.1 C.2.1 dX11_profile_77 (by decide) (fun hc4 => ?_) (fun hc4 => ?_)
  · have he := jq_t hc4 he
    refine lv_iconst (v := 0) C.1 C.2.1 dX11_profile_84 (by decide) ?_
    exact TX11_profile_b85 (n := n) C hr hlk hKB hK93 X (lv_sub hl [0, 1, 3] rfl) he
  · have he := jq_n hc4 he
    refine lv_iconst (v := 1) C.1 C.2.1 dX11_profile_80 (by decide) ?_
    refine lv_goto (tgt := 85) C.1 C.2.1 dX11_profile_81 (by decide) ?_
    exact TX11_profile_b85 (n := n) C hr hlk hKB hK93 X (lv_sub hl [0, 1, 3] rfl) he
set_option maxRecDepth 100000 in
set_option maxHeartbeats 4000000 in
theorem TX11_profile_b14 {p : Program} {l : Launch} {e : Env} {s : State} {m : MethodId} {args : Array Value} {below : List Frame} {meth : Method} {c : Code} {D : va_G} {ct : Nat → ClassId} {bs : Nat} {res : Int32 × jq_H} {n : Nat} {KB : Nat → Int32 → Int32 → Int32 → jq_H → Option (Int32 × jq_H)} {K93 : Int32 → jq_H → Option (Int32 × jq_H)} (C : jq_C p s m args c cX11_profile 6 RX11 D ct bs) (hr : meth.sig.returnType = (some .int)) (hlk : meth.locks = false) (hKB : ∀ (u0 : Nat) (u1 : Int32) (u2 : Int32) (u3 : Int32) (h1 : jq_H) (H1 : Heap) (locs1 : List Loc) (ls1 : Array Slot), KB u0 u1 u2 u3 h1 = some res → jq_X bs D ct s.heap h1 H1 locs1 → lv_has ls1 6 [(0, .ref u0), (1, .int u1), (2, .int u2), (3, .int u3)] → W p l e rm_X11_profile s m args below meth c H1 locs1 0 0 (MQ below (jq_Qi bs D ct res) args s rm_X11_profile.cells rm_X11_profile.slots (fun q => bs ≤ q)) (F0 m 14 ls1 [])) (hK93 : ∀ (u2 : Int32) (h1 : jq_H) (H1 : Heap) (locs1 : List Loc) (ls1 : Array Slot), K93 u2 h1 = some res → jq_X bs D ct s.heap h1 H1 locs1 → lv_has ls1 6 [(2, .int u2)] → W p l e rm_X11_profile s m args below meth c H1 locs1 0 0 (MQ below (jq_Qi bs D ct res) args s rm_X11_profile.cells rm_X11_profile.slots (fun q => bs ≤ q)) (F0 m 93 ls1 [])) {v0 : Nat} {v1 : Int32} {v2 : Int32} {v3 : Int32} {h : jq_H} {H : Heap} {locs : List Loc} {ls : Array Slot} (X : jq_X bs D ct s.heap h H locs) (hl : lv_has ls 6 [(0, .ref v0), (1, .int v1), (2, .int v2), (3, .int v3)]) (he : X11_profile_b14 n KB K93 v0 v1 v2 v3 h = some res) :
    W p l e rm_X11_profile s m args below meth c H locs 0 0 (MQ below (jq_Qi bs D ct res) args s rm_X11_profile.cells rm_X11_profile.slots (fun q => bs ≤ q)) (F0 m 14 ls []) := by
  unfold X11_profile_b14 at he
  refine lv_iload_n C.1 C.2.1 dX11_profile_14 rfl (lv_at hl 3 rfl) ?_
  refine lv_bipush (v := 64) C.1 C.2.1 dX11_profile_15 (by decide) ?_
  refine lv_icmp_ge (tgt := 93) C.1 C.2.1 dX11_profile_17 (by decide) (fun hc5 => ?_) (fun hc5 => ?_)
  · have he := jq_t hc5 he
    exact hK93 _ _ _ _ _ he X (lv_sub hl [2] rfl)
  · have he := jq_n hc5 he
    refine lv_aload_n C.1 C.2.1 dX11_profile_20 rfl (lv_at hl 0 rfl) ?_
    refine lv_iload_n C.1 C.2.1 dX11_profile_21 rfl (lv_at hl 3 rfl) ?_
    refine lv_iconst (v := 1) C.1 C.2.1 dX11_profile_22 (by decide) ?_
    obtain ⟨z6, hz6, he⟩ := jq_b he
    obtain ⟨hz6c, hz6⟩ := jq_ite hz6
    refine jq_gi (jq_runV (a := v0) (av := [.int v3, .int 1]) C X (M_X11_times l bs D ct n h v0 v3 1 _ hz6) mf_X11_times gw_953 gs_39 (Or.inl gw_951) rc_X11 hz6c (by decide) rfl hl.1 rfl (Nat.le_of_ble_eq_true rfl) ⟨by decide, by decide⟩ ⟨by decide, by decide⟩ dX11_profile_23) X (fun H locs X => ?_)
    obtain ⟨x7, hx7, he⟩ := jq_ln he
    refine jq_top hx7 ?_
    refine lv_istore (lv' := [(4, .int x7), (0, .ref v0), (1, .int v1), (2, .int v2), (3, .int v3)]) C.1 C.2.1 dX11_profile_26 hl (by decide) rfl (fun ls hl => ?_)
    refine lv_aload_n C.1 C.2.1 dX11_profile_28 rfl (lv_at hl 1 rfl) ?_
    refine lv_iload_n C.1 C.2.1 dX11_profile_29 rfl (lv_at hl 4 rfl) ?_
    refine lv_iconst (v := 0) C.1 C.2.1 dX11_profile_30 (by decide) ?_
    obtain ⟨z8, hz8, he⟩ := jq_b he
    obtain ⟨hz8c, hz8⟩ := jq_ite hz8
    refine jq_gi (jq_runV (a := v0) (av := [.int v3, .int 0]) C X (M_X11_times l bs D ct n z6.2 v0 v3 0 _ hz8) mf_X11_times gw_953 gs_39 (Or.inl gw_951) rc_X11 hz8c (by decide) rfl hl.1 rfl (Nat.le_of_ble_eq_true rfl) ⟨by decide, by decide⟩ ⟨by decide, by decide⟩ dX11_profile_31) X (fun H locs X => ?_)
    obtain ⟨x9, hx9, he⟩ := jq_ln he
    refine jq_top hx9 ?_
    refine lv_istore (lv' := [(5, .int x9), (4, .int x7), (0, .ref v0), (1, .int v1), (2, .int v2), (3, .int v3)]) C.1 C.2.1 dX11_profile_34 hl (by decide) rfl (fun ls hl => ?_)
    refine lv_aload_n C.1 C.2.1 dX11_profile_36 rfl (lv_at hl 2 rfl) ?_
    refine jq_rgR C X fs_X11_46 he dX11_profile_37 (fun q10 he => ?_)
    refine lv_bipush (v := 64) C.1 C.2.1 dX11_profile_40 (by decide) ?_
    refine lv_iload_n C.1 C.2.1 dX11_profile_42 rfl (lv_at hl 3 rfl) ?_
    refine lv_imul C.1 C.2.1 dX11_profile_43 ?_
    refine lv_iload_n C.1 C.2.1 dX11_profile_44 rfl (lv_at hl 5 rfl) ?_
    refine lv_iadd C.1 C.2.1 dX11_profile_45 ?_
    refine lv_iload C.1 C.2.1 dX11_profile_46 (lv_at hl 1 rfl) ?_
    refine lv_iload C.1 C.2.1 dX11_profile_48 (lv_at hl 0 rfl) ?_
    refine lv_iadd C.1 C.2.1 dX11_profile_50 ?_
    refine lv_if_ne (tgt := 58) C.1 C.2.1 dX11_profile_51 (by decide) (fun hc11 => ?_) (fun hc11 => ?_)
    · have he := jq_n hc11 he
      refine lv_iload C.1 C.2.1 dX11_profile_58 (lv_at hl 1 rfl) ?_
      refine lv_iload C.1 C.2.1 dX11_profile_60 (lv_at hl 0 rfl) ?_
      refine lv_icmp_lt (tgt := 69) C.1 C.2.1 dX11_profile_62 (by decide) (fun hc12 => ?_) (fun hc12 => ?_)
      · have he := jq_t hc12 he
        refine lv_iconst (v := 0) C.1 C.2.1 dX11_profile_69 (by decide) ?_
        exact TX11_profile_b70 (n := n) C hr hlk hKB hK93 X (lv_sub hl [2, 3, 4, 5, 1, 0] rfl) he
      · have he := jq_n hc12 he
        refine lv_iconst (v := 1) C.1 C.2.1 dX11_profile_65 (by decide) ?_
        refine lv_goto (tgt := 70) C.1 C.2.1 dX11_profile_66 (by decide) ?_
        exact TX11_profile_b70 (n := n) C hr hlk hKB hK93 X (lv_sub hl [2, 3, 4, 5, 1, 0] rfl) he
    · have he := jq_t hc11 he
      refine lv_iconst (v := (-1)) C.1 C.2.1 dX11_profile_54 (by decide) ?_
      refine lv_goto (tgt := 70) C.1 C.2.1 dX11_profile_55 (by decide) ?_
      exact TX11_profile_b70 (n := n) C hr hlk hKB hK93 X (lv_sub hl [2, 3, 4, 5, 1, 0] rfl) he
set_option maxRecDepth 100000 in
set_option maxHeartbeats 4000000 in
theorem TX11_profile_l14 {p : Program} {l : Launch} {e : Env} {s : State} {m : MethodId} {args : Array Value} {below : List Frame} {meth : Method} {c : Code} {D : va_G} {ct : Nat → ClassId} {bs : Nat} {res : Int32 × jq_H} {n : Nat} {K93 : Int32 → jq_H → Option (Int32 × jq_H)} (C : jq_C p s m args c cX11_profile 6 RX11 D ct bs) (hr : meth.sig.returnType = (some .int)) (hlk : meth.locks = false) (hK93 : ∀ (u2 : Int32) (h1 : jq_H) (H1 : Heap) (locs1 : List Loc) (ls1 : Array Slot), K93 u2 h1 = some res → jq_X bs D ct s.heap h1 H1 locs1 → lv_has ls1 6 [(2, .int u2)] → W p l e rm_X11_profile s m args below meth c H1 locs1 0 0 (MQ below (jq_Qi bs D ct res) args s rm_X11_profile.cells rm_X11_profile.slots (fun q => bs ≤ q)) (F0 m 93 ls1 [])) :
    ∀ (k : Nat) (v0 : Nat) (v1 : Int32) (v2 : Int32) (v3 : Int32) (h : jq_H) (H : Heap) (locs : List Loc) (ls : Array Slot), X11_profile_l14 n K93 k v0 v1 v2 v3 h = some res → jq_X bs D ct s.heap h H locs → lv_has ls 6 [(0, .ref v0), (1, .int v1), (2, .int v2), (3, .int v3)] → W p l e rm_X11_profile s m args below meth c H locs 0 0 (MQ below (jq_Qi bs D ct res) args s rm_X11_profile.cells rm_X11_profile.slots (fun q => bs ≤ q)) (F0 m 14 ls []) := by
  intro k
  induction k with
  | zero => intro v0 v1 v2 v3 h H locs ls he; cases (show (none : Option (Int32 × jq_H)) = some res from he)
  | succ k ih =>
    intro v0 v1 v2 v3 h H locs ls he X hl
    exact TX11_profile_b14 (n := n) C hr hlk (KB := X11_profile_l14 n K93 k) ih hK93 X hl he
set_option maxRecDepth 100000 in
set_option maxHeartbeats 4000000 in
theorem M_X11_profile (l : Launch) (bs : Nat) (D : va_G) (ct : Nat → ClassId) (n : Nat) (h : jq_H) (a : Nat) (p0 : Int32) (res : Int32 × jq_H) (he : X11_profile n h a p0 = some res) : jq_M l yX11_profile cX11_profile 6 (some .int) rm_X11_profile (jq_P [.ref a, .int p0] bs D ct h) (jq_Qi bs D ct res) bs := by
  refine jq_start2 (by decide +kernel) (Nat.le_of_ble_eq_true rfl) ?_
  intro p e s m args below meth c ls H locs C hr hlk hin hl X
  have C : jq_C p s m args c cX11_profile 6 RX11 D ct bs := C
  have hin : meth.name = "profile" := hin
  have hl : lv_has ls 6 [(0, .ref a), (1, .int p0)] := hl
  unfold X11_profile at he
  refine lv_aload_n C.1 C.2.1 dX11_profile_0 rfl (lv_at hl 0 rfl) ?_
  refine lv_iload_n C.1 C.2.1 dX11_profile_1 rfl (lv_at hl 1 rfl) ?_
  obtain ⟨z13, hz13, he⟩ := jq_b he
  obtain ⟨hz13c, hz13⟩ := jq_ite hz13
  refine jq_gi (jq_runV (a := a) (av := [.int p0]) C X (M_X11_isGuesser l bs D ct n h a p0 _ hz13) mf_X11_isGuesser gw_930 gs_37 (Or.inl gw_928) rc_X11 hz13c (by decide) rfl hl.1 rfl (Nat.le_of_ble_eq_true rfl) ⟨by decide, by decide⟩ ⟨by decide, by decide⟩ dX11_profile_2) X (fun H locs X => ?_)
  refine lv_if_ne (tgt := 10) C.1 C.2.1 dX11_profile_5 (by decide) (fun hc14 => ?_) (fun hc14 => ?_)
  · have he := jq_n hc14 he
    refine lv_iconst (v := 0) C.1 C.2.1 dX11_profile_10 (by decide) ?_
    refine lv_istore_n (lv' := [(2, .int 0), (0, .ref a), (1, .int p0)]) C.1 C.2.1 dX11_profile_11 rfl hl (by decide) rfl (fun ls hl => ?_)
    refine lv_iconst (v := 0) C.1 C.2.1 dX11_profile_12 (by decide) ?_
    refine lv_istore_n (lv' := [(3, .int 0), (2, .int 0), (0, .ref a), (1, .int p0)]) C.1 C.2.1 dX11_profile_13 rfl hl (by decide) rfl (fun ls hl => ?_)
    exact TX11_profile_l14 (n := n) C hr hlk (fun w2 hh H locs ls he X hl => by
    exact TX11_profile_b93 (n := n) C hr hlk X hl he) n _ _ _ _ _ _ _ _ he X (lv_sub hl [2, 3, 1, 0] rfl)
  · have he := jq_t hc14 he
    refine lv_iconst (v := (-1)) C.1 C.2.1 dX11_profile_8 (by decide) ?_
    exact jq_iret C X hr hlk he (by decide) (by decide) dX11_profile_9
set_option maxRecDepth 100000 in
set_option maxHeartbeats 4000000 in
theorem M_X11_register (l : Launch) (bs : Nat) (D : va_G) (ct : Nat → ClassId) (n : Nat) (h : jq_H) (a : Nat) (p0 : Int32) (p1 : Int32) (res : Int32 × jq_H) (he : X11_register n h a p0 p1 = some res) : jq_M l yX11_register cX11_register 3 (some .int) rm_X11_register (jq_P [.ref a, .int p0, .int p1] bs D ct h) (jq_Qi bs D ct res) bs := by
  refine jq_start2 (by decide +kernel) (Nat.le_of_ble_eq_true rfl) ?_
  intro p e s m args below meth c ls H locs C hr hlk hin hl X
  have C : jq_C p s m args c cX11_register 3 RX11 D ct bs := C
  have hin : meth.name = "register" := hin
  have hl : lv_has ls 3 [(0, .ref a), (1, .int p0), (2, .int p1)] := hl
  unfold X11_register at he
  refine lv_iload_n C.1 C.2.1 dX11_register_0 rfl (lv_at hl 1 rfl) ?_
  refine lv_iconst (v := 0) C.1 C.2.1 dX11_register_1 (by decide) ?_
  refine lv_bipush (v := 7) C.1 C.2.1 dX11_register_2 (by decide) ?_
  obtain ⟨z1, hz1, he⟩ := jq_b he
  refine jq_gi (jq_runS (av := [.int p0, .int 0, .int 7]) C X (M_X11_in l bs D ct n h p0 0 7 _ hz1) mf_X11_in gw_842 (Or.inl gw_841) rfl hl.1 rfl (Nat.le_of_ble_eq_true rfl) ⟨by decide, by decide⟩ ⟨by decide, by decide⟩ dX11_register_4) X (fun H locs X => ?_)
  refine lv_if_ne (tgt := 13) C.1 C.2.1 dX11_register_7 (by decide) (fun hc2 => ?_) (fun hc2 => ?_)
  · have he := jq_n hc2 he
    refine lv_aload_n C.1 C.2.1 dX11_register_13 rfl (lv_at hl 0 rfl) ?_
    refine jq_rgR C X fs_X11_22 he dX11_register_14 (fun q3 he => ?_)
    refine lv_iload_n C.1 C.2.1 dX11_register_17 rfl (lv_at hl 1 rfl) ?_
    refine lv_iload_n C.1 C.2.1 dX11_register_18 rfl (lv_at hl 2 rfl) ?_
    refine jq_rstI C X he dX11_register_19 (fun h4 H locs he X => ?_)
    refine lv_iconst (v := 1) C.1 C.2.1 dX11_register_20 (by decide) ?_
    exact jq_iret C X hr hlk he (by decide) (by decide) dX11_register_21
  · have he := jq_t hc2 he
    refine lv_bipush (v := (-2)) C.1 C.2.1 dX11_register_10 (by decide) ?_
    exact jq_iret C X hr hlk he (by decide) (by decide) dX11_register_12
set_option maxRecDepth 100000 in
set_option maxHeartbeats 4000000 in
theorem TX11_step_b326 {p : Program} {l : Launch} {e : Env} {s : State} {m : MethodId} {args : Array Value} {below : List Frame} {meth : Method} {c : Code} {D : va_G} {ct : Nat → ClassId} {bs : Nat} {res : jq_H} {n : Nat} (C : jq_C p s m args c cX11_step 7 RX11 D ct bs) (hr : meth.sig.returnType = none) (hlk : meth.locks = false) {v0 : Nat} {s0 : Nat} {s1 : Int32} {h : jq_H} {H : Heap} {locs : List Loc} {ls : Array Slot} (X : jq_X bs D ct s.heap h H locs) (hl : lv_has ls 7 [(0, .ref v0)]) (he : X11_step_b326 n v0 s0 s1 h = some res) :
    W p l e rm_X11_step s m args below meth c H locs 0 0 (MQ below (jq_Qv bs D ct res) args s rm_X11_step.cells rm_X11_step.slots (fun q => bs ≤ q)) (F0 m 326 ls [.int s1, .ref s0]) := by
  unfold X11_step_b326 at he
  refine jq_rp (ty := .int) C X fs_X11_80 (by decide +kernel) rfl rfl he dX11_step_326 (fun h1 H locs he X => ?_)
  refine lv_aload_n C.1 C.2.1 dX11_step_329 rfl (lv_at hl 0 rfl) ?_
  refine lv_dup C.1 C.2.1 dX11_step_330 rfl ?_
  refine jq_rgI C X fs_X11_88 he dX11_step_331 (fun x2 he => ?_)
  refine lv_iconst (v := 1) C.1 C.2.1 dX11_step_334 (by decide) ?_
  refine lv_iadd C.1 C.2.1 dX11_step_335 ?_
  refine jq_rp (ty := .int) C X fs_X11_88 (by decide +kernel) rfl rfl he dX11_step_336 (fun h3 H locs he X => ?_)
  exact jq_vret C X hr hlk he (by decide) (by decide) dX11_step_339
set_option maxRecDepth 100000 in
set_option maxHeartbeats 4000000 in
theorem TX11_step_b305 {p : Program} {l : Launch} {e : Env} {s : State} {m : MethodId} {args : Array Value} {below : List Frame} {meth : Method} {c : Code} {D : va_G} {ct : Nat → ClassId} {bs : Nat} {res : jq_H} {n : Nat} (C : jq_C p s m args c cX11_step 7 RX11 D ct bs) (hr : meth.sig.returnType = none) (hlk : meth.locks = false) {v0 : Nat} {v1 : Int32} {v6 : Int32} {h : jq_H} {H : Heap} {locs : List Loc} {ls : Array Slot} (X : jq_X bs D ct s.heap h H locs) (hl : lv_has ls 7 [(0, .ref v0), (1, .int v1), (6, .int v6)]) (he : X11_step_b305 n v0 v1 v6 h = some res) :
    W p l e rm_X11_step s m args below meth c H locs 0 0 (MQ below (jq_Qv bs D ct res) args s rm_X11_step.cells rm_X11_step.slots (fun q => bs ≤ q)) (F0 m 305 ls []) := by
  unfold X11_step_b305 at he
  refine lv_aload_n C.1 C.2.1 dX11_step_305 rfl (lv_at hl 0 rfl) ?_
  refine lv_iload C.1 C.2.1 dX11_step_306 (lv_at hl 2 rfl) ?_
  refine lv_if_eq (tgt := 320) C.1 C.2.1 dX11_step_308 (by decide) (fun hc4 => ?_) (fun hc4 => ?_)
  · have he := jq_t hc4 he
    refine lv_iload_n C.1 C.2.1 dX11_step_320 rfl (lv_at hl 1 rfl) ?_
    refine lv_iconst (v := 1) C.1 C.2.1 dX11_step_321 (by decide) ?_
    refine lv_iadd C.1 C.2.1 dX11_step_322 ?_
    refine lv_bipush (v := 63) C.1 C.2.1 dX11_step_323 (by decide) ?_
    refine lv_iand C.1 C.2.1 dX11_step_325 ?_
    exact TX11_step_b326 (n := n) C hr hlk X (lv_sub hl [0] rfl) he
  · have he := jq_n hc4 he
    refine lv_aload_n C.1 C.2.1 dX11_step_311 rfl (lv_at hl 0 rfl) ?_
    refine jq_rgR C X fs_X11_19 he dX11_step_312 (fun q5 he => ?_)
    refine lv_iload_n C.1 C.2.1 dX11_step_315 rfl (lv_at hl 1 rfl) ?_
    refine jq_rldI C X he dX11_step_316 (fun x6 he => ?_)
    refine lv_goto (tgt := 326) C.1 C.2.1 dX11_step_317 (by decide) ?_
    exact TX11_step_b326 (n := n) C hr hlk X (lv_sub hl [0] rfl) he
set_option maxRecDepth 100000 in
set_option maxHeartbeats 4000000 in
theorem TX11_step_b302 {p : Program} {l : Launch} {e : Env} {s : State} {m : MethodId} {args : Array Value} {below : List Frame} {meth : Method} {c : Code} {D : va_G} {ct : Nat → ClassId} {bs : Nat} {res : jq_H} {n : Nat} (C : jq_C p s m args c cX11_step 7 RX11 D ct bs) (hr : meth.sig.returnType = none) (hlk : meth.locks = false) {v0 : Nat} {v1 : Int32} {v6 : Int32} {s0 : Nat} {s1 : Int32} {s2 : Int32} {h : jq_H} {H : Heap} {locs : List Loc} {ls : Array Slot} (X : jq_X bs D ct s.heap h H locs) (hl : lv_has ls 7 [(0, .ref v0), (1, .int v1), (6, .int v6)]) (he : X11_step_b302 n v0 v1 v6 s0 s1 s2 h = some res) :
    W p l e rm_X11_step s m args below meth c H locs 0 0 (MQ below (jq_Qv bs D ct res) args s rm_X11_step.cells rm_X11_step.slots (fun q => bs ≤ q)) (F0 m 302 ls [.int s2, .int s1, .ref s0]) := by
  unfold X11_step_b302 at he
  obtain ⟨z7, hz7, he⟩ := jq_b he
  obtain ⟨hz7c, hz7⟩ := jq_ite hz7
  refine jq_gv (jq_runV (a := s0) (av := [.int s1, .int s2]) C X (M_X11_comes l bs D ct n h s0 s1 s2 _ hz7) mf_X11_comes gw_874 gs_27 (Or.inl gw_872) rc_X11 hz7c (by decide) rfl hl.1 rfl (Nat.le_of_ble_eq_true rfl) ⟨by decide, by decide⟩ ⟨by decide, by decide⟩ dX11_step_302) X (fun H locs X => ?_)
  exact TX11_step_b305 (n := n) C hr hlk X (lv_sub hl [0, 1, 2] rfl) he
set_option maxRecDepth 100000 in
set_option maxHeartbeats 4000000 in
theorem TX11_step_b274 {p : Program} {l : Launch} {e : Env} {s : State} {m : MethodId} {args : Array Value} {below : List Frame} {meth : Method} {c : Code} {D : va_G} {ct : Nat → ClassId} {bs : Nat} {res : jq_H} {n : Nat} (C : jq_C p s m args c cX11_step 7 RX11 D ct bs) (hr : meth.sig.returnType = none) (hlk : meth.locks = false) {v0 : Nat} {v1 : Int32} {v6 : Int32} {h : jq_H} {H : Heap} {locs : List Loc} {ls : Array Slot} (X : jq_X bs D ct s.heap h H locs) (hl : lv_has ls 7 [(0, .ref v0), (1, .int v1), (6, .int v6)]) (he : X11_step_b274 n v0 v1 v6 h = some res) :
    W p l e rm_X11_step s m args below meth c H locs 0 0 (MQ below (jq_Qv bs D ct res) args s rm_X11_step.cells rm_X11_step.slots (fun q => bs ≤ q)) (F0 m 274 ls []) := by
  unfold X11_step_b274 at he
  refine lv_aload_n C.1 C.2.1 dX11_step_274 rfl (lv_at hl 0 rfl) ?_
  refine jq_rgR C X fs_X11_7 he dX11_step_275 (fun q8 he => ?_)
  refine lv_iload_n C.1 C.2.1 dX11_step_278 rfl (lv_at hl 1 rfl) ?_
  refine jq_rldI C X he dX11_step_279 (fun x9 he => ?_)
  refine lv_bipush (v := 9) C.1 C.2.1 dX11_step_280 (by decide) ?_
  refine lv_bipush (v := 11) C.1 C.2.1 dX11_step_282 (by decide) ?_
  obtain ⟨z10, hz10, he⟩ := jq_b he
  refine jq_gi (jq_runS (av := [.int x9, .int 9, .int 11]) C X (M_X11_in l bs D ct n h x9 9 11 _ hz10) mf_X11_in gw_842 (Or.inl gw_841) rfl hl.1 rfl (Nat.le_of_ble_eq_true rfl) ⟨by decide, by decide⟩ ⟨by decide, by decide⟩ dX11_step_284) X (fun H locs X => ?_)
  refine lv_if_eq (tgt := 305) C.1 C.2.1 dX11_step_287 (by decide) (fun hc11 => ?_) (fun hc11 => ?_)
  · have he := jq_t hc11 he
    exact TX11_step_b305 (n := n) C hr hlk X (lv_sub hl [0, 1, 2] rfl) he
  · have he := jq_n hc11 he
    refine lv_aload_n C.1 C.2.1 dX11_step_290 rfl (lv_at hl 0 rfl) ?_
    refine lv_iload_n C.1 C.2.1 dX11_step_291 rfl (lv_at hl 1 rfl) ?_
    refine lv_iload C.1 C.2.1 dX11_step_292 (lv_at hl 2 rfl) ?_
    refine lv_if_eq (tgt := 301) C.1 C.2.1 dX11_step_294 (by decide) (fun hc12 => ?_) (fun hc12 => ?_)
    · have he := jq_t hc12 he
      refine lv_iconst (v := 0) C.1 C.2.1 dX11_step_301 (by decide) ?_
      exact TX11_step_b302 (n := n) C hr hlk X (lv_sub hl [0, 1, 2] rfl) he
    · have he := jq_n hc12 he
      refine lv_iconst (v := 1) C.1 C.2.1 dX11_step_297 (by decide) ?_
      refine lv_goto (tgt := 302) C.1 C.2.1 dX11_step_298 (by decide) ?_
      exact TX11_step_b302 (n := n) C hr hlk X (lv_sub hl [0, 1, 2] rfl) he
set_option maxRecDepth 100000 in
set_option maxHeartbeats 4000000 in
theorem TX11_step_b266 {p : Program} {l : Launch} {e : Env} {s : State} {m : MethodId} {args : Array Value} {below : List Frame} {meth : Method} {c : Code} {D : va_G} {ct : Nat → ClassId} {bs : Nat} {res : jq_H} {n : Nat} (C : jq_C p s m args c cX11_step 7 RX11 D ct bs) (hr : meth.sig.returnType = none) (hlk : meth.locks = false) {v0 : Nat} {v1 : Int32} {s0 : Int32} {h : jq_H} {H : Heap} {locs : List Loc} {ls : Array Slot} (X : jq_X bs D ct s.heap h H locs) (hl : lv_has ls 7 [(0, .ref v0), (1, .int v1)]) (he : X11_step_b266 n v0 v1 s0 h = some res) :
    W p l e rm_X11_step s m args below meth c H locs 0 0 (MQ below (jq_Qv bs D ct res) args s rm_X11_step.cells rm_X11_step.slots (fun q => bs ≤ q)) (F0 m 266 ls [.int s0]) := by
  unfold X11_step_b266 at he
  refine lv_istore (lv' := [(6, .int s0), (0, .ref v0), (1, .int v1)]) C.1 C.2.1 dX11_step_266 hl (by decide) rfl (fun ls hl => ?_)
  refine lv_goto (tgt := 274) C.1 C.2.1 dX11_step_268 (by decide) ?_
  exact TX11_step_b274 (n := n) C hr hlk X (lv_sub hl [1, 2, 0] rfl) he
set_option maxRecDepth 100000 in
set_option maxHeartbeats 4000000 in
theorem TX11_step_b251 {p : Program} {l : Launch} {e : Env} {s : State} {m : MethodId} {args : Array Value} {below : List Frame} {meth : Method} {c : Code} {D : va_G} {ct : Nat → ClassId} {bs : Nat} {res : jq_H} {n : Nat} (C : jq_C p s m args c cX11_step 7 RX11 D ct bs) (hr : meth.sig.returnType = none) (hlk : meth.locks = false) {v0 : Nat} {v1 : Int32} {s0 : Int32} {h : jq_H} {H : Heap} {locs : List Loc} {ls : Array Slot} (X : jq_X bs D ct s.heap h H locs) (hl : lv_has ls 7 [(0, .ref v0), (1, .int v1)]) (he : X11_step_b251 n v0 v1 s0 h = some res) :
    W p l e rm_X11_step s m args below meth c H locs 0 0 (MQ below (jq_Qv bs D ct res) args s rm_X11_step.cells rm_X11_step.slots (fun q => bs ≤ q)) (F0 m 251 ls [.int s0]) := by
  unfold X11_step_b251 at he
  refine lv_istore (lv' := [(6, .int s0), (0, .ref v0), (1, .int v1)]) C.1 C.2.1 dX11_step_251 hl (by decide) rfl (fun ls hl => ?_)
  refine lv_goto (tgt := 274) C.1 C.2.1 dX11_step_253 (by decide) ?_
  exact TX11_step_b274 (n := n) C hr hlk X (lv_sub hl [1, 2, 0] rfl) he
set_option maxRecDepth 100000 in
set_option maxHeartbeats 4000000 in
theorem TX11_step_b234 {p : Program} {l : Launch} {e : Env} {s : State} {m : MethodId} {args : Array Value} {below : List Frame} {meth : Method} {c : Code} {D : va_G} {ct : Nat → ClassId} {bs : Nat} {res : jq_H} {n : Nat} (C : jq_C p s m args c cX11_step 7 RX11 D ct bs) (hr : meth.sig.returnType = none) (hlk : meth.locks = false) {v0 : Nat} {v1 : Int32} {s0 : Int32} {h : jq_H} {H : Heap} {locs : List Loc} {ls : Array Slot} (X : jq_X bs D ct s.heap h H locs) (hl : lv_has ls 7 [(0, .ref v0), (1, .int v1)]) (he : X11_step_b234 n v0 v1 s0 h = some res) :
    W p l e rm_X11_step s m args below meth c H locs 0 0 (MQ below (jq_Qv bs D ct res) args s rm_X11_step.cells rm_X11_step.slots (fun q => bs ≤ q)) (F0 m 234 ls [.int s0]) := by
  unfold X11_step_b234 at he
  refine lv_istore (lv' := [(6, .int s0), (0, .ref v0), (1, .int v1)]) C.1 C.2.1 dX11_step_234 hl (by decide) rfl (fun ls hl => ?_)
  refine lv_goto (tgt := 274) C.1 C.2.1 dX11_step_236 (by decide) ?_
  exact TX11_step_b274 (n := n) C hr hlk X (lv_sub hl [1, 2, 0] rfl) he
set_option maxRecDepth 100000 in
set_option maxHeartbeats 4000000 in
theorem M_X11_step (l : Launch) (bs : Nat) (D : va_G) (ct : Nat → ClassId) (n : Nat) (h : jq_H) (a : Nat) (res : jq_H) (he : X11_step n h a = some res) : jq_M l yX11_step cX11_step 7 none rm_X11_step (jq_P [.ref a] bs D ct h) (jq_Qv bs D ct res) bs := by
  refine jq_start2 (by decide +kernel) (Nat.le_of_ble_eq_true rfl) ?_
  intro p e s m args below meth c ls H locs C hr hlk hin hl X
  have C : jq_C p s m args c cX11_step 7 RX11 D ct bs := C
  have hin : meth.name = "step" := hin
  have hl : lv_has ls 7 [(0, .ref a)] := hl
  unfold X11_step at he
  refine lv_aload_n C.1 C.2.1 dX11_step_0 rfl (lv_at hl 0 rfl) ?_
  refine jq_rgI C X fs_X11_80 he dX11_step_1 (fun x13 he => ?_)
  refine lv_istore_n (lv' := [(1, .int x13), (0, .ref a)]) C.1 C.2.1 dX11_step_4 rfl hl (by decide) rfl (fun ls hl => ?_)
  refine lv_aload_n C.1 C.2.1 dX11_step_5 rfl (lv_at hl 1 rfl) ?_
  refine jq_rgR C X fs_X11_13 he dX11_step_6 (fun q14 he => ?_)
  refine lv_iload_n C.1 C.2.1 dX11_step_9 rfl (lv_at hl 0 rfl) ?_
  refine jq_rldI C X he dX11_step_10 (fun x15 he => ?_)
  refine lv_istore_n (lv' := [(2, .int x15), (1, .int x13), (0, .ref a)]) C.1 C.2.1 dX11_step_11 rfl hl (by decide) rfl (fun ls hl => ?_)
  refine lv_aload_n C.1 C.2.1 dX11_step_12 rfl (lv_at hl 2 rfl) ?_
  refine jq_rgR C X fs_X11_16 he dX11_step_13 (fun q16 he => ?_)
  refine lv_iload_n C.1 C.2.1 dX11_step_16 rfl (lv_at hl 1 rfl) ?_
  refine jq_rldI C X he dX11_step_17 (fun x17 he => ?_)
  refine lv_istore_n (lv' := [(3, .int x17), (2, .int x15), (1, .int x13), (0, .ref a)]) C.1 C.2.1 dX11_step_18 rfl hl (by decide) rfl (fun ls hl => ?_)
  refine lv_aload_n C.1 C.2.1 dX11_step_19 rfl (lv_at hl 3 rfl) ?_
  refine jq_rgR C X fs_X11_22 he dX11_step_20 (fun q18 he => ?_)
  refine lv_iload_n C.1 C.2.1 dX11_step_23 rfl (lv_at hl 1 rfl) ?_
  refine jq_rldI C X he dX11_step_24 (fun x19 he => ?_)
  refine lv_istore (lv' := [(4, .int x19), (3, .int x17), (2, .int x15), (1, .int x13), (0, .ref a)]) C.1 C.2.1 dX11_step_25 hl (by decide) rfl (fun ls hl => ?_)
  refine lv_aload_n C.1 C.2.1 dX11_step_27 rfl (lv_at hl 4 rfl) ?_
  refine jq_rgR C X fs_X11_22 he dX11_step_28 (fun q20 he => ?_)
  refine lv_iload_n C.1 C.2.1 dX11_step_31 rfl (lv_at hl 1 rfl) ?_
  refine jq_rldI C X he dX11_step_32 (fun x21 he => ?_)
  refine lv_istore (lv' := [(5, .int x21), (4, .int x19), (3, .int x17), (2, .int x15), (1, .int x13), (0, .ref a)]) C.1 C.2.1 dX11_step_33 hl (by decide) rfl (fun ls hl => ?_)
  refine lv_iconst (v := 0) C.1 C.2.1 dX11_step_35 (by decide) ?_
  refine lv_istore (lv' := [(6, .int 0), (5, .int x21), (4, .int x19), (3, .int x17), (2, .int x15), (1, .int x13), (0, .ref a)]) C.1 C.2.1 dX11_step_36 hl (by decide) rfl (fun ls hl => ?_)
  refine lv_aload_n C.1 C.2.1 dX11_step_38 rfl (lv_at hl 6 rfl) ?_
  refine jq_rgR C X fs_X11_7 he dX11_step_39 (fun q22 he => ?_)
  refine lv_iload_n C.1 C.2.1 dX11_step_42 rfl (lv_at hl 5 rfl) ?_
  refine jq_rldI C X he dX11_step_43 (fun x23 he => ?_)
  by_cases hc28 : x23 = 1
  · have he := jq_t hc28 he
    refine lv_tableIn (tgt := 104) C.1 C.2.1 dX11_step_44 (by rw [hc28]; decide) (by rw [hc28]; decide) (by rw [hc28]; rfl) (by decide) ?_
    refine lv_aload_n C.1 C.2.1 dX11_step_104 rfl (lv_at hl 6 rfl) ?_
    refine jq_rgR C X fs_X11_22 he dX11_step_105 (fun q24 he => ?_)
    refine lv_iload_n C.1 C.2.1 dX11_step_108 rfl (lv_at hl 4 rfl) ?_
    refine lv_aload_n C.1 C.2.1 dX11_step_109 rfl (lv_at hl 6 rfl) ?_
    refine jq_rgR C X fs_X11_19 he dX11_step_110 (fun q25 he => ?_)
    refine lv_iload_n C.1 C.2.1 dX11_step_113 rfl (lv_at hl 5 rfl) ?_
    refine jq_rldI C X he dX11_step_114 (fun x26 he => ?_)
    refine jq_rstI C X he dX11_step_115 (fun h27 H locs he X => ?_)
    refine lv_goto (tgt := 274) C.1 C.2.1 dX11_step_116 (by decide) ?_
    exact TX11_step_b274 (n := n) C hr hlk X (lv_sub hl [6, 5, 0] rfl) he
  have he := jq_n hc28 he
  by_cases hc31 : x23 = 2
  · have he := jq_t hc31 he
    refine lv_tableIn (tgt := 119) C.1 C.2.1 dX11_step_44 (by rw [hc31]; decide) (by rw [hc31]; decide) (by rw [hc31]; rfl) (by decide) ?_
    refine lv_aload_n C.1 C.2.1 dX11_step_119 rfl (lv_at hl 6 rfl) ?_
    refine jq_rgR C X fs_X11_22 he dX11_step_120 (fun q29 he => ?_)
    refine lv_iload_n C.1 C.2.1 dX11_step_123 rfl (lv_at hl 4 rfl) ?_
    refine lv_iload C.1 C.2.1 dX11_step_124 (lv_at hl 2 rfl) ?_
    refine lv_iload C.1 C.2.1 dX11_step_126 (lv_at hl 1 rfl) ?_
    refine lv_iadd C.1 C.2.1 dX11_step_128 ?_
    refine jq_rstI C X he dX11_step_129 (fun h30 H locs he X => ?_)
    refine lv_goto (tgt := 274) C.1 C.2.1 dX11_step_130 (by decide) ?_
    exact TX11_step_b274 (n := n) C hr hlk X (lv_sub hl [6, 5, 0] rfl) he
  have he := jq_n hc31 he
  by_cases hc34 : x23 = 3
  · have he := jq_t hc34 he
    refine lv_tableIn (tgt := 133) C.1 C.2.1 dX11_step_44 (by rw [hc34]; decide) (by rw [hc34]; decide) (by rw [hc34]; rfl) (by decide) ?_
    refine lv_aload_n C.1 C.2.1 dX11_step_133 rfl (lv_at hl 6 rfl) ?_
    refine jq_rgR C X fs_X11_22 he dX11_step_134 (fun q32 he => ?_)
    refine lv_iload_n C.1 C.2.1 dX11_step_137 rfl (lv_at hl 4 rfl) ?_
    refine lv_iload C.1 C.2.1 dX11_step_138 (lv_at hl 2 rfl) ?_
    refine lv_iload C.1 C.2.1 dX11_step_140 (lv_at hl 1 rfl) ?_
    refine lv_isub C.1 C.2.1 dX11_step_142 ?_
    refine jq_rstI C X he dX11_step_143 (fun h33 H locs he X => ?_)
    refine lv_goto (tgt := 274) C.1 C.2.1 dX11_step_144 (by decide) ?_
    exact TX11_step_b274 (n := n) C hr hlk X (lv_sub hl [6, 5, 0] rfl) he
  have he := jq_n hc34 he
  by_cases hc37 : x23 = 4
  · have he := jq_t hc37 he
    refine lv_tableIn (tgt := 147) C.1 C.2.1 dX11_step_44 (by rw [hc37]; decide) (by rw [hc37]; decide) (by rw [hc37]; rfl) (by decide) ?_
    refine lv_aload_n C.1 C.2.1 dX11_step_147 rfl (lv_at hl 6 rfl) ?_
    refine jq_rgR C X fs_X11_22 he dX11_step_148 (fun q35 he => ?_)
    refine lv_iload_n C.1 C.2.1 dX11_step_151 rfl (lv_at hl 4 rfl) ?_
    refine lv_iload C.1 C.2.1 dX11_step_152 (lv_at hl 2 rfl) ?_
    refine lv_iload C.1 C.2.1 dX11_step_154 (lv_at hl 1 rfl) ?_
    refine lv_imul C.1 C.2.1 dX11_step_156 ?_
    refine jq_rstI C X he dX11_step_157 (fun h36 H locs he X => ?_)
    refine lv_goto (tgt := 274) C.1 C.2.1 dX11_step_158 (by decide) ?_
    exact TX11_step_b274 (n := n) C hr hlk X (lv_sub hl [6, 5, 0] rfl) he
  have he := jq_n hc37 he
  by_cases hc40 : x23 = 5
  · have he := jq_t hc40 he
    refine lv_tableIn (tgt := 161) C.1 C.2.1 dX11_step_44 (by rw [hc40]; decide) (by rw [hc40]; decide) (by rw [hc40]; rfl) (by decide) ?_
    refine lv_aload_n C.1 C.2.1 dX11_step_161 rfl (lv_at hl 6 rfl) ?_
    refine jq_rgR C X fs_X11_22 he dX11_step_162 (fun q38 he => ?_)
    refine lv_iload_n C.1 C.2.1 dX11_step_165 rfl (lv_at hl 4 rfl) ?_
    refine lv_iload C.1 C.2.1 dX11_step_166 (lv_at hl 2 rfl) ?_
    refine lv_iload C.1 C.2.1 dX11_step_168 (lv_at hl 1 rfl) ?_
    refine lv_iand C.1 C.2.1 dX11_step_170 ?_
    refine jq_rstI C X he dX11_step_171 (fun h39 H locs he X => ?_)
    refine lv_goto (tgt := 274) C.1 C.2.1 dX11_step_172 (by decide) ?_
    exact TX11_step_b274 (n := n) C hr hlk X (lv_sub hl [6, 5, 0] rfl) he
  have he := jq_n hc40 he
  by_cases hc43 : x23 = 6
  · have he := jq_t hc43 he
    refine lv_tableIn (tgt := 175) C.1 C.2.1 dX11_step_44 (by rw [hc43]; decide) (by rw [hc43]; decide) (by rw [hc43]; rfl) (by decide) ?_
    refine lv_aload_n C.1 C.2.1 dX11_step_175 rfl (lv_at hl 6 rfl) ?_
    refine jq_rgR C X fs_X11_22 he dX11_step_176 (fun q41 he => ?_)
    refine lv_iload_n C.1 C.2.1 dX11_step_179 rfl (lv_at hl 4 rfl) ?_
    refine lv_iload C.1 C.2.1 dX11_step_180 (lv_at hl 2 rfl) ?_
    refine lv_iconst (v := 1) C.1 C.2.1 dX11_step_182 (by decide) ?_
    refine lv_iushr C.1 C.2.1 dX11_step_183 rfl ?_
    refine jq_rstI C X he dX11_step_184 (fun h42 H locs he X => ?_)
    refine lv_goto (tgt := 274) C.1 C.2.1 dX11_step_185 (by decide) ?_
    exact TX11_step_b274 (n := n) C hr hlk X (lv_sub hl [6, 5, 0] rfl) he
  have he := jq_n hc43 he
  by_cases hc48 : x23 = 7
  · have he := jq_t hc48 he
    refine lv_tableIn (tgt := 188) C.1 C.2.1 dX11_step_44 (by rw [hc48]; decide) (by rw [hc48]; decide) (by rw [hc48]; rfl) (by decide) ?_
    refine lv_aload_n C.1 C.2.1 dX11_step_188 rfl (lv_at hl 6 rfl) ?_
    refine jq_rgR C X fs_X11_22 he dX11_step_189 (fun q44 he => ?_)
    refine lv_iload_n C.1 C.2.1 dX11_step_192 rfl (lv_at hl 4 rfl) ?_
    refine lv_aload_n C.1 C.2.1 dX11_step_193 rfl (lv_at hl 6 rfl) ?_
    refine jq_rgR C X fs_X11_25 he dX11_step_194 (fun q45 he => ?_)
    refine lv_iload C.1 C.2.1 dX11_step_197 (lv_at hl 1 rfl) ?_
    refine lv_bipush (v := 31) C.1 C.2.1 dX11_step_199 (by decide) ?_
    refine lv_iand C.1 C.2.1 dX11_step_201 ?_
    refine jq_rldI C X he dX11_step_202 (fun x46 he => ?_)
    refine jq_rstI C X he dX11_step_203 (fun h47 H locs he X => ?_)
    refine lv_goto (tgt := 274) C.1 C.2.1 dX11_step_204 (by decide) ?_
    exact TX11_step_b274 (n := n) C hr hlk X (lv_sub hl [6, 5, 0] rfl) he
  have he := jq_n hc48 he
  by_cases hc51 : x23 = 8
  · have he := jq_t hc51 he
    refine lv_tableIn (tgt := 207) C.1 C.2.1 dX11_step_44 (by rw [hc51]; decide) (by rw [hc51]; decide) (by rw [hc51]; rfl) (by decide) ?_
    refine lv_aload_n C.1 C.2.1 dX11_step_207 rfl (lv_at hl 6 rfl) ?_
    refine jq_rgR C X fs_X11_25 he dX11_step_208 (fun q49 he => ?_)
    refine lv_iload C.1 C.2.1 dX11_step_211 (lv_at hl 1 rfl) ?_
    refine lv_bipush (v := 31) C.1 C.2.1 dX11_step_213 (by decide) ?_
    refine lv_iand C.1 C.2.1 dX11_step_215 ?_
    refine lv_iload C.1 C.2.1 dX11_step_216 (lv_at hl 2 rfl) ?_
    refine jq_rstI C X he dX11_step_218 (fun h50 H locs he X => ?_)
    refine lv_goto (tgt := 274) C.1 C.2.1 dX11_step_219 (by decide) ?_
    exact TX11_step_b274 (n := n) C hr hlk X (lv_sub hl [6, 5, 0] rfl) he
  have he := jq_n hc51 he
  by_cases hc53 : x23 = 9
  · have he := jq_t hc53 he
    refine lv_tableIn (tgt := 222) C.1 C.2.1 dX11_step_44 (by rw [hc53]; decide) (by rw [hc53]; decide) (by rw [hc53]; rfl) (by decide) ?_
    refine lv_iload C.1 C.2.1 dX11_step_222 (lv_at hl 2 rfl) ?_
    refine lv_iload C.1 C.2.1 dX11_step_224 (lv_at hl 1 rfl) ?_
    refine lv_icmp_ge (tgt := 233) C.1 C.2.1 dX11_step_226 (by decide) (fun hc52 => ?_) (fun hc52 => ?_)
    · have he := jq_t hc52 he
      refine lv_iconst (v := 0) C.1 C.2.1 dX11_step_233 (by decide) ?_
      exact TX11_step_b234 (n := n) C hr hlk X (lv_sub hl [6, 5] rfl) he
    · have he := jq_n hc52 he
      refine lv_iconst (v := 1) C.1 C.2.1 dX11_step_229 (by decide) ?_
      refine lv_goto (tgt := 234) C.1 C.2.1 dX11_step_230 (by decide) ?_
      exact TX11_step_b234 (n := n) C hr hlk X (lv_sub hl [6, 5] rfl) he
  have he := jq_n hc53 he
  by_cases hc55 : x23 = 10
  · have he := jq_t hc55 he
    refine lv_tableIn (tgt := 239) C.1 C.2.1 dX11_step_44 (by rw [hc55]; decide) (by rw [hc55]; decide) (by rw [hc55]; rfl) (by decide) ?_
    refine lv_iload C.1 C.2.1 dX11_step_239 (lv_at hl 2 rfl) ?_
    refine lv_iload C.1 C.2.1 dX11_step_241 (lv_at hl 1 rfl) ?_
    refine lv_icmp_ne (tgt := 250) C.1 C.2.1 dX11_step_243 (by decide) (fun hc54 => ?_) (fun hc54 => ?_)
    · have he := jq_n hc54 he
      refine lv_iconst (v := 0) C.1 C.2.1 dX11_step_250 (by decide) ?_
      exact TX11_step_b251 (n := n) C hr hlk X (lv_sub hl [6, 5] rfl) he
    · have he := jq_t hc54 he
      refine lv_iconst (v := 1) C.1 C.2.1 dX11_step_246 (by decide) ?_
      refine lv_goto (tgt := 251) C.1 C.2.1 dX11_step_247 (by decide) ?_
      exact TX11_step_b251 (n := n) C hr hlk X (lv_sub hl [6, 5] rfl) he
  have he := jq_n hc55 he
  by_cases hc57 : x23 = 11
  · have he := jq_t hc57 he
    refine lv_tableIn (tgt := 256) C.1 C.2.1 dX11_step_44 (by rw [hc57]; decide) (by rw [hc57]; decide) (by rw [hc57]; rfl) (by decide) ?_
    refine lv_iload C.1 C.2.1 dX11_step_256 (lv_at hl 2 rfl) ?_
    refine lv_if_eq (tgt := 265) C.1 C.2.1 dX11_step_258 (by decide) (fun hc56 => ?_) (fun hc56 => ?_)
    · have he := jq_t hc56 he
      refine lv_iconst (v := 0) C.1 C.2.1 dX11_step_265 (by decide) ?_
      exact TX11_step_b266 (n := n) C hr hlk X (lv_sub hl [6, 5] rfl) he
    · have he := jq_n hc56 he
      refine lv_iconst (v := 1) C.1 C.2.1 dX11_step_261 (by decide) ?_
      refine lv_goto (tgt := 266) C.1 C.2.1 dX11_step_262 (by decide) ?_
      exact TX11_step_b266 (n := n) C hr hlk X (lv_sub hl [6, 5] rfl) he
  have he := jq_n hc57 he
  refine lv_tableOut (tgt := 271) C.1 C.2.1 dX11_step_44 (jq_swo (fun k h1 h2 hk => by
    rcases (show k = 1 ∨ k = 2 ∨ k = 3 ∨ k = 4 ∨ k = 5 ∨ k = 6 ∨ k = 7 ∨ k = 8 ∨ k = 9 ∨ k = 10 ∨ k = 11 by omega) with rfl | rfl | rfl | rfl | rfl | rfl | rfl | rfl | rfl | rfl | rfl
    · exact lv_neT hc28 (by decide) hk
    · exact lv_neT hc31 (by decide) hk
    · exact lv_neT hc34 (by decide) hk
    · exact lv_neT hc37 (by decide) hk
    · exact lv_neT hc40 (by decide) hk
    · exact lv_neT hc43 (by decide) hk
    · exact lv_neT hc48 (by decide) hk
    · exact lv_neT hc51 (by decide) hk
    · exact lv_neT hc53 (by decide) hk
    · exact lv_neT hc55 (by decide) hk
    · exact lv_neT hc57 (by decide) hk)) (by decide) ?_
  refine lv_iconst (v := 1) C.1 C.2.1 dX11_step_271 (by decide) ?_
  refine lv_istore (lv' := [(6, .int 1), (5, .int x21), (4, .int x19), (3, .int x17), (2, .int x15), (1, .int x13), (0, .ref a)]) C.1 C.2.1 dX11_step_272 hl (by decide) rfl (fun ls hl => ?_)
  exact TX11_step_b274 (n := n) C hr hlk X (lv_sub hl [6, 5, 0] rfl) he
set_option maxRecDepth 100000 in
set_option maxHeartbeats 4000000 in
theorem TX11_run_b43 {p : Program} {l : Launch} {e : Env} {s : State} {m : MethodId} {args : Array Value} {below : List Frame} {meth : Method} {c : Code} {D : va_G} {ct : Nat → ClassId} {bs : Nat} {res : Int32 × jq_H} {n : Nat} (C : jq_C p s m args c cX11_run 3 RX11 D ct bs) (hr : meth.sig.returnType = (some .int)) (hlk : meth.locks = false) {v2 : Int32} {h : jq_H} {H : Heap} {locs : List Loc} {ls : Array Slot} (X : jq_X bs D ct s.heap h H locs) (hl : lv_has ls 3 [(2, .int v2)]) (he : X11_run_b43 n v2 h = some res) :
    W p l e rm_X11_run s m args below meth c H locs 0 0 (MQ below (jq_Qi bs D ct res) args s rm_X11_run.cells rm_X11_run.slots (fun q => bs ≤ q)) (F0 m 43 ls []) := by
  unfold X11_run_b43 at he
  refine lv_iload_n C.1 C.2.1 dX11_run_43 rfl (lv_at hl 0 rfl) ?_
  exact jq_iret C X hr hlk he (by decide) (by decide) dX11_run_44
set_option maxRecDepth 100000 in
set_option maxHeartbeats 4000000 in
theorem TX11_run_b16 {p : Program} {l : Launch} {e : Env} {s : State} {m : MethodId} {args : Array Value} {below : List Frame} {meth : Method} {c : Code} {D : va_G} {ct : Nat → ClassId} {bs : Nat} {res : Int32 × jq_H} {n : Nat} {KB : Nat → Int32 → Int32 → jq_H → Option (Int32 × jq_H)} {K43 : Int32 → jq_H → Option (Int32 × jq_H)} (C : jq_C p s m args c cX11_run 3 RX11 D ct bs) (hr : meth.sig.returnType = (some .int)) (hlk : meth.locks = false) (hKB : ∀ (u0 : Nat) (u1 : Int32) (u2 : Int32) (h1 : jq_H) (H1 : Heap) (locs1 : List Loc) (ls1 : Array Slot), KB u0 u1 u2 h1 = some res → jq_X bs D ct s.heap h1 H1 locs1 → lv_has ls1 3 [(0, .ref u0), (1, .int u1), (2, .int u2)] → W p l e rm_X11_run s m args below meth c H1 locs1 0 0 (MQ below (jq_Qi bs D ct res) args s rm_X11_run.cells rm_X11_run.slots (fun q => bs ≤ q)) (F0 m 16 ls1 [])) (hK43 : ∀ (u2 : Int32) (h1 : jq_H) (H1 : Heap) (locs1 : List Loc) (ls1 : Array Slot), K43 u2 h1 = some res → jq_X bs D ct s.heap h1 H1 locs1 → lv_has ls1 3 [(2, .int u2)] → W p l e rm_X11_run s m args below meth c H1 locs1 0 0 (MQ below (jq_Qi bs D ct res) args s rm_X11_run.cells rm_X11_run.slots (fun q => bs ≤ q)) (F0 m 43 ls1 [])) {v0 : Nat} {v1 : Int32} {v2 : Int32} {h : jq_H} {H : Heap} {locs : List Loc} {ls : Array Slot} (X : jq_X bs D ct s.heap h H locs) (hl : lv_has ls 3 [(0, .ref v0), (1, .int v1), (2, .int v2)]) (he : X11_run_b16 n KB K43 v0 v1 v2 h = some res) :
    W p l e rm_X11_run s m args below meth c H locs 0 0 (MQ below (jq_Qi bs D ct res) args s rm_X11_run.cells rm_X11_run.slots (fun q => bs ≤ q)) (F0 m 16 ls []) := by
  unfold X11_run_b16 at he
  refine lv_iload_n C.1 C.2.1 dX11_run_16 rfl (lv_at hl 2 rfl) ?_
  refine lv_iload_n C.1 C.2.1 dX11_run_17 rfl (lv_at hl 1 rfl) ?_
  refine lv_icmp_ge (tgt := 43) C.1 C.2.1 dX11_run_18 (by decide) (fun hc1 => ?_) (fun hc1 => ?_)
  · have he := jq_t hc1 he
    exact hK43 _ _ _ _ _ he X (lv_sub hl [2] rfl)
  · have he := jq_n hc1 he
    refine lv_aload_n C.1 C.2.1 dX11_run_21 rfl (lv_at hl 0 rfl) ?_
    refine jq_rgR C X fs_X11_7 he dX11_run_22 (fun q2 he => ?_)
    refine lv_aload_n C.1 C.2.1 dX11_run_25 rfl (lv_at hl 0 rfl) ?_
    refine jq_rgI C X fs_X11_80 he dX11_run_26 (fun x3 he => ?_)
    refine jq_rldI C X he dX11_run_29 (fun x4 he => ?_)
    refine lv_if_eq (tgt := 43) C.1 C.2.1 dX11_run_30 (by decide) (fun hc5 => ?_) (fun hc5 => ?_)
    · have he := jq_t hc5 he
      exact hK43 _ _ _ _ _ he X (lv_sub hl [2] rfl)
    · have he := jq_n hc5 he
      refine lv_aload_n C.1 C.2.1 dX11_run_33 rfl (lv_at hl 0 rfl) ?_
      obtain ⟨z6, hz6, he⟩ := jq_b he
      obtain ⟨hz6c, hz6⟩ := jq_ite hz6
      refine jq_gv (jq_runV (a := v0) (av := []) C X (M_X11_step l bs D ct n h v0 _ hz6) mf_X11_step gw_870 gs_26 (Or.inl gw_868) rc_X11 hz6c (by decide) rfl hl.1 rfl (Nat.le_of_ble_eq_true rfl) ⟨by decide, by decide⟩ ⟨by decide, by decide⟩ dX11_run_34) X (fun H locs X => ?_)
      obtain ⟨x7, hx7, he⟩ := jq_ln he
      refine lv_iinc (v := x7) (lv' := [(2, .int x7), (0, .ref v0), (1, .int v1)]) C.1 C.2.1 dX11_run_37 hl (k := 2) rfl (by rw [hx7]; rfl) (by decide) rfl (fun ls hl => ?_)
      refine lv_goto (tgt := 16) C.1 C.2.1 dX11_run_40 (by decide) ?_
      exact hKB _ _ _ _ _ _ _ he X (lv_sub hl [1, 2, 0] rfl)
set_option maxRecDepth 100000 in
set_option maxHeartbeats 4000000 in
theorem TX11_run_l16 {p : Program} {l : Launch} {e : Env} {s : State} {m : MethodId} {args : Array Value} {below : List Frame} {meth : Method} {c : Code} {D : va_G} {ct : Nat → ClassId} {bs : Nat} {res : Int32 × jq_H} {n : Nat} {K43 : Int32 → jq_H → Option (Int32 × jq_H)} (C : jq_C p s m args c cX11_run 3 RX11 D ct bs) (hr : meth.sig.returnType = (some .int)) (hlk : meth.locks = false) (hK43 : ∀ (u2 : Int32) (h1 : jq_H) (H1 : Heap) (locs1 : List Loc) (ls1 : Array Slot), K43 u2 h1 = some res → jq_X bs D ct s.heap h1 H1 locs1 → lv_has ls1 3 [(2, .int u2)] → W p l e rm_X11_run s m args below meth c H1 locs1 0 0 (MQ below (jq_Qi bs D ct res) args s rm_X11_run.cells rm_X11_run.slots (fun q => bs ≤ q)) (F0 m 43 ls1 [])) :
    ∀ (k : Nat) (v0 : Nat) (v1 : Int32) (v2 : Int32) (h : jq_H) (H : Heap) (locs : List Loc) (ls : Array Slot), X11_run_l16 n K43 k v0 v1 v2 h = some res → jq_X bs D ct s.heap h H locs → lv_has ls 3 [(0, .ref v0), (1, .int v1), (2, .int v2)] → W p l e rm_X11_run s m args below meth c H locs 0 0 (MQ below (jq_Qi bs D ct res) args s rm_X11_run.cells rm_X11_run.slots (fun q => bs ≤ q)) (F0 m 16 ls []) := by
  intro k
  induction k with
  | zero => intro v0 v1 v2 h H locs ls he; cases (show (none : Option (Int32 × jq_H)) = some res from he)
  | succ k ih =>
    intro v0 v1 v2 h H locs ls he X hl
    exact TX11_run_b16 (n := n) C hr hlk (KB := X11_run_l16 n K43 k) ih hK43 X hl he
set_option maxRecDepth 100000 in
set_option maxHeartbeats 4000000 in
theorem M_X11_run (l : Launch) (bs : Nat) (D : va_G) (ct : Nat → ClassId) (n : Nat) (h : jq_H) (a : Nat) (p0 : Int32) (res : Int32 × jq_H) (he : X11_run n h a p0 = some res) : jq_M l yX11_run cX11_run 3 (some .int) rm_X11_run (jq_P [.ref a, .int p0] bs D ct h) (jq_Qi bs D ct res) bs := by
  refine jq_start2 (by decide +kernel) (Nat.le_of_ble_eq_true rfl) ?_
  intro p e s m args below meth c ls H locs C hr hlk hin hl X
  have C : jq_C p s m args c cX11_run 3 RX11 D ct bs := C
  have hin : meth.name = "run" := hin
  have hl : lv_has ls 3 [(0, .ref a), (1, .int p0)] := hl
  unfold X11_run at he
  refine lv_iload_n C.1 C.2.1 dX11_run_0 rfl (lv_at hl 1 rfl) ?_
  refine lv_iconst (v := 0) C.1 C.2.1 dX11_run_1 (by decide) ?_
  refine lv_sipush (v := 2000) C.1 C.2.1 dX11_run_2 (by decide) ?_
  obtain ⟨z8, hz8, he⟩ := jq_b he
  refine jq_gi (jq_runS (av := [.int p0, .int 0, .int 2000]) C X (M_X11_in l bs D ct n h p0 0 2000 _ hz8) mf_X11_in gw_842 (Or.inl gw_841) rfl hl.1 rfl (Nat.le_of_ble_eq_true rfl) ⟨by decide, by decide⟩ ⟨by decide, by decide⟩ dX11_run_5) X (fun H locs X => ?_)
  refine lv_if_ne (tgt := 14) C.1 C.2.1 dX11_run_8 (by decide) (fun hc9 => ?_) (fun hc9 => ?_)
  · have he := jq_n hc9 he
    refine lv_iconst (v := 0) C.1 C.2.1 dX11_run_14 (by decide) ?_
    refine lv_istore_n (lv' := [(2, .int 0), (0, .ref a), (1, .int p0)]) C.1 C.2.1 dX11_run_15 rfl hl (by decide) rfl (fun ls hl => ?_)
    exact TX11_run_l16 (n := n) C hr hlk (fun w2 hh H locs ls he X hl => by
    exact TX11_run_b43 (n := n) C hr hlk X hl he) n _ _ _ _ _ _ _ he X (lv_sub hl [1, 2, 0] rfl)
  · have he := jq_t hc9 he
    refine lv_bipush (v := (-2)) C.1 C.2.1 dX11_run_11 (by decide) ?_
    exact jq_iret C X hr hlk he (by decide) (by decide) dX11_run_13
set_option maxRecDepth 100000 in
set_option maxHeartbeats 4000000 in
theorem TX11_seen_b65 {p : Program} {l : Launch} {e : Env} {s : State} {m : MethodId} {args : Array Value} {below : List Frame} {meth : Method} {c : Code} {D : va_G} {ct : Nat → ClassId} {bs : Nat} {res : Int32 × jq_H} {n : Nat} (C : jq_C p s m args c cX11_seen 5 RX11 D ct bs) (hr : meth.sig.returnType = (some .int)) (hlk : meth.locks = false) {v3 : Int32} {h : jq_H} {H : Heap} {locs : List Loc} {ls : Array Slot} (X : jq_X bs D ct s.heap h H locs) (hl : lv_has ls 5 [(3, .int v3)]) (he : X11_seen_b65 n v3 h = some res) :
    W p l e rm_X11_seen s m args below meth c H locs 0 0 (MQ below (jq_Qi bs D ct res) args s rm_X11_seen.cells rm_X11_seen.slots (fun q => bs ≤ q)) (F0 m 65 ls []) := by
  unfold X11_seen_b65 at he
  refine lv_iload_n C.1 C.2.1 dX11_seen_65 rfl (lv_at hl 0 rfl) ?_
  exact jq_iret C X hr hlk he (by decide) (by decide) dX11_seen_66
set_option maxRecDepth 100000 in
set_option maxHeartbeats 4000000 in
theorem TX11_seen_b57 {p : Program} {l : Launch} {e : Env} {s : State} {m : MethodId} {args : Array Value} {below : List Frame} {meth : Method} {c : Code} {D : va_G} {ct : Nat → ClassId} {bs : Nat} {res : Int32 × jq_H} {n : Nat} {KB : Nat → Int32 → Int32 → jq_H → Option (Int32 × jq_H)} {K65 : Int32 → jq_H → Option (Int32 × jq_H)} (C : jq_C p s m args c cX11_seen 5 RX11 D ct bs) (hr : meth.sig.returnType = (some .int)) (hlk : meth.locks = false) (hKB : ∀ (u0 : Nat) (u3 : Int32) (u4 : Int32) (h1 : jq_H) (H1 : Heap) (locs1 : List Loc) (ls1 : Array Slot), KB u0 u3 u4 h1 = some res → jq_X bs D ct s.heap h1 H1 locs1 → lv_has ls1 5 [(0, .ref u0), (3, .int u3), (4, .int u4)] → W p l e rm_X11_seen s m args below meth c H1 locs1 0 0 (MQ below (jq_Qi bs D ct res) args s rm_X11_seen.cells rm_X11_seen.slots (fun q => bs ≤ q)) (F0 m 24 ls1 [])) (hK65 : ∀ (u3 : Int32) (h1 : jq_H) (H1 : Heap) (locs1 : List Loc) (ls1 : Array Slot), K65 u3 h1 = some res → jq_X bs D ct s.heap h1 H1 locs1 → lv_has ls1 5 [(3, .int u3)] → W p l e rm_X11_seen s m args below meth c H1 locs1 0 0 (MQ below (jq_Qi bs D ct res) args s rm_X11_seen.cells rm_X11_seen.slots (fun q => bs ≤ q)) (F0 m 65 ls1 [])) {v0 : Nat} {v4 : Int32} {s0 : Int32} {s1 : Int32} {h : jq_H} {H : Heap} {locs : List Loc} {ls : Array Slot} (X : jq_X bs D ct s.heap h H locs) (hl : lv_has ls 5 [(0, .ref v0), (4, .int v4)]) (he : X11_seen_b57 n KB K65 v0 v4 s0 s1 h = some res) :
    W p l e rm_X11_seen s m args below meth c H locs 0 0 (MQ below (jq_Qi bs D ct res) args s rm_X11_seen.cells rm_X11_seen.slots (fun q => bs ≤ q)) (F0 m 57 ls [.int s1, .int s0]) := by
  unfold X11_seen_b57 at he
  refine lv_iadd C.1 C.2.1 dX11_seen_57 ?_
  obtain ⟨x1, hx1, he⟩ := jq_ln he
  refine jq_top hx1 ?_
  refine lv_istore_n (lv' := [(3, .int x1), (0, .ref v0), (4, .int v4)]) C.1 C.2.1 dX11_seen_58 rfl hl (by decide) rfl (fun ls hl => ?_)
  obtain ⟨x2, hx2, he⟩ := jq_ln he
  refine lv_iinc (v := x2) (lv' := [(4, .int x2), (3, .int x1), (0, .ref v0)]) C.1 C.2.1 dX11_seen_59 hl (k := 2) rfl (by rw [hx2]; rfl) (by decide) rfl (fun ls hl => ?_)
  refine lv_goto (tgt := 24) C.1 C.2.1 dX11_seen_62 (by decide) ?_
  exact hKB _ _ _ _ _ _ _ he X (lv_sub hl [2, 1, 0] rfl)
set_option maxRecDepth 100000 in
set_option maxHeartbeats 4000000 in
theorem TX11_seen_b24 {p : Program} {l : Launch} {e : Env} {s : State} {m : MethodId} {args : Array Value} {below : List Frame} {meth : Method} {c : Code} {D : va_G} {ct : Nat → ClassId} {bs : Nat} {res : Int32 × jq_H} {n : Nat} {KB : Nat → Int32 → Int32 → jq_H → Option (Int32 × jq_H)} {K65 : Int32 → jq_H → Option (Int32 × jq_H)} (C : jq_C p s m args c cX11_seen 5 RX11 D ct bs) (hr : meth.sig.returnType = (some .int)) (hlk : meth.locks = false) (hKB : ∀ (u0 : Nat) (u3 : Int32) (u4 : Int32) (h1 : jq_H) (H1 : Heap) (locs1 : List Loc) (ls1 : Array Slot), KB u0 u3 u4 h1 = some res → jq_X bs D ct s.heap h1 H1 locs1 → lv_has ls1 5 [(0, .ref u0), (3, .int u3), (4, .int u4)] → W p l e rm_X11_seen s m args below meth c H1 locs1 0 0 (MQ below (jq_Qi bs D ct res) args s rm_X11_seen.cells rm_X11_seen.slots (fun q => bs ≤ q)) (F0 m 24 ls1 [])) (hK65 : ∀ (u3 : Int32) (h1 : jq_H) (H1 : Heap) (locs1 : List Loc) (ls1 : Array Slot), K65 u3 h1 = some res → jq_X bs D ct s.heap h1 H1 locs1 → lv_has ls1 5 [(3, .int u3)] → W p l e rm_X11_seen s m args below meth c H1 locs1 0 0 (MQ below (jq_Qi bs D ct res) args s rm_X11_seen.cells rm_X11_seen.slots (fun q => bs ≤ q)) (F0 m 65 ls1 [])) {v0 : Nat} {v3 : Int32} {v4 : Int32} {h : jq_H} {H : Heap} {locs : List Loc} {ls : Array Slot} (X : jq_X bs D ct s.heap h H locs) (hl : lv_has ls 5 [(0, .ref v0), (3, .int v3), (4, .int v4)]) (he : X11_seen_b24 n KB K65 v0 v3 v4 h = some res) :
    W p l e rm_X11_seen s m args below meth c H locs 0 0 (MQ below (jq_Qi bs D ct res) args s rm_X11_seen.cells rm_X11_seen.slots (fun q => bs ≤ q)) (F0 m 24 ls []) := by
  unfold X11_seen_b24 at he
  refine lv_iload C.1 C.2.1 dX11_seen_24 (lv_at hl 2 rfl) ?_
  refine lv_ldc (v := 32768) C.1 C.2.1 C.2.2.2.1 (C.2.2.2.2.1 _ gw_756) dX11_seen_26 ?_
  refine lv_icmp_ge (tgt := 65) C.1 C.2.1 dX11_seen_28 (by decide) (fun hc3 => ?_) (fun hc3 => ?_)
  · have he := jq_t hc3 he
    exact hK65 _ _ _ _ _ he X (lv_sub hl [1] rfl)
  · have he := jq_n hc3 he
    refine lv_iload_n C.1 C.2.1 dX11_seen_31 rfl (lv_at hl 1 rfl) ?_
    refine lv_aload_n C.1 C.2.1 dX11_seen_32 rfl (lv_at hl 0 rfl) ?_
    refine jq_rgR C X fs_X11_66 he dX11_seen_33 (fun q4 he => ?_)
    refine lv_iload C.1 C.2.1 dX11_seen_36 (lv_at hl 2 rfl) ?_
    refine jq_rldI C X he dX11_seen_38 (fun x5 he => ?_)
    refine lv_aload_n C.1 C.2.1 dX11_seen_39 rfl (lv_at hl 0 rfl) ?_
    refine jq_rgR C X fs_X11_66 he dX11_seen_40 (fun q6 he => ?_)
    refine lv_iload C.1 C.2.1 dX11_seen_43 (lv_at hl 2 rfl) ?_
    refine lv_iconst (v := 1) C.1 C.2.1 dX11_seen_45 (by decide) ?_
    refine lv_iadd C.1 C.2.1 dX11_seen_46 ?_
    refine jq_rldI C X he dX11_seen_47 (fun x7 he => ?_)
    refine lv_iadd C.1 C.2.1 dX11_seen_48 ?_
    refine lv_if_le (tgt := 56) C.1 C.2.1 dX11_seen_49 (by decide) (fun hc8 => ?_) (fun hc8 => ?_)
    · have he := jq_t hc8 he
      refine lv_iconst (v := 0) C.1 C.2.1 dX11_seen_56 (by decide) ?_
      exact TX11_seen_b57 (n := n) C hr hlk hKB hK65 X (lv_sub hl [0, 2] rfl) he
    · have he := jq_n hc8 he
      refine lv_iconst (v := 1) C.1 C.2.1 dX11_seen_52 (by decide) ?_
      refine lv_goto (tgt := 57) C.1 C.2.1 dX11_seen_53 (by decide) ?_
      exact TX11_seen_b57 (n := n) C hr hlk hKB hK65 X (lv_sub hl [0, 2] rfl) he
set_option maxRecDepth 100000 in
set_option maxHeartbeats 4000000 in
theorem TX11_seen_l24 {p : Program} {l : Launch} {e : Env} {s : State} {m : MethodId} {args : Array Value} {below : List Frame} {meth : Method} {c : Code} {D : va_G} {ct : Nat → ClassId} {bs : Nat} {res : Int32 × jq_H} {n : Nat} {K65 : Int32 → jq_H → Option (Int32 × jq_H)} (C : jq_C p s m args c cX11_seen 5 RX11 D ct bs) (hr : meth.sig.returnType = (some .int)) (hlk : meth.locks = false) (hK65 : ∀ (u3 : Int32) (h1 : jq_H) (H1 : Heap) (locs1 : List Loc) (ls1 : Array Slot), K65 u3 h1 = some res → jq_X bs D ct s.heap h1 H1 locs1 → lv_has ls1 5 [(3, .int u3)] → W p l e rm_X11_seen s m args below meth c H1 locs1 0 0 (MQ below (jq_Qi bs D ct res) args s rm_X11_seen.cells rm_X11_seen.slots (fun q => bs ≤ q)) (F0 m 65 ls1 [])) :
    ∀ (k : Nat) (v0 : Nat) (v3 : Int32) (v4 : Int32) (h : jq_H) (H : Heap) (locs : List Loc) (ls : Array Slot), X11_seen_l24 n K65 k v0 v3 v4 h = some res → jq_X bs D ct s.heap h H locs → lv_has ls 5 [(0, .ref v0), (3, .int v3), (4, .int v4)] → W p l e rm_X11_seen s m args below meth c H locs 0 0 (MQ below (jq_Qi bs D ct res) args s rm_X11_seen.cells rm_X11_seen.slots (fun q => bs ≤ q)) (F0 m 24 ls []) := by
  intro k
  induction k with
  | zero => intro v0 v3 v4 h H locs ls he; cases (show (none : Option (Int32 × jq_H)) = some res from he)
  | succ k ih =>
    intro v0 v3 v4 h H locs ls he X hl
    exact TX11_seen_b24 (n := n) C hr hlk (KB := X11_seen_l24 n K65 k) ih hK65 X hl he
set_option maxRecDepth 100000 in
set_option maxHeartbeats 4000000 in
theorem M_X11_seen (l : Launch) (bs : Nat) (D : va_G) (ct : Nat → ClassId) (n : Nat) (h : jq_H) (a : Nat) (p0 : Int32) (p1 : Int32) (res : Int32 × jq_H) (he : X11_seen n h a p0 p1 = some res) : jq_M l yX11_seen cX11_seen 5 (some .int) rm_X11_seen (jq_P [.ref a, .int p0, .int p1] bs D ct h) (jq_Qi bs D ct res) bs := by
  refine jq_start2 (by decide +kernel) (Nat.le_of_ble_eq_true rfl) ?_
  intro p e s m args below meth c ls H locs C hr hlk hin hl X
  have C : jq_C p s m args c cX11_seen 5 RX11 D ct bs := C
  have hin : meth.name = "seen" := hin
  have hl : lv_has ls 5 [(0, .ref a), (1, .int p0), (2, .int p1)] := hl
  unfold X11_seen at he
  refine lv_iload_n C.1 C.2.1 dX11_seen_0 rfl (lv_at hl 1 rfl) ?_
  refine lv_iconst (v := 0) C.1 C.2.1 dX11_seen_1 (by decide) ?_
  refine lv_bipush (v := 8) C.1 C.2.1 dX11_seen_2 (by decide) ?_
  obtain ⟨z9, hz9, he⟩ := jq_b he
  refine jq_gi (jq_runS (av := [.int p0, .int 0, .int 8]) C X (M_X11_in l bs D ct n h p0 0 8 _ hz9) mf_X11_in gw_842 (Or.inl gw_841) rfl hl.1 rfl (Nat.le_of_ble_eq_true rfl) ⟨by decide, by decide⟩ ⟨by decide, by decide⟩ dX11_seen_4) X (fun H locs X => ?_)
  refine lv_if_ne (tgt := 13) C.1 C.2.1 dX11_seen_7 (by decide) (fun hc10 => ?_) (fun hc10 => ?_)
  · have he := jq_n hc10 he
    refine lv_aload_n C.1 C.2.1 dX11_seen_13 rfl (lv_at hl 0 rfl) ?_
    refine lv_iload_n C.1 C.2.1 dX11_seen_14 rfl (lv_at hl 1 rfl) ?_
    refine lv_iload_n C.1 C.2.1 dX11_seen_15 rfl (lv_at hl 2 rfl) ?_
    obtain ⟨z11, hz11, he⟩ := jq_b he
    obtain ⟨hz11c, hz11⟩ := jq_ite hz11
    refine jq_gv (jq_runV (a := a) (av := [.int p0, .int p1]) C X (M_X11_countAll l bs D ct n z9.2 a p0 p1 _ hz11) mf_X11_countAll gw_1001 gs_41 (Or.inl gw_999) rc_X11 hz11c (by decide) rfl hl.1 rfl (Nat.le_of_ble_eq_true rfl) ⟨by decide, by decide⟩ ⟨by decide, by decide⟩ dX11_seen_16) X (fun H locs X => ?_)
    refine lv_iconst (v := 0) C.1 C.2.1 dX11_seen_19 (by decide) ?_
    refine lv_istore_n (lv' := [(3, .int 0), (0, .ref a), (1, .int p0), (2, .int p1)]) C.1 C.2.1 dX11_seen_20 rfl hl (by decide) rfl (fun ls hl => ?_)
    refine lv_iconst (v := 0) C.1 C.2.1 dX11_seen_21 (by decide) ?_
    refine lv_istore (lv' := [(4, .int 0), (3, .int 0), (0, .ref a), (1, .int p0), (2, .int p1)]) C.1 C.2.1 dX11_seen_22 hl (by decide) rfl (fun ls hl => ?_)
    exact TX11_seen_l24 (n := n) C hr hlk (fun w3 hh H locs ls he X hl => by
    exact TX11_seen_b65 (n := n) C hr hlk X hl he) n _ _ _ _ _ _ _ he X (lv_sub hl [2, 1, 0] rfl)
  · have he := jq_t hc10 he
    refine lv_bipush (v := (-2)) C.1 C.2.1 dX11_seen_10 (by decide) ?_
    exact jq_iret C X hr hlk he (by decide) (by decide) dX11_seen_12
set_option maxRecDepth 100000 in
set_option maxHeartbeats 4000000 in
theorem M_X11_stand (l : Launch) (bs : Nat) (D : va_G) (ct : Nat → ClassId) (n : Nat) (h : jq_H) (a : Nat) (p0 : Int32) (res : Int32 × jq_H) (he : X11_stand n h a p0 = some res) : jq_M l yX11_stand cX11_stand 3 (some .int) rm_X11_stand (jq_P [.ref a, .int p0] bs D ct h) (jq_Qi bs D ct res) bs := by
  refine jq_start2 (by decide +kernel) (Nat.le_of_ble_eq_true rfl) ?_
  intro p e s m args below meth c ls H locs C hr hlk hin hl X
  have C : jq_C p s m args c cX11_stand 3 RX11 D ct bs := C
  have hin : meth.name = "stand" := hin
  have hl : lv_has ls 3 [(0, .ref a), (1, .int p0)] := hl
  unfold X11_stand at he
  refine lv_iload_n C.1 C.2.1 dX11_stand_0 rfl (lv_at hl 1 rfl) ?_
  obtain ⟨z1, hz1, he⟩ := jq_b he
  refine jq_gi (jq_runS (av := [.int p0]) C X (M_X11_isPlace l bs D ct n h p0 _ hz1) mf_X11_isPlace gw_839 (Or.inl gw_838) rfl hl.1 rfl (Nat.le_of_ble_eq_true rfl) ⟨by decide, by decide⟩ ⟨by decide, by decide⟩ dX11_stand_1) X (fun H locs X => ?_)
  refine lv_if_ne (tgt := 9) C.1 C.2.1 dX11_stand_4 (by decide) (fun hc2 => ?_) (fun hc2 => ?_)
  · have he := jq_n hc2 he
    refine lv_aload_n C.1 C.2.1 dX11_stand_9 rfl (lv_at hl 0 rfl) ?_
    refine jq_rgI C X fs_X11_80 he dX11_stand_10 (fun x3 he => ?_)
    refine lv_istore_n (lv' := [(2, .int x3), (0, .ref a), (1, .int p0)]) C.1 C.2.1 dX11_stand_13 rfl hl (by decide) rfl (fun ls hl => ?_)
    refine lv_aload_n C.1 C.2.1 dX11_stand_14 rfl (lv_at hl 1 rfl) ?_
    refine lv_iload_n C.1 C.2.1 dX11_stand_15 rfl (lv_at hl 2 rfl) ?_
    refine jq_rp (ty := .int) C X fs_X11_80 (by decide +kernel) rfl rfl he dX11_stand_16 (fun h4 H locs he X => ?_)
    refine lv_iload_n C.1 C.2.1 dX11_stand_19 rfl (lv_at hl 0 rfl) ?_
    exact jq_iret C X hr hlk he (by decide) (by decide) dX11_stand_20
  · have he := jq_t hc2 he
    refine lv_iconst (v := (-1)) C.1 C.2.1 dX11_stand_7 (by decide) ?_
    exact jq_iret C X hr hlk he (by decide) (by decide) dX11_stand_8
set_option maxRecDepth 100000 in
set_option maxHeartbeats 4000000 in
theorem TX11_stored_b20 {p : Program} {l : Launch} {e : Env} {s : State} {m : MethodId} {args : Array Value} {below : List Frame} {meth : Method} {c : Code} {D : va_G} {ct : Nat → ClassId} {bs : Nat} {res : Int32 × jq_H} {n : Nat} (C : jq_C p s m args c cX11_stored 2 RX11 D ct bs) (hr : meth.sig.returnType = (some .int)) (hlk : meth.locks = false) {s0 : Int32} {h : jq_H} {H : Heap} {locs : List Loc} {ls : Array Slot} (X : jq_X bs D ct s.heap h H locs) (hl : lv_has ls 2 []) (he : X11_stored_b20 n s0 h = some res) :
    W p l e rm_X11_stored s m args below meth c H locs 0 0 (MQ below (jq_Qi bs D ct res) args s rm_X11_stored.cells rm_X11_stored.slots (fun q => bs ≤ q)) (F0 m 20 ls [.int s0]) := by
  unfold X11_stored_b20 at he
  exact jq_iret C X hr hlk he (by decide) (by decide) dX11_stored_20
set_option maxRecDepth 100000 in
set_option maxHeartbeats 4000000 in
theorem M_X11_stored (l : Launch) (bs : Nat) (D : va_G) (ct : Nat → ClassId) (n : Nat) (h : jq_H) (a : Nat) (p0 : Int32) (res : Int32 × jq_H) (he : X11_stored n h a p0 = some res) : jq_M l yX11_stored cX11_stored 2 (some .int) rm_X11_stored (jq_P [.ref a, .int p0] bs D ct h) (jq_Qi bs D ct res) bs := by
  refine jq_start2 (by decide +kernel) (Nat.le_of_ble_eq_true rfl) ?_
  intro p e s m args below meth c ls H locs C hr hlk hin hl X
  have C : jq_C p s m args c cX11_stored 2 RX11 D ct bs := C
  have hin : meth.name = "stored" := hin
  have hl : lv_has ls 2 [(0, .ref a), (1, .int p0)] := hl
  unfold X11_stored at he
  refine lv_iload_n C.1 C.2.1 dX11_stored_0 rfl (lv_at hl 1 rfl) ?_
  refine lv_iconst (v := 0) C.1 C.2.1 dX11_stored_1 (by decide) ?_
  refine lv_bipush (v := 31) C.1 C.2.1 dX11_stored_2 (by decide) ?_
  obtain ⟨z1, hz1, he⟩ := jq_b he
  refine jq_gi (jq_runS (av := [.int p0, .int 0, .int 31]) C X (M_X11_in l bs D ct n h p0 0 31 _ hz1) mf_X11_in gw_842 (Or.inl gw_841) rfl hl.1 rfl (Nat.le_of_ble_eq_true rfl) ⟨by decide, by decide⟩ ⟨by decide, by decide⟩ dX11_stored_4) X (fun H locs X => ?_)
  refine lv_if_eq (tgt := 19) C.1 C.2.1 dX11_stored_7 (by decide) (fun hc2 => ?_) (fun hc2 => ?_)
  · have he := jq_t hc2 he
    refine lv_iconst (v := 0) C.1 C.2.1 dX11_stored_19 (by decide) ?_
    exact TX11_stored_b20 (n := n) C hr hlk X (lv_sub hl [] rfl) he
  · have he := jq_n hc2 he
    refine lv_aload_n C.1 C.2.1 dX11_stored_10 rfl (lv_at hl 0 rfl) ?_
    refine jq_rgR C X fs_X11_25 he dX11_stored_11 (fun q3 he => ?_)
    refine lv_iload_n C.1 C.2.1 dX11_stored_14 rfl (lv_at hl 1 rfl) ?_
    refine jq_rldI C X he dX11_stored_15 (fun x4 he => ?_)
    refine lv_goto (tgt := 20) C.1 C.2.1 dX11_stored_16 (by decide) ?_
    exact TX11_stored_b20 (n := n) C hr hlk X (lv_sub hl [] rfl) he
set_option maxRecDepth 100000 in
set_option maxHeartbeats 4000000 in
theorem TX11_ticks_b37 {p : Program} {l : Launch} {e : Env} {s : State} {m : MethodId} {args : Array Value} {below : List Frame} {meth : Method} {c : Code} {D : va_G} {ct : Nat → ClassId} {bs : Nat} {res : Int32 × jq_H} {n : Nat} (C : jq_C p s m args c cX11_ticks 3 RX11 D ct bs) (hr : meth.sig.returnType = (some .int)) (hlk : meth.locks = false) {s0 : Int32} {h : jq_H} {H : Heap} {locs : List Loc} {ls : Array Slot} (X : jq_X bs D ct s.heap h H locs) (hl : lv_has ls 3 []) (he : X11_ticks_b37 n s0 h = some res) :
    W p l e rm_X11_ticks s m args below meth c H locs 0 0 (MQ below (jq_Qi bs D ct res) args s rm_X11_ticks.cells rm_X11_ticks.slots (fun q => bs ≤ q)) (F0 m 37 ls [.int s0]) := by
  unfold X11_ticks_b37 at he
  exact jq_iret C X hr hlk he (by decide) (by decide) dX11_ticks_37
set_option maxRecDepth 100000 in
set_option maxHeartbeats 4000000 in
theorem M_X11_ticks (l : Launch) (bs : Nat) (D : va_G) (ct : Nat → ClassId) (n : Nat) (h : jq_H) (a : Nat) (p0 : Int32) (p1 : Int32) (res : Int32 × jq_H) (he : X11_ticks n h a p0 p1 = some res) : jq_M l yX11_ticks cX11_ticks 3 (some .int) rm_X11_ticks (jq_P [.ref a, .int p0, .int p1] bs D ct h) (jq_Qi bs D ct res) bs := by
  refine jq_start2 (by decide +kernel) (Nat.le_of_ble_eq_true rfl) ?_
  intro p e s m args below meth c ls H locs C hr hlk hin hl X
  have C : jq_C p s m args c cX11_ticks 3 RX11 D ct bs := C
  have hin : meth.name = "ticks" := hin
  have hl : lv_has ls 3 [(0, .ref a), (1, .int p0), (2, .int p1)] := hl
  unfold X11_ticks at he
  refine lv_aload_n C.1 C.2.1 dX11_ticks_0 rfl (lv_at hl 0 rfl) ?_
  refine lv_iload_n C.1 C.2.1 dX11_ticks_1 rfl (lv_at hl 1 rfl) ?_
  obtain ⟨z1, hz1, he⟩ := jq_b he
  obtain ⟨hz1c, hz1⟩ := jq_ite hz1
  refine jq_gi (jq_runV (a := a) (av := [.int p0]) C X (M_X11_isGuesser l bs D ct n h a p0 _ hz1) mf_X11_isGuesser gw_930 gs_37 (Or.inl gw_928) rc_X11 hz1c (by decide) rfl hl.1 rfl (Nat.le_of_ble_eq_true rfl) ⟨by decide, by decide⟩ ⟨by decide, by decide⟩ dX11_ticks_2) X (fun H locs X => ?_)
  refine lv_if_ne (tgt := 10) C.1 C.2.1 dX11_ticks_5 (by decide) (fun hc2 => ?_) (fun hc2 => ?_)
  · have he := jq_n hc2 he
    refine lv_iload_n C.1 C.2.1 dX11_ticks_10 rfl (lv_at hl 2 rfl) ?_
    refine lv_iconst (v := 0) C.1 C.2.1 dX11_ticks_11 (by decide) ?_
    refine lv_bipush (v := 100) C.1 C.2.1 dX11_ticks_12 (by decide) ?_
    obtain ⟨z3, hz3, he⟩ := jq_b he
    refine jq_gi (jq_runS (av := [.int p1, .int 0, .int 100]) C X (M_X11_in l bs D ct n z1.2 p1 0 100 _ hz3) mf_X11_in gw_842 (Or.inl gw_841) rfl hl.1 rfl (Nat.le_of_ble_eq_true rfl) ⟨by decide, by decide⟩ ⟨by decide, by decide⟩ dX11_ticks_14) X (fun H locs X => ?_)
    refine lv_if_eq (tgt := 35) C.1 C.2.1 dX11_ticks_17 (by decide) (fun hc4 => ?_) (fun hc4 => ?_)
    · have he := jq_t hc4 he
      refine lv_bipush (v := (-2)) C.1 C.2.1 dX11_ticks_35 (by decide) ?_
      exact TX11_ticks_b37 (n := n) C hr hlk X (lv_sub hl [] rfl) he
    · have he := jq_n hc4 he
      refine lv_aload_n C.1 C.2.1 dX11_ticks_20 rfl (lv_at hl 0 rfl) ?_
      refine jq_rgI C X fs_X11_88 he dX11_ticks_21 (fun x5 he => ?_)
      refine lv_iload_n C.1 C.2.1 dX11_ticks_24 rfl (lv_at hl 2 rfl) ?_
      refine lv_aload_n C.1 C.2.1 dX11_ticks_25 rfl (lv_at hl 0 rfl) ?_
      refine lv_iload_n C.1 C.2.1 dX11_ticks_26 rfl (lv_at hl 1 rfl) ?_
      obtain ⟨z6, hz6, he⟩ := jq_b he
      obtain ⟨hz6c, hz6⟩ := jq_ite hz6
      refine jq_gi (jq_runV (a := a) (av := [.int p0]) C X (M_X11_missesOf l bs D ct n z3.2 a p0 _ hz6) mf_X11_missesOf gw_961 gs_40 (Or.inl gw_959) rc_X11 hz6c (by decide) rfl hl.1 rfl (Nat.le_of_ble_eq_true rfl) ⟨by decide, by decide⟩ ⟨by decide, by decide⟩ dX11_ticks_27) X (fun H locs X => ?_)
      refine lv_imul C.1 C.2.1 dX11_ticks_30 ?_
      refine lv_iadd C.1 C.2.1 dX11_ticks_31 ?_
      refine lv_goto (tgt := 37) C.1 C.2.1 dX11_ticks_32 (by decide) ?_
      exact TX11_ticks_b37 (n := n) C hr hlk X (lv_sub hl [] rfl) he
  · have he := jq_t hc2 he
    refine lv_iconst (v := (-1)) C.1 C.2.1 dX11_ticks_8 (by decide) ?_
    exact jq_iret C X hr hlk he (by decide) (by decide) dX11_ticks_9
set_option maxRecDepth 100000 in
set_option maxHeartbeats 4000000 in
theorem M_X11_told (l : Launch) (bs : Nat) (D : va_G) (ct : Nat → ClassId) (n : Nat) (h : jq_H) (a : Nat) (p0 : Int32) (res : Int32 × jq_H) (he : X11_told n h a p0 = some res) : jq_M l yX11_told cX11_told 2 (some .int) rm_X11_told (jq_P [.ref a, .int p0] bs D ct h) (jq_Qi bs D ct res) bs := by
  refine jq_start2 (by decide +kernel) (Nat.le_of_ble_eq_true rfl) ?_
  intro p e s m args below meth c ls H locs C hr hlk hin hl X
  have C : jq_C p s m args c cX11_told 2 RX11 D ct bs := C
  have hin : meth.name = "told" := hin
  have hl : lv_has ls 2 [(0, .ref a), (1, .int p0)] := hl
  unfold X11_told at he
  refine lv_iload_n C.1 C.2.1 dX11_told_0 rfl (lv_at hl 1 rfl) ?_
  by_cases hc2 : p0 = 0
  · have he := jq_t hc2 he
    refine lv_tableIn (tgt := 36) C.1 C.2.1 dX11_told_1 (by rw [hc2]; decide) (by rw [hc2]; decide) (by rw [hc2]; rfl) (by decide) ?_
    refine lv_aload_n C.1 C.2.1 dX11_told_36 rfl (lv_at hl 0 rfl) ?_
    refine jq_rgI C X fs_X11_80 he dX11_told_37 (fun x1 he => ?_)
    exact jq_iret C X hr hlk he (by decide) (by decide) dX11_told_40
  have he := jq_n hc2 he
  by_cases hc4 : p0 = 1
  · have he := jq_t hc4 he
    refine lv_tableIn (tgt := 41) C.1 C.2.1 dX11_told_1 (by rw [hc4]; decide) (by rw [hc4]; decide) (by rw [hc4]; rfl) (by decide) ?_
    refine lv_aload_n C.1 C.2.1 dX11_told_41 rfl (lv_at hl 0 rfl) ?_
    refine jq_rgI C X fs_X11_88 he dX11_told_42 (fun x3 he => ?_)
    exact jq_iret C X hr hlk he (by decide) (by decide) dX11_told_45
  have he := jq_n hc4 he
  by_cases hc6 : p0 = 2
  · have he := jq_t hc6 he
    refine lv_tableIn (tgt := 46) C.1 C.2.1 dX11_told_1 (by rw [hc6]; decide) (by rw [hc6]; decide) (by rw [hc6]; rfl) (by decide) ?_
    refine lv_aload_n C.1 C.2.1 dX11_told_46 rfl (lv_at hl 0 rfl) ?_
    refine jq_rgI C X fs_X11_104 he dX11_told_47 (fun x5 he => ?_)
    exact jq_iret C X hr hlk he (by decide) (by decide) dX11_told_50
  have he := jq_n hc6 he
  by_cases hc8 : p0 = 3
  · have he := jq_t hc8 he
    refine lv_tableIn (tgt := 51) C.1 C.2.1 dX11_told_1 (by rw [hc8]; decide) (by rw [hc8]; decide) (by rw [hc8]; rfl) (by decide) ?_
    refine lv_aload_n C.1 C.2.1 dX11_told_51 rfl (lv_at hl 0 rfl) ?_
    refine jq_rgI C X fs_X11_101 he dX11_told_52 (fun x7 he => ?_)
    exact jq_iret C X hr hlk he (by decide) (by decide) dX11_told_55
  have he := jq_n hc8 he
  by_cases hc10 : p0 = 4
  · have he := jq_t hc10 he
    refine lv_tableIn (tgt := 56) C.1 C.2.1 dX11_told_1 (by rw [hc10]; decide) (by rw [hc10]; decide) (by rw [hc10]; rfl) (by decide) ?_
    refine lv_aload_n C.1 C.2.1 dX11_told_56 rfl (lv_at hl 0 rfl) ?_
    refine jq_rgI C X fs_X11_94 he dX11_told_57 (fun x9 he => ?_)
    exact jq_iret C X hr hlk he (by decide) (by decide) dX11_told_60
  have he := jq_n hc10 he
  refine lv_tableOut (tgt := 61) C.1 C.2.1 dX11_told_1 (jq_swo (fun k h1 h2 hk => by
    rcases (show k = 0 ∨ k = 1 ∨ k = 2 ∨ k = 3 ∨ k = 4 by omega) with rfl | rfl | rfl | rfl | rfl
    · exact lv_neT hc2 (by decide) hk
    · exact lv_neT hc4 (by decide) hk
    · exact lv_neT hc6 (by decide) hk
    · exact lv_neT hc8 (by decide) hk
    · exact lv_neT hc10 (by decide) hk)) (by decide) ?_
  refine lv_bipush (v := (-2)) C.1 C.2.1 dX11_told_61 (by decide) ?_
  exact jq_iret C X hr hlk he (by decide) (by decide) dX11_told_63
set_option maxRecDepth 100000 in
set_option maxHeartbeats 4000000 in
theorem TX11_value_b20 {p : Program} {l : Launch} {e : Env} {s : State} {m : MethodId} {args : Array Value} {below : List Frame} {meth : Method} {c : Code} {D : va_G} {ct : Nat → ClassId} {bs : Nat} {res : Int32 × jq_H} {n : Nat} (C : jq_C p s m args c cX11_value 2 RX11 D ct bs) (hr : meth.sig.returnType = (some .int)) (hlk : meth.locks = false) {s0 : Int32} {h : jq_H} {H : Heap} {locs : List Loc} {ls : Array Slot} (X : jq_X bs D ct s.heap h H locs) (hl : lv_has ls 2 []) (he : X11_value_b20 n s0 h = some res) :
    W p l e rm_X11_value s m args below meth c H locs 0 0 (MQ below (jq_Qi bs D ct res) args s rm_X11_value.cells rm_X11_value.slots (fun q => bs ≤ q)) (F0 m 20 ls [.int s0]) := by
  unfold X11_value_b20 at he
  exact jq_iret C X hr hlk he (by decide) (by decide) dX11_value_20
set_option maxRecDepth 100000 in
set_option maxHeartbeats 4000000 in
theorem M_X11_value (l : Launch) (bs : Nat) (D : va_G) (ct : Nat → ClassId) (n : Nat) (h : jq_H) (a : Nat) (p0 : Int32) (res : Int32 × jq_H) (he : X11_value n h a p0 = some res) : jq_M l yX11_value cX11_value 2 (some .int) rm_X11_value (jq_P [.ref a, .int p0] bs D ct h) (jq_Qi bs D ct res) bs := by
  refine jq_start2 (by decide +kernel) (Nat.le_of_ble_eq_true rfl) ?_
  intro p e s m args below meth c ls H locs C hr hlk hin hl X
  have C : jq_C p s m args c cX11_value 2 RX11 D ct bs := C
  have hin : meth.name = "value" := hin
  have hl : lv_has ls 2 [(0, .ref a), (1, .int p0)] := hl
  unfold X11_value at he
  refine lv_iload_n C.1 C.2.1 dX11_value_0 rfl (lv_at hl 1 rfl) ?_
  refine lv_iconst (v := 0) C.1 C.2.1 dX11_value_1 (by decide) ?_
  refine lv_bipush (v := 7) C.1 C.2.1 dX11_value_2 (by decide) ?_
  obtain ⟨z1, hz1, he⟩ := jq_b he
  refine jq_gi (jq_runS (av := [.int p0, .int 0, .int 7]) C X (M_X11_in l bs D ct n h p0 0 7 _ hz1) mf_X11_in gw_842 (Or.inl gw_841) rfl hl.1 rfl (Nat.le_of_ble_eq_true rfl) ⟨by decide, by decide⟩ ⟨by decide, by decide⟩ dX11_value_4) X (fun H locs X => ?_)
  refine lv_if_eq (tgt := 19) C.1 C.2.1 dX11_value_7 (by decide) (fun hc2 => ?_) (fun hc2 => ?_)
  · have he := jq_t hc2 he
    refine lv_iconst (v := 0) C.1 C.2.1 dX11_value_19 (by decide) ?_
    exact TX11_value_b20 (n := n) C hr hlk X (lv_sub hl [] rfl) he
  · have he := jq_n hc2 he
    refine lv_aload_n C.1 C.2.1 dX11_value_10 rfl (lv_at hl 0 rfl) ?_
    refine jq_rgR C X fs_X11_22 he dX11_value_11 (fun q3 he => ?_)
    refine lv_iload_n C.1 C.2.1 dX11_value_14 rfl (lv_at hl 1 rfl) ?_
    refine jq_rldI C X he dX11_value_15 (fun x4 he => ?_)
    refine lv_goto (tgt := 20) C.1 C.2.1 dX11_value_16 (by decide) ?_
    exact TX11_value_b20 (n := n) C hr hlk X (lv_sub hl [] rfl) he
