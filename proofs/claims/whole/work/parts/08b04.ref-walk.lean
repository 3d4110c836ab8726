set_option maxRecDepth 100000 in
set_option maxHeartbeats 4000000 in
theorem TX11_at_b45 {p : Program} {l : Launch} {e : Env} {s : State} {m : MethodId} {args : Array Value} {below : List Frame} {meth : Method} {c : Code} {D : va_G} {ct : Nat → ClassId} {bs : Nat} {res : Int32 × jq_H} {n : Nat} (C : jq_C p s m args c cX11_at 3 RX11 D ct bs) (hr : meth.sig.returnType = (some .int)) (hlk : meth.locks = false) {s0 : Int32} {h : jq_H} {H : Heap} {locs : List Loc} {ls : Array Slot} (X : jq_X bs D ct s.heap h H locs) (hl : lv_has ls 3 []) (he : X11_at_b45 n s0 h = some res) :
    W p l e rm_X11_at s m args below meth c H locs 0 0 (MQ below (jq_Qi bs D ct res) args s rm_X11_at.cells rm_X11_at.slots (fun q => bs ≤ q)) (F0 m 45 ls [.int s0]) := by
  unfold X11_at_b45 at he
  exact jq_iret C X hr hlk he (by decide) (by decide) dX11_at_45
set_option maxRecDepth 100000 in
set_option maxHeartbeats 4000000 in
theorem M_X11_at (l : Launch) (bs : Nat) (D : va_G) (ct : Nat → ClassId) (n : Nat) (h : jq_H) (a : Nat) (p0 : Int32) (p1 : Int32) (res : Int32 × jq_H) (he : X11_at n h a p0 p1 = some res) : jq_M l yX11_at cX11_at 3 (some .int) rm_X11_at (jq_P [.ref a, .int p0, .int p1] bs D ct h) (jq_Qi bs D ct res) bs := by
  refine jq_start2 (by decide +kernel) (Nat.le_of_ble_eq_true rfl) ?_
  intro p e s m args below meth c ls H locs C hr hlk hin hl X
  have C : jq_C p s m args c cX11_at 3 RX11 D ct bs := C
  have hin : meth.name = "at" := hin
  have hl : lv_has ls 3 [(0, .ref a), (1, .int p0), (2, .int p1)] := hl
  unfold X11_at at he
  refine lv_iload_n C.1 C.2.1 dX11_at_0 rfl (lv_at hl 1 rfl) ?_
  refine lv_iconst (v := 0) C.1 C.2.1 dX11_at_1 (by decide) ?_
  refine lv_aload_n C.1 C.2.1 dX11_at_2 rfl (lv_at hl 0 rfl) ?_
  refine jq_rgI C X fs_X11_101 he dX11_at_3 (fun x1 he => ?_)
  refine lv_iconst (v := 1) C.1 C.2.1 dX11_at_6 (by decide) ?_
  refine lv_isub C.1 C.2.1 dX11_at_7 ?_
  obtain ⟨z2, hz2, he⟩ := jq_b he
  refine jq_gi (jq_runS (av := [.int p0, .int 0, .int (x1 - 1)]) C X (M_X11_in l bs D ct n h p0 0 (x1 - 1) _ hz2) mf_X11_in gw_842 (Or.inl gw_841) rfl hl.1 rfl (Nat.le_of_ble_eq_true rfl) ⟨by decide, by decide⟩ ⟨by decide, by decide⟩ dX11_at_8) X (fun H locs X => ?_)
  refine lv_if_ne (tgt := 16) C.1 C.2.1 dX11_at_11 (by decide) (fun hc3 => ?_) (fun hc3 => ?_)
  · have he := jq_n hc3 he
    refine lv_iload_n C.1 C.2.1 dX11_at_16 rfl (lv_at hl 2 rfl) ?_
    refine lv_if_ne (tgt := 29) C.1 C.2.1 dX11_at_17 (by decide) (fun hc4 => ?_) (fun hc4 => ?_)
    · have he := jq_n hc4 he
      refine lv_iload_n C.1 C.2.1 dX11_at_29 rfl (lv_at hl 2 rfl) ?_
      refine lv_iconst (v := 1) C.1 C.2.1 dX11_at_30 (by decide) ?_
      refine lv_icmp_ne (tgt := 43) C.1 C.2.1 dX11_at_31 (by decide) (fun hc5 => ?_) (fun hc5 => ?_)
      · have he := jq_n hc5 he
        refine lv_bipush (v := (-2)) C.1 C.2.1 dX11_at_43 (by decide) ?_
        exact TX11_at_b45 (n := n) C hr hlk X (lv_sub hl [] rfl) he
      · have he := jq_t hc5 he
        refine lv_aload_n C.1 C.2.1 dX11_at_34 rfl (lv_at hl 0 rfl) ?_
        refine jq_rgR C X fs_X11_31 he dX11_at_35 (fun q6 he => ?_)
        refine lv_iload_n C.1 C.2.1 dX11_at_38 rfl (lv_at hl 1 rfl) ?_
        refine jq_rldI C X he dX11_at_39 (fun x7 he => ?_)
        refine lv_goto (tgt := 45) C.1 C.2.1 dX11_at_40 (by decide) ?_
        exact TX11_at_b45 (n := n) C hr hlk X (lv_sub hl [] rfl) he
    · have he := jq_t hc4 he
      refine lv_aload_n C.1 C.2.1 dX11_at_20 rfl (lv_at hl 0 rfl) ?_
      refine jq_rgR C X fs_X11_28 he dX11_at_21 (fun q8 he => ?_)
      refine lv_iload_n C.1 C.2.1 dX11_at_24 rfl (lv_at hl 1 rfl) ?_
      refine jq_rldI C X he dX11_at_25 (fun x9 he => ?_)
      refine lv_goto (tgt := 45) C.1 C.2.1 dX11_at_26 (by decide) ?_
      exact TX11_at_b45 (n := n) C hr hlk X (lv_sub hl [] rfl) he
  · have he := jq_t hc3 he
    refine lv_iconst (v := (-1)) C.1 C.2.1 dX11_at_14 (by decide) ?_
    exact jq_iret C X hr hlk he (by decide) (by decide) dX11_at_15
set_option maxRecDepth 100000 in
set_option maxHeartbeats 4000000 in
theorem TX11_back_b75 {p : Program} {l : Launch} {e : Env} {s : State} {m : MethodId} {args : Array Value} {below : List Frame} {meth : Method} {c : Code} {D : va_G} {ct : Nat → ClassId} {bs : Nat} {res : Int32 × jq_H} {n : Nat} (C : jq_C p s m args c cX11_back 4 RX11 D ct bs) (hr : meth.sig.returnType = (some .int)) (hlk : meth.locks = false) {v0 : Nat} {v1 : Int32} {h : jq_H} {H : Heap} {locs : List Loc} {ls : Array Slot} (X : jq_X bs D ct s.heap h H locs) (hl : lv_has ls 4 [(0, .ref v0), (1, .int v1)]) (he : X11_back_b75 n v0 v1 h = some res) :
    W p l e rm_X11_back s m args below meth c H locs 0 0 (MQ below (jq_Qi bs D ct res) args s rm_X11_back.cells rm_X11_back.slots (fun q => bs ≤ q)) (F0 m 75 ls []) := by
  unfold X11_back_b75 at he
  refine lv_aload_n C.1 C.2.1 dX11_back_75 rfl (lv_at hl 0 rfl) ?_
  refine jq_rgR C X fs_X11_49 he dX11_back_76 (fun q1 he => ?_)
  refine lv_sipush (v := 812) C.1 C.2.1 dX11_back_79 (by decide) ?_
  refine lv_iload_n C.1 C.2.1 dX11_back_82 rfl (lv_at hl 1 rfl) ?_
  refine lv_imul C.1 C.2.1 dX11_back_83 ?_
  refine lv_sipush (v := 809) C.1 C.2.1 dX11_back_84 (by decide) ?_
  refine lv_iadd C.1 C.2.1 dX11_back_87 ?_
  refine jq_rldI C X he dX11_back_88 (fun x2 he => ?_)
  exact jq_iret C X hr hlk he (by decide) (by decide) dX11_back_89
set_option maxRecDepth 100000 in
set_option maxHeartbeats 4000000 in
theorem TX11_back_b34 {p : Program} {l : Launch} {e : Env} {s : State} {m : MethodId} {args : Array Value} {below : List Frame} {meth : Method} {c : Code} {D : va_G} {ct : Nat → ClassId} {bs : Nat} {res : Int32 × jq_H} {n : Nat} {KB : Nat → Int32 → Int32 → Int32 → jq_H → Option (Int32 × jq_H)} {K75 : Nat → Int32 → jq_H → Option (Int32 × jq_H)} (C : jq_C p s m args c cX11_back 4 RX11 D ct bs) (hr : meth.sig.returnType = (some .int)) (hlk : meth.locks = false) (hKB : ∀ (u0 : Nat) (u1 : Int32) (u2 : Int32) (u3 : Int32) (h1 : jq_H) (H1 : Heap) (locs1 : List Loc) (ls1 : Array Slot), KB u0 u1 u2 u3 h1 = some res → jq_X bs D ct s.heap h1 H1 locs1 → lv_has ls1 4 [(0, .ref u0), (1, .int u1), (2, .int u2), (3, .int u3)] → W p l e rm_X11_back s m args below meth c H1 locs1 0 0 (MQ below (jq_Qi bs D ct res) args s rm_X11_back.cells rm_X11_back.slots (fun q => bs ≤ q)) (F0 m 34 ls1 [])) (hK75 : ∀ (u0 : Nat) (u1 : Int32) (h1 : jq_H) (H1 : Heap) (locs1 : List Loc) (ls1 : Array Slot), K75 u0 u1 h1 = some res → jq_X bs D ct s.heap h1 H1 locs1 → lv_has ls1 4 [(0, .ref u0), (1, .int u1)] → W p l e rm_X11_back s m args below meth c H1 locs1 0 0 (MQ below (jq_Qi bs D ct res) args s rm_X11_back.cells rm_X11_back.slots (fun q => bs ≤ q)) (F0 m 75 ls1 [])) {v0 : Nat} {v1 : Int32} {v2 : Int32} {v3 : Int32} {h : jq_H} {H : Heap} {locs : List Loc} {ls : Array Slot} (X : jq_X bs D ct s.heap h H locs) (hl : lv_has ls 4 [(0, .ref v0), (1, .int v1), (2, .int v2), (3, .int v3)]) (he : X11_back_b34 n KB K75 v0 v1 v2 v3 h = some res) :
    W p l e rm_X11_back s m args below meth c H locs 0 0 (MQ below (jq_Qi bs D ct res) args s rm_X11_back.cells rm_X11_back.slots (fun q => bs ≤ q)) (F0 m 34 ls []) := by
  unfold X11_back_b34 at he
  refine lv_iload_n C.1 C.2.1 dX11_back_34 rfl (lv_at hl 3 rfl) ?_
  refine lv_sipush (v := 812) C.1 C.2.1 dX11_back_35 (by decide) ?_
  refine lv_icmp_ge (tgt := 75) C.1 C.2.1 dX11_back_38 (by decide) (fun hc3 => ?_) (fun hc3 => ?_)
  · have he := jq_t hc3 he
    exact hK75 _ _ _ _ _ _ he X (lv_sub hl [0, 1] rfl)
  · have he := jq_n hc3 he
    refine lv_aload_n C.1 C.2.1 dX11_back_41 rfl (lv_at hl 0 rfl) ?_
    refine jq_rgR C X fs_X11_49 he dX11_back_42 (fun q4 he => ?_)
    refine lv_sipush (v := 812) C.1 C.2.1 dX11_back_45 (by decide) ?_
    refine lv_iload_n C.1 C.2.1 dX11_back_48 rfl (lv_at hl 1 rfl) ?_
    refine lv_imul C.1 C.2.1 dX11_back_49 ?_
    refine lv_iload_n C.1 C.2.1 dX11_back_50 rfl (lv_at hl 3 rfl) ?_
    refine lv_iadd C.1 C.2.1 dX11_back_51 ?_
    refine lv_aload_n C.1 C.2.1 dX11_back_52 rfl (lv_at hl 0 rfl) ?_
    refine jq_rgR C X fs_X11_52 he dX11_back_53 (fun q5 he => ?_)
    refine lv_sipush (v := 812) C.1 C.2.1 dX11_back_56 (by decide) ?_
    refine lv_iconst (v := 2) C.1 C.2.1 dX11_back_59 (by decide) ?_
    refine lv_iload_n C.1 C.2.1 dX11_back_60 rfl (lv_at hl 1 rfl) ?_
    refine lv_imul C.1 C.2.1 dX11_back_61 ?_
    refine lv_iload_n C.1 C.2.1 dX11_back_62 rfl (lv_at hl 2 rfl) ?_
    refine lv_iadd C.1 C.2.1 dX11_back_63 ?_
    refine lv_imul C.1 C.2.1 dX11_back_64 ?_
    refine lv_iload_n C.1 C.2.1 dX11_back_65 rfl (lv_at hl 3 rfl) ?_
    refine lv_iadd C.1 C.2.1 dX11_back_66 ?_
    refine jq_rldI C X he dX11_back_67 (fun x6 he => ?_)
    refine jq_rstI C X he dX11_back_68 (fun h7 H locs he X => ?_)
    obtain ⟨x8, hx8, he⟩ := jq_ln he
    refine lv_iinc (v := x8) (lv' := [(3, .int x8), (0, .ref v0), (1, .int v1), (2, .int v2)]) C.1 C.2.1 dX11_back_69 hl (k := 3) rfl (by rw [hx8]; rfl) (by decide) rfl (fun ls hl => ?_)
    refine lv_goto (tgt := 34) C.1 C.2.1 dX11_back_72 (by decide) ?_
    exact hKB _ _ _ _ _ _ _ _ he X (lv_sub hl [1, 2, 3, 0] rfl)
set_option maxRecDepth 100000 in
set_option maxHeartbeats 4000000 in
theorem TX11_back_l34 {p : Program} {l : Launch} {e : Env} {s : State} {m : MethodId} {args : Array Value} {below : List Frame} {meth : Method} {c : Code} {D : va_G} {ct : Nat → ClassId} {bs : Nat} {res : Int32 × jq_H} {n : Nat} {K75 : Nat → Int32 → jq_H → Option (Int32 × jq_H)} (C : jq_C p s m args c cX11_back 4 RX11 D ct bs) (hr : meth.sig.returnType = (some .int)) (hlk : meth.locks = false) (hK75 : ∀ (u0 : Nat) (u1 : Int32) (h1 : jq_H) (H1 : Heap) (locs1 : List Loc) (ls1 : Array Slot), K75 u0 u1 h1 = some res → jq_X bs D ct s.heap h1 H1 locs1 → lv_has ls1 4 [(0, .ref u0), (1, .int u1)] → W p l e rm_X11_back s m args below meth c H1 locs1 0 0 (MQ below (jq_Qi bs D ct res) args s rm_X11_back.cells rm_X11_back.slots (fun q => bs ≤ q)) (F0 m 75 ls1 [])) :
    ∀ (k : Nat) (v0 : Nat) (v1 : Int32) (v2 : Int32) (v3 : Int32) (h : jq_H) (H : Heap) (locs : List Loc) (ls : Array Slot), X11_back_l34 n K75 k v0 v1 v2 v3 h = some res → jq_X bs D ct s.heap h H locs → lv_has ls 4 [(0, .ref v0), (1, .int v1), (2, .int v2), (3, .int v3)] → W p l e rm_X11_back s m args below meth c H locs 0 0 (MQ below (jq_Qi bs D ct res) args s rm_X11_back.cells rm_X11_back.slots (fun q => bs ≤ q)) (F0 m 34 ls []) := by
  intro k
  induction k with
  | zero => intro v0 v1 v2 v3 h H locs ls he; cases (show (none : Option (Int32 × jq_H)) = some res from he)
  | succ k ih =>
    intro v0 v1 v2 v3 h H locs ls he X hl
    exact TX11_back_b34 (n := n) C hr hlk (KB := X11_back_l34 n K75 k) ih hK75 X hl he
set_option maxRecDepth 100000 in
set_option maxHeartbeats 4000000 in
theorem TX11_back_b30 {p : Program} {l : Launch} {e : Env} {s : State} {m : MethodId} {args : Array Value} {below : List Frame} {meth : Method} {c : Code} {D : va_G} {ct : Nat → ClassId} {bs : Nat} {res : Int32 × jq_H} {n : Nat} (C : jq_C p s m args c cX11_back 4 RX11 D ct bs) (hr : meth.sig.returnType = (some .int)) (hlk : meth.locks = false) {h : jq_H} {H : Heap} {locs : List Loc} {ls : Array Slot} (X : jq_X bs D ct s.heap h H locs) (hl : lv_has ls 4 []) (he : X11_back_b30 n h = some res) :
    W p l e rm_X11_back s m args below meth c H locs 0 0 (MQ below (jq_Qi bs D ct res) args s rm_X11_back.cells rm_X11_back.slots (fun q => bs ≤ q)) (F0 m 30 ls []) := by
  unfold X11_back_b30 at he
  refine lv_iconst (v := (-1)) C.1 C.2.1 dX11_back_30 (by decide) ?_
  exact jq_iret C X hr hlk he (by decide) (by decide) dX11_back_31
set_option maxRecDepth 100000 in
set_option maxHeartbeats 4000000 in
theorem M_X11_back (l : Launch) (bs : Nat) (D : va_G) (ct : Nat → ClassId) (n : Nat) (h : jq_H) (a : Nat) (p0 : Int32) (p1 : Int32) (res : Int32 × jq_H) (he : X11_back n h a p0 p1 = some res) : jq_M l yX11_back cX11_back 4 (some .int) rm_X11_back (jq_P [.ref a, .int p0, .int p1] bs D ct h) (jq_Qi bs D ct res) bs := by
  refine jq_start2 (by decide +kernel) (Nat.le_of_ble_eq_true rfl) ?_
  intro p e s m args below meth c ls H locs C hr hlk hin hl X
  have C : jq_C p s m args c cX11_back 4 RX11 D ct bs := C
  have hin : meth.name = "back" := hin
  have hl : lv_has ls 4 [(0, .ref a), (1, .int p0), (2, .int p1)] := hl
  unfold X11_back at he
  refine lv_aload_n C.1 C.2.1 dX11_back_0 rfl (lv_at hl 0 rfl) ?_
  refine lv_iload_n C.1 C.2.1 dX11_back_1 rfl (lv_at hl 1 rfl) ?_
  obtain ⟨z9, hz9, he⟩ := jq_b he
  obtain ⟨hz9c, hz9⟩ := jq_ite hz9
  refine jq_gi (jq_runV (a := a) (av := [.int p0]) C X (M_X11_isGuesser l bs D ct n h a p0 _ hz9) mf_X11_isGuesser gw_930 gs_37 (Or.inl gw_928) rc_X11 hz9c (by decide) rfl hl.1 rfl (Nat.le_of_ble_eq_true rfl) ⟨by decide, by decide⟩ ⟨by decide, by decide⟩ dX11_back_2) X (fun H locs X => ?_)
  refine lv_if_eq (tgt := 30) C.1 C.2.1 dX11_back_5 (by decide) (fun hc10 => ?_) (fun hc10 => ?_)
  · have he := jq_t hc10 he
    exact TX11_back_b30 (n := n) C hr hlk X (lv_sub hl [] rfl) he
  · have he := jq_n hc10 he
    refine lv_iload_n C.1 C.2.1 dX11_back_8 rfl (lv_at hl 2 rfl) ?_
    refine lv_iconst (v := 0) C.1 C.2.1 dX11_back_9 (by decide) ?_
    refine lv_iconst (v := 1) C.1 C.2.1 dX11_back_10 (by decide) ?_
    obtain ⟨z11, hz11, he⟩ := jq_b he
    refine jq_gi (jq_runS (av := [.int p1, .int 0, .int 1]) C X (M_X11_in l bs D ct n z9.2 p1 0 1 _ hz11) mf_X11_in gw_842 (Or.inl gw_841) rfl hl.1 rfl (Nat.le_of_ble_eq_true rfl) ⟨by decide, by decide⟩ ⟨by decide, by decide⟩ dX11_back_11) X (fun H locs X => ?_)
    refine lv_if_eq (tgt := 30) C.1 C.2.1 dX11_back_14 (by decide) (fun hc12 => ?_) (fun hc12 => ?_)
    · have he := jq_t hc12 he
      exact TX11_back_b30 (n := n) C hr hlk X (lv_sub hl [] rfl) he
    · have he := jq_n hc12 he
      refine lv_aload_n C.1 C.2.1 dX11_back_17 rfl (lv_at hl 0 rfl) ?_
      refine jq_rgR C X fs_X11_55 he dX11_back_18 (fun q13 he => ?_)
      refine lv_iconst (v := 2) C.1 C.2.1 dX11_back_21 (by decide) ?_
      refine lv_iload_n C.1 C.2.1 dX11_back_22 rfl (lv_at hl 1 rfl) ?_
      refine lv_imul C.1 C.2.1 dX11_back_23 ?_
      refine lv_iload_n C.1 C.2.1 dX11_back_24 rfl (lv_at hl 2 rfl) ?_
      refine lv_iadd C.1 C.2.1 dX11_back_25 ?_
      refine jq_rldZ C X he dX11_back_26 (fun x14 he => ?_)
      refine lv_if_ne (tgt := 32) C.1 C.2.1 dX11_back_27 (by decide) (fun hc15 => ?_) (fun hc15 => ?_)
      · have he := jq_n hc15 he
        refine lv_iconst (v := 0) C.1 C.2.1 dX11_back_32 (by decide) ?_
        refine lv_istore_n (lv' := [(3, .int 0), (0, .ref a), (1, .int p0), (2, .int p1)]) C.1 C.2.1 dX11_back_33 rfl hl (by decide) rfl (fun ls hl => ?_)
        exact TX11_back_l34 (n := n) C hr hlk (fun w0 w1 hh H locs ls he X hl => by
    exact TX11_back_b75 (n := n) C hr hlk X hl he) n _ _ _ _ _ _ _ _ he X (lv_sub hl [1, 2, 3, 0] rfl)
      · have he := jq_t hc15 he
        exact TX11_back_b30 (n := n) C hr hlk X (lv_sub hl [] rfl) he
set_option maxRecDepth 100000 in
set_option maxHeartbeats 4000000 in
theorem TX11_countAll_b156 {p : Program} {l : Launch} {e : Env} {s : State} {m : MethodId} {args : Array Value} {below : List Frame} {meth : Method} {c : Code} {D : va_G} {ct : Nat → ClassId} {bs : Nat} {res : jq_H} {n : Nat} (C : jq_C p s m args c cX11_countAll 8 RX11 D ct bs) (hr : meth.sig.returnType = none) (hlk : meth.locks = false) {h : jq_H} {H : Heap} {locs : List Loc} {ls : Array Slot} (X : jq_X bs D ct s.heap h H locs) (hl : lv_has ls 8 []) (he : X11_countAll_b156 n h = some res) :
    W p l e rm_X11_countAll s m args below meth c H locs 0 0 (MQ below (jq_Qv bs D ct res) args s rm_X11_countAll.cells rm_X11_countAll.slots (fun q => bs ≤ q)) (F0 m 156 ls []) := by
  unfold X11_countAll_b156 at he
  exact jq_vret C X hr hlk he (by decide) (by decide) dX11_countAll_156
set_option maxRecDepth 100000 in
set_option maxHeartbeats 4000000 in
theorem TX11_countAll_b89 {p : Program} {l : Launch} {e : Env} {s : State} {m : MethodId} {args : Array Value} {below : List Frame} {meth : Method} {c : Code} {D : va_G} {ct : Nat → ClassId} {bs : Nat} {res : jq_H} {n : Nat} {KB : Nat → Int32 → Int32 → Int32 → Int32 → jq_H → Option (jq_H)} {K156 : jq_H → Option (jq_H)} (C : jq_C p s m args c cX11_countAll 8 RX11 D ct bs) (hr : meth.sig.returnType = none) (hlk : meth.locks = false) (hKB : ∀ (u0 : Nat) (u1 : Int32) (u2 : Int32) (u3 : Int32) (u4 : Int32) (h1 : jq_H) (H1 : Heap) (locs1 : List Loc) (ls1 : Array Slot), KB u0 u1 u2 u3 u4 h1 = some res → jq_X bs D ct s.heap h1 H1 locs1 → lv_has ls1 8 [(0, .ref u0), (1, .int u1), (2, .int u2), (3, .int u3), (4, .int u4)] → W p l e rm_X11_countAll s m args below meth c H1 locs1 0 0 (MQ below (jq_Qv bs D ct res) args s rm_X11_countAll.cells rm_X11_countAll.slots (fun q => bs ≤ q)) (F0 m 47 ls1 [])) (hK156 : ∀ (h1 : jq_H) (H1 : Heap) (locs1 : List Loc) (ls1 : Array Slot), K156 h1 = some res → jq_X bs D ct s.heap h1 H1 locs1 → lv_has ls1 8 [] → W p l e rm_X11_countAll s m args below meth c H1 locs1 0 0 (MQ below (jq_Qv bs D ct res) args s rm_X11_countAll.cells rm_X11_countAll.slots (fun q => bs ≤ q)) (F0 m 156 ls1 [])) {v0 : Nat} {v1 : Int32} {v2 : Int32} {v3 : Int32} {v4 : Int32} {v5 : Int32} {v6 : Int32} {s0 : Int32} {h : jq_H} {H : Heap} {locs : List Loc} {ls : Array Slot} (X : jq_X bs D ct s.heap h H locs) (hl : lv_has ls 8 [(0, .ref v0), (1, .int v1), (2, .int v2), (3, .int v3), (4, .int v4), (5, .int v5), (6, .int v6)]) (he : X11_countAll_b89 n KB K156 v0 v1 v2 v3 v4 v5 v6 s0 h = some res) :
    W p l e rm_X11_countAll s m args below meth c H locs 0 0 (MQ below (jq_Qv bs D ct res) args s rm_X11_countAll.cells rm_X11_countAll.slots (fun q => bs ≤ q)) (F0 m 89 ls [.int s0]) := by
  unfold X11_countAll_b89 at he
  refine lv_iload_n C.1 C.2.1 dX11_countAll_89 rfl (lv_at hl 1 rfl) ?_
  obtain ⟨z1, hz1, he⟩ := jq_b he
  refine jq_gi (jq_runS (av := [.int s0, .int v1]) C X (M_X11_low l bs D ct n h s0 v1 _ hz1) mf_X11_low gw_893 (Or.inl gw_892) rfl hl.1 rfl (Nat.le_of_ble_eq_true rfl) ⟨by decide, by decide⟩ ⟨by decide, by decide⟩ dX11_countAll_90) X (fun H locs X => ?_)
  obtain ⟨x2, hx2, he⟩ := jq_ln he
  refine jq_top hx2 ?_
  refine lv_istore (lv' := [(7, .int x2), (0, .ref v0), (1, .int v1), (2, .int v2), (3, .int v3), (4, .int v4), (5, .int v5), (6, .int v6)]) C.1 C.2.1 dX11_countAll_93 hl (by decide) rfl (fun ls hl => ?_)
  refine lv_aload_n C.1 C.2.1 dX11_countAll_95 rfl (lv_at hl 1 rfl) ?_
  refine jq_rgR C X fs_X11_66 he dX11_countAll_96 (fun q3 he => ?_)
  refine lv_iconst (v := 2) C.1 C.2.1 dX11_countAll_99 (by decide) ?_
  refine lv_sipush (v := 256) C.1 C.2.1 dX11_countAll_100 (by decide) ?_
  refine lv_iload C.1 C.2.1 dX11_countAll_103 (lv_at hl 6 rfl) ?_
  refine lv_imul C.1 C.2.1 dX11_countAll_105 ?_
  refine lv_iload C.1 C.2.1 dX11_countAll_106 (lv_at hl 0 rfl) ?_
  refine lv_iadd C.1 C.2.1 dX11_countAll_108 ?_
  refine lv_imul C.1 C.2.1 dX11_countAll_109 ?_
  refine lv_iload C.1 C.2.1 dX11_countAll_110 (lv_at hl 7 rfl) ?_
  refine lv_iadd C.1 C.2.1 dX11_countAll_112 ?_
  refine lv_dup2_11 C.1 C.2.1 dX11_countAll_113 rfl rfl ?_
  refine jq_rldI C X he dX11_countAll_114 (fun x4 he => ?_)
  refine lv_iconst (v := 1) C.1 C.2.1 dX11_countAll_115 (by decide) ?_
  refine lv_iadd C.1 C.2.1 dX11_countAll_116 ?_
  refine jq_rstI C X he dX11_countAll_117 (fun h5 H locs he X => ?_)
  refine lv_iload_n C.1 C.2.1 dX11_countAll_118 rfl (lv_at hl 4 rfl) ?_
  refine lv_iconst (v := 1) C.1 C.2.1 dX11_countAll_119 (by decide) ?_
  refine lv_ishl C.1 C.2.1 dX11_countAll_120 ?_
  refine lv_ldc (v := 65535) C.1 C.2.1 C.2.2.2.1 (C.2.2.2.2.1 _ gw_915) dX11_countAll_121 ?_
  refine lv_iand C.1 C.2.1 dX11_countAll_123 ?_
  refine lv_iload C.1 C.2.1 dX11_countAll_124 (lv_at hl 7 rfl) ?_
  refine lv_ior C.1 C.2.1 dX11_countAll_126 ?_
  obtain ⟨x6, hx6, he⟩ := jq_ln he
  refine jq_top hx6 ?_
  refine lv_istore_n (lv' := [(3, .int x6), (7, .int x2), (0, .ref v0), (1, .int v1), (2, .int v2), (4, .int v4), (5, .int v5), (6, .int v6)]) C.1 C.2.1 dX11_countAll_127 rfl hl (by decide) rfl (fun ls hl => ?_)
  refine lv_aload_n C.1 C.2.1 dX11_countAll_128 rfl (lv_at hl 2 rfl) ?_
  refine jq_rgR C X fs_X11_69 he dX11_countAll_129 (fun q7 he => ?_)
  refine lv_iload C.1 C.2.1 dX11_countAll_132 (lv_at hl 6 rfl) ?_
  refine lv_aload_n C.1 C.2.1 dX11_countAll_134 rfl (lv_at hl 2 rfl) ?_
  refine jq_rgR C X fs_X11_69 he dX11_countAll_135 (fun q8 he => ?_)
  refine lv_iload C.1 C.2.1 dX11_countAll_138 (lv_at hl 6 rfl) ?_
  refine jq_rldI C X he dX11_countAll_140 (fun x9 he => ?_)
  refine lv_iconst (v := 1) C.1 C.2.1 dX11_countAll_141 (by decide) ?_
  refine lv_ishl C.1 C.2.1 dX11_countAll_142 ?_
  refine lv_ldc (v := 65535) C.1 C.2.1 C.2.2.2.1 (C.2.2.2.2.1 _ gw_915) dX11_countAll_143 ?_
  refine lv_iand C.1 C.2.1 dX11_countAll_145 ?_
  refine lv_iload C.1 C.2.1 dX11_countAll_146 (lv_at hl 7 rfl) ?_
  refine lv_ior C.1 C.2.1 dX11_countAll_148 ?_
  refine jq_rstI C X he dX11_countAll_149 (fun h10 H locs he X => ?_)
  obtain ⟨x11, hx11, he⟩ := jq_ln he
  refine lv_iinc (v := x11) (lv' := [(4, .int x11), (3, .int x6), (7, .int x2), (0, .ref v0), (1, .int v1), (2, .int v2), (5, .int v5), (6, .int v6)]) C.1 C.2.1 dX11_countAll_150 hl (k := 5) rfl (by rw [hx11]; rfl) (by decide) rfl (fun ls hl => ?_)
  refine lv_goto (tgt := 47) C.1 C.2.1 dX11_countAll_153 (by decide) ?_
  exact hKB _ _ _ _ _ _ _ _ _ he X (lv_sub hl [3, 4, 5, 1, 0] rfl)
set_option maxRecDepth 100000 in
set_option maxHeartbeats 4000000 in
theorem TX11_countAll_b47 {p : Program} {l : Launch} {e : Env} {s : State} {m : MethodId} {args : Array Value} {below : List Frame} {meth : Method} {c : Code} {D : va_G} {ct : Nat → ClassId} {bs : Nat} {res : jq_H} {n : Nat} {KB : Nat → Int32 → Int32 → Int32 → Int32 → jq_H → Option (jq_H)} {K156 : jq_H → Option (jq_H)} (C : jq_C p s m args c cX11_countAll 8 RX11 D ct bs) (hr : meth.sig.returnType = none) (hlk : meth.locks = false) (hKB : ∀ (u0 : Nat) (u1 : Int32) (u2 : Int32) (u3 : Int32) (u4 : Int32) (h1 : jq_H) (H1 : Heap) (locs1 : List Loc) (ls1 : Array Slot), KB u0 u1 u2 u3 u4 h1 = some res → jq_X bs D ct s.heap h1 H1 locs1 → lv_has ls1 8 [(0, .ref u0), (1, .int u1), (2, .int u2), (3, .int u3), (4, .int u4)] → W p l e rm_X11_countAll s m args below meth c H1 locs1 0 0 (MQ below (jq_Qv bs D ct res) args s rm_X11_countAll.cells rm_X11_countAll.slots (fun q => bs ≤ q)) (F0 m 47 ls1 [])) (hK156 : ∀ (h1 : jq_H) (H1 : Heap) (locs1 : List Loc) (ls1 : Array Slot), K156 h1 = some res → jq_X bs D ct s.heap h1 H1 locs1 → lv_has ls1 8 [] → W p l e rm_X11_countAll s m args below meth c H1 locs1 0 0 (MQ below (jq_Qv bs D ct res) args s rm_X11_countAll.cells rm_X11_countAll.slots (fun q => bs ≤ q)) (F0 m 156 ls1 [])) {v0 : Nat} {v1 : Int32} {v2 : Int32} {v3 : Int32} {v4 : Int32} {h : jq_H} {H : Heap} {locs : List Loc} {ls : Array Slot} (X : jq_X bs D ct s.heap h H locs) (hl : lv_has ls 8 [(0, .ref v0), (1, .int v1), (2, .int v2), (3, .int v3), (4, .int v4)]) (he : X11_countAll_b47 n KB K156 v0 v1 v2 v3 v4 h = some res) :
    W p l e rm_X11_countAll s m args below meth c H locs 0 0 (MQ below (jq_Qv bs D ct res) args s rm_X11_countAll.cells rm_X11_countAll.slots (fun q => bs ≤ q)) (F0 m 47 ls []) := by
  unfold X11_countAll_b47 at he
  refine lv_iload C.1 C.2.1 dX11_countAll_47 (lv_at hl 4 rfl) ?_
  refine lv_aload_n C.1 C.2.1 dX11_countAll_49 rfl (lv_at hl 0 rfl) ?_
  refine jq_rgI C X fs_X11_101 he dX11_countAll_50 (fun x12 he => ?_)
  refine lv_icmp_ge (tgt := 156) C.1 C.2.1 dX11_countAll_53 (by decide) (fun hc13 => ?_) (fun hc13 => ?_)
  · have he := jq_t hc13 he
    exact hK156 _ _ _ _ he X (lv_sub hl [] rfl)
  · have he := jq_n hc13 he
    refine lv_aload_n C.1 C.2.1 dX11_countAll_56 rfl (lv_at hl 0 rfl) ?_
    refine jq_rgR C X fs_X11_28 he dX11_countAll_57 (fun q14 he => ?_)
    refine lv_iload C.1 C.2.1 dX11_countAll_60 (lv_at hl 4 rfl) ?_
    refine jq_rldI C X he dX11_countAll_62 (fun x15 he => ?_)
    refine lv_istore (lv' := [(5, .int x15), (0, .ref v0), (1, .int v1), (2, .int v2), (3, .int v3), (4, .int v4)]) C.1 C.2.1 dX11_countAll_63 hl (by decide) rfl (fun ls hl => ?_)
    refine lv_aload_n C.1 C.2.1 dX11_countAll_65 rfl (lv_at hl 1 rfl) ?_
    refine jq_rgR C X fs_X11_31 he dX11_countAll_66 (fun q16 he => ?_)
    refine lv_iload C.1 C.2.1 dX11_countAll_69 (lv_at hl 5 rfl) ?_
    refine jq_rldI C X he dX11_countAll_71 (fun x17 he => ?_)
    refine lv_istore (lv' := [(6, .int x17), (5, .int x15), (0, .ref v0), (1, .int v1), (2, .int v2), (3, .int v3), (4, .int v4)]) C.1 C.2.1 dX11_countAll_72 hl (by decide) rfl (fun ls hl => ?_)
    refine lv_iload_n C.1 C.2.1 dX11_countAll_74 rfl (lv_at hl 4 rfl) ?_
    refine lv_if_eq (tgt := 88) C.1 C.2.1 dX11_countAll_75 (by decide) (fun hc18 => ?_) (fun hc18 => ?_)
    · have he := jq_t hc18 he
      refine lv_iload_n C.1 C.2.1 dX11_countAll_88 rfl (lv_at hl 5 rfl) ?_
      exact TX11_countAll_b89 (n := n) C hr hlk hKB hK156 X (lv_sub hl [2, 3, 4, 5, 6, 1, 0] rfl) he
    · have he := jq_n hc18 he
      refine lv_aload_n C.1 C.2.1 dX11_countAll_78 rfl (lv_at hl 2 rfl) ?_
      refine jq_rgR C X fs_X11_69 he dX11_countAll_79 (fun q19 he => ?_)
      refine lv_iload C.1 C.2.1 dX11_countAll_82 (lv_at hl 1 rfl) ?_
      refine jq_rldI C X he dX11_countAll_84 (fun x20 he => ?_)
      refine lv_goto (tgt := 89) C.1 C.2.1 dX11_countAll_85 (by decide) ?_
      exact TX11_countAll_b89 (n := n) C hr hlk hKB hK156 X (lv_sub hl [2, 3, 4, 5, 6, 1, 0] rfl) he
set_option maxRecDepth 100000 in
set_option maxHeartbeats 4000000 in
theorem TX11_countAll_l47 {p : Program} {l : Launch} {e : Env} {s : State} {m : MethodId} {args : Array Value} {below : List Frame} {meth : Method} {c : Code} {D : va_G} {ct : Nat → ClassId} {bs : Nat} {res : jq_H} {n : Nat} {K156 : jq_H → Option (jq_H)} (C : jq_C p s m args c cX11_countAll 8 RX11 D ct bs) (hr : meth.sig.returnType = none) (hlk : meth.locks = false) (hK156 : ∀ (h1 : jq_H) (H1 : Heap) (locs1 : List Loc) (ls1 : Array Slot), K156 h1 = some res → jq_X bs D ct s.heap h1 H1 locs1 → lv_has ls1 8 [] → W p l e rm_X11_countAll s m args below meth c H1 locs1 0 0 (MQ below (jq_Qv bs D ct res) args s rm_X11_countAll.cells rm_X11_countAll.slots (fun q => bs ≤ q)) (F0 m 156 ls1 [])) :
    ∀ (k : Nat) (v0 : Nat) (v1 : Int32) (v2 : Int32) (v3 : Int32) (v4 : Int32) (h : jq_H) (H : Heap) (locs : List Loc) (ls : Array Slot), X11_countAll_l47 n K156 k v0 v1 v2 v3 v4 h = some res → jq_X bs D ct s.heap h H locs → lv_has ls 8 [(0, .ref v0), (1, .int v1), (2, .int v2), (3, .int v3), (4, .int v4)] → W p l e rm_X11_countAll s m args below meth c H locs 0 0 (MQ below (jq_Qv bs D ct res) args s rm_X11_countAll.cells rm_X11_countAll.slots (fun q => bs ≤ q)) (F0 m 47 ls []) := by
  intro k
  induction k with
  | zero => intro v0 v1 v2 v3 v4 h H locs ls he; cases (show (none : Option (jq_H)) = some res from he)
  | succ k ih =>
    intro v0 v1 v2 v3 v4 h H locs ls he X hl
    exact TX11_countAll_b47 (n := n) C hr hlk (KB := X11_countAll_l47 n K156 k) ih hK156 X hl he
set_option maxRecDepth 100000 in
set_option maxHeartbeats 4000000 in
theorem TX11_countAll_b42 {p : Program} {l : Launch} {e : Env} {s : State} {m : MethodId} {args : Array Value} {below : List Frame} {meth : Method} {c : Code} {D : va_G} {ct : Nat → ClassId} {bs : Nat} {res : jq_H} {n : Nat} (C : jq_C p s m args c cX11_countAll 8 RX11 D ct bs) (hr : meth.sig.returnType = none) (hlk : meth.locks = false) {v0 : Nat} {v1 : Int32} {v2 : Int32} {h : jq_H} {H : Heap} {locs : List Loc} {ls : Array Slot} (X : jq_X bs D ct s.heap h H locs) (hl : lv_has ls 8 [(0, .ref v0), (1, .int v1), (2, .int v2)]) (he : X11_countAll_b42 n v0 v1 v2 h = some res) :
    W p l e rm_X11_countAll s m args below meth c H locs 0 0 (MQ below (jq_Qv bs D ct res) args s rm_X11_countAll.cells rm_X11_countAll.slots (fun q => bs ≤ q)) (F0 m 42 ls []) := by
  unfold X11_countAll_b42 at he
  refine lv_iconst (v := 0) C.1 C.2.1 dX11_countAll_42 (by decide) ?_
  refine lv_istore_n (lv' := [(3, .int 0), (0, .ref v0), (1, .int v1), (2, .int v2)]) C.1 C.2.1 dX11_countAll_43 rfl hl (by decide) rfl (fun ls hl => ?_)
  refine lv_iconst (v := 0) C.1 C.2.1 dX11_countAll_44 (by decide) ?_
  refine lv_istore (lv' := [(4, .int 0), (3, .int 0), (0, .ref v0), (1, .int v1), (2, .int v2)]) C.1 C.2.1 dX11_countAll_45 hl (by decide) rfl (fun ls hl => ?_)
  exact TX11_countAll_l47 (n := n) C hr hlk (fun  hh H locs ls he X hl => by
    exact TX11_countAll_b156 (n := n) C hr hlk X hl he) n _ _ _ _ _ _ _ _ _ he X (lv_sub hl [2, 3, 4, 1, 0] rfl)
set_option maxRecDepth 100000 in
set_option maxHeartbeats 4000000 in
theorem TX11_countAll_b23 {p : Program} {l : Launch} {e : Env} {s : State} {m : MethodId} {args : Array Value} {below : List Frame} {meth : Method} {c : Code} {D : va_G} {ct : Nat → ClassId} {bs : Nat} {res : jq_H} {n : Nat} {KB : Nat → Int32 → Int32 → Int32 → jq_H → Option (jq_H)} {K42 : Nat → Int32 → Int32 → jq_H → Option (jq_H)} (C : jq_C p s m args c cX11_countAll 8 RX11 D ct bs) (hr : meth.sig.returnType = none) (hlk : meth.locks = false) (hKB : ∀ (u0 : Nat) (u1 : Int32) (u2 : Int32) (u3 : Int32) (h1 : jq_H) (H1 : Heap) (locs1 : List Loc) (ls1 : Array Slot), KB u0 u1 u2 u3 h1 = some res → jq_X bs D ct s.heap h1 H1 locs1 → lv_has ls1 8 [(0, .ref u0), (1, .int u1), (2, .int u2), (3, .int u3)] → W p l e rm_X11_countAll s m args below meth c H1 locs1 0 0 (MQ below (jq_Qv bs D ct res) args s rm_X11_countAll.cells rm_X11_countAll.slots (fun q => bs ≤ q)) (F0 m 23 ls1 [])) (hK42 : ∀ (u0 : Nat) (u1 : Int32) (u2 : Int32) (h1 : jq_H) (H1 : Heap) (locs1 : List Loc) (ls1 : Array Slot), K42 u0 u1 u2 h1 = some res → jq_X bs D ct s.heap h1 H1 locs1 → lv_has ls1 8 [(0, .ref u0), (1, .int u1), (2, .int u2)] → W p l e rm_X11_countAll s m args below meth c H1 locs1 0 0 (MQ below (jq_Qv bs D ct res) args s rm_X11_countAll.cells rm_X11_countAll.slots (fun q => bs ≤ q)) (F0 m 42 ls1 [])) {v0 : Nat} {v1 : Int32} {v2 : Int32} {v3 : Int32} {h : jq_H} {H : Heap} {locs : List Loc} {ls : Array Slot} (X : jq_X bs D ct s.heap h H locs) (hl : lv_has ls 8 [(0, .ref v0), (1, .int v1), (2, .int v2), (3, .int v3)]) (he : X11_countAll_b23 n KB K42 v0 v1 v2 v3 h = some res) :
    W p l e rm_X11_countAll s m args below meth c H locs 0 0 (MQ below (jq_Qv bs D ct res) args s rm_X11_countAll.cells rm_X11_countAll.slots (fun q => bs ≤ q)) (F0 m 23 ls []) := by
  unfold X11_countAll_b23 at he
  refine lv_iload_n C.1 C.2.1 dX11_countAll_23 rfl (lv_at hl 3 rfl) ?_
  refine lv_bipush (v := 64) C.1 C.2.1 dX11_countAll_24 (by decide) ?_
  refine lv_icmp_ge (tgt := 42) C.1 C.2.1 dX11_countAll_26 (by decide) (fun hc21 => ?_) (fun hc21 => ?_)
  · have he := jq_t hc21 he
    exact hK42 _ _ _ _ _ _ _ he X (lv_sub hl [0, 1, 2] rfl)
  · have he := jq_n hc21 he
    refine lv_aload_n C.1 C.2.1 dX11_countAll_29 rfl (lv_at hl 0 rfl) ?_
    refine jq_rgR C X fs_X11_69 he dX11_countAll_30 (fun q22 he => ?_)
    refine lv_iload_n C.1 C.2.1 dX11_countAll_33 rfl (lv_at hl 3 rfl) ?_
    refine lv_iconst (v := 0) C.1 C.2.1 dX11_countAll_34 (by decide) ?_
    refine jq_rstI C X he dX11_countAll_35 (fun h23 H locs he X => ?_)
    obtain ⟨x24, hx24, he⟩ := jq_ln he
    refine lv_iinc (v := x24) (lv' := [(3, .int x24), (0, .ref v0), (1, .int v1), (2, .int v2)]) C.1 C.2.1 dX11_countAll_36 hl (k := 3) rfl (by rw [hx24]; rfl) (by decide) rfl (fun ls hl => ?_)
    refine lv_goto (tgt := 23) C.1 C.2.1 dX11_countAll_39 (by decide) ?_
    exact hKB _ _ _ _ _ _ _ _ he X (lv_sub hl [1, 2, 3, 0] rfl)
set_option maxRecDepth 100000 in
set_option maxHeartbeats 4000000 in
theorem TX11_countAll_l23 {p : Program} {l : Launch} {e : Env} {s : State} {m : MethodId} {args : Array Value} {below : List Frame} {meth : Method} {c : Code} {D : va_G} {ct : Nat → ClassId} {bs : Nat} {res : jq_H} {n : Nat} {K42 : Nat → Int32 → Int32 → jq_H → Option (jq_H)} (C : jq_C p s m args c cX11_countAll 8 RX11 D ct bs) (hr : meth.sig.returnType = none) (hlk : meth.locks = false) (hK42 : ∀ (u0 : Nat) (u1 : Int32) (u2 : Int32) (h1 : jq_H) (H1 : Heap) (locs1 : List Loc) (ls1 : Array Slot), K42 u0 u1 u2 h1 = some res → jq_X bs D ct s.heap h1 H1 locs1 → lv_has ls1 8 [(0, .ref u0), (1, .int u1), (2, .int u2)] → W p l e rm_X11_countAll s m args below meth c H1 locs1 0 0 (MQ below (jq_Qv bs D ct res) args s rm_X11_countAll.cells rm_X11_countAll.slots (fun q => bs ≤ q)) (F0 m 42 ls1 [])) :
    ∀ (k : Nat) (v0 : Nat) (v1 : Int32) (v2 : Int32) (v3 : Int32) (h : jq_H) (H : Heap) (locs : List Loc) (ls : Array Slot), X11_countAll_l23 n K42 k v0 v1 v2 v3 h = some res → jq_X bs D ct s.heap h H locs → lv_has ls 8 [(0, .ref v0), (1, .int v1), (2, .int v2), (3, .int v3)] → W p l e rm_X11_countAll s m args below meth c H locs 0 0 (MQ below (jq_Qv bs D ct res) args s rm_X11_countAll.cells rm_X11_countAll.slots (fun q => bs ≤ q)) (F0 m 23 ls []) := by
  intro k
  induction k with
  | zero => intro v0 v1 v2 v3 h H locs ls he; cases (show (none : Option (jq_H)) = some res from he)
  | succ k ih =>
    intro v0 v1 v2 v3 h H locs ls he X hl
    exact TX11_countAll_b23 (n := n) C hr hlk (KB := X11_countAll_l23 n K42 k) ih hK42 X hl he
set_option maxRecDepth 100000 in
set_option maxHeartbeats 4000000 in
theorem TX11_countAll_b21 {p : Program} {l : Launch} {e : Env} {s : State} {m : MethodId} {args : Array Value} {below : List Frame} {meth : Method} {c : Code} {D : va_G} {ct : Nat → ClassId} {bs : Nat} {res : jq_H} {n : Nat} (C : jq_C p s m args c cX11_countAll 8 RX11 D ct bs) (hr : meth.sig.returnType = none) (hlk : meth.locks = false) {v0 : Nat} {v1 : Int32} {v2 : Int32} {h : jq_H} {H : Heap} {locs : List Loc} {ls : Array Slot} (X : jq_X bs D ct s.heap h H locs) (hl : lv_has ls 8 [(0, .ref v0), (1, .int v1), (2, .int v2)]) (he : X11_countAll_b21 n v0 v1 v2 h = some res) :
    W p l e rm_X11_countAll s m args below meth c H locs 0 0 (MQ below (jq_Qv bs D ct res) args s rm_X11_countAll.cells rm_X11_countAll.slots (fun q => bs ≤ q)) (F0 m 21 ls []) := by
  unfold X11_countAll_b21 at he
  refine lv_iconst (v := 0) C.1 C.2.1 dX11_countAll_21 (by decide) ?_
  refine lv_istore_n (lv' := [(3, .int 0), (0, .ref v0), (1, .int v1), (2, .int v2)]) C.1 C.2.1 dX11_countAll_22 rfl hl (by decide) rfl (fun ls hl => ?_)
  exact TX11_countAll_l23 (n := n) C hr hlk (fun w0 w1 w2 hh H locs ls he X hl => by
    exact TX11_countAll_b42 (n := n) C hr hlk X hl he) n _ _ _ _ _ _ _ _ he X (lv_sub hl [1, 2, 3, 0] rfl)
set_option maxRecDepth 100000 in
set_option maxHeartbeats 4000000 in
theorem TX11_countAll_b2 {p : Program} {l : Launch} {e : Env} {s : State} {m : MethodId} {args : Array Value} {below : List Frame} {meth : Method} {c : Code} {D : va_G} {ct : Nat → ClassId} {bs : Nat} {res : jq_H} {n : Nat} {KB : Nat → Int32 → Int32 → Int32 → jq_H → Option (jq_H)} {K21 : Nat → Int32 → Int32 → jq_H → Option (jq_H)} (C : jq_C p s m args c cX11_countAll 8 RX11 D ct bs) (hr : meth.sig.returnType = none) (hlk : meth.locks = false) (hKB : ∀ (u0 : Nat) (u1 : Int32) (u2 : Int32) (u3 : Int32) (h1 : jq_H) (H1 : Heap) (locs1 : List Loc) (ls1 : Array Slot), KB u0 u1 u2 u3 h1 = some res → jq_X bs D ct s.heap h1 H1 locs1 → lv_has ls1 8 [(0, .ref u0), (1, .int u1), (2, .int u2), (3, .int u3)] → W p l e rm_X11_countAll s m args below meth c H1 locs1 0 0 (MQ below (jq_Qv bs D ct res) args s rm_X11_countAll.cells rm_X11_countAll.slots (fun q => bs ≤ q)) (F0 m 2 ls1 [])) (hK21 : ∀ (u0 : Nat) (u1 : Int32) (u2 : Int32) (h1 : jq_H) (H1 : Heap) (locs1 : List Loc) (ls1 : Array Slot), K21 u0 u1 u2 h1 = some res → jq_X bs D ct s.heap h1 H1 locs1 → lv_has ls1 8 [(0, .ref u0), (1, .int u1), (2, .int u2)] → W p l e rm_X11_countAll s m args below meth c H1 locs1 0 0 (MQ below (jq_Qv bs D ct res) args s rm_X11_countAll.cells rm_X11_countAll.slots (fun q => bs ≤ q)) (F0 m 21 ls1 [])) {v0 : Nat} {v1 : Int32} {v2 : Int32} {v3 : Int32} {h : jq_H} {H : Heap} {locs : List Loc} {ls : Array Slot} (X : jq_X bs D ct s.heap h H locs) (hl : lv_has ls 8 [(0, .ref v0), (1, .int v1), (2, .int v2), (3, .int v3)]) (he : X11_countAll_b2 n KB K21 v0 v1 v2 v3 h = some res) :
    W p l e rm_X11_countAll s m args below meth c H locs 0 0 (MQ below (jq_Qv bs D ct res) args s rm_X11_countAll.cells rm_X11_countAll.slots (fun q => bs ≤ q)) (F0 m 2 ls []) := by
  unfold X11_countAll_b2 at he
  refine lv_iload_n C.1 C.2.1 dX11_countAll_2 rfl (lv_at hl 3 rfl) ?_
  refine lv_ldc (v := 32768) C.1 C.2.1 C.2.2.2.1 (C.2.2.2.2.1 _ gw_756) dX11_countAll_3 ?_
  refine lv_icmp_ge (tgt := 21) C.1 C.2.1 dX11_countAll_5 (by decide) (fun hc25 => ?_) (fun hc25 => ?_)
  · have he := jq_t hc25 he
    exact hK21 _ _ _ _ _ _ _ he X (lv_sub hl [0, 1, 2] rfl)
  · have he := jq_n hc25 he
    refine lv_aload_n C.1 C.2.1 dX11_countAll_8 rfl (lv_at hl 0 rfl) ?_
    refine jq_rgR C X fs_X11_66 he dX11_countAll_9 (fun q26 he => ?_)
    refine lv_iload_n C.1 C.2.1 dX11_countAll_12 rfl (lv_at hl 3 rfl) ?_
    refine lv_iconst (v := 0) C.1 C.2.1 dX11_countAll_13 (by decide) ?_
    refine jq_rstI C X he dX11_countAll_14 (fun h27 H locs he X => ?_)
    obtain ⟨x28, hx28, he⟩ := jq_ln he
    refine lv_iinc (v := x28) (lv' := [(3, .int x28), (0, .ref v0), (1, .int v1), (2, .int v2)]) C.1 C.2.1 dX11_countAll_15 hl (k := 3) rfl (by rw [hx28]; rfl) (by decide) rfl (fun ls hl => ?_)
    refine lv_goto (tgt := 2) C.1 C.2.1 dX11_countAll_18 (by decide) ?_
    exact hKB _ _ _ _ _ _ _ _ he X (lv_sub hl [1, 2, 3, 0] rfl)
set_option maxRecDepth 100000 in
set_option maxHeartbeats 4000000 in
theorem TX11_countAll_l2 {p : Program} {l : Launch} {e : Env} {s : State} {m : MethodId} {args : Array Value} {below : List Frame} {meth : Method} {c : Code} {D : va_G} {ct : Nat → ClassId} {bs : Nat} {res : jq_H} {n : Nat} {K21 : Nat → Int32 → Int32 → jq_H → Option (jq_H)} (C : jq_C p s m args c cX11_countAll 8 RX11 D ct bs) (hr : meth.sig.returnType = none) (hlk : meth.locks = false) (hK21 : ∀ (u0 : Nat) (u1 : Int32) (u2 : Int32) (h1 : jq_H) (H1 : Heap) (locs1 : List Loc) (ls1 : Array Slot), K21 u0 u1 u2 h1 = some res → jq_X bs D ct s.heap h1 H1 locs1 → lv_has ls1 8 [(0, .ref u0), (1, .int u1), (2, .int u2)] → W p l e rm_X11_countAll s m args below meth c H1 locs1 0 0 (MQ below (jq_Qv bs D ct res) args s rm_X11_countAll.cells rm_X11_countAll.slots (fun q => bs ≤ q)) (F0 m 21 ls1 [])) :
    ∀ (k : Nat) (v0 : Nat) (v1 : Int32) (v2 : Int32) (v3 : Int32) (h : jq_H) (H : Heap) (locs : List Loc) (ls : Array Slot), X11_countAll_l2 n K21 k v0 v1 v2 v3 h = some res → jq_X bs D ct s.heap h H locs → lv_has ls 8 [(0, .ref v0), (1, .int v1), (2, .int v2), (3, .int v3)] → W p l e rm_X11_countAll s m args below meth c H locs 0 0 (MQ below (jq_Qv bs D ct res) args s rm_X11_countAll.cells rm_X11_countAll.slots (fun q => bs ≤ q)) (F0 m 2 ls []) := by
  intro k
  induction k with
  | zero => intro v0 v1 v2 v3 h H locs ls he; cases (show (none : Option (jq_H)) = some res from he)
  | succ k ih =>
    intro v0 v1 v2 v3 h H locs ls he X hl
    exact TX11_countAll_b2 (n := n) C hr hlk (KB := X11_countAll_l2 n K21 k) ih hK21 X hl he
set_option maxRecDepth 100000 in
set_option maxHeartbeats 4000000 in
theorem M_X11_countAll (l : Launch) (bs : Nat) (D : va_G) (ct : Nat → ClassId) (n : Nat) (h : jq_H) (a : Nat) (p0 : Int32) (p1 : Int32) (res : jq_H) (he : X11_countAll n h a p0 p1 = some res) : jq_M l yX11_countAll cX11_countAll 8 none rm_X11_countAll (jq_P [.ref a, .int p0, .int p1] bs D ct h) (jq_Qv bs D ct res) bs := by
  refine jq_start2 (by decide +kernel) (Nat.le_of_ble_eq_true rfl) ?_
  intro p e s m args below meth c ls H locs C hr hlk hin hl X
  have C : jq_C p s m args c cX11_countAll 8 RX11 D ct bs := C
  have hin : meth.name = "countAll" := hin
  have hl : lv_has ls 8 [(0, .ref a), (1, .int p0), (2, .int p1)] := hl
  unfold X11_countAll at he
  refine lv_iconst (v := 0) C.1 C.2.1 dX11_countAll_0 (by decide) ?_
  refine lv_istore_n (lv' := [(3, .int 0), (0, .ref a), (1, .int p0), (2, .int p1)]) C.1 C.2.1 dX11_countAll_1 rfl hl (by decide) rfl (fun ls hl => ?_)
  exact TX11_countAll_l2 (n := n) C hr hlk (fun w0 w1 w2 hh H locs ls he X hl => by
    exact TX11_countAll_b21 (n := n) C hr hlk X hl he) n _ _ _ _ _ _ _ _ he X (lv_sub hl [1, 2, 3, 0] rfl)
set_option maxRecDepth 100000 in
set_option maxHeartbeats 4000000 in
theorem TX11_best_b78 {p : Program} {l : Launch} {e : Env} {s : State} {m : MethodId} {args : Array Value} {below : List Frame} {meth : Method} {c : Code} {D : va_G} {ct : Nat → ClassId} {bs : Nat} {res : Int32 × jq_H} {n : Nat} (C : jq_C p s m args c cX11_best 5 RX11 D ct bs) (hr : meth.sig.returnType = (some .int)) (hlk : meth.locks = false) {v3 : Int32} {h : jq_H} {H : Heap} {locs : List Loc} {ls : Array Slot} (X : jq_X bs D ct s.heap h H locs) (hl : lv_has ls 5 [(3, .int v3)]) (he : X11_best_b78 n v3 h = some res) :
    W p l e rm_X11_best s m args below meth c H locs 0 0 (MQ below (jq_Qi bs D ct res) args s rm_X11_best.cells rm_X11_best.slots (fun q => bs ≤ q)) (F0 m 78 ls []) := by
  unfold X11_best_b78 at he
  refine lv_iload_n C.1 C.2.1 dX11_best_78 rfl (lv_at hl 0 rfl) ?_
  exact jq_iret C X hr hlk he (by decide) (by decide) dX11_best_79
set_option maxRecDepth 100000 in
set_option maxHeartbeats 4000000 in
theorem TX11_best_b70 {p : Program} {l : Launch} {e : Env} {s : State} {m : MethodId} {args : Array Value} {below : List Frame} {meth : Method} {c : Code} {D : va_G} {ct : Nat → ClassId} {bs : Nat} {res : Int32 × jq_H} {n : Nat} {KB : Nat → Int32 → Int32 → jq_H → Option (Int32 × jq_H)} {K78 : Int32 → jq_H → Option (Int32 × jq_H)} (C : jq_C p s m args c cX11_best 5 RX11 D ct bs) (hr : meth.sig.returnType = (some .int)) (hlk : meth.locks = false) (hKB : ∀ (u0 : Nat) (u3 : Int32) (u4 : Int32) (h1 : jq_H) (H1 : Heap) (locs1 : List Loc) (ls1 : Array Slot), KB u0 u3 u4 h1 = some res → jq_X bs D ct s.heap h1 H1 locs1 → lv_has ls1 5 [(0, .ref u0), (3, .int u3), (4, .int u4)] → W p l e rm_X11_best s m args below meth c H1 locs1 0 0 (MQ below (jq_Qi bs D ct res) args s rm_X11_best.cells rm_X11_best.slots (fun q => bs ≤ q)) (F0 m 24 ls1 [])) (hK78 : ∀ (u3 : Int32) (h1 : jq_H) (H1 : Heap) (locs1 : List Loc) (ls1 : Array Slot), K78 u3 h1 = some res → jq_X bs D ct s.heap h1 H1 locs1 → lv_has ls1 5 [(3, .int u3)] → W p l e rm_X11_best s m args below meth c H1 locs1 0 0 (MQ below (jq_Qi bs D ct res) args s rm_X11_best.cells rm_X11_best.slots (fun q => bs ≤ q)) (F0 m 78 ls1 [])) {v0 : Nat} {v4 : Int32} {s0 : Int32} {s1 : Int32} {h : jq_H} {H : Heap} {locs : List Loc} {ls : Array Slot} (X : jq_X bs D ct s.heap h H locs) (hl : lv_has ls 5 [(0, .ref v0), (4, .int v4)]) (he : X11_best_b70 n KB K78 v0 v4 s0 s1 h = some res) :
    W p l e rm_X11_best s m args below meth c H locs 0 0 (MQ below (jq_Qi bs D ct res) args s rm_X11_best.cells rm_X11_best.slots (fun q => bs ≤ q)) (F0 m 70 ls [.int s1, .int s0]) := by
  unfold X11_best_b70 at he
  refine lv_iadd C.1 C.2.1 dX11_best_70 ?_
  obtain ⟨x1, hx1, he⟩ := jq_ln he
  refine jq_top hx1 ?_
  refine lv_istore_n (lv' := [(3, .int x1), (0, .ref v0), (4, .int v4)]) C.1 C.2.1 dX11_best_71 rfl hl (by decide) rfl (fun ls hl => ?_)
  obtain ⟨x2, hx2, he⟩ := jq_ln he
  refine lv_iinc (v := x2) (lv' := [(4, .int x2), (3, .int x1), (0, .ref v0)]) C.1 C.2.1 dX11_best_72 hl (k := 2) rfl (by rw [hx2]; rfl) (by decide) rfl (fun ls hl => ?_)
  refine lv_goto (tgt := 24) C.1 C.2.1 dX11_best_75 (by decide) ?_
  exact hKB _ _ _ _ _ _ _ he X (lv_sub hl [2, 1, 0] rfl)
set_option maxRecDepth 100000 in
set_option maxHeartbeats 4000000 in
theorem TX11_best_b24 {p : Program} {l : Launch} {e : Env} {s : State} {m : MethodId} {args : Array Value} {below : List Frame} {meth : Method} {c : Code} {D : va_G} {ct : Nat → ClassId} {bs : Nat} {res : Int32 × jq_H} {n : Nat} {KB : Nat → Int32 → Int32 → jq_H → Option (Int32 × jq_H)} {K78 : Int32 → jq_H → Option (Int32 × jq_H)} (C : jq_C p s m args c cX11_best 5 RX11 D ct bs) (hr : meth.sig.returnType = (some .int)) (hlk : meth.locks = false) (hKB : ∀ (u0 : Nat) (u3 : Int32) (u4 : Int32) (h1 : jq_H) (H1 : Heap) (locs1 : List Loc) (ls1 : Array Slot), KB u0 u3 u4 h1 = some res → jq_X bs D ct s.heap h1 H1 locs1 → lv_has ls1 5 [(0, .ref u0), (3, .int u3), (4, .int u4)] → W p l e rm_X11_best s m args below meth c H1 locs1 0 0 (MQ below (jq_Qi bs D ct res) args s rm_X11_best.cells rm_X11_best.slots (fun q => bs ≤ q)) (F0 m 24 ls1 [])) (hK78 : ∀ (u3 : Int32) (h1 : jq_H) (H1 : Heap) (locs1 : List Loc) (ls1 : Array Slot), K78 u3 h1 = some res → jq_X bs D ct s.heap h1 H1 locs1 → lv_has ls1 5 [(3, .int u3)] → W p l e rm_X11_best s m args below meth c H1 locs1 0 0 (MQ below (jq_Qi bs D ct res) args s rm_X11_best.cells rm_X11_best.slots (fun q => bs ≤ q)) (F0 m 78 ls1 [])) {v0 : Nat} {v3 : Int32} {v4 : Int32} {h : jq_H} {H : Heap} {locs : List Loc} {ls : Array Slot} (X : jq_X bs D ct s.heap h H locs) (hl : lv_has ls 5 [(0, .ref v0), (3, .int v3), (4, .int v4)]) (he : X11_best_b24 n KB K78 v0 v3 v4 h = some res) :
    W p l e rm_X11_best s m args below meth c H locs 0 0 (MQ below (jq_Qi bs D ct res) args s rm_X11_best.cells rm_X11_best.slots (fun q => bs ≤ q)) (F0 m 24 ls []) := by
  unfold X11_best_b24 at he
  refine lv_iload C.1 C.2.1 dX11_best_24 (lv_at hl 2 rfl) ?_
  refine lv_ldc (v := 32768) C.1 C.2.1 C.2.2.2.1 (C.2.2.2.2.1 _ gw_756) dX11_best_26 ?_
  refine lv_icmp_ge (tgt := 78) C.1 C.2.1 dX11_best_28 (by decide) (fun hc3 => ?_) (fun hc3 => ?_)
  · have he := jq_t hc3 he
    exact hK78 _ _ _ _ _ he X (lv_sub hl [1] rfl)
  · have he := jq_n hc3 he
    refine lv_iload_n C.1 C.2.1 dX11_best_31 rfl (lv_at hl 1 rfl) ?_
    refine lv_aload_n C.1 C.2.1 dX11_best_32 rfl (lv_at hl 0 rfl) ?_
    refine jq_rgR C X fs_X11_66 he dX11_best_33 (fun q4 he => ?_)
    refine lv_iload C.1 C.2.1 dX11_best_36 (lv_at hl 2 rfl) ?_
    refine jq_rldI C X he dX11_best_38 (fun x5 he => ?_)
    refine lv_aload_n C.1 C.2.1 dX11_best_39 rfl (lv_at hl 0 rfl) ?_
    refine jq_rgR C X fs_X11_66 he dX11_best_40 (fun q6 he => ?_)
    refine lv_iload C.1 C.2.1 dX11_best_43 (lv_at hl 2 rfl) ?_
    refine lv_iconst (v := 1) C.1 C.2.1 dX11_best_45 (by decide) ?_
    refine lv_iadd C.1 C.2.1 dX11_best_46 ?_
    refine jq_rldI C X he dX11_best_47 (fun x7 he => ?_)
    refine lv_icmp_ge (tgt := 61) C.1 C.2.1 dX11_best_48 (by decide) (fun hc8 => ?_) (fun hc8 => ?_)
    · have he := jq_t hc8 he
      refine lv_aload_n C.1 C.2.1 dX11_best_61 rfl (lv_at hl 0 rfl) ?_
      refine jq_rgR C X fs_X11_66 he dX11_best_62 (fun q9 he => ?_)
      refine lv_iload C.1 C.2.1 dX11_best_65 (lv_at hl 2 rfl) ?_
      refine lv_iconst (v := 1) C.1 C.2.1 dX11_best_67 (by decide) ?_
      refine lv_iadd C.1 C.2.1 dX11_best_68 ?_
      refine jq_rldI C X he dX11_best_69 (fun x10 he => ?_)
      exact TX11_best_b70 (n := n) C hr hlk hKB hK78 X (lv_sub hl [0, 2] rfl) he
    · have he := jq_n hc8 he
      refine lv_aload_n C.1 C.2.1 dX11_best_51 rfl (lv_at hl 0 rfl) ?_
      refine jq_rgR C X fs_X11_66 he dX11_best_52 (fun q11 he => ?_)
      refine lv_iload C.1 C.2.1 dX11_best_55 (lv_at hl 2 rfl) ?_
      refine jq_rldI C X he dX11_best_57 (fun x12 he => ?_)
      refine lv_goto (tgt := 70) C.1 C.2.1 dX11_best_58 (by decide) ?_
      exact TX11_best_b70 (n := n) C hr hlk hKB hK78 X (lv_sub hl [0, 2] rfl) he
set_option maxRecDepth 100000 in
set_option maxHeartbeats 4000000 in
theorem TX11_best_l24 {p : Program} {l : Launch} {e : Env} {s : State} {m : MethodId} {args : Array Value} {below : List Frame} {meth : Method} {c : Code} {D : va_G} {ct : Nat → ClassId} {bs : Nat} {res : Int32 × jq_H} {n : Nat} {K78 : Int32 → jq_H → Option (Int32 × jq_H)} (C : jq_C p s m args c cX11_best 5 RX11 D ct bs) (hr : meth.sig.returnType = (some .int)) (hlk : meth.locks = false) (hK78 : ∀ (u3 : Int32) (h1 : jq_H) (H1 : Heap) (locs1 : List Loc) (ls1 : Array Slot), K78 u3 h1 = some res → jq_X bs D ct s.heap h1 H1 locs1 → lv_has ls1 5 [(3, .int u3)] → W p l e rm_X11_best s m args below meth c H1 locs1 0 0 (MQ below (jq_Qi bs D ct res) args s rm_X11_best.cells rm_X11_best.slots (fun q => bs ≤ q)) (F0 m 78 ls1 [])) :
    ∀ (k : Nat) (v0 : Nat) (v3 : Int32) (v4 : Int32) (h : jq_H) (H : Heap) (locs : List Loc) (ls : Array Slot), X11_best_l24 n K78 k v0 v3 v4 h = some res → jq_X bs D ct s.heap h H locs → lv_has ls 5 [(0, .ref v0), (3, .int v3), (4, .int v4)] → W p l e rm_X11_best s m args below meth c H locs 0 0 (MQ below (jq_Qi bs D ct res) args s rm_X11_best.cells rm_X11_best.slots (fun q => bs ≤ q)) (F0 m 24 ls []) := by
  intro k
  induction k with
  | zero => intro v0 v3 v4 h H locs ls he; cases (show (none : Option (Int32 × jq_H)) = some res from he)
  | succ k ih =>
    intro v0 v3 v4 h H locs ls he X hl
    exact TX11_best_b24 (n := n) C hr hlk (KB := X11_best_l24 n K78 k) ih hK78 X hl he
set_option maxRecDepth 100000 in
set_option maxHeartbeats 4000000 in
theorem M_X11_best (l : Launch) (bs : Nat) (D : va_G) (ct : Nat → ClassId) (n : Nat) (h : jq_H) (a : Nat) (p0 : Int32) (p1 : Int32) (res : Int32 × jq_H) (he : X11_best n h a p0 p1 = some res) : jq_M l yX11_best cX11_best 5 (some .int) rm_X11_best (jq_P [.ref a, .int p0, .int p1] bs D ct h) (jq_Qi bs D ct res) bs := by
  refine jq_start2 (by decide +kernel) (Nat.le_of_ble_eq_true rfl) ?_
  intro p e s m args below meth c ls H locs C hr hlk hin hl X
  have C : jq_C p s m args c cX11_best 5 RX11 D ct bs := C
  have hin : meth.name = "best" := hin
  have hl : lv_has ls 5 [(0, .ref a), (1, .int p0), (2, .int p1)] := hl
  unfold X11_best at he
  refine lv_iload_n C.1 C.2.1 dX11_best_0 rfl (lv_at hl 1 rfl) ?_
  refine lv_iconst (v := 0) C.1 C.2.1 dX11_best_1 (by decide) ?_
  refine lv_bipush (v := 8) C.1 C.2.1 dX11_best_2 (by decide) ?_
  obtain ⟨z13, hz13, he⟩ := jq_b he
  refine jq_gi (jq_runS (av := [.int p0, .int 0, .int 8]) C X (M_X11_in l bs D ct n h p0 0 8 _ hz13) mf_X11_in gw_842 (Or.inl gw_841) rfl hl.1 rfl (Nat.le_of_ble_eq_true rfl) ⟨by decide, by decide⟩ ⟨by decide, by decide⟩ dX11_best_4) X (fun H locs X => ?_)
  refine lv_if_ne (tgt := 13) C.1 C.2.1 dX11_best_7 (by decide) (fun hc14 => ?_) (fun hc14 => ?_)
  · have he := jq_n hc14 he
    refine lv_aload_n C.1 C.2.1 dX11_best_13 rfl (lv_at hl 0 rfl) ?_
    refine lv_iload_n C.1 C.2.1 dX11_best_14 rfl (lv_at hl 1 rfl) ?_
    refine lv_iload_n C.1 C.2.1 dX11_best_15 rfl (lv_at hl 2 rfl) ?_
    obtain ⟨z15, hz15, he⟩ := jq_b he
    obtain ⟨hz15c, hz15⟩ := jq_ite hz15
    refine jq_gv (jq_runV (a := a) (av := [.int p0, .int p1]) C X (M_X11_countAll l bs D ct n z13.2 a p0 p1 _ hz15) mf_X11_countAll gw_1001 gs_41 (Or.inl gw_999) rc_X11 hz15c (by decide) rfl hl.1 rfl (Nat.le_of_ble_eq_true rfl) ⟨by decide, by decide⟩ ⟨by decide, by decide⟩ dX11_best_16) X (fun H locs X => ?_)
    refine lv_iconst (v := 0) C.1 C.2.1 dX11_best_19 (by decide) ?_
    refine lv_istore_n (lv' := [(3, .int 0), (0, .ref a), (1, .int p0), (2, .int p1)]) C.1 C.2.1 dX11_best_20 rfl hl (by decide) rfl (fun ls hl => ?_)
    refine lv_iconst (v := 0) C.1 C.2.1 dX11_best_21 (by decide) ?_
    refine lv_istore (lv' := [(4, .int 0), (3, .int 0), (0, .ref a), (1, .int p0), (2, .int p1)]) C.1 C.2.1 dX11_best_22 hl (by decide) rfl (fun ls hl => ?_)
    exact TX11_best_l24 (n := n) C hr hlk (fun w3 hh H locs ls he X hl => by
    exact TX11_best_b78 (n := n) C hr hlk X hl he) n _ _ _ _ _ _ _ he X (lv_sub hl [2, 1, 0] rfl)
  · have he := jq_t hc14 he
    refine lv_bipush (v := (-2)) C.1 C.2.1 dX11_best_10 (by decide) ?_
    exact jq_iret C X hr hlk he (by decide) (by decide) dX11_best_12
set_option maxRecDepth 100000 in
set_option maxHeartbeats 4000000 in
theorem M_X11_isPlace (l : Launch) (bs : Nat) (D : va_G) (ct : Nat → ClassId) (n : Nat) (h : jq_H) (p0 : Int32) (res : Int32 × jq_H) (he : X11_isPlace n h p0 = some res) : jq_M l yX11_isPlace cX11_isPlace 1 (some .boolean) rm_X11_isPlace (jq_P [.int p0] bs D ct h) (jq_Qi bs D ct res) bs := by
  refine jq_start2 (by decide +kernel) (Nat.le_of_ble_eq_true rfl) ?_
  intro p e s m args below meth c ls H locs C hr hlk hin hl X
  have C : jq_C p s m args c cX11_isPlace 1 RX11 D ct bs := C
  have hin : meth.name = "isPlace" := hin
  have hl : lv_has ls 1 [(0, .int p0)] := hl
  unfold X11_isPlace at he
  refine lv_iload_n C.1 C.2.1 dX11_isPlace_0 rfl (lv_at hl 0 rfl) ?_
  refine lv_iconst (v := 0) C.1 C.2.1 dX11_isPlace_1 (by decide) ?_
  refine lv_bipush (v := 63) C.1 C.2.1 dX11_isPlace_2 (by decide) ?_
  obtain ⟨z1, hz1, he⟩ := jq_b he
  refine jq_gi (jq_runS (av := [.int p0, .int 0, .int 63]) C X (M_X11_in l bs D ct n h p0 0 63 _ hz1) mf_X11_in gw_842 (Or.inl gw_841) rfl hl.1 rfl (Nat.le_of_ble_eq_true rfl) ⟨by decide, by decide⟩ ⟨by decide, by decide⟩ dX11_isPlace_4) X (fun H locs X => ?_)
  exact jq_zret C X hr hlk he (by decide) (by decide) dX11_isPlace_7
set_option maxRecDepth 100000 in
set_option maxHeartbeats 4000000 in
theorem TX11_comes_b63 {p : Program} {l : Launch} {e : Env} {s : State} {m : MethodId} {args : Array Value} {below : List Frame} {meth : Method} {c : Code} {D : va_G} {ct : Nat → ClassId} {bs : Nat} {res : jq_H} {n : Nat} (C : jq_C p s m args c cX11_comes 4 RX11 D ct bs) (hr : meth.sig.returnType = none) (hlk : meth.locks = false) {v0 : Nat} {h : jq_H} {H : Heap} {locs : List Loc} {ls : Array Slot} (X : jq_X bs D ct s.heap h H locs) (hl : lv_has ls 4 [(0, .ref v0)]) (he : X11_comes_b63 n v0 h = some res) :
    W p l e rm_X11_comes s m args below meth c H locs 0 0 (MQ below (jq_Qv bs D ct res) args s rm_X11_comes.cells rm_X11_comes.slots (fun q => bs ≤ q)) (F0 m 63 ls []) := by
  unfold X11_comes_b63 at he
  refine lv_aload_n C.1 C.2.1 dX11_comes_63 rfl (lv_at hl 0 rfl) ?_
  refine lv_dup C.1 C.2.1 dX11_comes_64 rfl ?_
  refine jq_rgI C X fs_X11_104 he dX11_comes_65 (fun x1 he => ?_)
  refine lv_iconst (v := 1) C.1 C.2.1 dX11_comes_68 (by decide) ?_
  refine lv_iadd C.1 C.2.1 dX11_comes_69 ?_
  refine jq_rp (ty := .int) C X fs_X11_104 (by decide +kernel) rfl rfl he dX11_comes_70 (fun h2 H locs he X => ?_)
  exact jq_vret C X hr hlk he (by decide) (by decide) dX11_comes_73
set_option maxRecDepth 100000 in
set_option maxHeartbeats 4000000 in
theorem TX11_comes_b23 {p : Program} {l : Launch} {e : Env} {s : State} {m : MethodId} {args : Array Value} {below : List Frame} {meth : Method} {c : Code} {D : va_G} {ct : Nat → ClassId} {bs : Nat} {res : jq_H} {n : Nat} (C : jq_C p s m args c cX11_comes 4 RX11 D ct bs) (hr : meth.sig.returnType = none) (hlk : meth.locks = false) {v0 : Nat} {v1 : Int32} {v2 : Int32} {h : jq_H} {H : Heap} {locs : List Loc} {ls : Array Slot} (X : jq_X bs D ct s.heap h H locs) (hl : lv_has ls 4 [(0, .ref v0), (1, .int v1), (2, .int v2)]) (he : X11_comes_b23 n v0 v1 v2 h = some res) :
    W p l e rm_X11_comes s m args below meth c H locs 0 0 (MQ below (jq_Qv bs D ct res) args s rm_X11_comes.cells rm_X11_comes.slots (fun q => bs ≤ q)) (F0 m 23 ls []) := by
  unfold X11_comes_b23 at he
  refine lv_aload_n C.1 C.2.1 dX11_comes_23 rfl (lv_at hl 0 rfl) ?_
  refine jq_rgI C X fs_X11_101 he dX11_comes_24 (fun x3 he => ?_)
  refine lv_sipush (v := 3000) C.1 C.2.1 dX11_comes_27 (by decide) ?_
  refine lv_icmp_ge (tgt := 63) C.1 C.2.1 dX11_comes_30 (by decide) (fun hc4 => ?_) (fun hc4 => ?_)
  · have he := jq_t hc4 he
    exact TX11_comes_b63 (n := n) C hr hlk X (lv_sub hl [0] rfl) he
  · have he := jq_n hc4 he
    refine lv_aload_n C.1 C.2.1 dX11_comes_33 rfl (lv_at hl 0 rfl) ?_
    refine jq_rgR C X fs_X11_28 he dX11_comes_34 (fun q5 he => ?_)
    refine lv_aload_n C.1 C.2.1 dX11_comes_37 rfl (lv_at hl 0 rfl) ?_
    refine jq_rgI C X fs_X11_101 he dX11_comes_38 (fun x6 he => ?_)
    refine lv_iload_n C.1 C.2.1 dX11_comes_41 rfl (lv_at hl 1 rfl) ?_
    refine jq_rstI C X he dX11_comes_42 (fun h7 H locs he X => ?_)
    refine lv_aload_n C.1 C.2.1 dX11_comes_43 rfl (lv_at hl 0 rfl) ?_
    refine jq_rgR C X fs_X11_31 he dX11_comes_44 (fun q8 he => ?_)
    refine lv_aload_n C.1 C.2.1 dX11_comes_47 rfl (lv_at hl 0 rfl) ?_
    refine jq_rgI C X fs_X11_101 he dX11_comes_48 (fun x9 he => ?_)
    refine lv_iload_n C.1 C.2.1 dX11_comes_51 rfl (lv_at hl 2 rfl) ?_
    refine jq_rstI C X he dX11_comes_52 (fun h10 H locs he X => ?_)
    refine lv_aload_n C.1 C.2.1 dX11_comes_53 rfl (lv_at hl 0 rfl) ?_
    refine lv_dup C.1 C.2.1 dX11_comes_54 rfl ?_
    refine jq_rgI C X fs_X11_101 he dX11_comes_55 (fun x11 he => ?_)
    refine lv_iconst (v := 1) C.1 C.2.1 dX11_comes_58 (by decide) ?_
    refine lv_iadd C.1 C.2.1 dX11_comes_59 ?_
    refine jq_rp (ty := .int) C X fs_X11_101 (by decide +kernel) rfl rfl he dX11_comes_60 (fun h12 H locs he X => ?_)
    exact TX11_comes_b63 (n := n) C hr hlk X (lv_sub hl [0] rfl) he
set_option maxRecDepth 100000 in
set_option maxHeartbeats 4000000 in
theorem TX11_comes_b2 {p : Program} {l : Launch} {e : Env} {s : State} {m : MethodId} {args : Array Value} {below : List Frame} {meth : Method} {c : Code} {D : va_G} {ct : Nat → ClassId} {bs : Nat} {res : jq_H} {n : Nat} {KB : Nat → Int32 → Int32 → Int32 → jq_H → Option (jq_H)} {K23 : Nat → Int32 → Int32 → jq_H → Option (jq_H)} (C : jq_C p s m args c cX11_comes 4 RX11 D ct bs) (hr : meth.sig.returnType = none) (hlk : meth.locks = false) (hKB : ∀ (u0 : Nat) (u1 : Int32) (u2 : Int32) (u3 : Int32) (h1 : jq_H) (H1 : Heap) (locs1 : List Loc) (ls1 : Array Slot), KB u0 u1 u2 u3 h1 = some res → jq_X bs D ct s.heap h1 H1 locs1 → lv_has ls1 4 [(0, .ref u0), (1, .int u1), (2, .int u2), (3, .int u3)] → W p l e rm_X11_comes s m args below meth c H1 locs1 0 0 (MQ below (jq_Qv bs D ct res) args s rm_X11_comes.cells rm_X11_comes.slots (fun q => bs ≤ q)) (F0 m 2 ls1 [])) (hK23 : ∀ (u0 : Nat) (u1 : Int32) (u2 : Int32) (h1 : jq_H) (H1 : Heap) (locs1 : List Loc) (ls1 : Array Slot), K23 u0 u1 u2 h1 = some res → jq_X bs D ct s.heap h1 H1 locs1 → lv_has ls1 4 [(0, .ref u0), (1, .int u1), (2, .int u2)] → W p l e rm_X11_comes s m args below meth c H1 locs1 0 0 (MQ below (jq_Qv bs D ct res) args s rm_X11_comes.cells rm_X11_comes.slots (fun q => bs ≤ q)) (F0 m 23 ls1 [])) {v0 : Nat} {v1 : Int32} {v2 : Int32} {v3 : Int32} {h : jq_H} {H : Heap} {locs : List Loc} {ls : Array Slot} (X : jq_X bs D ct s.heap h H locs) (hl : lv_has ls 4 [(0, .ref v0), (1, .int v1), (2, .int v2), (3, .int v3)]) (he : X11_comes_b2 n KB K23 v0 v1 v2 v3 h = some res) :
    W p l e rm_X11_comes s m args below meth c H locs 0 0 (MQ below (jq_Qv bs D ct res) args s rm_X11_comes.cells rm_X11_comes.slots (fun q => bs ≤ q)) (F0 m 2 ls []) := by
  unfold X11_comes_b2 at he
  refine lv_iload_n C.1 C.2.1 dX11_comes_2 rfl (lv_at hl 3 rfl) ?_
  refine lv_aload_n C.1 C.2.1 dX11_comes_3 rfl (lv_at hl 0 rfl) ?_
  refine jq_rgI C X fs_X11_94 he dX11_comes_4 (fun x13 he => ?_)
  refine lv_icmp_ge (tgt := 23) C.1 C.2.1 dX11_comes_7 (by decide) (fun hc14 => ?_) (fun hc14 => ?_)
  · have he := jq_t hc14 he
    exact hK23 _ _ _ _ _ _ _ he X (lv_sub hl [0, 1, 2] rfl)
  · have he := jq_n hc14 he
    refine lv_aload_n C.1 C.2.1 dX11_comes_10 rfl (lv_at hl 0 rfl) ?_
    refine lv_iload_n C.1 C.2.1 dX11_comes_11 rfl (lv_at hl 3 rfl) ?_
    refine lv_iload_n C.1 C.2.1 dX11_comes_12 rfl (lv_at hl 1 rfl) ?_
    refine lv_iload_n C.1 C.2.1 dX11_comes_13 rfl (lv_at hl 2 rfl) ?_
    obtain ⟨z15, hz15, he⟩ := jq_b he
    obtain ⟨hz15c, hz15⟩ := jq_ite hz15
    refine jq_gv (jq_runV (a := v0) (av := [.int v3, .int v1, .int v2]) C X (M_X11_asks l bs D ct n h v0 v3 v1 v2 _ hz15) mf_X11_asks gw_878 gs_28 (Or.inl gw_876) rc_X11 hz15c (by decide) rfl hl.1 rfl (Nat.le_of_ble_eq_true rfl) ⟨by decide, by decide⟩ ⟨by decide, by decide⟩ dX11_comes_14) X (fun H locs X => ?_)
    obtain ⟨x16, hx16, he⟩ := jq_ln he
    refine lv_iinc (v := x16) (lv' := [(3, .int x16), (0, .ref v0), (1, .int v1), (2, .int v2)]) C.1 C.2.1 dX11_comes_17 hl (k := 3) rfl (by rw [hx16]; rfl) (by decide) rfl (fun ls hl => ?_)
    refine lv_goto (tgt := 2) C.1 C.2.1 dX11_comes_20 (by decide) ?_
    exact hKB _ _ _ _ _ _ _ _ he X (lv_sub hl [1, 2, 3, 0] rfl)
set_option maxRecDepth 100000 in
set_option maxHeartbeats 4000000 in
theorem TX11_comes_l2 {p : Program} {l : Launch} {e : Env} {s : State} {m : MethodId} {args : Array Value} {below : List Frame} {meth : Method} {c : Code} {D : va_G} {ct : Nat → ClassId} {bs : Nat} {res : jq_H} {n : Nat} {K23 : Nat → Int32 → Int32 → jq_H → Option (jq_H)} (C : jq_C p s m args c cX11_comes 4 RX11 D ct bs) (hr : meth.sig.returnType = none) (hlk : meth.locks = false) (hK23 : ∀ (u0 : Nat) (u1 : Int32) (u2 : Int32) (h1 : jq_H) (H1 : Heap) (locs1 : List Loc) (ls1 : Array Slot), K23 u0 u1 u2 h1 = some res → jq_X bs D ct s.heap h1 H1 locs1 → lv_has ls1 4 [(0, .ref u0), (1, .int u1), (2, .int u2)] → W p l e rm_X11_comes s m args below meth c H1 locs1 0 0 (MQ below (jq_Qv bs D ct res) args s rm_X11_comes.cells rm_X11_comes.slots (fun q => bs ≤ q)) (F0 m 23 ls1 [])) :
    ∀ (k : Nat) (v0 : Nat) (v1 : Int32) (v2 : Int32) (v3 : Int32) (h : jq_H) (H : Heap) (locs : List Loc) (ls : Array Slot), X11_comes_l2 n K23 k v0 v1 v2 v3 h = some res → jq_X bs D ct s.heap h H locs → lv_has ls 4 [(0, .ref v0), (1, .int v1), (2, .int v2), (3, .int v3)] → W p l e rm_X11_comes s m args below meth c H locs 0 0 (MQ below (jq_Qv bs D ct res) args s rm_X11_comes.cells rm_X11_comes.slots (fun q => bs ≤ q)) (F0 m 2 ls []) := by
  intro k
  induction k with
  | zero => intro v0 v1 v2 v3 h H locs ls he; cases (show (none : Option (jq_H)) = some res from he)
  | succ k ih =>
    intro v0 v1 v2 v3 h H locs ls he X hl
    exact TX11_comes_b2 (n := n) C hr hlk (KB := X11_comes_l2 n K23 k) ih hK23 X hl he
set_option maxRecDepth 100000 in
set_option maxHeartbeats 4000000 in
theorem M_X11_comes (l : Launch) (bs : Nat) (D : va_G) (ct : Nat → ClassId) (n : Nat) (h : jq_H) (a : Nat) (p0 : Int32) (p1 : Int32) (res : jq_H) (he : X11_comes n h a p0 p1 = some res) : jq_M l yX11_comes cX11_comes 4 none rm_X11_comes (jq_P [.ref a, .int p0, .int p1] bs D ct h) (jq_Qv bs D ct res) bs := by
  refine jq_start2 (by decide +kernel) (Nat.le_of_ble_eq_true rfl) ?_
  intro p e s m args below meth c ls H locs C hr hlk hin hl X
  have C : jq_C p s m args c cX11_comes 4 RX11 D ct bs := C
  have hin : meth.name = "comes" := hin
  have hl : lv_has ls 4 [(0, .ref a), (1, .int p0), (2, .int p1)] := hl
  unfold X11_comes at he
  refine lv_iconst (v := 0) C.1 C.2.1 dX11_comes_0 (by decide) ?_
  refine lv_istore_n (lv' := [(3, .int 0), (0, .ref a), (1, .int p0), (2, .int p1)]) C.1 C.2.1 dX11_comes_1 rfl hl (by decide) rfl (fun ls hl => ?_)
  exact TX11_comes_l2 (n := n) C hr hlk (fun w0 w1 w2 hh H locs ls he X hl => by
    exact TX11_comes_b23 (n := n) C hr hlk X hl he) n _ _ _ _ _ _ _ _ he X (lv_sub hl [1, 2, 3, 0] rfl)
set_option maxRecDepth 100000 in
set_option maxHeartbeats 4000000 in
theorem M_X11_branch (l : Launch) (bs : Nat) (D : va_G) (ct : Nat → ClassId) (n : Nat) (h : jq_H) (a : Nat) (p0 : Int32) (p1 : Int32) (res : Int32 × jq_H) (he : X11_branch n h a p0 p1 = some res) : jq_M l yX11_branch cX11_branch 3 (some .int) rm_X11_branch (jq_P [.ref a, .int p0, .int p1] bs D ct h) (jq_Qi bs D ct res) bs := by
  refine jq_start2 (by decide +kernel) (Nat.le_of_ble_eq_true rfl) ?_
  intro p e s m args below meth c ls H locs C hr hlk hin hl X
  have C : jq_C p s m args c cX11_branch 3 RX11 D ct bs := C
  have hin : meth.name = "branch" := hin
  have hl : lv_has ls 3 [(0, .ref a), (1, .int p0), (2, .int p1)] := hl
  unfold X11_branch at he
  refine lv_iload_n C.1 C.2.1 dX11_branch_0 rfl (lv_at hl 1 rfl) ?_
  obtain ⟨z1, hz1, he⟩ := jq_b he
  refine jq_gi (jq_runS (av := [.int p0]) C X (M_X11_isPlace l bs D ct n h p0 _ hz1) mf_X11_isPlace gw_839 (Or.inl gw_838) rfl hl.1 rfl (Nat.le_of_ble_eq_true rfl) ⟨by decide, by decide⟩ ⟨by decide, by decide⟩ dX11_branch_1) X (fun H locs X => ?_)
  refine lv_if_ne (tgt := 9) C.1 C.2.1 dX11_branch_4 (by decide) (fun hc2 => ?_) (fun hc2 => ?_)
  · have he := jq_n hc2 he
    refine lv_iload_n C.1 C.2.1 dX11_branch_9 rfl (lv_at hl 2 rfl) ?_
    refine lv_iconst (v := 0) C.1 C.2.1 dX11_branch_10 (by decide) ?_
    refine lv_iconst (v := 1) C.1 C.2.1 dX11_branch_11 (by decide) ?_
    obtain ⟨z3, hz3, he⟩ := jq_b he
    refine jq_gi (jq_runS (av := [.int p1, .int 0, .int 1]) C X (M_X11_in l bs D ct n z1.2 p1 0 1 _ hz3) mf_X11_in gw_842 (Or.inl gw_841) rfl hl.1 rfl (Nat.le_of_ble_eq_true rfl) ⟨by decide, by decide⟩ ⟨by decide, by decide⟩ dX11_branch_12) X (fun H locs X => ?_)
    refine lv_if_ne (tgt := 21) C.1 C.2.1 dX11_branch_15 (by decide) (fun hc4 => ?_) (fun hc4 => ?_)
    · have he := jq_n hc4 he
      refine lv_aload_n C.1 C.2.1 dX11_branch_21 rfl (lv_at hl 0 rfl) ?_
      refine lv_iload_n C.1 C.2.1 dX11_branch_22 rfl (lv_at hl 1 rfl) ?_
      refine lv_iload_n C.1 C.2.1 dX11_branch_23 rfl (lv_at hl 2 rfl) ?_
      obtain ⟨z5, hz5, he⟩ := jq_b he
      obtain ⟨hz5c, hz5⟩ := jq_ite hz5
      refine jq_gv (jq_runV (a := a) (av := [.int p0, .int p1]) C X (M_X11_comes l bs D ct n z3.2 a p0 p1 _ hz5) mf_X11_comes gw_874 gs_27 (Or.inl gw_872) rc_X11 hz5c (by decide) rfl hl.1 rfl (Nat.le_of_ble_eq_true rfl) ⟨by decide, by decide⟩ ⟨by decide, by decide⟩ dX11_branch_24) X (fun H locs X => ?_)
      refine lv_aload_n C.1 C.2.1 dX11_branch_27 rfl (lv_at hl 0 rfl) ?_
      refine jq_rgI C X fs_X11_104 he dX11_branch_28 (fun x6 he => ?_)
      exact jq_iret C X hr hlk he (by decide) (by decide) dX11_branch_31
    · have he := jq_t hc4 he
      refine lv_bipush (v := (-2)) C.1 C.2.1 dX11_branch_18 (by decide) ?_
      exact jq_iret C X hr hlk he (by decide) (by decide) dX11_branch_20
  · have he := jq_t hc2 he
    refine lv_iconst (v := (-1)) C.1 C.2.1 dX11_branch_7 (by decide) ?_
    exact jq_iret C X hr hlk he (by decide) (by decide) dX11_branch_8
set_option maxRecDepth 100000 in
set_option maxHeartbeats 4000000 in
theorem TX11_clashes_b39 {p : Program} {l : Launch} {e : Env} {s : State} {m : MethodId} {args : Array Value} {below : List Frame} {meth : Method} {c : Code} {D : va_G} {ct : Nat → ClassId} {bs : Nat} {res : Int32 × jq_H} {n : Nat} (C : jq_C p s m args c cX11_clashes 2 RX11 D ct bs) (hr : meth.sig.returnType = (some .int)) (hlk : meth.locks = false) {s0 : Int32} {h : jq_H} {H : Heap} {locs : List Loc} {ls : Array Slot} (X : jq_X bs D ct s.heap h H locs) (hl : lv_has ls 2 []) (he : X11_clashes_b39 n s0 h = some res) :
    W p l e rm_X11_clashes s m args below meth c H locs 0 0 (MQ below (jq_Qi bs D ct res) args s rm_X11_clashes.cells rm_X11_clashes.slots (fun q => bs ≤ q)) (F0 m 39 ls [.int s0]) := by
  unfold X11_clashes_b39 at he
  exact jq_iret C X hr hlk he (by decide) (by decide) dX11_clashes_39
set_option maxRecDepth 100000 in
set_option maxHeartbeats 4000000 in
theorem M_X11_clashes (l : Launch) (bs : Nat) (D : va_G) (ct : Nat → ClassId) (n : Nat) (h : jq_H) (a : Nat) (p0 : Int32) (res : Int32 × jq_H) (he : X11_clashes n h a p0 = some res) : jq_M l yX11_clashes cX11_clashes 2 (some .int) rm_X11_clashes (jq_P [.ref a, .int p0] bs D ct h) (jq_Qi bs D ct res) bs := by
  refine jq_start2 (by decide +kernel) (Nat.le_of_ble_eq_true rfl) ?_
  intro p e s m args below meth c ls H locs C hr hlk hin hl X
  have C : jq_C p s m args c cX11_clashes 2 RX11 D ct bs := C
  have hin : meth.name = "clashes" := hin
  have hl : lv_has ls 2 [(0, .ref a), (1, .int p0)] := hl
  unfold X11_clashes at he
  refine lv_aload_n C.1 C.2.1 dX11_clashes_0 rfl (lv_at hl 0 rfl) ?_
  refine lv_iload_n C.1 C.2.1 dX11_clashes_1 rfl (lv_at hl 1 rfl) ?_
  obtain ⟨z1, hz1, he⟩ := jq_b he
  obtain ⟨hz1c, hz1⟩ := jq_ite hz1
  refine jq_gi (jq_runV (a := a) (av := [.int p0]) C X (M_X11_isGuesser l bs D ct n h a p0 _ hz1) mf_X11_isGuesser gw_930 gs_37 (Or.inl gw_928) rc_X11 hz1c (by decide) rfl hl.1 rfl (Nat.le_of_ble_eq_true rfl) ⟨by decide, by decide⟩ ⟨by decide, by decide⟩ dX11_clashes_2) X (fun H locs X => ?_)
  refine lv_if_ne (tgt := 12) C.1 C.2.1 dX11_clashes_5 (by decide) (fun hc2 => ?_) (fun hc2 => ?_)
  · have he := jq_n hc2 he
    refine lv_aload_n C.1 C.2.1 dX11_clashes_12 rfl (lv_at hl 0 rfl) ?_
    refine lv_iload_n C.1 C.2.1 dX11_clashes_13 rfl (lv_at hl 1 rfl) ?_
    obtain ⟨z3, hz3, he⟩ := jq_b he
    obtain ⟨hz3c, hz3⟩ := jq_ite hz3
    refine jq_gi (jq_runV (a := a) (av := [.int p0]) C X (M_X11_clashes1 l bs D ct n z1.2 a p0 _ hz3) mf_X11_clashes1 gw_882 gs_29 (Or.inl gw_880) rc_X11 hz3c (by decide) rfl hl.1 rfl (Nat.le_of_ble_eq_true rfl) ⟨by decide, by decide⟩ ⟨by decide, by decide⟩ dX11_clashes_14) X (fun H locs X => ?_)
    refine lv_if_eq (tgt := 37) C.1 C.2.1 dX11_clashes_17 (by decide) (fun hc4 => ?_) (fun hc4 => ?_)
    · have he := jq_t hc4 he
      refine lv_bipush (v := (-5)) C.1 C.2.1 dX11_clashes_37 (by decide) ?_
      exact TX11_clashes_b39 (n := n) C hr hlk X (lv_sub hl [] rfl) he
    · have he := jq_n hc4 he
      refine lv_aload_n C.1 C.2.1 dX11_clashes_20 rfl (lv_at hl 0 rfl) ?_
      refine jq_rgR C X fs_X11_49 he dX11_clashes_21 (fun q5 he => ?_)
      refine lv_sipush (v := 812) C.1 C.2.1 dX11_clashes_24 (by decide) ?_
      refine lv_iload_n C.1 C.2.1 dX11_clashes_27 rfl (lv_at hl 1 rfl) ?_
      refine lv_imul C.1 C.2.1 dX11_clashes_28 ?_
      refine lv_sipush (v := 810) C.1 C.2.1 dX11_clashes_29 (by decide) ?_
      refine lv_iadd C.1 C.2.1 dX11_clashes_32 ?_
      refine jq_rldI C X he dX11_clashes_33 (fun x6 he => ?_)
      refine lv_goto (tgt := 39) C.1 C.2.1 dX11_clashes_34 (by decide) ?_
      exact TX11_clashes_b39 (n := n) C hr hlk X (lv_sub hl [] rfl) he
  · have he := jq_t hc2 he
    refine lv_iconst (v := (-1)) C.1 C.2.1 dX11_clashes_8 (by decide) ?_
    refine lv_goto (tgt := 39) C.1 C.2.1 dX11_clashes_9 (by decide) ?_
    exact TX11_clashes_b39 (n := n) C hr hlk X (lv_sub hl [] rfl) he
set_option maxRecDepth 100000 in
set_option maxHeartbeats 4000000 in
theorem M_X11_data (l : Launch) (bs : Nat) (D : va_G) (ct : Nat → ClassId) (n : Nat) (h : jq_H) (a : Nat) (p0 : Int32) (p1 : Int32) (res : Int32 × jq_H) (he : X11_data n h a p0 p1 = some res) : jq_M l yX11_data cX11_data 3 (some .int) rm_X11_data (jq_P [.ref a, .int p0, .int p1] bs D ct h) (jq_Qi bs D ct res) bs := by
  refine jq_start2 (by decide +kernel) (Nat.le_of_ble_eq_true rfl) ?_
  intro p e s m args below meth c ls H locs C hr hlk hin hl X
  have C : jq_C p s m args c cX11_data 3 RX11 D ct bs := C
  have hin : meth.name = "data" := hin
  have hl : lv_has ls 3 [(0, .ref a), (1, .int p0), (2, .int p1)] := hl
  unfold X11_data at he
  refine lv_iload_n C.1 C.2.1 dX11_data_0 rfl (lv_at hl 1 rfl) ?_
  refine lv_iconst (v := 0) C.1 C.2.1 dX11_data_1 (by decide) ?_
  refine lv_bipush (v := 31) C.1 C.2.1 dX11_data_2 (by decide) ?_
  obtain ⟨z1, hz1, he⟩ := jq_b he
  refine jq_gi (jq_runS (av := [.int p0, .int 0, .int 31]) C X (M_X11_in l bs D ct n h p0 0 31 _ hz1) mf_X11_in gw_842 (Or.inl gw_841) rfl hl.1 rfl (Nat.le_of_ble_eq_true rfl) ⟨by decide, by decide⟩ ⟨by decide, by decide⟩ dX11_data_4) X (fun H locs X => ?_)
  refine lv_if_ne (tgt := 13) C.1 C.2.1 dX11_data_7 (by decide) (fun hc2 => ?_) (fun hc2 => ?_)
  · have he := jq_n hc2 he
    refine lv_aload_n C.1 C.2.1 dX11_data_13 rfl (lv_at hl 0 rfl) ?_
    refine jq_rgR C X fs_X11_25 he dX11_data_14 (fun q3 he => ?_)
    refine lv_iload_n C.1 C.2.1 dX11_data_17 rfl (lv_at hl 1 rfl) ?_
    refine lv_iload_n C.1 C.2.1 dX11_data_18 rfl (lv_at hl 2 rfl) ?_
    refine jq_rstI C X he dX11_data_19 (fun h4 H locs he X => ?_)
    refine lv_iconst (v := 1) C.1 C.2.1 dX11_data_20 (by decide) ?_
    exact jq_iret C X hr hlk he (by decide) (by decide) dX11_data_21
  · have he := jq_t hc2 he
    refine lv_bipush (v := (-2)) C.1 C.2.1 dX11_data_10 (by decide) ?_
    exact jq_iret C X hr hlk he (by decide) (by decide) dX11_data_12
set_option maxRecDepth 100000 in
set_option maxHeartbeats 4000000 in
theorem M_X11_empty (l : Launch) (bs : Nat) (D : va_G) (ct : Nat → ClassId) (n : Nat) (h : jq_H) (a : Nat) (res : Int32 × jq_H) (he : X11_empty n h a = some res) : jq_M l yX11_empty cX11_empty 2 (some .int) rm_X11_empty (jq_P [.ref a] bs D ct h) (jq_Qi bs D ct res) bs := by
  refine jq_start2 (by decide +kernel) (Nat.le_of_ble_eq_true rfl) ?_
  intro p e s m args below meth c ls H locs C hr hlk hin hl X
  have C : jq_C p s m args c cX11_empty 2 RX11 D ct bs := C
  have hin : meth.name = "empty" := hin
  have hl : lv_has ls 2 [(0, .ref a)] := hl
  unfold X11_empty at he
  refine lv_aload_n C.1 C.2.1 dX11_empty_0 rfl (lv_at hl 0 rfl) ?_
  refine jq_rgI C X fs_X11_101 he dX11_empty_1 (fun x1 he => ?_)
  refine lv_istore_n (lv' := [(1, .int x1), (0, .ref a)]) C.1 C.2.1 dX11_empty_4 rfl hl (by decide) rfl (fun ls hl => ?_)
  refine lv_aload_n C.1 C.2.1 dX11_empty_5 rfl (lv_at hl 1 rfl) ?_
  refine lv_iconst (v := 0) C.1 C.2.1 dX11_empty_6 (by decide) ?_
  refine jq_rp (ty := .int) C X fs_X11_101 (by decide +kernel) rfl rfl he dX11_empty_7 (fun h2 H locs he X => ?_)
  refine lv_iload_n C.1 C.2.1 dX11_empty_10 rfl (lv_at hl 0 rfl) ?_
  exact jq_iret C X hr hlk he (by decide) (by decide) dX11_empty_11
