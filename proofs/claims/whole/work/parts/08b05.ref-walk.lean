set_option maxRecDepth 100000 in
set_option maxHeartbeats 4000000 in
theorem TX11_fits_b183 {p : Program} {l : Launch} {e : Env} {s : State} {m : MethodId} {args : Array Value} {below : List Frame} {meth : Method} {c : Code} {D : va_G} {ct : Nat → ClassId} {bs : Nat} {res : Int32 × jq_H} {n : Nat} (C : jq_C p s m args c cX11_fits 4 RX11 D ct bs) (hr : meth.sig.returnType = (some .boolean)) (hlk : meth.locks = false) {s0 : Int32} {h : jq_H} {H : Heap} {locs : List Loc} {ls : Array Slot} (X : jq_X bs D ct s.heap h H locs) (hl : lv_has ls 4 []) (he : X11_fits_b183 n s0 h = some res) :
    W p l e rm_X11_fits s m args below meth c H locs 0 0 (MQ below (jq_Qi bs D ct res) args s rm_X11_fits.cells rm_X11_fits.slots (fun q => bs ≤ q)) (F0 m 183 ls [.int s0]) := by
  unfold X11_fits_b183 at he
  exact jq_zret C X hr hlk he (by decide) (by decide) dX11_fits_183
set_option maxRecDepth 100000 in
set_option maxHeartbeats 4000000 in
theorem TX11_fits_b182 {p : Program} {l : Launch} {e : Env} {s : State} {m : MethodId} {args : Array Value} {below : List Frame} {meth : Method} {c : Code} {D : va_G} {ct : Nat → ClassId} {bs : Nat} {res : Int32 × jq_H} {n : Nat} (C : jq_C p s m args c cX11_fits 4 RX11 D ct bs) (hr : meth.sig.returnType = (some .boolean)) (hlk : meth.locks = false) {h : jq_H} {H : Heap} {locs : List Loc} {ls : Array Slot} (X : jq_X bs D ct s.heap h H locs) (hl : lv_has ls 4 []) (he : X11_fits_b182 n h = some res) :
    W p l e rm_X11_fits s m args below meth c H locs 0 0 (MQ below (jq_Qi bs D ct res) args s rm_X11_fits.cells rm_X11_fits.slots (fun q => bs ≤ q)) (F0 m 182 ls []) := by
  unfold X11_fits_b182 at he
  refine lv_iconst (v := 0) C.1 C.2.1 dX11_fits_182 (by decide) ?_
  exact TX11_fits_b183 (n := n) C hr hlk X (lv_sub hl [] rfl) he
set_option maxRecDepth 100000 in
set_option maxHeartbeats 4000000 in
theorem TX11_fits_b148 {p : Program} {l : Launch} {e : Env} {s : State} {m : MethodId} {args : Array Value} {below : List Frame} {meth : Method} {c : Code} {D : va_G} {ct : Nat → ClassId} {bs : Nat} {res : Int32 × jq_H} {n : Nat} (C : jq_C p s m args c cX11_fits 4 RX11 D ct bs) (hr : meth.sig.returnType = (some .boolean)) (hlk : meth.locks = false) {s0 : Int32} {h : jq_H} {H : Heap} {locs : List Loc} {ls : Array Slot} (X : jq_X bs D ct s.heap h H locs) (hl : lv_has ls 4 []) (he : X11_fits_b148 n s0 h = some res) :
    W p l e rm_X11_fits s m args below meth c H locs 0 0 (MQ below (jq_Qi bs D ct res) args s rm_X11_fits.cells rm_X11_fits.slots (fun q => bs ≤ q)) (F0 m 148 ls [.int s0]) := by
  unfold X11_fits_b148 at he
  exact jq_zret C X hr hlk he (by decide) (by decide) dX11_fits_148
set_option maxRecDepth 100000 in
set_option maxHeartbeats 4000000 in
theorem TX11_fits_b147 {p : Program} {l : Launch} {e : Env} {s : State} {m : MethodId} {args : Array Value} {below : List Frame} {meth : Method} {c : Code} {D : va_G} {ct : Nat → ClassId} {bs : Nat} {res : Int32 × jq_H} {n : Nat} (C : jq_C p s m args c cX11_fits 4 RX11 D ct bs) (hr : meth.sig.returnType = (some .boolean)) (hlk : meth.locks = false) {h : jq_H} {H : Heap} {locs : List Loc} {ls : Array Slot} (X : jq_X bs D ct s.heap h H locs) (hl : lv_has ls 4 []) (he : X11_fits_b147 n h = some res) :
    W p l e rm_X11_fits s m args below meth c H locs 0 0 (MQ below (jq_Qi bs D ct res) args s rm_X11_fits.cells rm_X11_fits.slots (fun q => bs ≤ q)) (F0 m 147 ls []) := by
  unfold X11_fits_b147 at he
  refine lv_iconst (v := 0) C.1 C.2.1 dX11_fits_147 (by decide) ?_
  exact TX11_fits_b148 (n := n) C hr hlk X (lv_sub hl [] rfl) he
set_option maxRecDepth 100000 in
set_option maxHeartbeats 4000000 in
theorem TX11_fits_b123 {p : Program} {l : Launch} {e : Env} {s : State} {m : MethodId} {args : Array Value} {below : List Frame} {meth : Method} {c : Code} {D : va_G} {ct : Nat → ClassId} {bs : Nat} {res : Int32 × jq_H} {n : Nat} (C : jq_C p s m args c cX11_fits 4 RX11 D ct bs) (hr : meth.sig.returnType = (some .boolean)) (hlk : meth.locks = false) {s0 : Int32} {h : jq_H} {H : Heap} {locs : List Loc} {ls : Array Slot} (X : jq_X bs D ct s.heap h H locs) (hl : lv_has ls 4 []) (he : X11_fits_b123 n s0 h = some res) :
    W p l e rm_X11_fits s m args below meth c H locs 0 0 (MQ below (jq_Qi bs D ct res) args s rm_X11_fits.cells rm_X11_fits.slots (fun q => bs ≤ q)) (F0 m 123 ls [.int s0]) := by
  unfold X11_fits_b123 at he
  exact jq_zret C X hr hlk he (by decide) (by decide) dX11_fits_123
set_option maxRecDepth 100000 in
set_option maxHeartbeats 4000000 in
theorem TX11_fits_b122 {p : Program} {l : Launch} {e : Env} {s : State} {m : MethodId} {args : Array Value} {below : List Frame} {meth : Method} {c : Code} {D : va_G} {ct : Nat → ClassId} {bs : Nat} {res : Int32 × jq_H} {n : Nat} (C : jq_C p s m args c cX11_fits 4 RX11 D ct bs) (hr : meth.sig.returnType = (some .boolean)) (hlk : meth.locks = false) {h : jq_H} {H : Heap} {locs : List Loc} {ls : Array Slot} (X : jq_X bs D ct s.heap h H locs) (hl : lv_has ls 4 []) (he : X11_fits_b122 n h = some res) :
    W p l e rm_X11_fits s m args below meth c H locs 0 0 (MQ below (jq_Qi bs D ct res) args s rm_X11_fits.cells rm_X11_fits.slots (fun q => bs ≤ q)) (F0 m 122 ls []) := by
  unfold X11_fits_b122 at he
  refine lv_iconst (v := 0) C.1 C.2.1 dX11_fits_122 (by decide) ?_
  exact TX11_fits_b123 (n := n) C hr hlk X (lv_sub hl [] rfl) he
set_option maxRecDepth 100000 in
set_option maxHeartbeats 4000000 in
theorem TX11_fits_b88 {p : Program} {l : Launch} {e : Env} {s : State} {m : MethodId} {args : Array Value} {below : List Frame} {meth : Method} {c : Code} {D : va_G} {ct : Nat → ClassId} {bs : Nat} {res : Int32 × jq_H} {n : Nat} (C : jq_C p s m args c cX11_fits 4 RX11 D ct bs) (hr : meth.sig.returnType = (some .boolean)) (hlk : meth.locks = false) {s0 : Int32} {h : jq_H} {H : Heap} {locs : List Loc} {ls : Array Slot} (X : jq_X bs D ct s.heap h H locs) (hl : lv_has ls 4 []) (he : X11_fits_b88 n s0 h = some res) :
    W p l e rm_X11_fits s m args below meth c H locs 0 0 (MQ below (jq_Qi bs D ct res) args s rm_X11_fits.cells rm_X11_fits.slots (fun q => bs ≤ q)) (F0 m 88 ls [.int s0]) := by
  unfold X11_fits_b88 at he
  exact jq_zret C X hr hlk he (by decide) (by decide) dX11_fits_88
set_option maxRecDepth 100000 in
set_option maxHeartbeats 4000000 in
theorem TX11_fits_b87 {p : Program} {l : Launch} {e : Env} {s : State} {m : MethodId} {args : Array Value} {below : List Frame} {meth : Method} {c : Code} {D : va_G} {ct : Nat → ClassId} {bs : Nat} {res : Int32 × jq_H} {n : Nat} (C : jq_C p s m args c cX11_fits 4 RX11 D ct bs) (hr : meth.sig.returnType = (some .boolean)) (hlk : meth.locks = false) {h : jq_H} {H : Heap} {locs : List Loc} {ls : Array Slot} (X : jq_X bs D ct s.heap h H locs) (hl : lv_has ls 4 []) (he : X11_fits_b87 n h = some res) :
    W p l e rm_X11_fits s m args below meth c H locs 0 0 (MQ below (jq_Qi bs D ct res) args s rm_X11_fits.cells rm_X11_fits.slots (fun q => bs ≤ q)) (F0 m 87 ls []) := by
  unfold X11_fits_b87 at he
  refine lv_iconst (v := 0) C.1 C.2.1 dX11_fits_87 (by decide) ?_
  exact TX11_fits_b88 (n := n) C hr hlk X (lv_sub hl [] rfl) he
set_option maxRecDepth 100000 in
set_option maxHeartbeats 4000000 in
theorem M_X11_fits (l : Launch) (bs : Nat) (D : va_G) (ct : Nat → ClassId) (n : Nat) (h : jq_H) (p0 : Int32) (p1 : Int32) (p2 : Int32) (p3 : Int32) (res : Int32 × jq_H) (he : X11_fits n h p0 p1 p2 p3 = some res) : jq_M l yX11_fits cX11_fits 4 (some .boolean) rm_X11_fits (jq_P [.int p0, .int p1, .int p2, .int p3] bs D ct h) (jq_Qi bs D ct res) bs := by
  refine jq_start2 (by decide +kernel) (Nat.le_of_ble_eq_true rfl) ?_
  intro p e s m args below meth c ls H locs C hr hlk hin hl X
  have C : jq_C p s m args c cX11_fits 4 RX11 D ct bs := C
  have hin : meth.name = "fits" := hin
  have hl : lv_has ls 4 [(0, .int p0), (1, .int p1), (2, .int p2), (3, .int p3)] := hl
  unfold X11_fits at he
  refine lv_iload_n C.1 C.2.1 dX11_fits_0 rfl (lv_at hl 0 rfl) ?_
  by_cases hc2 : p0 = 0
  · have he := jq_t hc2 he
    refine lv_tableIn (tgt := 48) C.1 C.2.1 dX11_fits_1 (by rw [hc2]; decide) (by rw [hc2]; decide) (by rw [hc2]; rfl) (by decide) ?_
    refine lv_iload_n C.1 C.2.1 dX11_fits_48 rfl (lv_at hl 1 rfl) ?_
    refine lv_iconst (v := 0) C.1 C.2.1 dX11_fits_49 (by decide) ?_
    refine lv_iconst (v := 2) C.1 C.2.1 dX11_fits_50 (by decide) ?_
    obtain ⟨z1, hz1, he⟩ := jq_b he
    refine jq_gi (jq_runS (av := [.int p1, .int 0, .int 2]) C X (M_X11_in l bs D ct n h p1 0 2 _ hz1) mf_X11_in gw_842 (Or.inl gw_841) rfl hl.1 rfl (Nat.le_of_ble_eq_true rfl) ⟨by decide, by decide⟩ ⟨by decide, by decide⟩ dX11_fits_51) X (fun H locs X => ?_)
    exact jq_zret C X hr hlk he (by decide) (by decide) dX11_fits_54
  have he := jq_n hc2 he
  by_cases hc4 : p0 = 1
  · have he := jq_t hc4 he
    refine lv_tableIn (tgt := 55) C.1 C.2.1 dX11_fits_1 (by rw [hc4]; decide) (by rw [hc4]; decide) (by rw [hc4]; rfl) (by decide) ?_
    refine lv_iload_n C.1 C.2.1 dX11_fits_55 rfl (lv_at hl 1 rfl) ?_
    refine lv_iconst (v := 0) C.1 C.2.1 dX11_fits_56 (by decide) ?_
    refine lv_bipush (v := 6) C.1 C.2.1 dX11_fits_57 (by decide) ?_
    obtain ⟨z3, hz3, he⟩ := jq_b he
    refine jq_gi (jq_runS (av := [.int p1, .int 0, .int 6]) C X (M_X11_in l bs D ct n h p1 0 6 _ hz3) mf_X11_in gw_842 (Or.inl gw_841) rfl hl.1 rfl (Nat.le_of_ble_eq_true rfl) ⟨by decide, by decide⟩ ⟨by decide, by decide⟩ dX11_fits_59) X (fun H locs X => ?_)
    exact jq_zret C X hr hlk he (by decide) (by decide) dX11_fits_62
  have he := jq_n hc4 he
  by_cases hc9 : p0 = 2
  · have he := jq_t hc9 he
    refine lv_tableIn (tgt := 63) C.1 C.2.1 dX11_fits_1 (by rw [hc9]; decide) (by rw [hc9]; decide) (by rw [hc9]; rfl) (by decide) ?_
    refine lv_iload_n C.1 C.2.1 dX11_fits_63 rfl (lv_at hl 1 rfl) ?_
    refine lv_iconst (v := 0) C.1 C.2.1 dX11_fits_64 (by decide) ?_
    refine lv_bipush (v := 8) C.1 C.2.1 dX11_fits_65 (by decide) ?_
    obtain ⟨z5, hz5, he⟩ := jq_b he
    refine jq_gi (jq_runS (av := [.int p1, .int 0, .int 8]) C X (M_X11_in l bs D ct n h p1 0 8 _ hz5) mf_X11_in gw_842 (Or.inl gw_841) rfl hl.1 rfl (Nat.le_of_ble_eq_true rfl) ⟨by decide, by decide⟩ ⟨by decide, by decide⟩ dX11_fits_67) X (fun H locs X => ?_)
    refine lv_if_eq (tgt := 87) C.1 C.2.1 dX11_fits_70 (by decide) (fun hc6 => ?_) (fun hc6 => ?_)
    · have he := jq_t hc6 he
      exact TX11_fits_b87 (n := n) C hr hlk X (lv_sub hl [] rfl) he
    · have he := jq_n hc6 he
      refine lv_iload_n C.1 C.2.1 dX11_fits_73 rfl (lv_at hl 2 rfl) ?_
      refine lv_iconst (v := 0) C.1 C.2.1 dX11_fits_74 (by decide) ?_
      refine lv_bipush (v := 8) C.1 C.2.1 dX11_fits_75 (by decide) ?_
      obtain ⟨z7, hz7, he⟩ := jq_b he
      refine jq_gi (jq_runS (av := [.int p2, .int 0, .int 8]) C X (M_X11_in l bs D ct n z5.2 p2 0 8 _ hz7) mf_X11_in gw_842 (Or.inl gw_841) rfl hl.1 rfl (Nat.le_of_ble_eq_true rfl) ⟨by decide, by decide⟩ ⟨by decide, by decide⟩ dX11_fits_77) X (fun H locs X => ?_)
      refine lv_if_eq (tgt := 87) C.1 C.2.1 dX11_fits_80 (by decide) (fun hc8 => ?_) (fun hc8 => ?_)
      · have he := jq_t hc8 he
        exact TX11_fits_b87 (n := n) C hr hlk X (lv_sub hl [] rfl) he
      · have he := jq_n hc8 he
        refine lv_iconst (v := 1) C.1 C.2.1 dX11_fits_83 (by decide) ?_
        refine lv_goto (tgt := 88) C.1 C.2.1 dX11_fits_84 (by decide) ?_
        exact TX11_fits_b88 (n := n) C hr hlk X (lv_sub hl [] rfl) he
  have he := jq_n hc9 he
  by_cases hc16 : p0 = 3
  · have he := jq_t hc16 he
    refine lv_tableIn (tgt := 89) C.1 C.2.1 dX11_fits_1 (by rw [hc16]; decide) (by rw [hc16]; decide) (by rw [hc16]; rfl) (by decide) ?_
    refine lv_iload_n C.1 C.2.1 dX11_fits_89 rfl (lv_at hl 1 rfl) ?_
    refine lv_iconst (v := 0) C.1 C.2.1 dX11_fits_90 (by decide) ?_
    refine lv_bipush (v := 8) C.1 C.2.1 dX11_fits_91 (by decide) ?_
    obtain ⟨z10, hz10, he⟩ := jq_b he
    refine jq_gi (jq_runS (av := [.int p1, .int 0, .int 8]) C X (M_X11_in l bs D ct n h p1 0 8 _ hz10) mf_X11_in gw_842 (Or.inl gw_841) rfl hl.1 rfl (Nat.le_of_ble_eq_true rfl) ⟨by decide, by decide⟩ ⟨by decide, by decide⟩ dX11_fits_93) X (fun H locs X => ?_)
    refine lv_if_eq (tgt := 122) C.1 C.2.1 dX11_fits_96 (by decide) (fun hc11 => ?_) (fun hc11 => ?_)
    · have he := jq_t hc11 he
      exact TX11_fits_b122 (n := n) C hr hlk X (lv_sub hl [] rfl) he
    · have he := jq_n hc11 he
      refine lv_iload_n C.1 C.2.1 dX11_fits_99 rfl (lv_at hl 2 rfl) ?_
      refine lv_iconst (v := 0) C.1 C.2.1 dX11_fits_100 (by decide) ?_
      refine lv_bipush (v := 8) C.1 C.2.1 dX11_fits_101 (by decide) ?_
      obtain ⟨z12, hz12, he⟩ := jq_b he
      refine jq_gi (jq_runS (av := [.int p2, .int 0, .int 8]) C X (M_X11_in l bs D ct n z10.2 p2 0 8 _ hz12) mf_X11_in gw_842 (Or.inl gw_841) rfl hl.1 rfl (Nat.le_of_ble_eq_true rfl) ⟨by decide, by decide⟩ ⟨by decide, by decide⟩ dX11_fits_103) X (fun H locs X => ?_)
      refine lv_if_eq (tgt := 122) C.1 C.2.1 dX11_fits_106 (by decide) (fun hc13 => ?_) (fun hc13 => ?_)
      · have he := jq_t hc13 he
        exact TX11_fits_b122 (n := n) C hr hlk X (lv_sub hl [] rfl) he
      · have he := jq_n hc13 he
        refine lv_iload_n C.1 C.2.1 dX11_fits_109 rfl (lv_at hl 3 rfl) ?_
        refine lv_iconst (v := 0) C.1 C.2.1 dX11_fits_110 (by decide) ?_
        refine lv_iconst (v := 1) C.1 C.2.1 dX11_fits_111 (by decide) ?_
        obtain ⟨z14, hz14, he⟩ := jq_b he
        refine jq_gi (jq_runS (av := [.int p3, .int 0, .int 1]) C X (M_X11_in l bs D ct n z12.2 p3 0 1 _ hz14) mf_X11_in gw_842 (Or.inl gw_841) rfl hl.1 rfl (Nat.le_of_ble_eq_true rfl) ⟨by decide, by decide⟩ ⟨by decide, by decide⟩ dX11_fits_112) X (fun H locs X => ?_)
        refine lv_if_eq (tgt := 122) C.1 C.2.1 dX11_fits_115 (by decide) (fun hc15 => ?_) (fun hc15 => ?_)
        · have he := jq_t hc15 he
          exact TX11_fits_b122 (n := n) C hr hlk X (lv_sub hl [] rfl) he
        · have he := jq_n hc15 he
          refine lv_iconst (v := 1) C.1 C.2.1 dX11_fits_118 (by decide) ?_
          refine lv_goto (tgt := 123) C.1 C.2.1 dX11_fits_119 (by decide) ?_
          exact TX11_fits_b123 (n := n) C hr hlk X (lv_sub hl [] rfl) he
  have he := jq_n hc16 he
  by_cases hc21 : p0 = 4
  · have he := jq_t hc21 he
    refine lv_tableIn (tgt := 124) C.1 C.2.1 dX11_fits_1 (by rw [hc21]; decide) (by rw [hc21]; decide) (by rw [hc21]; rfl) (by decide) ?_
    refine lv_iload_n C.1 C.2.1 dX11_fits_124 rfl (lv_at hl 1 rfl) ?_
    refine lv_iconst (v := 1) C.1 C.2.1 dX11_fits_125 (by decide) ?_
    refine lv_bipush (v := 7) C.1 C.2.1 dX11_fits_126 (by decide) ?_
    obtain ⟨z17, hz17, he⟩ := jq_b he
    refine jq_gi (jq_runS (av := [.int p1, .int 1, .int 7]) C X (M_X11_in l bs D ct n h p1 1 7 _ hz17) mf_X11_in gw_842 (Or.inl gw_841) rfl hl.1 rfl (Nat.le_of_ble_eq_true rfl) ⟨by decide, by decide⟩ ⟨by decide, by decide⟩ dX11_fits_128) X (fun H locs X => ?_)
    refine lv_if_eq (tgt := 147) C.1 C.2.1 dX11_fits_131 (by decide) (fun hc18 => ?_) (fun hc18 => ?_)
    · have he := jq_t hc18 he
      exact TX11_fits_b147 (n := n) C hr hlk X (lv_sub hl [] rfl) he
    · have he := jq_n hc18 he
      refine lv_iload_n C.1 C.2.1 dX11_fits_134 rfl (lv_at hl 2 rfl) ?_
      refine lv_iconst (v := 1) C.1 C.2.1 dX11_fits_135 (by decide) ?_
      refine lv_iconst (v := 4) C.1 C.2.1 dX11_fits_136 (by decide) ?_
      obtain ⟨z19, hz19, he⟩ := jq_b he
      refine jq_gi (jq_runS (av := [.int p2, .int 1, .int 4]) C X (M_X11_in l bs D ct n z17.2 p2 1 4 _ hz19) mf_X11_in gw_842 (Or.inl gw_841) rfl hl.1 rfl (Nat.le_of_ble_eq_true rfl) ⟨by decide, by decide⟩ ⟨by decide, by decide⟩ dX11_fits_137) X (fun H locs X => ?_)
      refine lv_if_eq (tgt := 147) C.1 C.2.1 dX11_fits_140 (by decide) (fun hc20 => ?_) (fun hc20 => ?_)
      · have he := jq_t hc20 he
        exact TX11_fits_b147 (n := n) C hr hlk X (lv_sub hl [] rfl) he
      · have he := jq_n hc20 he
        refine lv_iconst (v := 1) C.1 C.2.1 dX11_fits_143 (by decide) ?_
        refine lv_goto (tgt := 148) C.1 C.2.1 dX11_fits_144 (by decide) ?_
        exact TX11_fits_b148 (n := n) C hr hlk X (lv_sub hl [] rfl) he
  have he := jq_n hc21 he
  by_cases hc28 : p0 = 5
  · have he := jq_t hc28 he
    refine lv_tableIn (tgt := 149) C.1 C.2.1 dX11_fits_1 (by rw [hc28]; decide) (by rw [hc28]; decide) (by rw [hc28]; rfl) (by decide) ?_
    refine lv_iload_n C.1 C.2.1 dX11_fits_149 rfl (lv_at hl 1 rfl) ?_
    refine lv_iconst (v := 0) C.1 C.2.1 dX11_fits_150 (by decide) ?_
    refine lv_iconst (v := 4) C.1 C.2.1 dX11_fits_151 (by decide) ?_
    obtain ⟨z22, hz22, he⟩ := jq_b he
    refine jq_gi (jq_runS (av := [.int p1, .int 0, .int 4]) C X (M_X11_in l bs D ct n h p1 0 4 _ hz22) mf_X11_in gw_842 (Or.inl gw_841) rfl hl.1 rfl (Nat.le_of_ble_eq_true rfl) ⟨by decide, by decide⟩ ⟨by decide, by decide⟩ dX11_fits_152) X (fun H locs X => ?_)
    refine lv_if_eq (tgt := 182) C.1 C.2.1 dX11_fits_155 (by decide) (fun hc23 => ?_) (fun hc23 => ?_)
    · have he := jq_t hc23 he
      exact TX11_fits_b182 (n := n) C hr hlk X (lv_sub hl [] rfl) he
    · have he := jq_n hc23 he
      refine lv_iload_n C.1 C.2.1 dX11_fits_158 rfl (lv_at hl 2 rfl) ?_
      refine lv_iconst (v := 1) C.1 C.2.1 dX11_fits_159 (by decide) ?_
      refine lv_bipush (v := 8) C.1 C.2.1 dX11_fits_160 (by decide) ?_
      obtain ⟨z24, hz24, he⟩ := jq_b he
      refine jq_gi (jq_runS (av := [.int p2, .int 1, .int 8]) C X (M_X11_in l bs D ct n z22.2 p2 1 8 _ hz24) mf_X11_in gw_842 (Or.inl gw_841) rfl hl.1 rfl (Nat.le_of_ble_eq_true rfl) ⟨by decide, by decide⟩ ⟨by decide, by decide⟩ dX11_fits_162) X (fun H locs X => ?_)
      refine lv_if_eq (tgt := 182) C.1 C.2.1 dX11_fits_165 (by decide) (fun hc25 => ?_) (fun hc25 => ?_)
      · have he := jq_t hc25 he
        exact TX11_fits_b182 (n := n) C hr hlk X (lv_sub hl [] rfl) he
      · have he := jq_n hc25 he
        refine lv_iload_n C.1 C.2.1 dX11_fits_168 rfl (lv_at hl 3 rfl) ?_
        refine lv_iconst (v := 0) C.1 C.2.1 dX11_fits_169 (by decide) ?_
        refine lv_bipush (v := 50) C.1 C.2.1 dX11_fits_170 (by decide) ?_
        obtain ⟨z26, hz26, he⟩ := jq_b he
        refine jq_gi (jq_runS (av := [.int p3, .int 0, .int 50]) C X (M_X11_in l bs D ct n z24.2 p3 0 50 _ hz26) mf_X11_in gw_842 (Or.inl gw_841) rfl hl.1 rfl (Nat.le_of_ble_eq_true rfl) ⟨by decide, by decide⟩ ⟨by decide, by decide⟩ dX11_fits_172) X (fun H locs X => ?_)
        refine lv_if_eq (tgt := 182) C.1 C.2.1 dX11_fits_175 (by decide) (fun hc27 => ?_) (fun hc27 => ?_)
        · have he := jq_t hc27 he
          exact TX11_fits_b182 (n := n) C hr hlk X (lv_sub hl [] rfl) he
        · have he := jq_n hc27 he
          refine lv_iconst (v := 1) C.1 C.2.1 dX11_fits_178 (by decide) ?_
          refine lv_goto (tgt := 183) C.1 C.2.1 dX11_fits_179 (by decide) ?_
          exact TX11_fits_b183 (n := n) C hr hlk X (lv_sub hl [] rfl) he
  have he := jq_n hc28 he
  by_cases hc30 : p0 = 6
  · have he := jq_t hc30 he
    refine lv_tableIn (tgt := 184) C.1 C.2.1 dX11_fits_1 (by rw [hc30]; decide) (by rw [hc30]; decide) (by rw [hc30]; rfl) (by decide) ?_
    refine lv_iload_n C.1 C.2.1 dX11_fits_184 rfl (lv_at hl 1 rfl) ?_
    refine lv_iconst (v := 1) C.1 C.2.1 dX11_fits_185 (by decide) ?_
    refine lv_iconst (v := 3) C.1 C.2.1 dX11_fits_186 (by decide) ?_
    obtain ⟨z29, hz29, he⟩ := jq_b he
    refine jq_gi (jq_runS (av := [.int p1, .int 1, .int 3]) C X (M_X11_in l bs D ct n h p1 1 3 _ hz29) mf_X11_in gw_842 (Or.inl gw_841) rfl hl.1 rfl (Nat.le_of_ble_eq_true rfl) ⟨by decide, by decide⟩ ⟨by decide, by decide⟩ dX11_fits_187) X (fun H locs X => ?_)
    exact jq_zret C X hr hlk he (by decide) (by decide) dX11_fits_190
  have he := jq_n hc30 he
  by_cases hc32 : p0 = 7
  · have he := jq_t hc32 he
    refine lv_tableIn (tgt := 191) C.1 C.2.1 dX11_fits_1 (by rw [hc32]; decide) (by rw [hc32]; decide) (by rw [hc32]; rfl) (by decide) ?_
    refine lv_iload_n C.1 C.2.1 dX11_fits_191 rfl (lv_at hl 3 rfl) ?_
    refine lv_iconst (v := 0) C.1 C.2.1 dX11_fits_192 (by decide) ?_
    refine lv_bipush (v := 6) C.1 C.2.1 dX11_fits_193 (by decide) ?_
    obtain ⟨z31, hz31, he⟩ := jq_b he
    refine jq_gi (jq_runS (av := [.int p3, .int 0, .int 6]) C X (M_X11_in l bs D ct n h p3 0 6 _ hz31) mf_X11_in gw_842 (Or.inl gw_841) rfl hl.1 rfl (Nat.le_of_ble_eq_true rfl) ⟨by decide, by decide⟩ ⟨by decide, by decide⟩ dX11_fits_195) X (fun H locs X => ?_)
    exact jq_zret C X hr hlk he (by decide) (by decide) dX11_fits_198
  have he := jq_n hc32 he
  refine lv_tableOut (tgt := 199) C.1 C.2.1 dX11_fits_1 (jq_swo (fun k h1 h2 hk => by
    rcases (show k = 0 ∨ k = 1 ∨ k = 2 ∨ k = 3 ∨ k = 4 ∨ k = 5 ∨ k = 6 ∨ k = 7 by omega) with rfl | rfl | rfl | rfl | rfl | rfl | rfl | rfl
    · exact lv_neT hc2 (by decide) hk
    · exact lv_neT hc4 (by decide) hk
    · exact lv_neT hc9 (by decide) hk
    · exact lv_neT hc16 (by decide) hk
    · exact lv_neT hc21 (by decide) hk
    · exact lv_neT hc28 (by decide) hk
    · exact lv_neT hc30 (by decide) hk
    · exact lv_neT hc32 (by decide) hk)) (by decide) ?_
  refine lv_iconst (v := 0) C.1 C.2.1 dX11_fits_199 (by decide) ?_
  exact jq_zret C X hr hlk he (by decide) (by decide) dX11_fits_200
set_option maxRecDepth 100000 in
set_option maxHeartbeats 4000000 in
theorem M_X11_fresh (l : Launch) (bs : Nat) (D : va_G) (ct : Nat → ClassId) (n : Nat) (h : jq_H) (a : Nat) (p0 : Int32) (res : Int32 × jq_H) (he : X11_fresh n h a p0 = some res) : jq_M l yX11_fresh cX11_fresh 3 (some .int) rm_X11_fresh (jq_P [.ref a, .int p0] bs D ct h) (jq_Qi bs D ct res) bs := by
  refine jq_start2 (by decide +kernel) (Nat.le_of_ble_eq_true rfl) ?_
  intro p e s m args below meth c ls H locs C hr hlk hin hl X
  have C : jq_C p s m args c cX11_fresh 3 RX11 D ct bs := C
  have hin : meth.name = "fresh" := hin
  have hl : lv_has ls 3 [(0, .ref a), (1, .int p0)] := hl
  unfold X11_fresh at he
  refine lv_aload_n C.1 C.2.1 dX11_fresh_0 rfl (lv_at hl 0 rfl) ?_
  refine lv_iload_n C.1 C.2.1 dX11_fresh_1 rfl (lv_at hl 1 rfl) ?_
  obtain ⟨z1, hz1, he⟩ := jq_b he
  obtain ⟨hz1c, hz1⟩ := jq_ite hz1
  refine jq_gi (jq_runV (a := a) (av := [.int p0]) C X (M_X11_isGuesser l bs D ct n h a p0 _ hz1) mf_X11_isGuesser gw_930 gs_37 (Or.inl gw_928) rc_X11 hz1c (by decide) rfl hl.1 rfl (Nat.le_of_ble_eq_true rfl) ⟨by decide, by decide⟩ ⟨by decide, by decide⟩ dX11_fresh_2) X (fun H locs X => ?_)
  refine lv_if_ne (tgt := 10) C.1 C.2.1 dX11_fresh_5 (by decide) (fun hc2 => ?_) (fun hc2 => ?_)
  · have he := jq_n hc2 he
    refine lv_aload_n C.1 C.2.1 dX11_fresh_10 rfl (lv_at hl 0 rfl) ?_
    refine jq_rgR C X fs_X11_49 he dX11_fresh_11 (fun q3 he => ?_)
    refine lv_sipush (v := 812) C.1 C.2.1 dX11_fresh_14 (by decide) ?_
    refine lv_iload_n C.1 C.2.1 dX11_fresh_17 rfl (lv_at hl 1 rfl) ?_
    refine lv_imul C.1 C.2.1 dX11_fresh_18 ?_
    refine lv_sipush (v := 809) C.1 C.2.1 dX11_fresh_19 (by decide) ?_
    refine lv_iadd C.1 C.2.1 dX11_fresh_22 ?_
    refine jq_rldI C X he dX11_fresh_23 (fun x4 he => ?_)
    refine lv_istore_n (lv' := [(2, .int x4), (0, .ref a), (1, .int p0)]) C.1 C.2.1 dX11_fresh_24 rfl hl (by decide) rfl (fun ls hl => ?_)
    refine lv_aload_n C.1 C.2.1 dX11_fresh_25 rfl (lv_at hl 1 rfl) ?_
    refine lv_iload_n C.1 C.2.1 dX11_fresh_26 rfl (lv_at hl 2 rfl) ?_
    obtain ⟨z5, hz5, he⟩ := jq_b he
    obtain ⟨hz5c, hz5⟩ := jq_ite hz5
    refine jq_gv (jq_runV (a := a) (av := [.int p0]) C X (M_X11_begin l bs D ct n z1.2 a p0 _ hz5) mf_X11_begin gw_937 gs_38 (Or.inl gw_935) rc_X11 hz5c (by decide) rfl hl.1 rfl (Nat.le_of_ble_eq_true rfl) ⟨by decide, by decide⟩ ⟨by decide, by decide⟩ dX11_fresh_27) X (fun H locs X => ?_)
    refine lv_iload_n C.1 C.2.1 dX11_fresh_30 rfl (lv_at hl 0 rfl) ?_
    exact jq_iret C X hr hlk he (by decide) (by decide) dX11_fresh_31
  · have he := jq_t hc2 he
    refine lv_iconst (v := (-1)) C.1 C.2.1 dX11_fresh_8 (by decide) ?_
    exact jq_iret C X hr hlk he (by decide) (by decide) dX11_fresh_9
set_option maxRecDepth 100000 in
set_option maxHeartbeats 4000000 in
theorem TX11_guess_b123 {p : Program} {l : Launch} {e : Env} {s : State} {m : MethodId} {args : Array Value} {below : List Frame} {meth : Method} {c : Code} {D : va_G} {ct : Nat → ClassId} {bs : Nat} {res : Int32 × jq_H} {n : Nat} (C : jq_C p s m args c cX11_guess 6 RX11 D ct bs) (hr : meth.sig.returnType = (some .int)) (hlk : meth.locks = false) {v0 : Nat} {v1 : Int32} {h : jq_H} {H : Heap} {locs : List Loc} {ls : Array Slot} (X : jq_X bs D ct s.heap h H locs) (hl : lv_has ls 6 [(0, .ref v0), (1, .int v1)]) (he : X11_guess_b123 n v0 v1 h = some res) :
    W p l e rm_X11_guess s m args below meth c H locs 0 0 (MQ below (jq_Qi bs D ct res) args s rm_X11_guess.cells rm_X11_guess.slots (fun q => bs ≤ q)) (F0 m 123 ls []) := by
  unfold X11_guess_b123 at he
  refine lv_aload_n C.1 C.2.1 dX11_guess_123 rfl (lv_at hl 0 rfl) ?_
  refine jq_rgR C X fs_X11_62 he dX11_guess_124 (fun q1 he => ?_)
  refine lv_iload_n C.1 C.2.1 dX11_guess_127 rfl (lv_at hl 1 rfl) ?_
  refine jq_rldI C X he dX11_guess_128 (fun x2 he => ?_)
  exact jq_iret C X hr hlk he (by decide) (by decide) dX11_guess_129
set_option maxRecDepth 100000 in
set_option maxHeartbeats 4000000 in
theorem TX11_guess_b116 {p : Program} {l : Launch} {e : Env} {s : State} {m : MethodId} {args : Array Value} {below : List Frame} {meth : Method} {c : Code} {D : va_G} {ct : Nat → ClassId} {bs : Nat} {res : Int32 × jq_H} {n : Nat} {KB : Nat → Int32 → Int32 → Int32 → jq_H → Option (Int32 × jq_H)} {K123 : Nat → Int32 → jq_H → Option (Int32 × jq_H)} (C : jq_C p s m args c cX11_guess 6 RX11 D ct bs) (hr : meth.sig.returnType = (some .int)) (hlk : meth.locks = false) (hKB : ∀ (u0 : Nat) (u1 : Int32) (u2 : Int32) (u3 : Int32) (h1 : jq_H) (H1 : Heap) (locs1 : List Loc) (ls1 : Array Slot), KB u0 u1 u2 u3 h1 = some res → jq_X bs D ct s.heap h1 H1 locs1 → lv_has ls1 6 [(0, .ref u0), (1, .int u1), (2, .int u2), (3, .int u3)] → W p l e rm_X11_guess s m args below meth c H1 locs1 0 0 (MQ below (jq_Qi bs D ct res) args s rm_X11_guess.cells rm_X11_guess.slots (fun q => bs ≤ q)) (F0 m 19 ls1 [])) (hK123 : ∀ (u0 : Nat) (u1 : Int32) (h1 : jq_H) (H1 : Heap) (locs1 : List Loc) (ls1 : Array Slot), K123 u0 u1 h1 = some res → jq_X bs D ct s.heap h1 H1 locs1 → lv_has ls1 6 [(0, .ref u0), (1, .int u1)] → W p l e rm_X11_guess s m args below meth c H1 locs1 0 0 (MQ below (jq_Qi bs D ct res) args s rm_X11_guess.cells rm_X11_guess.slots (fun q => bs ≤ q)) (F0 m 123 ls1 [])) {v0 : Nat} {v1 : Int32} {v2 : Int32} {v3 : Int32} {s0 : Nat} {s1 : Int32} {s2 : Int32} {h : jq_H} {H : Heap} {locs : List Loc} {ls : Array Slot} (X : jq_X bs D ct s.heap h H locs) (hl : lv_has ls 6 [(0, .ref v0), (1, .int v1), (2, .int v2), (3, .int v3)]) (he : X11_guess_b116 n KB K123 v0 v1 v2 v3 s0 s1 s2 h = some res) :
    W p l e rm_X11_guess s m args below meth c H locs 0 0 (MQ below (jq_Qi bs D ct res) args s rm_X11_guess.cells rm_X11_guess.slots (fun q => bs ≤ q)) (F0 m 116 ls [.int s2, .int s1, .ref s0]) := by
  unfold X11_guess_b116 at he
  refine jq_rstI C X he dX11_guess_116 (fun h3 H locs he X => ?_)
  obtain ⟨x4, hx4, he⟩ := jq_ln he
  refine lv_iinc (v := x4) (lv' := [(3, .int x4), (0, .ref v0), (1, .int v1), (2, .int v2)]) C.1 C.2.1 dX11_guess_117 hl (k := 3) rfl (by rw [hx4]; rfl) (by decide) rfl (fun ls hl => ?_)
  refine lv_goto (tgt := 19) C.1 C.2.1 dX11_guess_120 (by decide) ?_
  exact hKB _ _ _ _ _ _ _ _ he X (lv_sub hl [1, 2, 3, 0] rfl)
set_option maxRecDepth 100000 in
set_option maxHeartbeats 4000000 in
theorem TX11_guess_b113 {p : Program} {l : Launch} {e : Env} {s : State} {m : MethodId} {args : Array Value} {below : List Frame} {meth : Method} {c : Code} {D : va_G} {ct : Nat → ClassId} {bs : Nat} {res : Int32 × jq_H} {n : Nat} {KB : Nat → Int32 → Int32 → Int32 → jq_H → Option (Int32 × jq_H)} {K123 : Nat → Int32 → jq_H → Option (Int32 × jq_H)} (C : jq_C p s m args c cX11_guess 6 RX11 D ct bs) (hr : meth.sig.returnType = (some .int)) (hlk : meth.locks = false) (hKB : ∀ (u0 : Nat) (u1 : Int32) (u2 : Int32) (u3 : Int32) (h1 : jq_H) (H1 : Heap) (locs1 : List Loc) (ls1 : Array Slot), KB u0 u1 u2 u3 h1 = some res → jq_X bs D ct s.heap h1 H1 locs1 → lv_has ls1 6 [(0, .ref u0), (1, .int u1), (2, .int u2), (3, .int u3)] → W p l e rm_X11_guess s m args below meth c H1 locs1 0 0 (MQ below (jq_Qi bs D ct res) args s rm_X11_guess.cells rm_X11_guess.slots (fun q => bs ≤ q)) (F0 m 19 ls1 [])) (hK123 : ∀ (u0 : Nat) (u1 : Int32) (h1 : jq_H) (H1 : Heap) (locs1 : List Loc) (ls1 : Array Slot), K123 u0 u1 h1 = some res → jq_X bs D ct s.heap h1 H1 locs1 → lv_has ls1 6 [(0, .ref u0), (1, .int u1)] → W p l e rm_X11_guess s m args below meth c H1 locs1 0 0 (MQ below (jq_Qi bs D ct res) args s rm_X11_guess.cells rm_X11_guess.slots (fun q => bs ≤ q)) (F0 m 123 ls1 [])) {v0 : Nat} {v1 : Int32} {v2 : Int32} {v3 : Int32} {s0 : Nat} {s1 : Int32} {s2 : Nat} {s3 : Int32} {s4 : Int32} {s5 : Int32} {s6 : Int32} {h : jq_H} {H : Heap} {locs : List Loc} {ls : Array Slot} (X : jq_X bs D ct s.heap h H locs) (hl : lv_has ls 6 [(0, .ref v0), (1, .int v1), (2, .int v2), (3, .int v3)]) (he : X11_guess_b113 n KB K123 v0 v1 v2 v3 s0 s1 s2 s3 s4 s5 s6 h = some res) :
    W p l e rm_X11_guess s m args below meth c H locs 0 0 (MQ below (jq_Qi bs D ct res) args s rm_X11_guess.cells rm_X11_guess.slots (fun q => bs ≤ q)) (F0 m 113 ls [.int s6, .int s5, .int s4, .int s3, .ref s2, .int s1, .ref s0]) := by
  unfold X11_guess_b113 at he
  obtain ⟨z5, hz5, he⟩ := jq_b he
  obtain ⟨hz5c, hz5⟩ := jq_ite hz5
  refine jq_gi (jq_runV (a := s2) (av := [.int s3, .int s4, .int s5, .int s6]) C X (M_X11_own l bs D ct n h s2 s3 s4 s5 s6 _ hz5) mf_X11_own gw_897 gs_32 (Or.inl gw_895) rc_X11 hz5c (by decide) rfl hl.1 rfl (Nat.le_of_ble_eq_true rfl) ⟨by decide, by decide⟩ ⟨by decide, by decide⟩ dX11_guess_113) X (fun H locs X => ?_)
  exact TX11_guess_b116 (n := n) C hr hlk hKB hK123 X (lv_sub hl [0, 1, 2, 3] rfl) he
set_option maxRecDepth 100000 in
set_option maxHeartbeats 4000000 in
theorem TX11_guess_b93 {p : Program} {l : Launch} {e : Env} {s : State} {m : MethodId} {args : Array Value} {below : List Frame} {meth : Method} {c : Code} {D : va_G} {ct : Nat → ClassId} {bs : Nat} {res : Int32 × jq_H} {n : Nat} {KB : Nat → Int32 → Int32 → Int32 → jq_H → Option (Int32 × jq_H)} {K123 : Nat → Int32 → jq_H → Option (Int32 × jq_H)} (C : jq_C p s m args c cX11_guess 6 RX11 D ct bs) (hr : meth.sig.returnType = (some .int)) (hlk : meth.locks = false) (hKB : ∀ (u0 : Nat) (u1 : Int32) (u2 : Int32) (u3 : Int32) (h1 : jq_H) (H1 : Heap) (locs1 : List Loc) (ls1 : Array Slot), KB u0 u1 u2 u3 h1 = some res → jq_X bs D ct s.heap h1 H1 locs1 → lv_has ls1 6 [(0, .ref u0), (1, .int u1), (2, .int u2), (3, .int u3)] → W p l e rm_X11_guess s m args below meth c H1 locs1 0 0 (MQ below (jq_Qi bs D ct res) args s rm_X11_guess.cells rm_X11_guess.slots (fun q => bs ≤ q)) (F0 m 19 ls1 [])) (hK123 : ∀ (u0 : Nat) (u1 : Int32) (h1 : jq_H) (H1 : Heap) (locs1 : List Loc) (ls1 : Array Slot), K123 u0 u1 h1 = some res → jq_X bs D ct s.heap h1 H1 locs1 → lv_has ls1 6 [(0, .ref u0), (1, .int u1)] → W p l e rm_X11_guess s m args below meth c H1 locs1 0 0 (MQ below (jq_Qi bs D ct res) args s rm_X11_guess.cells rm_X11_guess.slots (fun q => bs ≤ q)) (F0 m 123 ls1 [])) {v0 : Nat} {v1 : Int32} {v2 : Int32} {v3 : Int32} {v4 : Int32} {s0 : Nat} {s1 : Int32} {s2 : Nat} {s3 : Int32} {s4 : Int32} {s5 : Int32} {h : jq_H} {H : Heap} {locs : List Loc} {ls : Array Slot} (X : jq_X bs D ct s.heap h H locs) (hl : lv_has ls 6 [(0, .ref v0), (1, .int v1), (2, .int v2), (3, .int v3), (4, .int v4)]) (he : X11_guess_b93 n KB K123 v0 v1 v2 v3 v4 s0 s1 s2 s3 s4 s5 h = some res) :
    W p l e rm_X11_guess s m args below meth c H locs 0 0 (MQ below (jq_Qi bs D ct res) args s rm_X11_guess.cells rm_X11_guess.slots (fun q => bs ≤ q)) (F0 m 93 ls [.int s5, .int s4, .int s3, .ref s2, .int s1, .ref s0]) := by
  unfold X11_guess_b93 at he
  refine lv_iload C.1 C.2.1 dX11_guess_93 (lv_at hl 4 rfl) ?_
  refine lv_if_eq (tgt := 112) C.1 C.2.1 dX11_guess_95 (by decide) (fun hc6 => ?_) (fun hc6 => ?_)
  · have he := jq_t hc6 he
    refine lv_iconst (v := 0) C.1 C.2.1 dX11_guess_112 (by decide) ?_
    exact TX11_guess_b113 (n := n) C hr hlk hKB hK123 X (lv_sub hl [0, 1, 2, 3] rfl) he
  · have he := jq_n hc6 he
    refine lv_aload_n C.1 C.2.1 dX11_guess_98 rfl (lv_at hl 0 rfl) ?_
    refine jq_rgR C X fs_X11_62 he dX11_guess_99 (fun q7 he => ?_)
    refine lv_aload_n C.1 C.2.1 dX11_guess_102 rfl (lv_at hl 0 rfl) ?_
    refine jq_rgR C X fs_X11_40 he dX11_guess_103 (fun q8 he => ?_)
    refine lv_iload_n C.1 C.2.1 dX11_guess_106 rfl (lv_at hl 3 rfl) ?_
    refine jq_rldI C X he dX11_guess_107 (fun x9 he => ?_)
    refine jq_rldI C X he dX11_guess_108 (fun x10 he => ?_)
    refine lv_goto (tgt := 113) C.1 C.2.1 dX11_guess_109 (by decide) ?_
    exact TX11_guess_b113 (n := n) C hr hlk hKB hK123 X (lv_sub hl [0, 1, 2, 3] rfl) he
set_option maxRecDepth 100000 in
set_option maxHeartbeats 4000000 in
theorem TX11_guess_b40 {p : Program} {l : Launch} {e : Env} {s : State} {m : MethodId} {args : Array Value} {below : List Frame} {meth : Method} {c : Code} {D : va_G} {ct : Nat → ClassId} {bs : Nat} {res : Int32 × jq_H} {n : Nat} {KB : Nat → Int32 → Int32 → Int32 → jq_H → Option (Int32 × jq_H)} {K123 : Nat → Int32 → jq_H → Option (Int32 × jq_H)} (C : jq_C p s m args c cX11_guess 6 RX11 D ct bs) (hr : meth.sig.returnType = (some .int)) (hlk : meth.locks = false) (hKB : ∀ (u0 : Nat) (u1 : Int32) (u2 : Int32) (u3 : Int32) (h1 : jq_H) (H1 : Heap) (locs1 : List Loc) (ls1 : Array Slot), KB u0 u1 u2 u3 h1 = some res → jq_X bs D ct s.heap h1 H1 locs1 → lv_has ls1 6 [(0, .ref u0), (1, .int u1), (2, .int u2), (3, .int u3)] → W p l e rm_X11_guess s m args below meth c H1 locs1 0 0 (MQ below (jq_Qi bs D ct res) args s rm_X11_guess.cells rm_X11_guess.slots (fun q => bs ≤ q)) (F0 m 19 ls1 [])) (hK123 : ∀ (u0 : Nat) (u1 : Int32) (h1 : jq_H) (H1 : Heap) (locs1 : List Loc) (ls1 : Array Slot), K123 u0 u1 h1 = some res → jq_X bs D ct s.heap h1 H1 locs1 → lv_has ls1 6 [(0, .ref u0), (1, .int u1)] → W p l e rm_X11_guess s m args below meth c H1 locs1 0 0 (MQ below (jq_Qi bs D ct res) args s rm_X11_guess.cells rm_X11_guess.slots (fun q => bs ≤ q)) (F0 m 123 ls1 [])) {v0 : Nat} {v1 : Int32} {v2 : Int32} {v3 : Int32} {s0 : Int32} {h : jq_H} {H : Heap} {locs : List Loc} {ls : Array Slot} (X : jq_X bs D ct s.heap h H locs) (hl : lv_has ls 6 [(0, .ref v0), (1, .int v1), (2, .int v2), (3, .int v3)]) (he : X11_guess_b40 n KB K123 v0 v1 v2 v3 s0 h = some res) :
    W p l e rm_X11_guess s m args below meth c H locs 0 0 (MQ below (jq_Qi bs D ct res) args s rm_X11_guess.cells rm_X11_guess.slots (fun q => bs ≤ q)) (F0 m 40 ls [.int s0]) := by
  unfold X11_guess_b40 at he
  refine lv_istore (lv' := [(4, .int s0), (0, .ref v0), (1, .int v1), (2, .int v2), (3, .int v3)]) C.1 C.2.1 dX11_guess_40 hl (by decide) rfl (fun ls hl => ?_)
  refine lv_aload_n C.1 C.2.1 dX11_guess_42 rfl (lv_at hl 1 rfl) ?_
  refine jq_rgR C X fs_X11_46 he dX11_guess_43 (fun q11 he => ?_)
  refine lv_bipush (v := 64) C.1 C.2.1 dX11_guess_46 (by decide) ?_
  refine lv_iload_n C.1 C.2.1 dX11_guess_48 rfl (lv_at hl 4 rfl) ?_
  refine lv_imul C.1 C.2.1 dX11_guess_49 ?_
  refine lv_iload_n C.1 C.2.1 dX11_guess_50 rfl (lv_at hl 3 rfl) ?_
  refine lv_iadd C.1 C.2.1 dX11_guess_51 ?_
  refine jq_rldI C X he dX11_guess_52 (fun x12 he => ?_)
  refine lv_istore (lv' := [(5, .int x12), (4, .int s0), (0, .ref v0), (1, .int v1), (2, .int v2), (3, .int v3)]) C.1 C.2.1 dX11_guess_53 hl (by decide) rfl (fun ls hl => ?_)
  refine lv_aload_n C.1 C.2.1 dX11_guess_55 rfl (lv_at hl 2 rfl) ?_
  refine jq_rgR C X fs_X11_62 he dX11_guess_56 (fun q13 he => ?_)
  refine lv_iload_n C.1 C.2.1 dX11_guess_59 rfl (lv_at hl 5 rfl) ?_
  refine lv_iload C.1 C.2.1 dX11_guess_60 (lv_at hl 0 rfl) ?_
  refine lv_if_lt (tgt := 70) C.1 C.2.1 dX11_guess_62 (by decide) (fun hc14 => ?_) (fun hc14 => ?_)
  · have he := jq_t hc14 he
    refine lv_aload_n C.1 C.2.1 dX11_guess_70 rfl (lv_at hl 2 rfl) ?_
    refine lv_iload_n C.1 C.2.1 dX11_guess_71 rfl (lv_at hl 5 rfl) ?_
    refine lv_iload_n C.1 C.2.1 dX11_guess_72 rfl (lv_at hl 4 rfl) ?_
    refine lv_iload C.1 C.2.1 dX11_guess_73 (lv_at hl 1 rfl) ?_
    refine lv_if_eq (tgt := 92) C.1 C.2.1 dX11_guess_75 (by decide) (fun hc15 => ?_) (fun hc15 => ?_)
    · have he := jq_t hc15 he
      refine lv_iconst (v := 0) C.1 C.2.1 dX11_guess_92 (by decide) ?_
      exact TX11_guess_b93 (n := n) C hr hlk hKB hK123 X (lv_sub hl [2, 3, 4, 5, 1] rfl) he
    · have he := jq_n hc15 he
      refine lv_aload_n C.1 C.2.1 dX11_guess_78 rfl (lv_at hl 2 rfl) ?_
      refine jq_rgR C X fs_X11_62 he dX11_guess_79 (fun q16 he => ?_)
      refine lv_aload_n C.1 C.2.1 dX11_guess_82 rfl (lv_at hl 2 rfl) ?_
      refine jq_rgR C X fs_X11_37 he dX11_guess_83 (fun q17 he => ?_)
      refine lv_iload_n C.1 C.2.1 dX11_guess_86 rfl (lv_at hl 5 rfl) ?_
      refine jq_rldI C X he dX11_guess_87 (fun x18 he => ?_)
      refine jq_rldI C X he dX11_guess_88 (fun x19 he => ?_)
      refine lv_goto (tgt := 93) C.1 C.2.1 dX11_guess_89 (by decide) ?_
      exact TX11_guess_b93 (n := n) C hr hlk hKB hK123 X (lv_sub hl [2, 3, 4, 5, 1] rfl) he
  · have he := jq_n hc14 he
    refine lv_iload C.1 C.2.1 dX11_guess_65 (lv_at hl 0 rfl) ?_
    refine lv_goto (tgt := 116) C.1 C.2.1 dX11_guess_67 (by decide) ?_
    exact TX11_guess_b116 (n := n) C hr hlk hKB hK123 X (lv_sub hl [2, 3, 4, 5] rfl) he
set_option maxRecDepth 100000 in
set_option maxHeartbeats 4000000 in
theorem TX11_guess_b19 {p : Program} {l : Launch} {e : Env} {s : State} {m : MethodId} {args : Array Value} {below : List Frame} {meth : Method} {c : Code} {D : va_G} {ct : Nat → ClassId} {bs : Nat} {res : Int32 × jq_H} {n : Nat} {KB : Nat → Int32 → Int32 → Int32 → jq_H → Option (Int32 × jq_H)} {K123 : Nat → Int32 → jq_H → Option (Int32 × jq_H)} (C : jq_C p s m args c cX11_guess 6 RX11 D ct bs) (hr : meth.sig.returnType = (some .int)) (hlk : meth.locks = false) (hKB : ∀ (u0 : Nat) (u1 : Int32) (u2 : Int32) (u3 : Int32) (h1 : jq_H) (H1 : Heap) (locs1 : List Loc) (ls1 : Array Slot), KB u0 u1 u2 u3 h1 = some res → jq_X bs D ct s.heap h1 H1 locs1 → lv_has ls1 6 [(0, .ref u0), (1, .int u1), (2, .int u2), (3, .int u3)] → W p l e rm_X11_guess s m args below meth c H1 locs1 0 0 (MQ below (jq_Qi bs D ct res) args s rm_X11_guess.cells rm_X11_guess.slots (fun q => bs ≤ q)) (F0 m 19 ls1 [])) (hK123 : ∀ (u0 : Nat) (u1 : Int32) (h1 : jq_H) (H1 : Heap) (locs1 : List Loc) (ls1 : Array Slot), K123 u0 u1 h1 = some res → jq_X bs D ct s.heap h1 H1 locs1 → lv_has ls1 6 [(0, .ref u0), (1, .int u1)] → W p l e rm_X11_guess s m args below meth c H1 locs1 0 0 (MQ below (jq_Qi bs D ct res) args s rm_X11_guess.cells rm_X11_guess.slots (fun q => bs ≤ q)) (F0 m 123 ls1 [])) {v0 : Nat} {v1 : Int32} {v2 : Int32} {v3 : Int32} {h : jq_H} {H : Heap} {locs : List Loc} {ls : Array Slot} (X : jq_X bs D ct s.heap h H locs) (hl : lv_has ls 6 [(0, .ref v0), (1, .int v1), (2, .int v2), (3, .int v3)]) (he : X11_guess_b19 n KB K123 v0 v1 v2 v3 h = some res) :
    W p l e rm_X11_guess s m args below meth c H locs 0 0 (MQ below (jq_Qi bs D ct res) args s rm_X11_guess.cells rm_X11_guess.slots (fun q => bs ≤ q)) (F0 m 19 ls []) := by
  unfold X11_guess_b19 at he
  refine lv_iload_n C.1 C.2.1 dX11_guess_19 rfl (lv_at hl 3 rfl) ?_
  refine lv_iload_n C.1 C.2.1 dX11_guess_20 rfl (lv_at hl 1 rfl) ?_
  refine lv_icmp_gt (tgt := 123) C.1 C.2.1 dX11_guess_21 (by decide) (fun hc20 => ?_) (fun hc20 => ?_)
  · have he := jq_t hc20 he
    exact hK123 _ _ _ _ _ _ he X (lv_sub hl [0, 1] rfl)
  · have he := jq_n hc20 he
    refine lv_aload_n C.1 C.2.1 dX11_guess_24 rfl (lv_at hl 0 rfl) ?_
    refine jq_rgR C X fs_X11_34 he dX11_guess_25 (fun q21 he => ?_)
    refine lv_iload_n C.1 C.2.1 dX11_guess_28 rfl (lv_at hl 3 rfl) ?_
    refine jq_rldI C X he dX11_guess_29 (fun x22 he => ?_)
    refine lv_bipush (v := 7) C.1 C.2.1 dX11_guess_30 (by decide) ?_
    refine lv_icmp_ne (tgt := 39) C.1 C.2.1 dX11_guess_32 (by decide) (fun hc23 => ?_) (fun hc23 => ?_)
    · have he := jq_n hc23 he
      refine lv_iconst (v := 0) C.1 C.2.1 dX11_guess_39 (by decide) ?_
      exact TX11_guess_b40 (n := n) C hr hlk hKB hK123 X (lv_sub hl [0, 1, 2, 3] rfl) he
    · have he := jq_t hc23 he
      refine lv_iconst (v := 1) C.1 C.2.1 dX11_guess_35 (by decide) ?_
      refine lv_goto (tgt := 40) C.1 C.2.1 dX11_guess_36 (by decide) ?_
      exact TX11_guess_b40 (n := n) C hr hlk hKB hK123 X (lv_sub hl [0, 1, 2, 3] rfl) he
set_option maxRecDepth 100000 in
set_option maxHeartbeats 4000000 in
theorem TX11_guess_l19 {p : Program} {l : Launch} {e : Env} {s : State} {m : MethodId} {args : Array Value} {below : List Frame} {meth : Method} {c : Code} {D : va_G} {ct : Nat → ClassId} {bs : Nat} {res : Int32 × jq_H} {n : Nat} {K123 : Nat → Int32 → jq_H → Option (Int32 × jq_H)} (C : jq_C p s m args c cX11_guess 6 RX11 D ct bs) (hr : meth.sig.returnType = (some .int)) (hlk : meth.locks = false) (hK123 : ∀ (u0 : Nat) (u1 : Int32) (h1 : jq_H) (H1 : Heap) (locs1 : List Loc) (ls1 : Array Slot), K123 u0 u1 h1 = some res → jq_X bs D ct s.heap h1 H1 locs1 → lv_has ls1 6 [(0, .ref u0), (1, .int u1)] → W p l e rm_X11_guess s m args below meth c H1 locs1 0 0 (MQ below (jq_Qi bs D ct res) args s rm_X11_guess.cells rm_X11_guess.slots (fun q => bs ≤ q)) (F0 m 123 ls1 [])) :
    ∀ (k : Nat) (v0 : Nat) (v1 : Int32) (v2 : Int32) (v3 : Int32) (h : jq_H) (H : Heap) (locs : List Loc) (ls : Array Slot), X11_guess_l19 n K123 k v0 v1 v2 v3 h = some res → jq_X bs D ct s.heap h H locs → lv_has ls 6 [(0, .ref v0), (1, .int v1), (2, .int v2), (3, .int v3)] → W p l e rm_X11_guess s m args below meth c H locs 0 0 (MQ below (jq_Qi bs D ct res) args s rm_X11_guess.cells rm_X11_guess.slots (fun q => bs ≤ q)) (F0 m 19 ls []) := by
  intro k
  induction k with
  | zero => intro v0 v1 v2 v3 h H locs ls he; cases (show (none : Option (Int32 × jq_H)) = some res from he)
  | succ k ih =>
    intro v0 v1 v2 v3 h H locs ls he X hl
    exact TX11_guess_b19 (n := n) C hr hlk (KB := X11_guess_l19 n K123 k) ih hK123 X hl he
set_option maxRecDepth 100000 in
set_option maxHeartbeats 4000000 in
theorem TX11_guess_b15 {p : Program} {l : Launch} {e : Env} {s : State} {m : MethodId} {args : Array Value} {below : List Frame} {meth : Method} {c : Code} {D : va_G} {ct : Nat → ClassId} {bs : Nat} {res : Int32 × jq_H} {n : Nat} (C : jq_C p s m args c cX11_guess 6 RX11 D ct bs) (hr : meth.sig.returnType = (some .int)) (hlk : meth.locks = false) {h : jq_H} {H : Heap} {locs : List Loc} {ls : Array Slot} (X : jq_X bs D ct s.heap h H locs) (hl : lv_has ls 6 []) (he : X11_guess_b15 n h = some res) :
    W p l e rm_X11_guess s m args below meth c H locs 0 0 (MQ below (jq_Qi bs D ct res) args s rm_X11_guess.cells rm_X11_guess.slots (fun q => bs ≤ q)) (F0 m 15 ls []) := by
  unfold X11_guess_b15 at he
  refine lv_iconst (v := (-1)) C.1 C.2.1 dX11_guess_15 (by decide) ?_
  exact jq_iret C X hr hlk he (by decide) (by decide) dX11_guess_16
set_option maxRecDepth 100000 in
set_option maxHeartbeats 4000000 in
theorem M_X11_guess (l : Launch) (bs : Nat) (D : va_G) (ct : Nat → ClassId) (n : Nat) (h : jq_H) (a : Nat) (p0 : Int32) (p1 : Int32) (res : Int32 × jq_H) (he : X11_guess n h a p0 p1 = some res) : jq_M l yX11_guess cX11_guess 6 (some .int) rm_X11_guess (jq_P [.ref a, .int p0, .int p1] bs D ct h) (jq_Qi bs D ct res) bs := by
  refine jq_start2 (by decide +kernel) (Nat.le_of_ble_eq_true rfl) ?_
  intro p e s m args below meth c ls H locs C hr hlk hin hl X
  have C : jq_C p s m args c cX11_guess 6 RX11 D ct bs := C
  have hin : meth.name = "guess" := hin
  have hl : lv_has ls 6 [(0, .ref a), (1, .int p0), (2, .int p1)] := hl
  unfold X11_guess at he
  refine lv_aload_n C.1 C.2.1 dX11_guess_0 rfl (lv_at hl 0 rfl) ?_
  refine lv_iload_n C.1 C.2.1 dX11_guess_1 rfl (lv_at hl 1 rfl) ?_
  obtain ⟨z24, hz24, he⟩ := jq_b he
  obtain ⟨hz24c, hz24⟩ := jq_ite hz24
  refine jq_gi (jq_runV (a := a) (av := [.int p0]) C X (M_X11_isGuesser l bs D ct n h a p0 _ hz24) mf_X11_isGuesser gw_930 gs_37 (Or.inl gw_928) rc_X11 hz24c (by decide) rfl hl.1 rfl (Nat.le_of_ble_eq_true rfl) ⟨by decide, by decide⟩ ⟨by decide, by decide⟩ dX11_guess_2) X (fun H locs X => ?_)
  refine lv_if_eq (tgt := 15) C.1 C.2.1 dX11_guess_5 (by decide) (fun hc25 => ?_) (fun hc25 => ?_)
  · have he := jq_t hc25 he
    exact TX11_guess_b15 (n := n) C hr hlk X (lv_sub hl [] rfl) he
  · have he := jq_n hc25 he
    refine lv_iload_n C.1 C.2.1 dX11_guess_8 rfl (lv_at hl 2 rfl) ?_
    obtain ⟨z26, hz26, he⟩ := jq_b he
    refine jq_gi (jq_runS (av := [.int p1]) C X (M_X11_isPlace l bs D ct n z24.2 p1 _ hz26) mf_X11_isPlace gw_839 (Or.inl gw_838) rfl hl.1 rfl (Nat.le_of_ble_eq_true rfl) ⟨by decide, by decide⟩ ⟨by decide, by decide⟩ dX11_guess_9) X (fun H locs X => ?_)
    refine lv_if_ne (tgt := 17) C.1 C.2.1 dX11_guess_12 (by decide) (fun hc27 => ?_) (fun hc27 => ?_)
    · have he := jq_n hc27 he
      refine lv_iconst (v := 0) C.1 C.2.1 dX11_guess_17 (by decide) ?_
      refine lv_istore_n (lv' := [(3, .int 0), (0, .ref a), (1, .int p0), (2, .int p1)]) C.1 C.2.1 dX11_guess_18 rfl hl (by decide) rfl (fun ls hl => ?_)
      exact TX11_guess_l19 (n := n) C hr hlk (fun w0 w1 hh H locs ls he X hl => by
    exact TX11_guess_b123 (n := n) C hr hlk X hl he) n _ _ _ _ _ _ _ _ he X (lv_sub hl [1, 2, 3, 0] rfl)
    · have he := jq_t hc27 he
      exact TX11_guess_b15 (n := n) C hr hlk X (lv_sub hl [] rfl) he
set_option maxRecDepth 100000 in
set_option maxHeartbeats 4000000 in
theorem TX11_guesser_b123 {p : Program} {l : Launch} {e : Env} {s : State} {m : MethodId} {args : Array Value} {below : List Frame} {meth : Method} {c : Code} {D : va_G} {ct : Nat → ClassId} {bs : Nat} {res : Int32 × jq_H} {n : Nat} (C : jq_C p s m args c cX11_guesser 6 RX11 D ct bs) (hr : meth.sig.returnType = (some .int)) (hlk : meth.locks = false) {v0 : Nat} {h : jq_H} {H : Heap} {locs : List Loc} {ls : Array Slot} (X : jq_X bs D ct s.heap h H locs) (hl : lv_has ls 6 [(0, .ref v0)]) (he : X11_guesser_b123 n v0 h = some res) :
    W p l e rm_X11_guesser s m args below meth c H locs 0 0 (MQ below (jq_Qi bs D ct res) args s rm_X11_guesser.cells rm_X11_guesser.slots (fun q => bs ≤ q)) (F0 m 123 ls []) := by
  unfold X11_guesser_b123 at he
  refine lv_aload_n C.1 C.2.1 dX11_guesser_123 rfl (lv_at hl 0 rfl) ?_
  refine lv_aload_n C.1 C.2.1 dX11_guesser_124 rfl (lv_at hl 0 rfl) ?_
  refine jq_rgI C X fs_X11_94 he dX11_guesser_125 (fun x1 he => ?_)
  obtain ⟨z2, hz2, he⟩ := jq_b he
  obtain ⟨hz2c, hz2⟩ := jq_ite hz2
  refine jq_gv (jq_runV (a := v0) (av := [.int x1]) C X (M_X11_begin l bs D ct n h v0 x1 _ hz2) mf_X11_begin gw_937 gs_38 (Or.inl gw_935) rc_X11 hz2c (by decide) rfl hl.1 rfl (Nat.le_of_ble_eq_true rfl) ⟨by decide, by decide⟩ ⟨by decide, by decide⟩ dX11_guesser_128) X (fun H locs X => ?_)
  refine lv_aload_n C.1 C.2.1 dX11_guesser_131 rfl (lv_at hl 0 rfl) ?_
  refine lv_dup C.1 C.2.1 dX11_guesser_132 rfl ?_
  refine jq_rgI C X fs_X11_94 he dX11_guesser_133 (fun x3 he => ?_)
  refine lv_iconst (v := 1) C.1 C.2.1 dX11_guesser_136 (by decide) ?_
  refine lv_iadd C.1 C.2.1 dX11_guesser_137 ?_
  refine jq_rp (ty := .int) C X fs_X11_94 (by decide +kernel) rfl rfl he dX11_guesser_138 (fun h4 H locs he X => ?_)
  refine lv_aload_n C.1 C.2.1 dX11_guesser_141 rfl (lv_at hl 0 rfl) ?_
  refine jq_rgI C X fs_X11_94 he dX11_guesser_142 (fun x5 he => ?_)
  refine lv_iconst (v := 1) C.1 C.2.1 dX11_guesser_145 (by decide) ?_
  refine lv_isub C.1 C.2.1 dX11_guesser_146 ?_
  exact jq_iret C X hr hlk he (by decide) (by decide) dX11_guesser_147
set_option maxRecDepth 100000 in
set_option maxHeartbeats 4000000 in
theorem TX11_guesser_b94 {p : Program} {l : Launch} {e : Env} {s : State} {m : MethodId} {args : Array Value} {below : List Frame} {meth : Method} {c : Code} {D : va_G} {ct : Nat → ClassId} {bs : Nat} {res : Int32 × jq_H} {n : Nat} {KB : Nat → Int32 → jq_H → Option (Int32 × jq_H)} {K123 : Nat → jq_H → Option (Int32 × jq_H)} (C : jq_C p s m args c cX11_guesser 6 RX11 D ct bs) (hr : meth.sig.returnType = (some .int)) (hlk : meth.locks = false) (hKB : ∀ (u0 : Nat) (u5 : Int32) (h1 : jq_H) (H1 : Heap) (locs1 : List Loc) (ls1 : Array Slot), KB u0 u5 h1 = some res → jq_X bs D ct s.heap h1 H1 locs1 → lv_has ls1 6 [(0, .ref u0), (5, .int u5)] → W p l e rm_X11_guesser s m args below meth c H1 locs1 0 0 (MQ below (jq_Qi bs D ct res) args s rm_X11_guesser.cells rm_X11_guesser.slots (fun q => bs ≤ q)) (F0 m 94 ls1 [])) (hK123 : ∀ (u0 : Nat) (h1 : jq_H) (H1 : Heap) (locs1 : List Loc) (ls1 : Array Slot), K123 u0 h1 = some res → jq_X bs D ct s.heap h1 H1 locs1 → lv_has ls1 6 [(0, .ref u0)] → W p l e rm_X11_guesser s m args below meth c H1 locs1 0 0 (MQ below (jq_Qi bs D ct res) args s rm_X11_guesser.cells rm_X11_guesser.slots (fun q => bs ≤ q)) (F0 m 123 ls1 [])) {v0 : Nat} {v5 : Int32} {h : jq_H} {H : Heap} {locs : List Loc} {ls : Array Slot} (X : jq_X bs D ct s.heap h H locs) (hl : lv_has ls 6 [(0, .ref v0), (5, .int v5)]) (he : X11_guesser_b94 n KB K123 v0 v5 h = some res) :
    W p l e rm_X11_guesser s m args below meth c H locs 0 0 (MQ below (jq_Qi bs D ct res) args s rm_X11_guesser.cells rm_X11_guesser.slots (fun q => bs ≤ q)) (F0 m 94 ls []) := by
  unfold X11_guesser_b94 at he
  refine lv_iload C.1 C.2.1 dX11_guesser_94 (lv_at hl 1 rfl) ?_
  refine lv_bipush (v := 64) C.1 C.2.1 dX11_guesser_96 (by decide) ?_
  refine lv_icmp_ge (tgt := 123) C.1 C.2.1 dX11_guesser_98 (by decide) (fun hc6 => ?_) (fun hc6 => ?_)
  · have he := jq_t hc6 he
    exact hK123 _ _ _ _ _ he X (lv_sub hl [0] rfl)
  · have he := jq_n hc6 he
    refine lv_aload_n C.1 C.2.1 dX11_guesser_101 rfl (lv_at hl 0 rfl) ?_
    refine jq_rgR C X fs_X11_46 he dX11_guesser_102 (fun q7 he => ?_)
    refine lv_bipush (v := 64) C.1 C.2.1 dX11_guesser_105 (by decide) ?_
    refine lv_aload_n C.1 C.2.1 dX11_guesser_107 rfl (lv_at hl 0 rfl) ?_
    refine jq_rgI C X fs_X11_94 he dX11_guesser_108 (fun x8 he => ?_)
    refine lv_imul C.1 C.2.1 dX11_guesser_111 ?_
    refine lv_iload C.1 C.2.1 dX11_guesser_112 (lv_at hl 1 rfl) ?_
    refine lv_iadd C.1 C.2.1 dX11_guesser_114 ?_
    refine lv_iconst (v := (-1)) C.1 C.2.1 dX11_guesser_115 (by decide) ?_
    refine jq_rstI C X he dX11_guesser_116 (fun h9 H locs he X => ?_)
    obtain ⟨x10, hx10, he⟩ := jq_ln he
    refine lv_iinc (v := x10) (lv' := [(5, .int x10), (0, .ref v0)]) C.1 C.2.1 dX11_guesser_117 hl (k := 1) rfl (by rw [hx10]; rfl) (by decide) rfl (fun ls hl => ?_)
    refine lv_goto (tgt := 94) C.1 C.2.1 dX11_guesser_120 (by decide) ?_
    exact hKB _ _ _ _ _ _ he X (lv_sub hl [1, 0] rfl)
set_option maxRecDepth 100000 in
set_option maxHeartbeats 4000000 in
theorem TX11_guesser_l94 {p : Program} {l : Launch} {e : Env} {s : State} {m : MethodId} {args : Array Value} {below : List Frame} {meth : Method} {c : Code} {D : va_G} {ct : Nat → ClassId} {bs : Nat} {res : Int32 × jq_H} {n : Nat} {K123 : Nat → jq_H → Option (Int32 × jq_H)} (C : jq_C p s m args c cX11_guesser 6 RX11 D ct bs) (hr : meth.sig.returnType = (some .int)) (hlk : meth.locks = false) (hK123 : ∀ (u0 : Nat) (h1 : jq_H) (H1 : Heap) (locs1 : List Loc) (ls1 : Array Slot), K123 u0 h1 = some res → jq_X bs D ct s.heap h1 H1 locs1 → lv_has ls1 6 [(0, .ref u0)] → W p l e rm_X11_guesser s m args below meth c H1 locs1 0 0 (MQ below (jq_Qi bs D ct res) args s rm_X11_guesser.cells rm_X11_guesser.slots (fun q => bs ≤ q)) (F0 m 123 ls1 [])) :
    ∀ (k : Nat) (v0 : Nat) (v5 : Int32) (h : jq_H) (H : Heap) (locs : List Loc) (ls : Array Slot), X11_guesser_l94 n K123 k v0 v5 h = some res → jq_X bs D ct s.heap h H locs → lv_has ls 6 [(0, .ref v0), (5, .int v5)] → W p l e rm_X11_guesser s m args below meth c H locs 0 0 (MQ below (jq_Qi bs D ct res) args s rm_X11_guesser.cells rm_X11_guesser.slots (fun q => bs ≤ q)) (F0 m 94 ls []) := by
  intro k
  induction k with
  | zero => intro v0 v5 h H locs ls he; cases (show (none : Option (Int32 × jq_H)) = some res from he)
  | succ k ih =>
    intro v0 v5 h H locs ls he X hl
    exact TX11_guesser_b94 (n := n) C hr hlk (KB := X11_guesser_l94 n K123 k) ih hK123 X hl he
set_option maxRecDepth 100000 in
set_option maxHeartbeats 4000000 in
theorem TX11_guesser_b24 {p : Program} {l : Launch} {e : Env} {s : State} {m : MethodId} {args : Array Value} {below : List Frame} {meth : Method} {c : Code} {D : va_G} {ct : Nat → ClassId} {bs : Nat} {res : Int32 × jq_H} {n : Nat} (C : jq_C p s m args c cX11_guesser 6 RX11 D ct bs) (hr : meth.sig.returnType = (some .int)) (hlk : meth.locks = false) {v0 : Nat} {v1 : Int32} {v2 : Int32} {v3 : Int32} {v4 : Int32} {h : jq_H} {H : Heap} {locs : List Loc} {ls : Array Slot} (X : jq_X bs D ct s.heap h H locs) (hl : lv_has ls 6 [(0, .ref v0), (1, .int v1), (2, .int v2), (3, .int v3), (4, .int v4)]) (he : X11_guesser_b24 n v0 v1 v2 v3 v4 h = some res) :
    W p l e rm_X11_guesser s m args below meth c H locs 0 0 (MQ below (jq_Qi bs D ct res) args s rm_X11_guesser.cells rm_X11_guesser.slots (fun q => bs ≤ q)) (F0 m 24 ls []) := by
  unfold X11_guesser_b24 at he
  refine lv_iload_n C.1 C.2.1 dX11_guesser_24 rfl (lv_at hl 1 rfl) ?_
  refine lv_iload_n C.1 C.2.1 dX11_guesser_25 rfl (lv_at hl 2 rfl) ?_
  refine lv_iload_n C.1 C.2.1 dX11_guesser_26 rfl (lv_at hl 3 rfl) ?_
  refine lv_iload C.1 C.2.1 dX11_guesser_27 (lv_at hl 4 rfl) ?_
  obtain ⟨z11, hz11, he⟩ := jq_b he
  refine jq_gi (jq_runS (av := [.int v1, .int v2, .int v3, .int v4]) C X (M_X11_fits l bs D ct n h v1 v2 v3 v4 _ hz11) mf_X11_fits gw_933 (Or.inl gw_932) rfl hl.1 rfl (Nat.le_of_ble_eq_true rfl) ⟨by decide, by decide⟩ ⟨by decide, by decide⟩ dX11_guesser_29) X (fun H locs X => ?_)
  refine lv_if_ne (tgt := 38) C.1 C.2.1 dX11_guesser_32 (by decide) (fun hc12 => ?_) (fun hc12 => ?_)
  · have he := jq_n hc12 he
    refine lv_aload_n C.1 C.2.1 dX11_guesser_38 rfl (lv_at hl 0 rfl) ?_
    refine jq_rgI C X fs_X11_94 he dX11_guesser_39 (fun x13 he => ?_)
    refine lv_bipush (v := 8) C.1 C.2.1 dX11_guesser_42 (by decide) ?_
    refine lv_icmp_ne (tgt := 50) C.1 C.2.1 dX11_guesser_44 (by decide) (fun hc14 => ?_) (fun hc14 => ?_)
    · have he := jq_n hc14 he
      refine lv_aload_n C.1 C.2.1 dX11_guesser_50 rfl (lv_at hl 0 rfl) ?_
      refine jq_rgR C X fs_X11_34 he dX11_guesser_51 (fun q15 he => ?_)
      refine lv_aload_n C.1 C.2.1 dX11_guesser_54 rfl (lv_at hl 0 rfl) ?_
      refine jq_rgI C X fs_X11_94 he dX11_guesser_55 (fun x16 he => ?_)
      refine lv_iload_n C.1 C.2.1 dX11_guesser_58 rfl (lv_at hl 1 rfl) ?_
      refine jq_rstI C X he dX11_guesser_59 (fun h17 H locs he X => ?_)
      refine lv_aload_n C.1 C.2.1 dX11_guesser_60 rfl (lv_at hl 0 rfl) ?_
      refine jq_rgR C X fs_X11_37 he dX11_guesser_61 (fun q18 he => ?_)
      refine lv_aload_n C.1 C.2.1 dX11_guesser_64 rfl (lv_at hl 0 rfl) ?_
      refine jq_rgI C X fs_X11_94 he dX11_guesser_65 (fun x19 he => ?_)
      refine lv_iload_n C.1 C.2.1 dX11_guesser_68 rfl (lv_at hl 2 rfl) ?_
      refine jq_rstI C X he dX11_guesser_69 (fun h20 H locs he X => ?_)
      refine lv_aload_n C.1 C.2.1 dX11_guesser_70 rfl (lv_at hl 0 rfl) ?_
      refine jq_rgR C X fs_X11_40 he dX11_guesser_71 (fun q21 he => ?_)
      refine lv_aload_n C.1 C.2.1 dX11_guesser_74 rfl (lv_at hl 0 rfl) ?_
      refine jq_rgI C X fs_X11_94 he dX11_guesser_75 (fun x22 he => ?_)
      refine lv_iload_n C.1 C.2.1 dX11_guesser_78 rfl (lv_at hl 3 rfl) ?_
      refine jq_rstI C X he dX11_guesser_79 (fun h23 H locs he X => ?_)
      refine lv_aload_n C.1 C.2.1 dX11_guesser_80 rfl (lv_at hl 0 rfl) ?_
      refine jq_rgR C X fs_X11_43 he dX11_guesser_81 (fun q24 he => ?_)
      refine lv_aload_n C.1 C.2.1 dX11_guesser_84 rfl (lv_at hl 0 rfl) ?_
      refine jq_rgI C X fs_X11_94 he dX11_guesser_85 (fun x25 he => ?_)
      refine lv_iload C.1 C.2.1 dX11_guesser_88 (lv_at hl 4 rfl) ?_
      refine jq_rstI C X he dX11_guesser_90 (fun h26 H locs he X => ?_)
      refine lv_iconst (v := 0) C.1 C.2.1 dX11_guesser_91 (by decide) ?_
      refine lv_istore (lv' := [(5, .int 0), (0, .ref v0), (1, .int v1), (2, .int v2), (3, .int v3), (4, .int v4)]) C.1 C.2.1 dX11_guesser_92 hl (by decide) rfl (fun ls hl => ?_)
      exact TX11_guesser_l94 (n := n) C hr hlk (fun w0 hh H locs ls he X hl => by
    exact TX11_guesser_b123 (n := n) C hr hlk X hl he) n _ _ _ _ _ _ he X (lv_sub hl [1, 0] rfl)
    · have he := jq_t hc14 he
      refine lv_bipush (v := (-4)) C.1 C.2.1 dX11_guesser_47 (by decide) ?_
      exact jq_iret C X hr hlk he (by decide) (by decide) dX11_guesser_49
  · have he := jq_t hc12 he
    refine lv_bipush (v := (-2)) C.1 C.2.1 dX11_guesser_35 (by decide) ?_
    exact jq_iret C X hr hlk he (by decide) (by decide) dX11_guesser_37
set_option maxRecDepth 100000 in
set_option maxHeartbeats 4000000 in
theorem TX11_guesser_b22 {p : Program} {l : Launch} {e : Env} {s : State} {m : MethodId} {args : Array Value} {below : List Frame} {meth : Method} {c : Code} {D : va_G} {ct : Nat → ClassId} {bs : Nat} {res : Int32 × jq_H} {n : Nat} (C : jq_C p s m args c cX11_guesser 6 RX11 D ct bs) (hr : meth.sig.returnType = (some .int)) (hlk : meth.locks = false) {h : jq_H} {H : Heap} {locs : List Loc} {ls : Array Slot} (X : jq_X bs D ct s.heap h H locs) (hl : lv_has ls 6 []) (he : X11_guesser_b22 n h = some res) :
    W p l e rm_X11_guesser s m args below meth c H locs 0 0 (MQ below (jq_Qi bs D ct res) args s rm_X11_guesser.cells rm_X11_guesser.slots (fun q => bs ≤ q)) (F0 m 22 ls []) := by
  unfold X11_guesser_b22 at he
  refine lv_iconst (v := (-1)) C.1 C.2.1 dX11_guesser_22 (by decide) ?_
  exact jq_iret C X hr hlk he (by decide) (by decide) dX11_guesser_23
set_option maxRecDepth 100000 in
set_option maxHeartbeats 4000000 in
theorem M_X11_guesser (l : Launch) (bs : Nat) (D : va_G) (ct : Nat → ClassId) (n : Nat) (h : jq_H) (a : Nat) (p0 : Int32) (p1 : Int32) (p2 : Int32) (p3 : Int32) (res : Int32 × jq_H) (he : X11_guesser n h a p0 p1 p2 p3 = some res) : jq_M l yX11_guesser cX11_guesser 6 (some .int) rm_X11_guesser (jq_P [.ref a, .int p0, .int p1, .int p2, .int p3] bs D ct h) (jq_Qi bs D ct res) bs := by
  refine jq_start2 (by decide +kernel) (Nat.le_of_ble_eq_true rfl) ?_
  intro p e s m args below meth c ls H locs C hr hlk hin hl X
  have C : jq_C p s m args c cX11_guesser 6 RX11 D ct bs := C
  have hin : meth.name = "guesser" := hin
  have hl : lv_has ls 6 [(0, .ref a), (1, .int p0), (2, .int p1), (3, .int p2), (4, .int p3)] := hl
  unfold X11_guesser at he
  refine lv_iload_n C.1 C.2.1 dX11_guesser_0 rfl (lv_at hl 1 rfl) ?_
  refine lv_bipush (v := 7) C.1 C.2.1 dX11_guesser_1 (by decide) ?_
  refine lv_icmp_ne (tgt := 24) C.1 C.2.1 dX11_guesser_3 (by decide) (fun hc27 => ?_) (fun hc27 => ?_)
  · have he := jq_n hc27 he
    exact TX11_guesser_b24 (n := n) C hr hlk X (lv_sub hl [0, 1, 2, 3, 4] rfl) he
  · have he := jq_t hc27 he
    refine lv_aload_n C.1 C.2.1 dX11_guesser_6 rfl (lv_at hl 0 rfl) ?_
    refine lv_iload_n C.1 C.2.1 dX11_guesser_7 rfl (lv_at hl 2 rfl) ?_
    obtain ⟨z28, hz28, he⟩ := jq_b he
    obtain ⟨hz28c, hz28⟩ := jq_ite hz28
    refine jq_gi (jq_runV (a := a) (av := [.int p1]) C X (M_X11_isGuesser l bs D ct n h a p1 _ hz28) mf_X11_isGuesser gw_930 gs_37 (Or.inl gw_928) rc_X11 hz28c (by decide) rfl hl.1 rfl (Nat.le_of_ble_eq_true rfl) ⟨by decide, by decide⟩ ⟨by decide, by decide⟩ dX11_guesser_8) X (fun H locs X => ?_)
    refine lv_if_eq (tgt := 22) C.1 C.2.1 dX11_guesser_11 (by decide) (fun hc29 => ?_) (fun hc29 => ?_)
    · have he := jq_t hc29 he
      exact TX11_guesser_b22 (n := n) C hr hlk X (lv_sub hl [] rfl) he
    · have he := jq_n hc29 he
      refine lv_aload_n C.1 C.2.1 dX11_guesser_14 rfl (lv_at hl 0 rfl) ?_
      refine lv_iload_n C.1 C.2.1 dX11_guesser_15 rfl (lv_at hl 3 rfl) ?_
      obtain ⟨z30, hz30, he⟩ := jq_b he
      obtain ⟨hz30c, hz30⟩ := jq_ite hz30
      refine jq_gi (jq_runV (a := a) (av := [.int p2]) C X (M_X11_isGuesser l bs D ct n z28.2 a p2 _ hz30) mf_X11_isGuesser gw_930 gs_37 (Or.inl gw_928) rc_X11 hz30c (by decide) rfl hl.1 rfl (Nat.le_of_ble_eq_true rfl) ⟨by decide, by decide⟩ ⟨by decide, by decide⟩ dX11_guesser_16) X (fun H locs X => ?_)
      refine lv_if_ne (tgt := 24) C.1 C.2.1 dX11_guesser_19 (by decide) (fun hc31 => ?_) (fun hc31 => ?_)
      · have he := jq_n hc31 he
        exact TX11_guesser_b24 (n := n) C hr hlk X (lv_sub hl [0, 1, 2, 3, 4] rfl) he
      · have he := jq_t hc31 he
        exact TX11_guesser_b22 (n := n) C hr hlk X (lv_sub hl [] rfl) he
set_option maxRecDepth 100000 in
set_option maxHeartbeats 4000000 in
theorem TX11_hint_b15 {p : Program} {l : Launch} {e : Env} {s : State} {m : MethodId} {args : Array Value} {below : List Frame} {meth : Method} {c : Code} {D : va_G} {ct : Nat → ClassId} {bs : Nat} {res : Int32 × jq_H} {n : Nat} (C : jq_C p s m args c cX11_hint 5 RX11 D ct bs) (hr : meth.sig.returnType = (some .int)) (hlk : meth.locks = false) {h : jq_H} {H : Heap} {locs : List Loc} {ls : Array Slot} (X : jq_X bs D ct s.heap h H locs) (hl : lv_has ls 5 []) (he : X11_hint_b15 n h = some res) :
    W p l e rm_X11_hint s m args below meth c H locs 0 0 (MQ below (jq_Qi bs D ct res) args s rm_X11_hint.cells rm_X11_hint.slots (fun q => bs ≤ q)) (F0 m 15 ls []) := by
  unfold X11_hint_b15 at he
  refine lv_iconst (v := (-1)) C.1 C.2.1 dX11_hint_15 (by decide) ?_
  exact jq_iret C X hr hlk he (by decide) (by decide) dX11_hint_16
set_option maxRecDepth 100000 in
set_option maxHeartbeats 4000000 in
theorem M_X11_hint (l : Launch) (bs : Nat) (D : va_G) (ct : Nat → ClassId) (n : Nat) (h : jq_H) (a : Nat) (p0 : Int32) (p1 : Int32) (p2 : Int32) (res : Int32 × jq_H) (he : X11_hint n h a p0 p1 p2 = some res) : jq_M l yX11_hint cX11_hint 5 (some .int) rm_X11_hint (jq_P [.ref a, .int p0, .int p1, .int p2] bs D ct h) (jq_Qi bs D ct res) bs := by
  refine jq_start2 (by decide +kernel) (Nat.le_of_ble_eq_true rfl) ?_
  intro p e s m args below meth c ls H locs C hr hlk hin hl X
  have C : jq_C p s m args c cX11_hint 5 RX11 D ct bs := C
  have hin : meth.name = "hint" := hin
  have hl : lv_has ls 5 [(0, .ref a), (1, .int p0), (2, .int p1), (3, .int p2)] := hl
  unfold X11_hint at he
  refine lv_aload_n C.1 C.2.1 dX11_hint_0 rfl (lv_at hl 0 rfl) ?_
  refine lv_iload_n C.1 C.2.1 dX11_hint_1 rfl (lv_at hl 1 rfl) ?_
  obtain ⟨z1, hz1, he⟩ := jq_b he
  obtain ⟨hz1c, hz1⟩ := jq_ite hz1
  refine jq_gi (jq_runV (a := a) (av := [.int p0]) C X (M_X11_isGuesser l bs D ct n h a p0 _ hz1) mf_X11_isGuesser gw_930 gs_37 (Or.inl gw_928) rc_X11 hz1c (by decide) rfl hl.1 rfl (Nat.le_of_ble_eq_true rfl) ⟨by decide, by decide⟩ ⟨by decide, by decide⟩ dX11_hint_2) X (fun H locs X => ?_)
  refine lv_if_eq (tgt := 15) C.1 C.2.1 dX11_hint_5 (by decide) (fun hc2 => ?_) (fun hc2 => ?_)
  · have he := jq_t hc2 he
    exact TX11_hint_b15 (n := n) C hr hlk X (lv_sub hl [] rfl) he
  · have he := jq_n hc2 he
    refine lv_iload_n C.1 C.2.1 dX11_hint_8 rfl (lv_at hl 2 rfl) ?_
    obtain ⟨z3, hz3, he⟩ := jq_b he
    refine jq_gi (jq_runS (av := [.int p1]) C X (M_X11_isPlace l bs D ct n z1.2 p1 _ hz3) mf_X11_isPlace gw_839 (Or.inl gw_838) rfl hl.1 rfl (Nat.le_of_ble_eq_true rfl) ⟨by decide, by decide⟩ ⟨by decide, by decide⟩ dX11_hint_9) X (fun H locs X => ?_)
    refine lv_if_ne (tgt := 17) C.1 C.2.1 dX11_hint_12 (by decide) (fun hc4 => ?_) (fun hc4 => ?_)
    · have he := jq_n hc4 he
      refine lv_iload_n C.1 C.2.1 dX11_hint_17 rfl (lv_at hl 3 rfl) ?_
      refine lv_iconst (v := (-1)) C.1 C.2.1 dX11_hint_18 (by decide) ?_
      refine lv_iconst (v := 1) C.1 C.2.1 dX11_hint_19 (by decide) ?_
      obtain ⟨z5, hz5, he⟩ := jq_b he
      refine jq_gi (jq_runS (av := [.int p2, .int (-1), .int 1]) C X (M_X11_in l bs D ct n z3.2 p2 (-1) 1 _ hz5) mf_X11_in gw_842 (Or.inl gw_841) rfl hl.1 rfl (Nat.le_of_ble_eq_true rfl) ⟨by decide, by decide⟩ ⟨by decide, by decide⟩ dX11_hint_20) X (fun H locs X => ?_)
      refine lv_if_ne (tgt := 29) C.1 C.2.1 dX11_hint_23 (by decide) (fun hc6 => ?_) (fun hc6 => ?_)
      · have he := jq_n hc6 he
        refine lv_aload_n C.1 C.2.1 dX11_hint_29 rfl (lv_at hl 0 rfl) ?_
        refine jq_rgR C X fs_X11_46 he dX11_hint_30 (fun q7 he => ?_)
        refine lv_bipush (v := 64) C.1 C.2.1 dX11_hint_33 (by decide) ?_
        refine lv_iload_n C.1 C.2.1 dX11_hint_35 rfl (lv_at hl 1 rfl) ?_
        refine lv_imul C.1 C.2.1 dX11_hint_36 ?_
        refine lv_iload_n C.1 C.2.1 dX11_hint_37 rfl (lv_at hl 2 rfl) ?_
        refine lv_iadd C.1 C.2.1 dX11_hint_38 ?_
        refine jq_rldI C X he dX11_hint_39 (fun x8 he => ?_)
        refine lv_istore (lv' := [(4, .int x8), (0, .ref a), (1, .int p0), (2, .int p1), (3, .int p2)]) C.1 C.2.1 dX11_hint_40 hl (by decide) rfl (fun ls hl => ?_)
        refine lv_aload_n C.1 C.2.1 dX11_hint_42 rfl (lv_at hl 1 rfl) ?_
        refine jq_rgR C X fs_X11_46 he dX11_hint_43 (fun q9 he => ?_)
        refine lv_bipush (v := 64) C.1 C.2.1 dX11_hint_46 (by decide) ?_
        refine lv_iload_n C.1 C.2.1 dX11_hint_48 rfl (lv_at hl 2 rfl) ?_
        refine lv_imul C.1 C.2.1 dX11_hint_49 ?_
        refine lv_iload_n C.1 C.2.1 dX11_hint_50 rfl (lv_at hl 3 rfl) ?_
        refine lv_iadd C.1 C.2.1 dX11_hint_51 ?_
        refine lv_iload_n C.1 C.2.1 dX11_hint_52 rfl (lv_at hl 4 rfl) ?_
        refine jq_rstI C X he dX11_hint_53 (fun h10 H locs he X => ?_)
        refine lv_iload C.1 C.2.1 dX11_hint_54 (lv_at hl 0 rfl) ?_
        exact jq_iret C X hr hlk he (by decide) (by decide) dX11_hint_56
      · have he := jq_t hc6 he
        refine lv_bipush (v := (-2)) C.1 C.2.1 dX11_hint_26 (by decide) ?_
        exact jq_iret C X hr hlk he (by decide) (by decide) dX11_hint_28
    · have he := jq_t hc4 he
      exact TX11_hint_b15 (n := n) C hr hlk X (lv_sub hl [] rfl) he
