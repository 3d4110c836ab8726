set_option maxRecDepth 100000 in
set_option maxHeartbeats 4000000 in
theorem TX11_inside_b289 {p : Program} {l : Launch} {e : Env} {s : State} {m : MethodId} {args : Array Value} {below : List Frame} {meth : Method} {c : Code} {D : va_G} {ct : Nat → ClassId} {bs : Nat} {res : Int32 × jq_H} {n : Nat} (C : jq_C p s m args c cX11_inside 5 RX11 D ct bs) (hr : meth.sig.returnType = (some .int)) (hlk : meth.locks = false) {s0 : Int32} {h : jq_H} {H : Heap} {locs : List Loc} {ls : Array Slot} (X : jq_X bs D ct s.heap h H locs) (hl : lv_has ls 5 []) (he : X11_inside_b289 n s0 h = some res) :
    W p l e rm_X11_inside s m args below meth c H locs 0 0 (MQ below (jq_Qi bs D ct res) args s rm_X11_inside.cells rm_X11_inside.slots (fun q => bs ≤ q)) (F0 m 289 ls [.int s0]) := by
  unfold X11_inside_b289 at he
  exact jq_iret C X hr hlk he (by decide) (by decide) dX11_inside_289
set_option maxRecDepth 100000 in
set_option maxHeartbeats 4000000 in
theorem TX11_inside_b286 {p : Program} {l : Launch} {e : Env} {s : State} {m : MethodId} {args : Array Value} {below : List Frame} {meth : Method} {c : Code} {D : va_G} {ct : Nat → ClassId} {bs : Nat} {res : Int32 × jq_H} {n : Nat} (C : jq_C p s m args c cX11_inside 5 RX11 D ct bs) (hr : meth.sig.returnType = (some .int)) (hlk : meth.locks = false) {h : jq_H} {H : Heap} {locs : List Loc} {ls : Array Slot} (X : jq_X bs D ct s.heap h H locs) (hl : lv_has ls 5 []) (he : X11_inside_b286 n h = some res) :
    W p l e rm_X11_inside s m args below meth c H locs 0 0 (MQ below (jq_Qi bs D ct res) args s rm_X11_inside.cells rm_X11_inside.slots (fun q => bs ≤ q)) (F0 m 286 ls []) := by
  unfold X11_inside_b286 at he
  refine lv_sipush (v := (-1000)) C.1 C.2.1 dX11_inside_286 (by decide) ?_
  exact TX11_inside_b289 (n := n) C hr hlk X (lv_sub hl [] rfl) he
set_option maxRecDepth 100000 in
set_option maxHeartbeats 4000000 in
theorem TX11_inside_b252 {p : Program} {l : Launch} {e : Env} {s : State} {m : MethodId} {args : Array Value} {below : List Frame} {meth : Method} {c : Code} {D : va_G} {ct : Nat → ClassId} {bs : Nat} {res : Int32 × jq_H} {n : Nat} (C : jq_C p s m args c cX11_inside 5 RX11 D ct bs) (hr : meth.sig.returnType = (some .int)) (hlk : meth.locks = false) {v0 : Nat} {v1 : Int32} {v2 : Int32} {v3 : Int32} {v4 : Int32} {h : jq_H} {H : Heap} {locs : List Loc} {ls : Array Slot} (X : jq_X bs D ct s.heap h H locs) (hl : lv_has ls 5 [(0, .ref v0), (1, .int v1), (2, .int v2), (3, .int v3), (4, .int v4)]) (he : X11_inside_b252 n v0 v1 v2 v3 v4 h = some res) :
    W p l e rm_X11_inside s m args below meth c H locs 0 0 (MQ below (jq_Qi bs D ct res) args s rm_X11_inside.cells rm_X11_inside.slots (fun q => bs ≤ q)) (F0 m 252 ls []) := by
  unfold X11_inside_b252 at he
  refine lv_iload_n C.1 C.2.1 dX11_inside_252 rfl (lv_at hl 2 rfl) ?_
  refine lv_if_ne (tgt := 286) C.1 C.2.1 dX11_inside_253 (by decide) (fun hc1 => ?_) (fun hc1 => ?_)
  · have he := jq_n hc1 he
    exact TX11_inside_b286 (n := n) C hr hlk X (lv_sub hl [] rfl) he
  · have he := jq_t hc1 he
    refine lv_iload_n C.1 C.2.1 dX11_inside_256 rfl (lv_at hl 3 rfl) ?_
    refine lv_iconst (v := 0) C.1 C.2.1 dX11_inside_257 (by decide) ?_
    refine lv_iconst (v := 1) C.1 C.2.1 dX11_inside_258 (by decide) ?_
    refine lv_aload_n C.1 C.2.1 dX11_inside_259 rfl (lv_at hl 0 rfl) ?_
    refine jq_rgR C X fs_X11_37 he dX11_inside_260 (fun q2 he => ?_)
    refine lv_iload_n C.1 C.2.1 dX11_inside_263 rfl (lv_at hl 1 rfl) ?_
    refine jq_rldI C X he dX11_inside_264 (fun x3 he => ?_)
    refine lv_ishl C.1 C.2.1 dX11_inside_265 ?_
    refine lv_iconst (v := 1) C.1 C.2.1 dX11_inside_266 (by decide) ?_
    refine lv_isub C.1 C.2.1 dX11_inside_267 ?_
    obtain ⟨z4, hz4, he⟩ := jq_b he
    refine jq_gi (jq_runS (av := [.int v3, .int 0, .int ((1 <<< (x3 &&& 31)) - 1)]) C X (M_X11_in l bs D ct n h v3 0 ((1 <<< (x3 &&& 31)) - 1) _ hz4) mf_X11_in gw_842 (Or.inl gw_841) rfl hl.1 rfl (Nat.le_of_ble_eq_true rfl) ⟨by decide, by decide⟩ ⟨by decide, by decide⟩ dX11_inside_268) X (fun H locs X => ?_)
    refine lv_if_eq (tgt := 286) C.1 C.2.1 dX11_inside_271 (by decide) (fun hc5 => ?_) (fun hc5 => ?_)
    · have he := jq_t hc5 he
      exact TX11_inside_b286 (n := n) C hr hlk X (lv_sub hl [] rfl) he
    · have he := jq_n hc5 he
      refine lv_aload_n C.1 C.2.1 dX11_inside_274 rfl (lv_at hl 0 rfl) ?_
      refine jq_rgR C X fs_X11_49 he dX11_inside_275 (fun q6 he => ?_)
      refine lv_iload C.1 C.2.1 dX11_inside_278 (lv_at hl 4 rfl) ?_
      refine lv_iload_n C.1 C.2.1 dX11_inside_280 rfl (lv_at hl 3 rfl) ?_
      refine lv_iadd C.1 C.2.1 dX11_inside_281 ?_
      refine jq_rldI C X he dX11_inside_282 (fun x7 he => ?_)
      refine lv_goto (tgt := 289) C.1 C.2.1 dX11_inside_283 (by decide) ?_
      exact TX11_inside_b289 (n := n) C hr hlk X (lv_sub hl [] rfl) he
set_option maxRecDepth 100000 in
set_option maxHeartbeats 4000000 in
theorem TX11_inside_b251 {p : Program} {l : Launch} {e : Env} {s : State} {m : MethodId} {args : Array Value} {below : List Frame} {meth : Method} {c : Code} {D : va_G} {ct : Nat → ClassId} {bs : Nat} {res : Int32 × jq_H} {n : Nat} (C : jq_C p s m args c cX11_inside 5 RX11 D ct bs) (hr : meth.sig.returnType = (some .int)) (hlk : meth.locks = false) {s0 : Int32} {h : jq_H} {H : Heap} {locs : List Loc} {ls : Array Slot} (X : jq_X bs D ct s.heap h H locs) (hl : lv_has ls 5 []) (he : X11_inside_b251 n s0 h = some res) :
    W p l e rm_X11_inside s m args below meth c H locs 0 0 (MQ below (jq_Qi bs D ct res) args s rm_X11_inside.cells rm_X11_inside.slots (fun q => bs ≤ q)) (F0 m 251 ls [.int s0]) := by
  unfold X11_inside_b251 at he
  exact jq_iret C X hr hlk he (by decide) (by decide) dX11_inside_251
set_option maxRecDepth 100000 in
set_option maxHeartbeats 4000000 in
theorem TX11_inside_b248 {p : Program} {l : Launch} {e : Env} {s : State} {m : MethodId} {args : Array Value} {below : List Frame} {meth : Method} {c : Code} {D : va_G} {ct : Nat → ClassId} {bs : Nat} {res : Int32 × jq_H} {n : Nat} (C : jq_C p s m args c cX11_inside 5 RX11 D ct bs) (hr : meth.sig.returnType = (some .int)) (hlk : meth.locks = false) {h : jq_H} {H : Heap} {locs : List Loc} {ls : Array Slot} (X : jq_X bs D ct s.heap h H locs) (hl : lv_has ls 5 []) (he : X11_inside_b248 n h = some res) :
    W p l e rm_X11_inside s m args below meth c H locs 0 0 (MQ below (jq_Qi bs D ct res) args s rm_X11_inside.cells rm_X11_inside.slots (fun q => bs ≤ q)) (F0 m 248 ls []) := by
  unfold X11_inside_b248 at he
  refine lv_sipush (v := (-1000)) C.1 C.2.1 dX11_inside_248 (by decide) ?_
  exact TX11_inside_b251 (n := n) C hr hlk X (lv_sub hl [] rfl) he
set_option maxRecDepth 100000 in
set_option maxHeartbeats 4000000 in
theorem TX11_inside_b213 {p : Program} {l : Launch} {e : Env} {s : State} {m : MethodId} {args : Array Value} {below : List Frame} {meth : Method} {c : Code} {D : va_G} {ct : Nat → ClassId} {bs : Nat} {res : Int32 × jq_H} {n : Nat} (C : jq_C p s m args c cX11_inside 5 RX11 D ct bs) (hr : meth.sig.returnType = (some .int)) (hlk : meth.locks = false) {s0 : Int32} {h : jq_H} {H : Heap} {locs : List Loc} {ls : Array Slot} (X : jq_X bs D ct s.heap h H locs) (hl : lv_has ls 5 []) (he : X11_inside_b213 n s0 h = some res) :
    W p l e rm_X11_inside s m args below meth c H locs 0 0 (MQ below (jq_Qi bs D ct res) args s rm_X11_inside.cells rm_X11_inside.slots (fun q => bs ≤ q)) (F0 m 213 ls [.int s0]) := by
  unfold X11_inside_b213 at he
  exact jq_iret C X hr hlk he (by decide) (by decide) dX11_inside_213
set_option maxRecDepth 100000 in
set_option maxHeartbeats 4000000 in
theorem TX11_inside_b210 {p : Program} {l : Launch} {e : Env} {s : State} {m : MethodId} {args : Array Value} {below : List Frame} {meth : Method} {c : Code} {D : va_G} {ct : Nat → ClassId} {bs : Nat} {res : Int32 × jq_H} {n : Nat} (C : jq_C p s m args c cX11_inside 5 RX11 D ct bs) (hr : meth.sig.returnType = (some .int)) (hlk : meth.locks = false) {h : jq_H} {H : Heap} {locs : List Loc} {ls : Array Slot} (X : jq_X bs D ct s.heap h H locs) (hl : lv_has ls 5 []) (he : X11_inside_b210 n h = some res) :
    W p l e rm_X11_inside s m args below meth c H locs 0 0 (MQ below (jq_Qi bs D ct res) args s rm_X11_inside.cells rm_X11_inside.slots (fun q => bs ≤ q)) (F0 m 210 ls []) := by
  unfold X11_inside_b210 at he
  refine lv_sipush (v := (-1000)) C.1 C.2.1 dX11_inside_210 (by decide) ?_
  exact TX11_inside_b213 (n := n) C hr hlk X (lv_sub hl [] rfl) he
set_option maxRecDepth 100000 in
set_option maxHeartbeats 4000000 in
theorem TX11_inside_b177 {p : Program} {l : Launch} {e : Env} {s : State} {m : MethodId} {args : Array Value} {below : List Frame} {meth : Method} {c : Code} {D : va_G} {ct : Nat → ClassId} {bs : Nat} {res : Int32 × jq_H} {n : Nat} (C : jq_C p s m args c cX11_inside 5 RX11 D ct bs) (hr : meth.sig.returnType = (some .int)) (hlk : meth.locks = false) {s0 : Int32} {h : jq_H} {H : Heap} {locs : List Loc} {ls : Array Slot} (X : jq_X bs D ct s.heap h H locs) (hl : lv_has ls 5 []) (he : X11_inside_b177 n s0 h = some res) :
    W p l e rm_X11_inside s m args below meth c H locs 0 0 (MQ below (jq_Qi bs D ct res) args s rm_X11_inside.cells rm_X11_inside.slots (fun q => bs ≤ q)) (F0 m 177 ls [.int s0]) := by
  unfold X11_inside_b177 at he
  exact jq_iret C X hr hlk he (by decide) (by decide) dX11_inside_177
set_option maxRecDepth 100000 in
set_option maxHeartbeats 4000000 in
theorem TX11_inside_b174 {p : Program} {l : Launch} {e : Env} {s : State} {m : MethodId} {args : Array Value} {below : List Frame} {meth : Method} {c : Code} {D : va_G} {ct : Nat → ClassId} {bs : Nat} {res : Int32 × jq_H} {n : Nat} (C : jq_C p s m args c cX11_inside 5 RX11 D ct bs) (hr : meth.sig.returnType = (some .int)) (hlk : meth.locks = false) {h : jq_H} {H : Heap} {locs : List Loc} {ls : Array Slot} (X : jq_X bs D ct s.heap h H locs) (hl : lv_has ls 5 []) (he : X11_inside_b174 n h = some res) :
    W p l e rm_X11_inside s m args below meth c H locs 0 0 (MQ below (jq_Qi bs D ct res) args s rm_X11_inside.cells rm_X11_inside.slots (fun q => bs ≤ q)) (F0 m 174 ls []) := by
  unfold X11_inside_b174 at he
  refine lv_sipush (v := (-1000)) C.1 C.2.1 dX11_inside_174 (by decide) ?_
  exact TX11_inside_b177 (n := n) C hr hlk X (lv_sub hl [] rfl) he
set_option maxRecDepth 100000 in
set_option maxHeartbeats 4000000 in
theorem TX11_inside_b124 {p : Program} {l : Launch} {e : Env} {s : State} {m : MethodId} {args : Array Value} {below : List Frame} {meth : Method} {c : Code} {D : va_G} {ct : Nat → ClassId} {bs : Nat} {res : Int32 × jq_H} {n : Nat} (C : jq_C p s m args c cX11_inside 5 RX11 D ct bs) (hr : meth.sig.returnType = (some .int)) (hlk : meth.locks = false) {s0 : Int32} {h : jq_H} {H : Heap} {locs : List Loc} {ls : Array Slot} (X : jq_X bs D ct s.heap h H locs) (hl : lv_has ls 5 []) (he : X11_inside_b124 n s0 h = some res) :
    W p l e rm_X11_inside s m args below meth c H locs 0 0 (MQ below (jq_Qi bs D ct res) args s rm_X11_inside.cells rm_X11_inside.slots (fun q => bs ≤ q)) (F0 m 124 ls [.int s0]) := by
  unfold X11_inside_b124 at he
  exact jq_iret C X hr hlk he (by decide) (by decide) dX11_inside_124
set_option maxRecDepth 100000 in
set_option maxHeartbeats 4000000 in
theorem TX11_inside_b121 {p : Program} {l : Launch} {e : Env} {s : State} {m : MethodId} {args : Array Value} {below : List Frame} {meth : Method} {c : Code} {D : va_G} {ct : Nat → ClassId} {bs : Nat} {res : Int32 × jq_H} {n : Nat} (C : jq_C p s m args c cX11_inside 5 RX11 D ct bs) (hr : meth.sig.returnType = (some .int)) (hlk : meth.locks = false) {h : jq_H} {H : Heap} {locs : List Loc} {ls : Array Slot} (X : jq_X bs D ct s.heap h H locs) (hl : lv_has ls 5 []) (he : X11_inside_b121 n h = some res) :
    W p l e rm_X11_inside s m args below meth c H locs 0 0 (MQ below (jq_Qi bs D ct res) args s rm_X11_inside.cells rm_X11_inside.slots (fun q => bs ≤ q)) (F0 m 121 ls []) := by
  unfold X11_inside_b121 at he
  refine lv_sipush (v := (-1000)) C.1 C.2.1 dX11_inside_121 (by decide) ?_
  exact TX11_inside_b124 (n := n) C hr hlk X (lv_sub hl [] rfl) he
set_option maxRecDepth 100000 in
set_option maxHeartbeats 4000000 in
theorem M_X11_inside (l : Launch) (bs : Nat) (D : va_G) (ct : Nat → ClassId) (n : Nat) (h : jq_H) (a : Nat) (p0 : Int32) (p1 : Int32) (p2 : Int32) (res : Int32 × jq_H) (he : X11_inside n h a p0 p1 p2 = some res) : jq_M l yX11_inside cX11_inside 5 (some .int) rm_X11_inside (jq_P [.ref a, .int p0, .int p1, .int p2] bs D ct h) (jq_Qi bs D ct res) bs := by
  refine jq_start2 (by decide +kernel) (Nat.le_of_ble_eq_true rfl) ?_
  intro p e s m args below meth c ls H locs C hr hlk hin hl X
  have C : jq_C p s m args c cX11_inside 5 RX11 D ct bs := C
  have hin : meth.name = "inside" := hin
  have hl : lv_has ls 5 [(0, .ref a), (1, .int p0), (2, .int p1), (3, .int p2)] := hl
  unfold X11_inside at he
  refine lv_aload_n C.1 C.2.1 dX11_inside_0 rfl (lv_at hl 0 rfl) ?_
  refine lv_iload_n C.1 C.2.1 dX11_inside_1 rfl (lv_at hl 1 rfl) ?_
  obtain ⟨z8, hz8, he⟩ := jq_b he
  obtain ⟨hz8c, hz8⟩ := jq_ite hz8
  refine jq_gi (jq_runV (a := a) (av := [.int p0]) C X (M_X11_isGuesser l bs D ct n h a p0 _ hz8) mf_X11_isGuesser gw_930 gs_37 (Or.inl gw_928) rc_X11 hz8c (by decide) rfl hl.1 rfl (Nat.le_of_ble_eq_true rfl) ⟨by decide, by decide⟩ ⟨by decide, by decide⟩ dX11_inside_2) X (fun H locs X => ?_)
  refine lv_if_ne (tgt := 12) C.1 C.2.1 dX11_inside_5 (by decide) (fun hc9 => ?_) (fun hc9 => ?_)
  · have he := jq_n hc9 he
    refine lv_sipush (v := 812) C.1 C.2.1 dX11_inside_12 (by decide) ?_
    refine lv_iload_n C.1 C.2.1 dX11_inside_15 rfl (lv_at hl 1 rfl) ?_
    refine lv_imul C.1 C.2.1 dX11_inside_16 ?_
    obtain ⟨x10, hx10, he⟩ := jq_ln he
    refine jq_top hx10 ?_
    refine lv_istore (lv' := [(4, .int x10), (0, .ref a), (1, .int p0), (2, .int p1), (3, .int p2)]) C.1 C.2.1 dX11_inside_17 hl (by decide) rfl (fun ls hl => ?_)
    refine lv_aload_n C.1 C.2.1 dX11_inside_19 rfl (lv_at hl 1 rfl) ?_
    refine jq_rgR C X fs_X11_34 he dX11_inside_20 (fun q11 he => ?_)
    refine lv_iload_n C.1 C.2.1 dX11_inside_23 rfl (lv_at hl 2 rfl) ?_
    refine jq_rldI C X he dX11_inside_24 (fun x12 he => ?_)
    by_cases hc13 : x12 = 0
    · have he := jq_t hc13 he
      refine lv_tableIn (tgt := 72) C.1 C.2.1 dX11_inside_25 (by rw [hc13]; decide) (by rw [hc13]; decide) (by rw [hc13]; rfl) (by decide) ?_
      refine lv_sipush (v := (-1001)) C.1 C.2.1 dX11_inside_72 (by decide) ?_
      exact jq_iret C X hr hlk he (by decide) (by decide) dX11_inside_75
    have he := jq_n hc13 he
    by_cases hc14 : x12 = 1
    · have he := jq_t hc14 he
      refine lv_tableIn (tgt := 252) C.1 C.2.1 dX11_inside_25 (by rw [hc14]; decide) (by rw [hc14]; decide) (by rw [hc14]; rfl) (by decide) ?_
      exact TX11_inside_b252 (n := n) C hr hlk X (lv_sub hl [1, 2, 3, 4, 0] rfl) he
    have he := jq_n hc14 he
    by_cases hc15 : x12 = 2
    · have he := jq_t hc15 he
      refine lv_tableIn (tgt := 252) C.1 C.2.1 dX11_inside_25 (by rw [hc15]; decide) (by rw [hc15]; decide) (by rw [hc15]; rfl) (by decide) ?_
      exact TX11_inside_b252 (n := n) C hr hlk X (lv_sub hl [1, 2, 3, 4, 0] rfl) he
    have he := jq_n hc15 he
    by_cases hc16 : x12 = 3
    · have he := jq_t hc16 he
      refine lv_tableIn (tgt := 252) C.1 C.2.1 dX11_inside_25 (by rw [hc16]; decide) (by rw [hc16]; decide) (by rw [hc16]; rfl) (by decide) ?_
      exact TX11_inside_b252 (n := n) C hr hlk X (lv_sub hl [1, 2, 3, 4, 0] rfl) he
    have he := jq_n hc16 he
    by_cases hc25 : x12 = 4
    · have he := jq_t hc25 he
      refine lv_tableIn (tgt := 76) C.1 C.2.1 dX11_inside_25 (by rw [hc25]; decide) (by rw [hc25]; decide) (by rw [hc25]; rfl) (by decide) ?_
      refine lv_iload_n C.1 C.2.1 dX11_inside_76 rfl (lv_at hl 3 rfl) ?_
      refine lv_iconst (v := 0) C.1 C.2.1 dX11_inside_77 (by decide) ?_
      refine lv_iconst (v := 2) C.1 C.2.1 dX11_inside_78 (by decide) ?_
      obtain ⟨z17, hz17, he⟩ := jq_b he
      refine jq_gi (jq_runS (av := [.int p1, .int 0, .int 2]) C X (M_X11_in l bs D ct n z8.2 p1 0 2 _ hz17) mf_X11_in gw_842 (Or.inl gw_841) rfl hl.1 rfl (Nat.le_of_ble_eq_true rfl) ⟨by decide, by decide⟩ ⟨by decide, by decide⟩ dX11_inside_79) X (fun H locs X => ?_)
      refine lv_if_eq (tgt := 121) C.1 C.2.1 dX11_inside_82 (by decide) (fun hc18 => ?_) (fun hc18 => ?_)
      · have he := jq_t hc18 he
        exact TX11_inside_b121 (n := n) C hr hlk X (lv_sub hl [] rfl) he
      · have he := jq_n hc18 he
        refine lv_iload_n C.1 C.2.1 dX11_inside_85 rfl (lv_at hl 4 rfl) ?_
        refine lv_iconst (v := 0) C.1 C.2.1 dX11_inside_86 (by decide) ?_
        refine lv_iconst (v := 1) C.1 C.2.1 dX11_inside_87 (by decide) ?_
        refine lv_aload_n C.1 C.2.1 dX11_inside_88 rfl (lv_at hl 1 rfl) ?_
        refine jq_rgR C X fs_X11_37 he dX11_inside_89 (fun q19 he => ?_)
        refine lv_iload_n C.1 C.2.1 dX11_inside_92 rfl (lv_at hl 2 rfl) ?_
        refine jq_rldI C X he dX11_inside_93 (fun x20 he => ?_)
        refine lv_ishl C.1 C.2.1 dX11_inside_94 ?_
        refine lv_iconst (v := 1) C.1 C.2.1 dX11_inside_95 (by decide) ?_
        refine lv_isub C.1 C.2.1 dX11_inside_96 ?_
        obtain ⟨z21, hz21, he⟩ := jq_b he
        refine jq_gi (jq_runS (av := [.int p2, .int 0, .int ((1 <<< (x20 &&& 31)) - 1)]) C X (M_X11_in l bs D ct n z17.2 p2 0 ((1 <<< (x20 &&& 31)) - 1) _ hz21) mf_X11_in gw_842 (Or.inl gw_841) rfl hl.1 rfl (Nat.le_of_ble_eq_true rfl) ⟨by decide, by decide⟩ ⟨by decide, by decide⟩ dX11_inside_97) X (fun H locs X => ?_)
        refine lv_if_eq (tgt := 121) C.1 C.2.1 dX11_inside_100 (by decide) (fun hc22 => ?_) (fun hc22 => ?_)
        · have he := jq_t hc22 he
          exact TX11_inside_b121 (n := n) C hr hlk X (lv_sub hl [] rfl) he
        · have he := jq_n hc22 he
          refine lv_aload_n C.1 C.2.1 dX11_inside_103 rfl (lv_at hl 1 rfl) ?_
          refine jq_rgR C X fs_X11_49 he dX11_inside_104 (fun q23 he => ?_)
          refine lv_iload C.1 C.2.1 dX11_inside_107 (lv_at hl 0 rfl) ?_
          refine lv_sipush (v := 128) C.1 C.2.1 dX11_inside_109 (by decide) ?_
          refine lv_iload_n C.1 C.2.1 dX11_inside_112 rfl (lv_at hl 3 rfl) ?_
          refine lv_imul C.1 C.2.1 dX11_inside_113 ?_
          refine lv_iadd C.1 C.2.1 dX11_inside_114 ?_
          refine lv_iload_n C.1 C.2.1 dX11_inside_115 rfl (lv_at hl 4 rfl) ?_
          refine lv_iadd C.1 C.2.1 dX11_inside_116 ?_
          refine jq_rldI C X he dX11_inside_117 (fun x24 he => ?_)
          refine lv_goto (tgt := 124) C.1 C.2.1 dX11_inside_118 (by decide) ?_
          exact TX11_inside_b124 (n := n) C hr hlk X (lv_sub hl [] rfl) he
    have he := jq_n hc25 he
    by_cases hc36 : x12 = 5
    · have he := jq_t hc36 he
      refine lv_tableIn (tgt := 125) C.1 C.2.1 dX11_inside_25 (by rw [hc36]; decide) (by rw [hc36]; decide) (by rw [hc36]; rfl) (by decide) ?_
      refine lv_iload_n C.1 C.2.1 dX11_inside_125 rfl (lv_at hl 3 rfl) ?_
      refine lv_iconst (v := 0) C.1 C.2.1 dX11_inside_126 (by decide) ?_
      refine lv_iconst (v := 1) C.1 C.2.1 dX11_inside_127 (by decide) ?_
      refine lv_aload_n C.1 C.2.1 dX11_inside_128 rfl (lv_at hl 1 rfl) ?_
      refine jq_rgR C X fs_X11_37 he dX11_inside_129 (fun q26 he => ?_)
      refine lv_iload_n C.1 C.2.1 dX11_inside_132 rfl (lv_at hl 2 rfl) ?_
      refine jq_rldI C X he dX11_inside_133 (fun x27 he => ?_)
      refine lv_ishl C.1 C.2.1 dX11_inside_134 ?_
      refine lv_iconst (v := 1) C.1 C.2.1 dX11_inside_135 (by decide) ?_
      refine lv_isub C.1 C.2.1 dX11_inside_136 ?_
      obtain ⟨z28, hz28, he⟩ := jq_b he
      refine jq_gi (jq_runS (av := [.int p1, .int 0, .int ((1 <<< (x27 &&& 31)) - 1)]) C X (M_X11_in l bs D ct n z8.2 p1 0 ((1 <<< (x27 &&& 31)) - 1) _ hz28) mf_X11_in gw_842 (Or.inl gw_841) rfl hl.1 rfl (Nat.le_of_ble_eq_true rfl) ⟨by decide, by decide⟩ ⟨by decide, by decide⟩ dX11_inside_137) X (fun H locs X => ?_)
      refine lv_if_eq (tgt := 174) C.1 C.2.1 dX11_inside_140 (by decide) (fun hc29 => ?_) (fun hc29 => ?_)
      · have he := jq_t hc29 he
        exact TX11_inside_b174 (n := n) C hr hlk X (lv_sub hl [] rfl) he
      · have he := jq_n hc29 he
        refine lv_iload_n C.1 C.2.1 dX11_inside_143 rfl (lv_at hl 4 rfl) ?_
        refine lv_iconst (v := 0) C.1 C.2.1 dX11_inside_144 (by decide) ?_
        refine lv_aload_n C.1 C.2.1 dX11_inside_145 rfl (lv_at hl 1 rfl) ?_
        refine jq_rgR C X fs_X11_40 he dX11_inside_146 (fun q30 he => ?_)
        refine lv_iload_n C.1 C.2.1 dX11_inside_149 rfl (lv_at hl 2 rfl) ?_
        refine jq_rldI C X he dX11_inside_150 (fun x31 he => ?_)
        obtain ⟨z32, hz32, he⟩ := jq_b he
        refine jq_gi (jq_runS (av := [.int p2, .int 0, .int x31]) C X (M_X11_in l bs D ct n z28.2 p2 0 x31 _ hz32) mf_X11_in gw_842 (Or.inl gw_841) rfl hl.1 rfl (Nat.le_of_ble_eq_true rfl) ⟨by decide, by decide⟩ ⟨by decide, by decide⟩ dX11_inside_151) X (fun H locs X => ?_)
        refine lv_if_eq (tgt := 174) C.1 C.2.1 dX11_inside_154 (by decide) (fun hc33 => ?_) (fun hc33 => ?_)
        · have he := jq_t hc33 he
          exact TX11_inside_b174 (n := n) C hr hlk X (lv_sub hl [] rfl) he
        · have he := jq_n hc33 he
          refine lv_aload_n C.1 C.2.1 dX11_inside_157 rfl (lv_at hl 1 rfl) ?_
          refine jq_rgR C X fs_X11_49 he dX11_inside_158 (fun q34 he => ?_)
          refine lv_iload C.1 C.2.1 dX11_inside_161 (lv_at hl 0 rfl) ?_
          refine lv_bipush (v := 9) C.1 C.2.1 dX11_inside_163 (by decide) ?_
          refine lv_iload_n C.1 C.2.1 dX11_inside_165 rfl (lv_at hl 3 rfl) ?_
          refine lv_imul C.1 C.2.1 dX11_inside_166 ?_
          refine lv_iadd C.1 C.2.1 dX11_inside_167 ?_
          refine lv_iload_n C.1 C.2.1 dX11_inside_168 rfl (lv_at hl 4 rfl) ?_
          refine lv_iadd C.1 C.2.1 dX11_inside_169 ?_
          refine jq_rldI C X he dX11_inside_170 (fun x35 he => ?_)
          refine lv_goto (tgt := 177) C.1 C.2.1 dX11_inside_171 (by decide) ?_
          exact TX11_inside_b177 (n := n) C hr hlk X (lv_sub hl [] rfl) he
    have he := jq_n hc36 he
    by_cases hc43 : x12 = 6
    · have he := jq_t hc43 he
      refine lv_tableIn (tgt := 178) C.1 C.2.1 dX11_inside_25 (by rw [hc43]; decide) (by rw [hc43]; decide) (by rw [hc43]; rfl) (by decide) ?_
      refine lv_iload_n C.1 C.2.1 dX11_inside_178 rfl (lv_at hl 3 rfl) ?_
      obtain ⟨z37, hz37, he⟩ := jq_b he
      refine jq_gi (jq_runS (av := [.int p1]) C X (M_X11_isPlace l bs D ct n z8.2 p1 _ hz37) mf_X11_isPlace gw_839 (Or.inl gw_838) rfl hl.1 rfl (Nat.le_of_ble_eq_true rfl) ⟨by decide, by decide⟩ ⟨by decide, by decide⟩ dX11_inside_179) X (fun H locs X => ?_)
      refine lv_if_eq (tgt := 210) C.1 C.2.1 dX11_inside_182 (by decide) (fun hc38 => ?_) (fun hc38 => ?_)
      · have he := jq_t hc38 he
        exact TX11_inside_b210 (n := n) C hr hlk X (lv_sub hl [] rfl) he
      · have he := jq_n hc38 he
        refine lv_iload_n C.1 C.2.1 dX11_inside_185 rfl (lv_at hl 4 rfl) ?_
        refine lv_iconst (v := 0) C.1 C.2.1 dX11_inside_186 (by decide) ?_
        refine lv_iconst (v := 2) C.1 C.2.1 dX11_inside_187 (by decide) ?_
        obtain ⟨z39, hz39, he⟩ := jq_b he
        refine jq_gi (jq_runS (av := [.int p2, .int 0, .int 2]) C X (M_X11_in l bs D ct n z37.2 p2 0 2 _ hz39) mf_X11_in gw_842 (Or.inl gw_841) rfl hl.1 rfl (Nat.le_of_ble_eq_true rfl) ⟨by decide, by decide⟩ ⟨by decide, by decide⟩ dX11_inside_188) X (fun H locs X => ?_)
        refine lv_if_eq (tgt := 210) C.1 C.2.1 dX11_inside_191 (by decide) (fun hc40 => ?_) (fun hc40 => ?_)
        · have he := jq_t hc40 he
          exact TX11_inside_b210 (n := n) C hr hlk X (lv_sub hl [] rfl) he
        · have he := jq_n hc40 he
          refine lv_aload_n C.1 C.2.1 dX11_inside_194 rfl (lv_at hl 1 rfl) ?_
          refine jq_rgR C X fs_X11_49 he dX11_inside_195 (fun q41 he => ?_)
          refine lv_iload C.1 C.2.1 dX11_inside_198 (lv_at hl 0 rfl) ?_
          refine lv_iconst (v := 3) C.1 C.2.1 dX11_inside_200 (by decide) ?_
          refine lv_iload_n C.1 C.2.1 dX11_inside_201 rfl (lv_at hl 3 rfl) ?_
          refine lv_imul C.1 C.2.1 dX11_inside_202 ?_
          refine lv_iadd C.1 C.2.1 dX11_inside_203 ?_
          refine lv_iload_n C.1 C.2.1 dX11_inside_204 rfl (lv_at hl 4 rfl) ?_
          refine lv_iadd C.1 C.2.1 dX11_inside_205 ?_
          refine jq_rldI C X he dX11_inside_206 (fun x42 he => ?_)
          refine lv_goto (tgt := 213) C.1 C.2.1 dX11_inside_207 (by decide) ?_
          exact TX11_inside_b213 (n := n) C hr hlk X (lv_sub hl [] rfl) he
    have he := jq_n hc43 he
    by_cases hc51 : x12 = 7
    · have he := jq_t hc51 he
      refine lv_tableIn (tgt := 214) C.1 C.2.1 dX11_inside_25 (by rw [hc51]; decide) (by rw [hc51]; decide) (by rw [hc51]; rfl) (by decide) ?_
      refine lv_iload_n C.1 C.2.1 dX11_inside_214 rfl (lv_at hl 3 rfl) ?_
      refine lv_if_ne (tgt := 248) C.1 C.2.1 dX11_inside_215 (by decide) (fun hc44 => ?_) (fun hc44 => ?_)
      · have he := jq_n hc44 he
        exact TX11_inside_b248 (n := n) C hr hlk X (lv_sub hl [] rfl) he
      · have he := jq_t hc44 he
        refine lv_iload_n C.1 C.2.1 dX11_inside_218 rfl (lv_at hl 4 rfl) ?_
        refine lv_iconst (v := 0) C.1 C.2.1 dX11_inside_219 (by decide) ?_
        refine lv_iconst (v := 1) C.1 C.2.1 dX11_inside_220 (by decide) ?_
        refine lv_aload_n C.1 C.2.1 dX11_inside_221 rfl (lv_at hl 1 rfl) ?_
        refine jq_rgR C X fs_X11_43 he dX11_inside_222 (fun q45 he => ?_)
        refine lv_iload_n C.1 C.2.1 dX11_inside_225 rfl (lv_at hl 2 rfl) ?_
        refine jq_rldI C X he dX11_inside_226 (fun x46 he => ?_)
        refine lv_ishl C.1 C.2.1 dX11_inside_227 ?_
        refine lv_iconst (v := 1) C.1 C.2.1 dX11_inside_228 (by decide) ?_
        refine lv_isub C.1 C.2.1 dX11_inside_229 ?_
        obtain ⟨z47, hz47, he⟩ := jq_b he
        refine jq_gi (jq_runS (av := [.int p2, .int 0, .int ((1 <<< (x46 &&& 31)) - 1)]) C X (M_X11_in l bs D ct n z8.2 p2 0 ((1 <<< (x46 &&& 31)) - 1) _ hz47) mf_X11_in gw_842 (Or.inl gw_841) rfl hl.1 rfl (Nat.le_of_ble_eq_true rfl) ⟨by decide, by decide⟩ ⟨by decide, by decide⟩ dX11_inside_230) X (fun H locs X => ?_)
        refine lv_if_eq (tgt := 248) C.1 C.2.1 dX11_inside_233 (by decide) (fun hc48 => ?_) (fun hc48 => ?_)
        · have he := jq_t hc48 he
          exact TX11_inside_b248 (n := n) C hr hlk X (lv_sub hl [] rfl) he
        · have he := jq_n hc48 he
          refine lv_aload_n C.1 C.2.1 dX11_inside_236 rfl (lv_at hl 1 rfl) ?_
          refine jq_rgR C X fs_X11_49 he dX11_inside_237 (fun q49 he => ?_)
          refine lv_iload C.1 C.2.1 dX11_inside_240 (lv_at hl 0 rfl) ?_
          refine lv_iload_n C.1 C.2.1 dX11_inside_242 rfl (lv_at hl 4 rfl) ?_
          refine lv_iadd C.1 C.2.1 dX11_inside_243 ?_
          refine jq_rldI C X he dX11_inside_244 (fun x50 he => ?_)
          refine lv_goto (tgt := 251) C.1 C.2.1 dX11_inside_245 (by decide) ?_
          exact TX11_inside_b251 (n := n) C hr hlk X (lv_sub hl [] rfl) he
    have he := jq_n hc51 he
    refine lv_tableOut (tgt := 252) C.1 C.2.1 dX11_inside_25 (jq_swo (fun k h1 h2 hk => by
    rcases (show k = 0 ∨ k = 1 ∨ k = 2 ∨ k = 3 ∨ k = 4 ∨ k = 5 ∨ k = 6 ∨ k = 7 by omega) with rfl | rfl | rfl | rfl | rfl | rfl | rfl | rfl
    · exact lv_neT hc13 (by decide) hk
    · exact lv_neT hc14 (by decide) hk
    · exact lv_neT hc15 (by decide) hk
    · exact lv_neT hc16 (by decide) hk
    · exact lv_neT hc25 (by decide) hk
    · exact lv_neT hc36 (by decide) hk
    · exact lv_neT hc43 (by decide) hk
    · exact lv_neT hc51 (by decide) hk)) (by decide) ?_
    exact TX11_inside_b252 (n := n) C hr hlk X (lv_sub hl [1, 2, 3, 4, 0] rfl) he
  · have he := jq_t hc9 he
    refine lv_sipush (v := (-1000)) C.1 C.2.1 dX11_inside_8 (by decide) ?_
    exact jq_iret C X hr hlk he (by decide) (by decide) dX11_inside_11
set_option maxRecDepth 100000 in
set_option maxHeartbeats 4000000 in
theorem TX11_keep_b62 {p : Program} {l : Launch} {e : Env} {s : State} {m : MethodId} {args : Array Value} {below : List Frame} {meth : Method} {c : Code} {D : va_G} {ct : Nat → ClassId} {bs : Nat} {res : Int32 × jq_H} {n : Nat} (C : jq_C p s m args c cX11_keep 4 RX11 D ct bs) (hr : meth.sig.returnType = (some .int)) (hlk : meth.locks = false) {v0 : Nat} {v1 : Int32} {v2 : Int32} {h : jq_H} {H : Heap} {locs : List Loc} {ls : Array Slot} (X : jq_X bs D ct s.heap h H locs) (hl : lv_has ls 4 [(0, .ref v0), (1, .int v1), (2, .int v2)]) (he : X11_keep_b62 n v0 v1 v2 h = some res) :
    W p l e rm_X11_keep s m args below meth c H locs 0 0 (MQ below (jq_Qi bs D ct res) args s rm_X11_keep.cells rm_X11_keep.slots (fun q => bs ≤ q)) (F0 m 62 ls []) := by
  unfold X11_keep_b62 at he
  refine lv_aload_n C.1 C.2.1 dX11_keep_62 rfl (lv_at hl 0 rfl) ?_
  refine jq_rgR C X fs_X11_55 he dX11_keep_63 (fun q1 he => ?_)
  refine lv_iconst (v := 2) C.1 C.2.1 dX11_keep_66 (by decide) ?_
  refine lv_iload_n C.1 C.2.1 dX11_keep_67 rfl (lv_at hl 1 rfl) ?_
  refine lv_imul C.1 C.2.1 dX11_keep_68 ?_
  refine lv_iload_n C.1 C.2.1 dX11_keep_69 rfl (lv_at hl 2 rfl) ?_
  refine lv_iadd C.1 C.2.1 dX11_keep_70 ?_
  refine lv_iconst (v := 1) C.1 C.2.1 dX11_keep_71 (by decide) ?_
  refine jq_rstZ C X he dX11_keep_72 (fun h2 H locs he X => ?_)
  refine lv_iconst (v := 1) C.1 C.2.1 dX11_keep_73 (by decide) ?_
  exact jq_iret C X hr hlk he (by decide) (by decide) dX11_keep_74
set_option maxRecDepth 100000 in
set_option maxHeartbeats 4000000 in
theorem TX11_keep_b21 {p : Program} {l : Launch} {e : Env} {s : State} {m : MethodId} {args : Array Value} {below : List Frame} {meth : Method} {c : Code} {D : va_G} {ct : Nat → ClassId} {bs : Nat} {res : Int32 × jq_H} {n : Nat} {KB : Nat → Int32 → Int32 → Int32 → jq_H → Option (Int32 × jq_H)} {K62 : Nat → Int32 → Int32 → jq_H → Option (Int32 × jq_H)} (C : jq_C p s m args c cX11_keep 4 RX11 D ct bs) (hr : meth.sig.returnType = (some .int)) (hlk : meth.locks = false) (hKB : ∀ (u0 : Nat) (u1 : Int32) (u2 : Int32) (u3 : Int32) (h1 : jq_H) (H1 : Heap) (locs1 : List Loc) (ls1 : Array Slot), KB u0 u1 u2 u3 h1 = some res → jq_X bs D ct s.heap h1 H1 locs1 → lv_has ls1 4 [(0, .ref u0), (1, .int u1), (2, .int u2), (3, .int u3)] → W p l e rm_X11_keep s m args below meth c H1 locs1 0 0 (MQ below (jq_Qi bs D ct res) args s rm_X11_keep.cells rm_X11_keep.slots (fun q => bs ≤ q)) (F0 m 21 ls1 [])) (hK62 : ∀ (u0 : Nat) (u1 : Int32) (u2 : Int32) (h1 : jq_H) (H1 : Heap) (locs1 : List Loc) (ls1 : Array Slot), K62 u0 u1 u2 h1 = some res → jq_X bs D ct s.heap h1 H1 locs1 → lv_has ls1 4 [(0, .ref u0), (1, .int u1), (2, .int u2)] → W p l e rm_X11_keep s m args below meth c H1 locs1 0 0 (MQ below (jq_Qi bs D ct res) args s rm_X11_keep.cells rm_X11_keep.slots (fun q => bs ≤ q)) (F0 m 62 ls1 [])) {v0 : Nat} {v1 : Int32} {v2 : Int32} {v3 : Int32} {h : jq_H} {H : Heap} {locs : List Loc} {ls : Array Slot} (X : jq_X bs D ct s.heap h H locs) (hl : lv_has ls 4 [(0, .ref v0), (1, .int v1), (2, .int v2), (3, .int v3)]) (he : X11_keep_b21 n KB K62 v0 v1 v2 v3 h = some res) :
    W p l e rm_X11_keep s m args below meth c H locs 0 0 (MQ below (jq_Qi bs D ct res) args s rm_X11_keep.cells rm_X11_keep.slots (fun q => bs ≤ q)) (F0 m 21 ls []) := by
  unfold X11_keep_b21 at he
  refine lv_iload_n C.1 C.2.1 dX11_keep_21 rfl (lv_at hl 3 rfl) ?_
  refine lv_sipush (v := 812) C.1 C.2.1 dX11_keep_22 (by decide) ?_
  refine lv_icmp_ge (tgt := 62) C.1 C.2.1 dX11_keep_25 (by decide) (fun hc3 => ?_) (fun hc3 => ?_)
  · have he := jq_t hc3 he
    exact hK62 _ _ _ _ _ _ _ he X (lv_sub hl [0, 1, 2] rfl)
  · have he := jq_n hc3 he
    refine lv_aload_n C.1 C.2.1 dX11_keep_28 rfl (lv_at hl 0 rfl) ?_
    refine jq_rgR C X fs_X11_52 he dX11_keep_29 (fun q4 he => ?_)
    refine lv_sipush (v := 812) C.1 C.2.1 dX11_keep_32 (by decide) ?_
    refine lv_iconst (v := 2) C.1 C.2.1 dX11_keep_35 (by decide) ?_
    refine lv_iload_n C.1 C.2.1 dX11_keep_36 rfl (lv_at hl 1 rfl) ?_
    refine lv_imul C.1 C.2.1 dX11_keep_37 ?_
    refine lv_iload_n C.1 C.2.1 dX11_keep_38 rfl (lv_at hl 2 rfl) ?_
    refine lv_iadd C.1 C.2.1 dX11_keep_39 ?_
    refine lv_imul C.1 C.2.1 dX11_keep_40 ?_
    refine lv_iload_n C.1 C.2.1 dX11_keep_41 rfl (lv_at hl 3 rfl) ?_
    refine lv_iadd C.1 C.2.1 dX11_keep_42 ?_
    refine lv_aload_n C.1 C.2.1 dX11_keep_43 rfl (lv_at hl 0 rfl) ?_
    refine jq_rgR C X fs_X11_49 he dX11_keep_44 (fun q5 he => ?_)
    refine lv_sipush (v := 812) C.1 C.2.1 dX11_keep_47 (by decide) ?_
    refine lv_iload_n C.1 C.2.1 dX11_keep_50 rfl (lv_at hl 1 rfl) ?_
    refine lv_imul C.1 C.2.1 dX11_keep_51 ?_
    refine lv_iload_n C.1 C.2.1 dX11_keep_52 rfl (lv_at hl 3 rfl) ?_
    refine lv_iadd C.1 C.2.1 dX11_keep_53 ?_
    refine jq_rldI C X he dX11_keep_54 (fun x6 he => ?_)
    refine jq_rstI C X he dX11_keep_55 (fun h7 H locs he X => ?_)
    obtain ⟨x8, hx8, he⟩ := jq_ln he
    refine lv_iinc (v := x8) (lv' := [(3, .int x8), (0, .ref v0), (1, .int v1), (2, .int v2)]) C.1 C.2.1 dX11_keep_56 hl (k := 3) rfl (by rw [hx8]; rfl) (by decide) rfl (fun ls hl => ?_)
    refine lv_goto (tgt := 21) C.1 C.2.1 dX11_keep_59 (by decide) ?_
    exact hKB _ _ _ _ _ _ _ _ he X (lv_sub hl [1, 2, 3, 0] rfl)
set_option maxRecDepth 100000 in
set_option maxHeartbeats 4000000 in
theorem TX11_keep_l21 {p : Program} {l : Launch} {e : Env} {s : State} {m : MethodId} {args : Array Value} {below : List Frame} {meth : Method} {c : Code} {D : va_G} {ct : Nat → ClassId} {bs : Nat} {res : Int32 × jq_H} {n : Nat} {K62 : Nat → Int32 → Int32 → jq_H → Option (Int32 × jq_H)} (C : jq_C p s m args c cX11_keep 4 RX11 D ct bs) (hr : meth.sig.returnType = (some .int)) (hlk : meth.locks = false) (hK62 : ∀ (u0 : Nat) (u1 : Int32) (u2 : Int32) (h1 : jq_H) (H1 : Heap) (locs1 : List Loc) (ls1 : Array Slot), K62 u0 u1 u2 h1 = some res → jq_X bs D ct s.heap h1 H1 locs1 → lv_has ls1 4 [(0, .ref u0), (1, .int u1), (2, .int u2)] → W p l e rm_X11_keep s m args below meth c H1 locs1 0 0 (MQ below (jq_Qi bs D ct res) args s rm_X11_keep.cells rm_X11_keep.slots (fun q => bs ≤ q)) (F0 m 62 ls1 [])) :
    ∀ (k : Nat) (v0 : Nat) (v1 : Int32) (v2 : Int32) (v3 : Int32) (h : jq_H) (H : Heap) (locs : List Loc) (ls : Array Slot), X11_keep_l21 n K62 k v0 v1 v2 v3 h = some res → jq_X bs D ct s.heap h H locs → lv_has ls 4 [(0, .ref v0), (1, .int v1), (2, .int v2), (3, .int v3)] → W p l e rm_X11_keep s m args below meth c H locs 0 0 (MQ below (jq_Qi bs D ct res) args s rm_X11_keep.cells rm_X11_keep.slots (fun q => bs ≤ q)) (F0 m 21 ls []) := by
  intro k
  induction k with
  | zero => intro v0 v1 v2 v3 h H locs ls he; cases (show (none : Option (Int32 × jq_H)) = some res from he)
  | succ k ih =>
    intro v0 v1 v2 v3 h H locs ls he X hl
    exact TX11_keep_b21 (n := n) C hr hlk (KB := X11_keep_l21 n K62 k) ih hK62 X hl he
set_option maxRecDepth 100000 in
set_option maxHeartbeats 4000000 in
theorem TX11_keep_b17 {p : Program} {l : Launch} {e : Env} {s : State} {m : MethodId} {args : Array Value} {below : List Frame} {meth : Method} {c : Code} {D : va_G} {ct : Nat → ClassId} {bs : Nat} {res : Int32 × jq_H} {n : Nat} (C : jq_C p s m args c cX11_keep 4 RX11 D ct bs) (hr : meth.sig.returnType = (some .int)) (hlk : meth.locks = false) {h : jq_H} {H : Heap} {locs : List Loc} {ls : Array Slot} (X : jq_X bs D ct s.heap h H locs) (hl : lv_has ls 4 []) (he : X11_keep_b17 n h = some res) :
    W p l e rm_X11_keep s m args below meth c H locs 0 0 (MQ below (jq_Qi bs D ct res) args s rm_X11_keep.cells rm_X11_keep.slots (fun q => bs ≤ q)) (F0 m 17 ls []) := by
  unfold X11_keep_b17 at he
  refine lv_iconst (v := (-1)) C.1 C.2.1 dX11_keep_17 (by decide) ?_
  exact jq_iret C X hr hlk he (by decide) (by decide) dX11_keep_18
set_option maxRecDepth 100000 in
set_option maxHeartbeats 4000000 in
theorem M_X11_keep (l : Launch) (bs : Nat) (D : va_G) (ct : Nat → ClassId) (n : Nat) (h : jq_H) (a : Nat) (p0 : Int32) (p1 : Int32) (res : Int32 × jq_H) (he : X11_keep n h a p0 p1 = some res) : jq_M l yX11_keep cX11_keep 4 (some .int) rm_X11_keep (jq_P [.ref a, .int p0, .int p1] bs D ct h) (jq_Qi bs D ct res) bs := by
  refine jq_start2 (by decide +kernel) (Nat.le_of_ble_eq_true rfl) ?_
  intro p e s m args below meth c ls H locs C hr hlk hin hl X
  have C : jq_C p s m args c cX11_keep 4 RX11 D ct bs := C
  have hin : meth.name = "keep" := hin
  have hl : lv_has ls 4 [(0, .ref a), (1, .int p0), (2, .int p1)] := hl
  unfold X11_keep at he
  refine lv_aload_n C.1 C.2.1 dX11_keep_0 rfl (lv_at hl 0 rfl) ?_
  refine lv_iload_n C.1 C.2.1 dX11_keep_1 rfl (lv_at hl 1 rfl) ?_
  obtain ⟨z9, hz9, he⟩ := jq_b he
  obtain ⟨hz9c, hz9⟩ := jq_ite hz9
  refine jq_gi (jq_runV (a := a) (av := [.int p0]) C X (M_X11_isGuesser l bs D ct n h a p0 _ hz9) mf_X11_isGuesser gw_930 gs_37 (Or.inl gw_928) rc_X11 hz9c (by decide) rfl hl.1 rfl (Nat.le_of_ble_eq_true rfl) ⟨by decide, by decide⟩ ⟨by decide, by decide⟩ dX11_keep_2) X (fun H locs X => ?_)
  refine lv_if_eq (tgt := 17) C.1 C.2.1 dX11_keep_5 (by decide) (fun hc10 => ?_) (fun hc10 => ?_)
  · have he := jq_t hc10 he
    exact TX11_keep_b17 (n := n) C hr hlk X (lv_sub hl [] rfl) he
  · have he := jq_n hc10 he
    refine lv_iload_n C.1 C.2.1 dX11_keep_8 rfl (lv_at hl 2 rfl) ?_
    refine lv_iconst (v := 0) C.1 C.2.1 dX11_keep_9 (by decide) ?_
    refine lv_iconst (v := 1) C.1 C.2.1 dX11_keep_10 (by decide) ?_
    obtain ⟨z11, hz11, he⟩ := jq_b he
    refine jq_gi (jq_runS (av := [.int p1, .int 0, .int 1]) C X (M_X11_in l bs D ct n z9.2 p1 0 1 _ hz11) mf_X11_in gw_842 (Or.inl gw_841) rfl hl.1 rfl (Nat.le_of_ble_eq_true rfl) ⟨by decide, by decide⟩ ⟨by decide, by decide⟩ dX11_keep_11) X (fun H locs X => ?_)
    refine lv_if_ne (tgt := 19) C.1 C.2.1 dX11_keep_14 (by decide) (fun hc12 => ?_) (fun hc12 => ?_)
    · have he := jq_n hc12 he
      refine lv_iconst (v := 0) C.1 C.2.1 dX11_keep_19 (by decide) ?_
      refine lv_istore_n (lv' := [(3, .int 0), (0, .ref a), (1, .int p0), (2, .int p1)]) C.1 C.2.1 dX11_keep_20 rfl hl (by decide) rfl (fun ls hl => ?_)
      exact TX11_keep_l21 (n := n) C hr hlk (fun w0 w1 w2 hh H locs ls he X hl => by
    exact TX11_keep_b62 (n := n) C hr hlk X hl he) n _ _ _ _ _ _ _ _ he X (lv_sub hl [1, 2, 3, 0] rfl)
    · have he := jq_t hc12 he
      exact TX11_keep_b17 (n := n) C hr hlk X (lv_sub hl [] rfl) he
set_option maxRecDepth 100000 in
set_option maxHeartbeats 4000000 in
theorem TX11_misses_b48 {p : Program} {l : Launch} {e : Env} {s : State} {m : MethodId} {args : Array Value} {below : List Frame} {meth : Method} {c : Code} {D : va_G} {ct : Nat → ClassId} {bs : Nat} {res : Int32 × jq_H} {n : Nat} (C : jq_C p s m args c cX11_misses 3 RX11 D ct bs) (hr : meth.sig.returnType = (some .int)) (hlk : meth.locks = false) {s0 : Int32} {h : jq_H} {H : Heap} {locs : List Loc} {ls : Array Slot} (X : jq_X bs D ct s.heap h H locs) (hl : lv_has ls 3 []) (he : X11_misses_b48 n s0 h = some res) :
    W p l e rm_X11_misses s m args below meth c H locs 0 0 (MQ below (jq_Qi bs D ct res) args s rm_X11_misses.cells rm_X11_misses.slots (fun q => bs ≤ q)) (F0 m 48 ls [.int s0]) := by
  unfold X11_misses_b48 at he
  exact jq_iret C X hr hlk he (by decide) (by decide) dX11_misses_48
set_option maxRecDepth 100000 in
set_option maxHeartbeats 4000000 in
theorem TX11_misses_b18 {p : Program} {l : Launch} {e : Env} {s : State} {m : MethodId} {args : Array Value} {below : List Frame} {meth : Method} {c : Code} {D : va_G} {ct : Nat → ClassId} {bs : Nat} {res : Int32 × jq_H} {n : Nat} (C : jq_C p s m args c cX11_misses 3 RX11 D ct bs) (hr : meth.sig.returnType = (some .int)) (hlk : meth.locks = false) {h : jq_H} {H : Heap} {locs : List Loc} {ls : Array Slot} (X : jq_X bs D ct s.heap h H locs) (hl : lv_has ls 3 []) (he : X11_misses_b18 n h = some res) :
    W p l e rm_X11_misses s m args below meth c H locs 0 0 (MQ below (jq_Qi bs D ct res) args s rm_X11_misses.cells rm_X11_misses.slots (fun q => bs ≤ q)) (F0 m 18 ls []) := by
  unfold X11_misses_b18 at he
  refine lv_iconst (v := (-1)) C.1 C.2.1 dX11_misses_18 (by decide) ?_
  exact jq_iret C X hr hlk he (by decide) (by decide) dX11_misses_19
set_option maxRecDepth 100000 in
set_option maxHeartbeats 4000000 in
theorem M_X11_misses (l : Launch) (bs : Nat) (D : va_G) (ct : Nat → ClassId) (n : Nat) (h : jq_H) (a : Nat) (p0 : Int32) (p1 : Int32) (res : Int32 × jq_H) (he : X11_misses n h a p0 p1 = some res) : jq_M l yX11_misses cX11_misses 3 (some .int) rm_X11_misses (jq_P [.ref a, .int p0, .int p1] bs D ct h) (jq_Qi bs D ct res) bs := by
  refine jq_start2 (by decide +kernel) (Nat.le_of_ble_eq_true rfl) ?_
  intro p e s m args below meth c ls H locs C hr hlk hin hl X
  have C : jq_C p s m args c cX11_misses 3 RX11 D ct bs := C
  have hin : meth.name = "misses" := hin
  have hl : lv_has ls 3 [(0, .ref a), (1, .int p0), (2, .int p1)] := hl
  unfold X11_misses at he
  refine lv_aload_n C.1 C.2.1 dX11_misses_0 rfl (lv_at hl 0 rfl) ?_
  refine lv_iload_n C.1 C.2.1 dX11_misses_1 rfl (lv_at hl 1 rfl) ?_
  obtain ⟨z1, hz1, he⟩ := jq_b he
  obtain ⟨hz1c, hz1⟩ := jq_ite hz1
  refine jq_gi (jq_runV (a := a) (av := [.int p0]) C X (M_X11_isGuesser l bs D ct n h a p0 _ hz1) mf_X11_isGuesser gw_930 gs_37 (Or.inl gw_928) rc_X11 hz1c (by decide) rfl hl.1 rfl (Nat.le_of_ble_eq_true rfl) ⟨by decide, by decide⟩ ⟨by decide, by decide⟩ dX11_misses_2) X (fun H locs X => ?_)
  refine lv_if_eq (tgt := 18) C.1 C.2.1 dX11_misses_5 (by decide) (fun hc2 => ?_) (fun hc2 => ?_)
  · have he := jq_t hc2 he
    exact TX11_misses_b18 (n := n) C hr hlk X (lv_sub hl [] rfl) he
  · have he := jq_n hc2 he
    refine lv_iload_n C.1 C.2.1 dX11_misses_8 rfl (lv_at hl 2 rfl) ?_
    refine lv_iconst (v := (-1)) C.1 C.2.1 dX11_misses_9 (by decide) ?_
    refine lv_bipush (v := 63) C.1 C.2.1 dX11_misses_10 (by decide) ?_
    obtain ⟨z3, hz3, he⟩ := jq_b he
    refine jq_gi (jq_runS (av := [.int p1, .int (-1), .int 63]) C X (M_X11_in l bs D ct n z1.2 p1 (-1) 63 _ hz3) mf_X11_in gw_842 (Or.inl gw_841) rfl hl.1 rfl (Nat.le_of_ble_eq_true rfl) ⟨by decide, by decide⟩ ⟨by decide, by decide⟩ dX11_misses_12) X (fun H locs X => ?_)
    refine lv_if_ne (tgt := 20) C.1 C.2.1 dX11_misses_15 (by decide) (fun hc4 => ?_) (fun hc4 => ?_)
    · have he := jq_n hc4 he
      refine lv_iload_n C.1 C.2.1 dX11_misses_20 rfl (lv_at hl 2 rfl) ?_
      refine lv_if_ge (tgt := 32) C.1 C.2.1 dX11_misses_21 (by decide) (fun hc5 => ?_) (fun hc5 => ?_)
      · have he := jq_t hc5 he
        refine lv_aload_n C.1 C.2.1 dX11_misses_32 rfl (lv_at hl 0 rfl) ?_
        refine jq_rgR C X fs_X11_49 he dX11_misses_33 (fun q6 he => ?_)
        refine lv_sipush (v := 812) C.1 C.2.1 dX11_misses_36 (by decide) ?_
        refine lv_iload_n C.1 C.2.1 dX11_misses_39 rfl (lv_at hl 1 rfl) ?_
        refine lv_imul C.1 C.2.1 dX11_misses_40 ?_
        refine lv_sipush (v := 448) C.1 C.2.1 dX11_misses_41 (by decide) ?_
        refine lv_iadd C.1 C.2.1 dX11_misses_44 ?_
        refine lv_iload_n C.1 C.2.1 dX11_misses_45 rfl (lv_at hl 2 rfl) ?_
        refine lv_iadd C.1 C.2.1 dX11_misses_46 ?_
        refine jq_rldI C X he dX11_misses_47 (fun x7 he => ?_)
        exact TX11_misses_b48 (n := n) C hr hlk X (lv_sub hl [] rfl) he
      · have he := jq_n hc5 he
        refine lv_aload_n C.1 C.2.1 dX11_misses_24 rfl (lv_at hl 0 rfl) ?_
        refine lv_iload_n C.1 C.2.1 dX11_misses_25 rfl (lv_at hl 1 rfl) ?_
        obtain ⟨z8, hz8, he⟩ := jq_b he
        obtain ⟨hz8c, hz8⟩ := jq_ite hz8
        refine jq_gi (jq_runV (a := a) (av := [.int p0]) C X (M_X11_missesOf l bs D ct n z3.2 a p0 _ hz8) mf_X11_missesOf gw_961 gs_40 (Or.inl gw_959) rc_X11 hz8c (by decide) rfl hl.1 rfl (Nat.le_of_ble_eq_true rfl) ⟨by decide, by decide⟩ ⟨by decide, by decide⟩ dX11_misses_26) X (fun H locs X => ?_)
        refine lv_goto (tgt := 48) C.1 C.2.1 dX11_misses_29 (by decide) ?_
        exact TX11_misses_b48 (n := n) C hr hlk X (lv_sub hl [] rfl) he
    · have he := jq_t hc4 he
      exact TX11_misses_b18 (n := n) C hr hlk X (lv_sub hl [] rfl) he
set_option maxRecDepth 100000 in
set_option maxHeartbeats 4000000 in
theorem TX11_times_b54 {p : Program} {l : Launch} {e : Env} {s : State} {m : MethodId} {args : Array Value} {below : List Frame} {meth : Method} {c : Code} {D : va_G} {ct : Nat → ClassId} {bs : Nat} {res : Int32 × jq_H} {n : Nat} (C : jq_C p s m args c cX11_times 5 RX11 D ct bs) (hr : meth.sig.returnType = (some .int)) (hlk : meth.locks = false) {v3 : Int32} {h : jq_H} {H : Heap} {locs : List Loc} {ls : Array Slot} (X : jq_X bs D ct s.heap h H locs) (hl : lv_has ls 5 [(3, .int v3)]) (he : X11_times_b54 n v3 h = some res) :
    W p l e rm_X11_times s m args below meth c H locs 0 0 (MQ below (jq_Qi bs D ct res) args s rm_X11_times.cells rm_X11_times.slots (fun q => bs ≤ q)) (F0 m 54 ls []) := by
  unfold X11_times_b54 at he
  refine lv_iload_n C.1 C.2.1 dX11_times_54 rfl (lv_at hl 0 rfl) ?_
  exact jq_iret C X hr hlk he (by decide) (by decide) dX11_times_55
set_option maxRecDepth 100000 in
set_option maxHeartbeats 4000000 in
theorem TX11_times_b46 {p : Program} {l : Launch} {e : Env} {s : State} {m : MethodId} {args : Array Value} {below : List Frame} {meth : Method} {c : Code} {D : va_G} {ct : Nat → ClassId} {bs : Nat} {res : Int32 × jq_H} {n : Nat} {KB : Nat → Int32 → Int32 → Int32 → Int32 → jq_H → Option (Int32 × jq_H)} {K54 : Int32 → jq_H → Option (Int32 × jq_H)} (C : jq_C p s m args c cX11_times 5 RX11 D ct bs) (hr : meth.sig.returnType = (some .int)) (hlk : meth.locks = false) (hKB : ∀ (u0 : Nat) (u1 : Int32) (u2 : Int32) (u3 : Int32) (u4 : Int32) (h1 : jq_H) (H1 : Heap) (locs1 : List Loc) (ls1 : Array Slot), KB u0 u1 u2 u3 u4 h1 = some res → jq_X bs D ct s.heap h1 H1 locs1 → lv_has ls1 5 [(0, .ref u0), (1, .int u1), (2, .int u2), (3, .int u3), (4, .int u4)] → W p l e rm_X11_times s m args below meth c H1 locs1 0 0 (MQ below (jq_Qi bs D ct res) args s rm_X11_times.cells rm_X11_times.slots (fun q => bs ≤ q)) (F0 m 5 ls1 [])) (hK54 : ∀ (u3 : Int32) (h1 : jq_H) (H1 : Heap) (locs1 : List Loc) (ls1 : Array Slot), K54 u3 h1 = some res → jq_X bs D ct s.heap h1 H1 locs1 → lv_has ls1 5 [(3, .int u3)] → W p l e rm_X11_times s m args below meth c H1 locs1 0 0 (MQ below (jq_Qi bs D ct res) args s rm_X11_times.cells rm_X11_times.slots (fun q => bs ≤ q)) (F0 m 54 ls1 [])) {v0 : Nat} {v1 : Int32} {v2 : Int32} {v4 : Int32} {s0 : Int32} {s1 : Int32} {h : jq_H} {H : Heap} {locs : List Loc} {ls : Array Slot} (X : jq_X bs D ct s.heap h H locs) (hl : lv_has ls 5 [(0, .ref v0), (1, .int v1), (2, .int v2), (4, .int v4)]) (he : X11_times_b46 n KB K54 v0 v1 v2 v4 s0 s1 h = some res) :
    W p l e rm_X11_times s m args below meth c H locs 0 0 (MQ below (jq_Qi bs D ct res) args s rm_X11_times.cells rm_X11_times.slots (fun q => bs ≤ q)) (F0 m 46 ls [.int s1, .int s0]) := by
  unfold X11_times_b46 at he
  refine lv_iadd C.1 C.2.1 dX11_times_46 ?_
  obtain ⟨x1, hx1, he⟩ := jq_ln he
  refine jq_top hx1 ?_
  refine lv_istore_n (lv' := [(3, .int x1), (0, .ref v0), (1, .int v1), (2, .int v2), (4, .int v4)]) C.1 C.2.1 dX11_times_47 rfl hl (by decide) rfl (fun ls hl => ?_)
  obtain ⟨x2, hx2, he⟩ := jq_ln he
  refine lv_iinc (v := x2) (lv' := [(4, .int x2), (3, .int x1), (0, .ref v0), (1, .int v1), (2, .int v2)]) C.1 C.2.1 dX11_times_48 hl (k := 4) rfl (by rw [hx2]; rfl) (by decide) rfl (fun ls hl => ?_)
  refine lv_goto (tgt := 5) C.1 C.2.1 dX11_times_51 (by decide) ?_
  exact hKB _ _ _ _ _ _ _ _ _ he X (lv_sub hl [2, 3, 4, 1, 0] rfl)
set_option maxRecDepth 100000 in
set_option maxHeartbeats 4000000 in
theorem TX11_times_b45 {p : Program} {l : Launch} {e : Env} {s : State} {m : MethodId} {args : Array Value} {below : List Frame} {meth : Method} {c : Code} {D : va_G} {ct : Nat → ClassId} {bs : Nat} {res : Int32 × jq_H} {n : Nat} {KB : Nat → Int32 → Int32 → Int32 → Int32 → jq_H → Option (Int32 × jq_H)} {K54 : Int32 → jq_H → Option (Int32 × jq_H)} (C : jq_C p s m args c cX11_times 5 RX11 D ct bs) (hr : meth.sig.returnType = (some .int)) (hlk : meth.locks = false) (hKB : ∀ (u0 : Nat) (u1 : Int32) (u2 : Int32) (u3 : Int32) (u4 : Int32) (h1 : jq_H) (H1 : Heap) (locs1 : List Loc) (ls1 : Array Slot), KB u0 u1 u2 u3 u4 h1 = some res → jq_X bs D ct s.heap h1 H1 locs1 → lv_has ls1 5 [(0, .ref u0), (1, .int u1), (2, .int u2), (3, .int u3), (4, .int u4)] → W p l e rm_X11_times s m args below meth c H1 locs1 0 0 (MQ below (jq_Qi bs D ct res) args s rm_X11_times.cells rm_X11_times.slots (fun q => bs ≤ q)) (F0 m 5 ls1 [])) (hK54 : ∀ (u3 : Int32) (h1 : jq_H) (H1 : Heap) (locs1 : List Loc) (ls1 : Array Slot), K54 u3 h1 = some res → jq_X bs D ct s.heap h1 H1 locs1 → lv_has ls1 5 [(3, .int u3)] → W p l e rm_X11_times s m args below meth c H1 locs1 0 0 (MQ below (jq_Qi bs D ct res) args s rm_X11_times.cells rm_X11_times.slots (fun q => bs ≤ q)) (F0 m 54 ls1 [])) {v0 : Nat} {v1 : Int32} {v2 : Int32} {v4 : Int32} {s0 : Int32} {h : jq_H} {H : Heap} {locs : List Loc} {ls : Array Slot} (X : jq_X bs D ct s.heap h H locs) (hl : lv_has ls 5 [(0, .ref v0), (1, .int v1), (2, .int v2), (4, .int v4)]) (he : X11_times_b45 n KB K54 v0 v1 v2 v4 s0 h = some res) :
    W p l e rm_X11_times s m args below meth c H locs 0 0 (MQ below (jq_Qi bs D ct res) args s rm_X11_times.cells rm_X11_times.slots (fun q => bs ≤ q)) (F0 m 45 ls [.int s0]) := by
  unfold X11_times_b45 at he
  refine lv_iconst (v := 0) C.1 C.2.1 dX11_times_45 (by decide) ?_
  exact TX11_times_b46 (n := n) C hr hlk hKB hK54 X (lv_sub hl [0, 1, 2, 3] rfl) he
set_option maxRecDepth 100000 in
set_option maxHeartbeats 4000000 in
theorem TX11_times_b41 {p : Program} {l : Launch} {e : Env} {s : State} {m : MethodId} {args : Array Value} {below : List Frame} {meth : Method} {c : Code} {D : va_G} {ct : Nat → ClassId} {bs : Nat} {res : Int32 × jq_H} {n : Nat} {KB : Nat → Int32 → Int32 → Int32 → Int32 → jq_H → Option (Int32 × jq_H)} {K54 : Int32 → jq_H → Option (Int32 × jq_H)} (C : jq_C p s m args c cX11_times 5 RX11 D ct bs) (hr : meth.sig.returnType = (some .int)) (hlk : meth.locks = false) (hKB : ∀ (u0 : Nat) (u1 : Int32) (u2 : Int32) (u3 : Int32) (u4 : Int32) (h1 : jq_H) (H1 : Heap) (locs1 : List Loc) (ls1 : Array Slot), KB u0 u1 u2 u3 u4 h1 = some res → jq_X bs D ct s.heap h1 H1 locs1 → lv_has ls1 5 [(0, .ref u0), (1, .int u1), (2, .int u2), (3, .int u3), (4, .int u4)] → W p l e rm_X11_times s m args below meth c H1 locs1 0 0 (MQ below (jq_Qi bs D ct res) args s rm_X11_times.cells rm_X11_times.slots (fun q => bs ≤ q)) (F0 m 5 ls1 [])) (hK54 : ∀ (u3 : Int32) (h1 : jq_H) (H1 : Heap) (locs1 : List Loc) (ls1 : Array Slot), K54 u3 h1 = some res → jq_X bs D ct s.heap h1 H1 locs1 → lv_has ls1 5 [(3, .int u3)] → W p l e rm_X11_times s m args below meth c H1 locs1 0 0 (MQ below (jq_Qi bs D ct res) args s rm_X11_times.cells rm_X11_times.slots (fun q => bs ≤ q)) (F0 m 54 ls1 [])) {v0 : Nat} {v1 : Int32} {v2 : Int32} {v4 : Int32} {s0 : Int32} {h : jq_H} {H : Heap} {locs : List Loc} {ls : Array Slot} (X : jq_X bs D ct s.heap h H locs) (hl : lv_has ls 5 [(0, .ref v0), (1, .int v1), (2, .int v2), (4, .int v4)]) (he : X11_times_b41 n KB K54 v0 v1 v2 v4 s0 h = some res) :
    W p l e rm_X11_times s m args below meth c H locs 0 0 (MQ below (jq_Qi bs D ct res) args s rm_X11_times.cells rm_X11_times.slots (fun q => bs ≤ q)) (F0 m 41 ls [.int s0]) := by
  unfold X11_times_b41 at he
  refine lv_iconst (v := 1) C.1 C.2.1 dX11_times_41 (by decide) ?_
  refine lv_goto (tgt := 46) C.1 C.2.1 dX11_times_42 (by decide) ?_
  exact TX11_times_b46 (n := n) C hr hlk hKB hK54 X (lv_sub hl [0, 1, 2, 3] rfl) he
set_option maxRecDepth 100000 in
set_option maxHeartbeats 4000000 in
theorem TX11_times_b5 {p : Program} {l : Launch} {e : Env} {s : State} {m : MethodId} {args : Array Value} {below : List Frame} {meth : Method} {c : Code} {D : va_G} {ct : Nat → ClassId} {bs : Nat} {res : Int32 × jq_H} {n : Nat} {KB : Nat → Int32 → Int32 → Int32 → Int32 → jq_H → Option (Int32 × jq_H)} {K54 : Int32 → jq_H → Option (Int32 × jq_H)} (C : jq_C p s m args c cX11_times 5 RX11 D ct bs) (hr : meth.sig.returnType = (some .int)) (hlk : meth.locks = false) (hKB : ∀ (u0 : Nat) (u1 : Int32) (u2 : Int32) (u3 : Int32) (u4 : Int32) (h1 : jq_H) (H1 : Heap) (locs1 : List Loc) (ls1 : Array Slot), KB u0 u1 u2 u3 u4 h1 = some res → jq_X bs D ct s.heap h1 H1 locs1 → lv_has ls1 5 [(0, .ref u0), (1, .int u1), (2, .int u2), (3, .int u3), (4, .int u4)] → W p l e rm_X11_times s m args below meth c H1 locs1 0 0 (MQ below (jq_Qi bs D ct res) args s rm_X11_times.cells rm_X11_times.slots (fun q => bs ≤ q)) (F0 m 5 ls1 [])) (hK54 : ∀ (u3 : Int32) (h1 : jq_H) (H1 : Heap) (locs1 : List Loc) (ls1 : Array Slot), K54 u3 h1 = some res → jq_X bs D ct s.heap h1 H1 locs1 → lv_has ls1 5 [(3, .int u3)] → W p l e rm_X11_times s m args below meth c H1 locs1 0 0 (MQ below (jq_Qi bs D ct res) args s rm_X11_times.cells rm_X11_times.slots (fun q => bs ≤ q)) (F0 m 54 ls1 [])) {v0 : Nat} {v1 : Int32} {v2 : Int32} {v3 : Int32} {v4 : Int32} {h : jq_H} {H : Heap} {locs : List Loc} {ls : Array Slot} (X : jq_X bs D ct s.heap h H locs) (hl : lv_has ls 5 [(0, .ref v0), (1, .int v1), (2, .int v2), (3, .int v3), (4, .int v4)]) (he : X11_times_b5 n KB K54 v0 v1 v2 v3 v4 h = some res) :
    W p l e rm_X11_times s m args below meth c H locs 0 0 (MQ below (jq_Qi bs D ct res) args s rm_X11_times.cells rm_X11_times.slots (fun q => bs ≤ q)) (F0 m 5 ls []) := by
  unfold X11_times_b5 at he
  refine lv_iload C.1 C.2.1 dX11_times_5 (lv_at hl 4 rfl) ?_
  refine lv_aload_n C.1 C.2.1 dX11_times_7 rfl (lv_at hl 0 rfl) ?_
  refine jq_rgI C X fs_X11_101 he dX11_times_8 (fun x3 he => ?_)
  refine lv_icmp_ge (tgt := 54) C.1 C.2.1 dX11_times_11 (by decide) (fun hc4 => ?_) (fun hc4 => ?_)
  · have he := jq_t hc4 he
    exact hK54 _ _ _ _ _ he X (lv_sub hl [3] rfl)
  · have he := jq_n hc4 he
    refine lv_iload_n C.1 C.2.1 dX11_times_14 rfl (lv_at hl 3 rfl) ?_
    refine lv_aload_n C.1 C.2.1 dX11_times_15 rfl (lv_at hl 0 rfl) ?_
    refine jq_rgR C X fs_X11_28 he dX11_times_16 (fun q5 he => ?_)
    refine lv_iload C.1 C.2.1 dX11_times_19 (lv_at hl 4 rfl) ?_
    refine jq_rldI C X he dX11_times_21 (fun x6 he => ?_)
    refine lv_iload_n C.1 C.2.1 dX11_times_22 rfl (lv_at hl 1 rfl) ?_
    refine lv_icmp_ne (tgt := 45) C.1 C.2.1 dX11_times_23 (by decide) (fun hc7 => ?_) (fun hc7 => ?_)
    · have he := jq_n hc7 he
      exact TX11_times_b45 (n := n) C hr hlk hKB hK54 X (lv_sub hl [0, 1, 2, 4] rfl) he
    · have he := jq_t hc7 he
      refine lv_iload_n C.1 C.2.1 dX11_times_26 rfl (lv_at hl 2 rfl) ?_
      refine lv_if_lt (tgt := 41) C.1 C.2.1 dX11_times_27 (by decide) (fun hc8 => ?_) (fun hc8 => ?_)
      · have he := jq_t hc8 he
        exact TX11_times_b41 (n := n) C hr hlk hKB hK54 X (lv_sub hl [0, 1, 2, 4] rfl) he
      · have he := jq_n hc8 he
        refine lv_aload_n C.1 C.2.1 dX11_times_30 rfl (lv_at hl 0 rfl) ?_
        refine jq_rgR C X fs_X11_31 he dX11_times_31 (fun q9 he => ?_)
        refine lv_iload C.1 C.2.1 dX11_times_34 (lv_at hl 4 rfl) ?_
        refine jq_rldI C X he dX11_times_36 (fun x10 he => ?_)
        refine lv_iload_n C.1 C.2.1 dX11_times_37 rfl (lv_at hl 2 rfl) ?_
        refine lv_icmp_ne (tgt := 45) C.1 C.2.1 dX11_times_38 (by decide) (fun hc11 => ?_) (fun hc11 => ?_)
        · have he := jq_n hc11 he
          exact TX11_times_b45 (n := n) C hr hlk hKB hK54 X (lv_sub hl [0, 1, 2, 4] rfl) he
        · have he := jq_t hc11 he
          exact TX11_times_b41 (n := n) C hr hlk hKB hK54 X (lv_sub hl [0, 1, 2, 4] rfl) he
set_option maxRecDepth 100000 in
set_option maxHeartbeats 4000000 in
theorem TX11_times_l5 {p : Program} {l : Launch} {e : Env} {s : State} {m : MethodId} {args : Array Value} {below : List Frame} {meth : Method} {c : Code} {D : va_G} {ct : Nat → ClassId} {bs : Nat} {res : Int32 × jq_H} {n : Nat} {K54 : Int32 → jq_H → Option (Int32 × jq_H)} (C : jq_C p s m args c cX11_times 5 RX11 D ct bs) (hr : meth.sig.returnType = (some .int)) (hlk : meth.locks = false) (hK54 : ∀ (u3 : Int32) (h1 : jq_H) (H1 : Heap) (locs1 : List Loc) (ls1 : Array Slot), K54 u3 h1 = some res → jq_X bs D ct s.heap h1 H1 locs1 → lv_has ls1 5 [(3, .int u3)] → W p l e rm_X11_times s m args below meth c H1 locs1 0 0 (MQ below (jq_Qi bs D ct res) args s rm_X11_times.cells rm_X11_times.slots (fun q => bs ≤ q)) (F0 m 54 ls1 [])) :
    ∀ (k : Nat) (v0 : Nat) (v1 : Int32) (v2 : Int32) (v3 : Int32) (v4 : Int32) (h : jq_H) (H : Heap) (locs : List Loc) (ls : Array Slot), X11_times_l5 n K54 k v0 v1 v2 v3 v4 h = some res → jq_X bs D ct s.heap h H locs → lv_has ls 5 [(0, .ref v0), (1, .int v1), (2, .int v2), (3, .int v3), (4, .int v4)] → W p l e rm_X11_times s m args below meth c H locs 0 0 (MQ below (jq_Qi bs D ct res) args s rm_X11_times.cells rm_X11_times.slots (fun q => bs ≤ q)) (F0 m 5 ls []) := by
  intro k
  induction k with
  | zero => intro v0 v1 v2 v3 v4 h H locs ls he; cases (show (none : Option (Int32 × jq_H)) = some res from he)
  | succ k ih =>
    intro v0 v1 v2 v3 v4 h H locs ls he X hl
    exact TX11_times_b5 (n := n) C hr hlk (KB := X11_times_l5 n K54 k) ih hK54 X hl he
set_option maxRecDepth 100000 in
set_option maxHeartbeats 4000000 in
theorem M_X11_times (l : Launch) (bs : Nat) (D : va_G) (ct : Nat → ClassId) (n : Nat) (h : jq_H) (a : Nat) (p0 : Int32) (p1 : Int32) (res : Int32 × jq_H) (he : X11_times n h a p0 p1 = some res) : jq_M l yX11_times cX11_times 5 (some .int) rm_X11_times (jq_P [.ref a, .int p0, .int p1] bs D ct h) (jq_Qi bs D ct res) bs := by
  refine jq_start2 (by decide +kernel) (Nat.le_of_ble_eq_true rfl) ?_
  intro p e s m args below meth c ls H locs C hr hlk hin hl X
  have C : jq_C p s m args c cX11_times 5 RX11 D ct bs := C
  have hin : meth.name = "times" := hin
  have hl : lv_has ls 5 [(0, .ref a), (1, .int p0), (2, .int p1)] := hl
  unfold X11_times at he
  refine lv_iconst (v := 0) C.1 C.2.1 dX11_times_0 (by decide) ?_
  refine lv_istore_n (lv' := [(3, .int 0), (0, .ref a), (1, .int p0), (2, .int p1)]) C.1 C.2.1 dX11_times_1 rfl hl (by decide) rfl (fun ls hl => ?_)
  refine lv_iconst (v := 0) C.1 C.2.1 dX11_times_2 (by decide) ?_
  refine lv_istore (lv' := [(4, .int 0), (3, .int 0), (0, .ref a), (1, .int p0), (2, .int p1)]) C.1 C.2.1 dX11_times_3 hl (by decide) rfl (fun ls hl => ?_)
  exact TX11_times_l5 (n := n) C hr hlk (fun w3 hh H locs ls he X hl => by
    exact TX11_times_b54 (n := n) C hr hlk X hl he) n _ _ _ _ _ _ _ _ _ he X (lv_sub hl [2, 3, 4, 1, 0] rfl)
set_option maxRecDepth 100000 in
set_option maxHeartbeats 4000000 in
theorem TX11_often_b29 {p : Program} {l : Launch} {e : Env} {s : State} {m : MethodId} {args : Array Value} {below : List Frame} {meth : Method} {c : Code} {D : va_G} {ct : Nat → ClassId} {bs : Nat} {res : Int32 × jq_H} {n : Nat} (C : jq_C p s m args c cX11_often 3 RX11 D ct bs) (hr : meth.sig.returnType = (some .int)) (hlk : meth.locks = false) {s0 : Int32} {h : jq_H} {H : Heap} {locs : List Loc} {ls : Array Slot} (X : jq_X bs D ct s.heap h H locs) (hl : lv_has ls 3 []) (he : X11_often_b29 n s0 h = some res) :
    W p l e rm_X11_often s m args below meth c H locs 0 0 (MQ below (jq_Qi bs D ct res) args s rm_X11_often.cells rm_X11_often.slots (fun q => bs ≤ q)) (F0 m 29 ls [.int s0]) := by
  unfold X11_often_b29 at he
  exact jq_iret C X hr hlk he (by decide) (by decide) dX11_often_29
set_option maxRecDepth 100000 in
set_option maxHeartbeats 4000000 in
theorem M_X11_often (l : Launch) (bs : Nat) (D : va_G) (ct : Nat → ClassId) (n : Nat) (h : jq_H) (a : Nat) (p0 : Int32) (p1 : Int32) (res : Int32 × jq_H) (he : X11_often n h a p0 p1 = some res) : jq_M l yX11_often cX11_often 3 (some .int) rm_X11_often (jq_P [.ref a, .int p0, .int p1] bs D ct h) (jq_Qi bs D ct res) bs := by
  refine jq_start2 (by decide +kernel) (Nat.le_of_ble_eq_true rfl) ?_
  intro p e s m args below meth c ls H locs C hr hlk hin hl X
  have C : jq_C p s m args c cX11_often 3 RX11 D ct bs := C
  have hin : meth.name = "often" := hin
  have hl : lv_has ls 3 [(0, .ref a), (1, .int p0), (2, .int p1)] := hl
  unfold X11_often at he
  refine lv_iload_n C.1 C.2.1 dX11_often_0 rfl (lv_at hl 1 rfl) ?_
  obtain ⟨z1, hz1, he⟩ := jq_b he
  refine jq_gi (jq_runS (av := [.int p0]) C X (M_X11_isPlace l bs D ct n h p0 _ hz1) mf_X11_isPlace gw_839 (Or.inl gw_838) rfl hl.1 rfl (Nat.le_of_ble_eq_true rfl) ⟨by decide, by decide⟩ ⟨by decide, by decide⟩ dX11_often_1) X (fun H locs X => ?_)
  refine lv_if_ne (tgt := 9) C.1 C.2.1 dX11_often_4 (by decide) (fun hc2 => ?_) (fun hc2 => ?_)
  · have he := jq_n hc2 he
    refine lv_iload_n C.1 C.2.1 dX11_often_9 rfl (lv_at hl 2 rfl) ?_
    refine lv_iconst (v := (-1)) C.1 C.2.1 dX11_often_10 (by decide) ?_
    refine lv_iconst (v := 1) C.1 C.2.1 dX11_often_11 (by decide) ?_
    obtain ⟨z3, hz3, he⟩ := jq_b he
    refine jq_gi (jq_runS (av := [.int p1, .int (-1), .int 1]) C X (M_X11_in l bs D ct n z1.2 p1 (-1) 1 _ hz3) mf_X11_in gw_842 (Or.inl gw_841) rfl hl.1 rfl (Nat.le_of_ble_eq_true rfl) ⟨by decide, by decide⟩ ⟨by decide, by decide⟩ dX11_often_12) X (fun H locs X => ?_)
    refine lv_if_eq (tgt := 27) C.1 C.2.1 dX11_often_15 (by decide) (fun hc4 => ?_) (fun hc4 => ?_)
    · have he := jq_t hc4 he
      refine lv_bipush (v := (-2)) C.1 C.2.1 dX11_often_27 (by decide) ?_
      exact TX11_often_b29 (n := n) C hr hlk X (lv_sub hl [] rfl) he
    · have he := jq_n hc4 he
      refine lv_aload_n C.1 C.2.1 dX11_often_18 rfl (lv_at hl 0 rfl) ?_
      refine lv_iload_n C.1 C.2.1 dX11_often_19 rfl (lv_at hl 1 rfl) ?_
      refine lv_iload_n C.1 C.2.1 dX11_often_20 rfl (lv_at hl 2 rfl) ?_
      obtain ⟨z5, hz5, he⟩ := jq_b he
      obtain ⟨hz5c, hz5⟩ := jq_ite hz5
      refine jq_gi (jq_runV (a := a) (av := [.int p0, .int p1]) C X (M_X11_times l bs D ct n z3.2 a p0 p1 _ hz5) mf_X11_times gw_953 gs_39 (Or.inl gw_951) rc_X11 hz5c (by decide) rfl hl.1 rfl (Nat.le_of_ble_eq_true rfl) ⟨by decide, by decide⟩ ⟨by decide, by decide⟩ dX11_often_21) X (fun H locs X => ?_)
      refine lv_goto (tgt := 29) C.1 C.2.1 dX11_often_24 (by decide) ?_
      exact TX11_often_b29 (n := n) C hr hlk X (lv_sub hl [] rfl) he
  · have he := jq_t hc2 he
    refine lv_iconst (v := (-1)) C.1 C.2.1 dX11_often_7 (by decide) ?_
    exact jq_iret C X hr hlk he (by decide) (by decide) dX11_often_8
set_option maxRecDepth 100000 in
set_option maxHeartbeats 4000000 in
theorem TX11_op_b57 {p : Program} {l : Launch} {e : Env} {s : State} {m : MethodId} {args : Array Value} {below : List Frame} {meth : Method} {c : Code} {D : va_G} {ct : Nat → ClassId} {bs : Nat} {res : Int32 × jq_H} {n : Nat} (C : jq_C p s m args c cX11_op 7 RX11 D ct bs) (hr : meth.sig.returnType = (some .int)) (hlk : meth.locks = false) {v0 : Nat} {v1 : Int32} {v2 : Int32} {v3 : Int32} {v4 : Int32} {v5 : Int32} {h : jq_H} {H : Heap} {locs : List Loc} {ls : Array Slot} (X : jq_X bs D ct s.heap h H locs) (hl : lv_has ls 7 [(0, .ref v0), (1, .int v1), (2, .int v2), (3, .int v3), (4, .int v4), (5, .int v5)]) (he : X11_op_b57 n v0 v1 v2 v3 v4 v5 h = some res) :
    W p l e rm_X11_op s m args below meth c H locs 0 0 (MQ below (jq_Qi bs D ct res) args s rm_X11_op.cells rm_X11_op.slots (fun q => bs ≤ q)) (F0 m 57 ls []) := by
  unfold X11_op_b57 at he
  refine lv_aload_n C.1 C.2.1 dX11_op_57 rfl (lv_at hl 0 rfl) ?_
  refine jq_rgR C X fs_X11_7 he dX11_op_58 (fun q1 he => ?_)
  refine lv_iload_n C.1 C.2.1 dX11_op_61 rfl (lv_at hl 1 rfl) ?_
  refine jq_rldI C X he dX11_op_62 (fun x2 he => ?_)
  refine lv_istore (lv' := [(6, .int x2), (0, .ref v0), (1, .int v1), (2, .int v2), (3, .int v3), (4, .int v4), (5, .int v5)]) C.1 C.2.1 dX11_op_63 hl (by decide) rfl (fun ls hl => ?_)
  refine lv_aload_n C.1 C.2.1 dX11_op_65 rfl (lv_at hl 1 rfl) ?_
  refine jq_rgR C X fs_X11_7 he dX11_op_66 (fun q3 he => ?_)
  refine lv_iload_n C.1 C.2.1 dX11_op_69 rfl (lv_at hl 2 rfl) ?_
  refine lv_iload_n C.1 C.2.1 dX11_op_70 rfl (lv_at hl 3 rfl) ?_
  refine jq_rstI C X he dX11_op_71 (fun h4 H locs he X => ?_)
  refine lv_aload_n C.1 C.2.1 dX11_op_72 rfl (lv_at hl 1 rfl) ?_
  refine jq_rgR C X fs_X11_13 he dX11_op_73 (fun q5 he => ?_)
  refine lv_iload_n C.1 C.2.1 dX11_op_76 rfl (lv_at hl 2 rfl) ?_
  refine lv_iload_n C.1 C.2.1 dX11_op_77 rfl (lv_at hl 4 rfl) ?_
  refine jq_rstI C X he dX11_op_78 (fun h6 H locs he X => ?_)
  refine lv_aload_n C.1 C.2.1 dX11_op_79 rfl (lv_at hl 1 rfl) ?_
  refine jq_rgR C X fs_X11_16 he dX11_op_80 (fun q7 he => ?_)
  refine lv_iload_n C.1 C.2.1 dX11_op_83 rfl (lv_at hl 2 rfl) ?_
  refine lv_iload C.1 C.2.1 dX11_op_84 (lv_at hl 5 rfl) ?_
  refine jq_rstI C X he dX11_op_86 (fun h8 H locs he X => ?_)
  refine lv_aload_n C.1 C.2.1 dX11_op_87 rfl (lv_at hl 1 rfl) ?_
  refine jq_rgR C X fs_X11_19 he dX11_op_88 (fun q9 he => ?_)
  refine lv_iload_n C.1 C.2.1 dX11_op_91 rfl (lv_at hl 2 rfl) ?_
  refine lv_iload C.1 C.2.1 dX11_op_92 (lv_at hl 6 rfl) ?_
  refine jq_rstI C X he dX11_op_94 (fun h10 H locs he X => ?_)
  refine lv_iload C.1 C.2.1 dX11_op_95 (lv_at hl 0 rfl) ?_
  exact jq_iret C X hr hlk he (by decide) (by decide) dX11_op_97
set_option maxRecDepth 100000 in
set_option maxHeartbeats 4000000 in
theorem TX11_op_b54 {p : Program} {l : Launch} {e : Env} {s : State} {m : MethodId} {args : Array Value} {below : List Frame} {meth : Method} {c : Code} {D : va_G} {ct : Nat → ClassId} {bs : Nat} {res : Int32 × jq_H} {n : Nat} (C : jq_C p s m args c cX11_op 7 RX11 D ct bs) (hr : meth.sig.returnType = (some .int)) (hlk : meth.locks = false) {h : jq_H} {H : Heap} {locs : List Loc} {ls : Array Slot} (X : jq_X bs D ct s.heap h H locs) (hl : lv_has ls 7 []) (he : X11_op_b54 n h = some res) :
    W p l e rm_X11_op s m args below meth c H locs 0 0 (MQ below (jq_Qi bs D ct res) args s rm_X11_op.cells rm_X11_op.slots (fun q => bs ≤ q)) (F0 m 54 ls []) := by
  unfold X11_op_b54 at he
  refine lv_bipush (v := (-2)) C.1 C.2.1 dX11_op_54 (by decide) ?_
  exact jq_iret C X hr hlk he (by decide) (by decide) dX11_op_56
set_option maxRecDepth 100000 in
set_option maxHeartbeats 4000000 in
theorem M_X11_op (l : Launch) (bs : Nat) (D : va_G) (ct : Nat → ClassId) (n : Nat) (h : jq_H) (a : Nat) (p0 : Int32) (p1 : Int32) (p2 : Int32) (p3 : Int32) (p4 : Int32) (res : Int32 × jq_H) (he : X11_op n h a p0 p1 p2 p3 p4 = some res) : jq_M l yX11_op cX11_op 7 (some .int) rm_X11_op (jq_P [.ref a, .int p0, .int p1, .int p2, .int p3, .int p4] bs D ct h) (jq_Qi bs D ct res) bs := by
  refine jq_start2 (by decide +kernel) (Nat.le_of_ble_eq_true rfl) ?_
  intro p e s m args below meth c ls H locs C hr hlk hin hl X
  have C : jq_C p s m args c cX11_op 7 RX11 D ct bs := C
  have hin : meth.name = "op" := hin
  have hl : lv_has ls 7 [(0, .ref a), (1, .int p0), (2, .int p1), (3, .int p2), (4, .int p3), (5, .int p4)] := hl
  unfold X11_op at he
  refine lv_iload_n C.1 C.2.1 dX11_op_0 rfl (lv_at hl 1 rfl) ?_
  obtain ⟨z11, hz11, he⟩ := jq_b he
  refine jq_gi (jq_runS (av := [.int p0]) C X (M_X11_isPlace l bs D ct n h p0 _ hz11) mf_X11_isPlace gw_839 (Or.inl gw_838) rfl hl.1 rfl (Nat.le_of_ble_eq_true rfl) ⟨by decide, by decide⟩ ⟨by decide, by decide⟩ dX11_op_1) X (fun H locs X => ?_)
  refine lv_if_ne (tgt := 9) C.1 C.2.1 dX11_op_4 (by decide) (fun hc12 => ?_) (fun hc12 => ?_)
  · have he := jq_n hc12 he
    refine lv_iload_n C.1 C.2.1 dX11_op_9 rfl (lv_at hl 2 rfl) ?_
    refine lv_iconst (v := 0) C.1 C.2.1 dX11_op_10 (by decide) ?_
    refine lv_bipush (v := 12) C.1 C.2.1 dX11_op_11 (by decide) ?_
    obtain ⟨z13, hz13, he⟩ := jq_b he
    refine jq_gi (jq_runS (av := [.int p1, .int 0, .int 12]) C X (M_X11_in l bs D ct n z11.2 p1 0 12 _ hz13) mf_X11_in gw_842 (Or.inl gw_841) rfl hl.1 rfl (Nat.le_of_ble_eq_true rfl) ⟨by decide, by decide⟩ ⟨by decide, by decide⟩ dX11_op_13) X (fun H locs X => ?_)
    refine lv_if_eq (tgt := 54) C.1 C.2.1 dX11_op_16 (by decide) (fun hc14 => ?_) (fun hc14 => ?_)
    · have he := jq_t hc14 he
      exact TX11_op_b54 (n := n) C hr hlk X (lv_sub hl [] rfl) he
    · have he := jq_n hc14 he
      refine lv_iload_n C.1 C.2.1 dX11_op_19 rfl (lv_at hl 3 rfl) ?_
      refine lv_iconst (v := 0) C.1 C.2.1 dX11_op_20 (by decide) ?_
      refine lv_bipush (v := 7) C.1 C.2.1 dX11_op_21 (by decide) ?_
      obtain ⟨z15, hz15, he⟩ := jq_b he
      refine jq_gi (jq_runS (av := [.int p2, .int 0, .int 7]) C X (M_X11_in l bs D ct n z13.2 p2 0 7 _ hz15) mf_X11_in gw_842 (Or.inl gw_841) rfl hl.1 rfl (Nat.le_of_ble_eq_true rfl) ⟨by decide, by decide⟩ ⟨by decide, by decide⟩ dX11_op_23) X (fun H locs X => ?_)
      refine lv_if_eq (tgt := 54) C.1 C.2.1 dX11_op_26 (by decide) (fun hc16 => ?_) (fun hc16 => ?_)
      · have he := jq_t hc16 he
        exact TX11_op_b54 (n := n) C hr hlk X (lv_sub hl [] rfl) he
      · have he := jq_n hc16 he
        refine lv_iload C.1 C.2.1 dX11_op_29 (lv_at hl 4 rfl) ?_
        refine lv_iconst (v := 0) C.1 C.2.1 dX11_op_31 (by decide) ?_
        refine lv_bipush (v := 7) C.1 C.2.1 dX11_op_32 (by decide) ?_
        obtain ⟨z17, hz17, he⟩ := jq_b he
        refine jq_gi (jq_runS (av := [.int p3, .int 0, .int 7]) C X (M_X11_in l bs D ct n z15.2 p3 0 7 _ hz17) mf_X11_in gw_842 (Or.inl gw_841) rfl hl.1 rfl (Nat.le_of_ble_eq_true rfl) ⟨by decide, by decide⟩ ⟨by decide, by decide⟩ dX11_op_34) X (fun H locs X => ?_)
        refine lv_if_eq (tgt := 54) C.1 C.2.1 dX11_op_37 (by decide) (fun hc18 => ?_) (fun hc18 => ?_)
        · have he := jq_t hc18 he
          exact TX11_op_b54 (n := n) C hr hlk X (lv_sub hl [] rfl) he
        · have he := jq_n hc18 he
          refine lv_iload_n C.1 C.2.1 dX11_op_40 rfl (lv_at hl 2 rfl) ?_
          refine lv_bipush (v := 8) C.1 C.2.1 dX11_op_41 (by decide) ?_
          refine lv_icmp_le (tgt := 57) C.1 C.2.1 dX11_op_43 (by decide) (fun hc19 => ?_) (fun hc19 => ?_)
          · have he := jq_t hc19 he
            exact TX11_op_b57 (n := n) C hr hlk X (lv_sub hl [0, 1, 2, 3, 4, 5] rfl) he
          · have he := jq_n hc19 he
            refine lv_iload C.1 C.2.1 dX11_op_46 (lv_at hl 5 rfl) ?_
            obtain ⟨z20, hz20, he⟩ := jq_b he
            refine jq_gi (jq_runS (av := [.int p4]) C X (M_X11_isPlace l bs D ct n z17.2 p4 _ hz20) mf_X11_isPlace gw_839 (Or.inl gw_838) rfl hl.1 rfl (Nat.le_of_ble_eq_true rfl) ⟨by decide, by decide⟩ ⟨by decide, by decide⟩ dX11_op_48) X (fun H locs X => ?_)
            refine lv_if_ne (tgt := 57) C.1 C.2.1 dX11_op_51 (by decide) (fun hc21 => ?_) (fun hc21 => ?_)
            · have he := jq_n hc21 he
              exact TX11_op_b57 (n := n) C hr hlk X (lv_sub hl [0, 1, 2, 3, 4, 5] rfl) he
            · have he := jq_t hc21 he
              exact TX11_op_b54 (n := n) C hr hlk X (lv_sub hl [] rfl) he
  · have he := jq_t hc12 he
    refine lv_iconst (v := (-1)) C.1 C.2.1 dX11_op_7 (by decide) ?_
    exact jq_iret C X hr hlk he (by decide) (by decide) dX11_op_8
set_option maxRecDepth 100000 in
set_option maxHeartbeats 4000000 in
theorem TX11_pair_b66 {p : Program} {l : Launch} {e : Env} {s : State} {m : MethodId} {args : Array Value} {below : List Frame} {meth : Method} {c : Code} {D : va_G} {ct : Nat → ClassId} {bs : Nat} {res : Int32 × jq_H} {n : Nat} (C : jq_C p s m args c cX11_pair 3 RX11 D ct bs) (hr : meth.sig.returnType = (some .int)) (hlk : meth.locks = false) {s0 : Int32} {h : jq_H} {H : Heap} {locs : List Loc} {ls : Array Slot} (X : jq_X bs D ct s.heap h H locs) (hl : lv_has ls 3 []) (he : X11_pair_b66 n s0 h = some res) :
    W p l e rm_X11_pair s m args below meth c H locs 0 0 (MQ below (jq_Qi bs D ct res) args s rm_X11_pair.cells rm_X11_pair.slots (fun q => bs ≤ q)) (F0 m 66 ls [.int s0]) := by
  unfold X11_pair_b66 at he
  exact jq_iret C X hr hlk he (by decide) (by decide) dX11_pair_66
set_option maxRecDepth 100000 in
set_option maxHeartbeats 4000000 in
theorem M_X11_pair (l : Launch) (bs : Nat) (D : va_G) (ct : Nat → ClassId) (n : Nat) (h : jq_H) (a : Nat) (p0 : Int32) (p1 : Int32) (res : Int32 × jq_H) (he : X11_pair n h a p0 p1 = some res) : jq_M l yX11_pair cX11_pair 3 (some .int) rm_X11_pair (jq_P [.ref a, .int p0, .int p1] bs D ct h) (jq_Qi bs D ct res) bs := by
  refine jq_start2 (by decide +kernel) (Nat.le_of_ble_eq_true rfl) ?_
  intro p e s m args below meth c ls H locs C hr hlk hin hl X
  have C : jq_C p s m args c cX11_pair 3 RX11 D ct bs := C
  have hin : meth.name = "pair" := hin
  have hl : lv_has ls 3 [(0, .ref a), (1, .int p0), (2, .int p1)] := hl
  unfold X11_pair at he
  refine lv_aload_n C.1 C.2.1 dX11_pair_0 rfl (lv_at hl 0 rfl) ?_
  refine lv_iload_n C.1 C.2.1 dX11_pair_1 rfl (lv_at hl 1 rfl) ?_
  obtain ⟨z1, hz1, he⟩ := jq_b he
  obtain ⟨hz1c, hz1⟩ := jq_ite hz1
  refine jq_gi (jq_runV (a := a) (av := [.int p0]) C X (M_X11_isGuesser l bs D ct n h a p0 _ hz1) mf_X11_isGuesser gw_930 gs_37 (Or.inl gw_928) rc_X11 hz1c (by decide) rfl hl.1 rfl (Nat.le_of_ble_eq_true rfl) ⟨by decide, by decide⟩ ⟨by decide, by decide⟩ dX11_pair_2) X (fun H locs X => ?_)
  refine lv_if_ne (tgt := 10) C.1 C.2.1 dX11_pair_5 (by decide) (fun hc2 => ?_) (fun hc2 => ?_)
  · have he := jq_n hc2 he
    refine lv_aload_n C.1 C.2.1 dX11_pair_10 rfl (lv_at hl 0 rfl) ?_
    refine lv_iload_n C.1 C.2.1 dX11_pair_11 rfl (lv_at hl 1 rfl) ?_
    obtain ⟨z3, hz3, he⟩ := jq_b he
    obtain ⟨hz3c, hz3⟩ := jq_ite hz3
    refine jq_gi (jq_runV (a := a) (av := [.int p0]) C X (M_X11_clashes1 l bs D ct n z1.2 a p0 _ hz3) mf_X11_clashes1 gw_882 gs_29 (Or.inl gw_880) rc_X11 hz3c (by decide) rfl hl.1 rfl (Nat.le_of_ble_eq_true rfl) ⟨by decide, by decide⟩ ⟨by decide, by decide⟩ dX11_pair_12) X (fun H locs X => ?_)
    refine lv_if_ne (tgt := 21) C.1 C.2.1 dX11_pair_15 (by decide) (fun hc4 => ?_) (fun hc4 => ?_)
    · have he := jq_n hc4 he
      refine lv_iload_n C.1 C.2.1 dX11_pair_21 rfl (lv_at hl 2 rfl) ?_
      refine lv_iconst (v := 0) C.1 C.2.1 dX11_pair_22 (by decide) ?_
      refine lv_aload_n C.1 C.2.1 dX11_pair_23 rfl (lv_at hl 0 rfl) ?_
      refine jq_rgR C X fs_X11_49 he dX11_pair_24 (fun q5 he => ?_)
      refine lv_sipush (v := 812) C.1 C.2.1 dX11_pair_27 (by decide) ?_
      refine lv_iload_n C.1 C.2.1 dX11_pair_30 rfl (lv_at hl 1 rfl) ?_
      refine lv_imul C.1 C.2.1 dX11_pair_31 ?_
      refine lv_sipush (v := 811) C.1 C.2.1 dX11_pair_32 (by decide) ?_
      refine lv_iadd C.1 C.2.1 dX11_pair_35 ?_
      refine jq_rldI C X he dX11_pair_36 (fun x6 he => ?_)
      refine lv_iconst (v := 1) C.1 C.2.1 dX11_pair_37 (by decide) ?_
      refine lv_isub C.1 C.2.1 dX11_pair_38 ?_
      obtain ⟨z7, hz7, he⟩ := jq_b he
      refine jq_gi (jq_runS (av := [.int p1, .int 0, .int (x6 - 1)]) C X (M_X11_in l bs D ct n z3.2 p1 0 (x6 - 1) _ hz7) mf_X11_in gw_842 (Or.inl gw_841) rfl hl.1 rfl (Nat.le_of_ble_eq_true rfl) ⟨by decide, by decide⟩ ⟨by decide, by decide⟩ dX11_pair_39) X (fun H locs X => ?_)
      refine lv_if_eq (tgt := 64) C.1 C.2.1 dX11_pair_42 (by decide) (fun hc8 => ?_) (fun hc8 => ?_)
      · have he := jq_t hc8 he
        refine lv_bipush (v := (-6)) C.1 C.2.1 dX11_pair_64 (by decide) ?_
        exact TX11_pair_b66 (n := n) C hr hlk X (lv_sub hl [] rfl) he
      · have he := jq_n hc8 he
        refine lv_aload_n C.1 C.2.1 dX11_pair_45 rfl (lv_at hl 0 rfl) ?_
        refine jq_rgR C X fs_X11_49 he dX11_pair_46 (fun q9 he => ?_)
        refine lv_sipush (v := 812) C.1 C.2.1 dX11_pair_49 (by decide) ?_
        refine lv_iload_n C.1 C.2.1 dX11_pair_52 rfl (lv_at hl 1 rfl) ?_
        refine lv_imul C.1 C.2.1 dX11_pair_53 ?_
        refine lv_sipush (v := 768) C.1 C.2.1 dX11_pair_54 (by decide) ?_
        refine lv_iadd C.1 C.2.1 dX11_pair_57 ?_
        refine lv_iload_n C.1 C.2.1 dX11_pair_58 rfl (lv_at hl 2 rfl) ?_
        refine lv_iadd C.1 C.2.1 dX11_pair_59 ?_
        refine jq_rldI C X he dX11_pair_60 (fun x10 he => ?_)
        refine lv_goto (tgt := 66) C.1 C.2.1 dX11_pair_61 (by decide) ?_
        exact TX11_pair_b66 (n := n) C hr hlk X (lv_sub hl [] rfl) he
    · have he := jq_t hc4 he
      refine lv_bipush (v := (-5)) C.1 C.2.1 dX11_pair_18 (by decide) ?_
      exact jq_iret C X hr hlk he (by decide) (by decide) dX11_pair_20
  · have he := jq_t hc2 he
    refine lv_iconst (v := (-1)) C.1 C.2.1 dX11_pair_8 (by decide) ?_
    exact jq_iret C X hr hlk he (by decide) (by decide) dX11_pair_9
