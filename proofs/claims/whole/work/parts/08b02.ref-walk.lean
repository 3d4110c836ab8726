set_option maxRecDepth 100000 in
set_option maxHeartbeats 4000000 in
theorem TX11_own_b287 {p : Program} {l : Launch} {e : Env} {s : State} {m : MethodId} {args : Array Value} {below : List Frame} {meth : Method} {c : Code} {D : va_G} {ct : Nat → ClassId} {bs : Nat} {res : Int32 × jq_H} {n : Nat} (C : jq_C p s m args c cX11_own 8 RX11 D ct bs) (hr : meth.sig.returnType = (some .int)) (hlk : meth.locks = false) {s0 : Int32} {h : jq_H} {H : Heap} {locs : List Loc} {ls : Array Slot} (X : jq_X bs D ct s.heap h H locs) (hl : lv_has ls 8 []) (he : X11_own_b287 n s0 h = some res) :
    W p l e rm_X11_own s m args below meth c H locs 0 0 (MQ below (jq_Qi bs D ct res) args s rm_X11_own.cells rm_X11_own.slots (fun q => bs ≤ q)) (F0 m 287 ls [.int s0]) := by
  unfold X11_own_b287 at he
  exact jq_iret C X hr hlk he (by decide) (by decide) dX11_own_287
set_option maxRecDepth 100000 in
set_option maxHeartbeats 4000000 in
theorem TX11_own_b263 {p : Program} {l : Launch} {e : Env} {s : State} {m : MethodId} {args : Array Value} {below : List Frame} {meth : Method} {c : Code} {D : va_G} {ct : Nat → ClassId} {bs : Nat} {res : Int32 × jq_H} {n : Nat} (C : jq_C p s m args c cX11_own 8 RX11 D ct bs) (hr : meth.sig.returnType = (some .int)) (hlk : meth.locks = false) {v0 : Nat} {v1 : Int32} {v2 : Int32} {v5 : Int32} {h : jq_H} {H : Heap} {locs : List Loc} {ls : Array Slot} (X : jq_X bs D ct s.heap h H locs) (hl : lv_has ls 8 [(0, .ref v0), (1, .int v1), (2, .int v2), (5, .int v5)]) (he : X11_own_b263 n v0 v1 v2 v5 h = some res) :
    W p l e rm_X11_own s m args below meth c H locs 0 0 (MQ below (jq_Qi bs D ct res) args s rm_X11_own.cells rm_X11_own.slots (fun q => bs ≤ q)) (F0 m 263 ls []) := by
  unfold X11_own_b263 at he
  refine lv_aload_n C.1 C.2.1 dX11_own_263 rfl (lv_at hl 0 rfl) ?_
  refine jq_rgR C X fs_X11_49 he dX11_own_264 (fun q1 he => ?_)
  refine lv_iload C.1 C.2.1 dX11_own_267 (lv_at hl 3 rfl) ?_
  refine lv_aload_n C.1 C.2.1 dX11_own_269 rfl (lv_at hl 0 rfl) ?_
  refine lv_iload_n C.1 C.2.1 dX11_own_270 rfl (lv_at hl 1 rfl) ?_
  refine lv_iload_n C.1 C.2.1 dX11_own_271 rfl (lv_at hl 2 rfl) ?_
  refine lv_iconst (v := 0) C.1 C.2.1 dX11_own_272 (by decide) ?_
  obtain ⟨z2, hz2, he⟩ := jq_b he
  obtain ⟨hz2c, hz2⟩ := jq_ite hz2
  refine jq_gi (jq_runV (a := v0) (av := [.int v1, .int v2, .int 0]) C X (M_X11_counter l bs D ct n h v0 v1 v2 0 _ hz2) mf_X11_counter gw_890 gs_31 (Or.inl gw_888) rc_X11 hz2c (by decide) rfl hl.1 rfl (Nat.le_of_ble_eq_true rfl) ⟨by decide, by decide⟩ ⟨by decide, by decide⟩ dX11_own_273) X (fun H locs X => ?_)
  refine lv_iadd C.1 C.2.1 dX11_own_276 ?_
  refine jq_rldI C X he dX11_own_277 (fun x3 he => ?_)
  refine lv_iconst (v := 1) C.1 C.2.1 dX11_own_278 (by decide) ?_
  refine lv_icmp_le (tgt := 286) C.1 C.2.1 dX11_own_279 (by decide) (fun hc4 => ?_) (fun hc4 => ?_)
  · have he := jq_t hc4 he
    refine lv_iconst (v := 0) C.1 C.2.1 dX11_own_286 (by decide) ?_
    exact TX11_own_b287 (n := n) C hr hlk X (lv_sub hl [] rfl) he
  · have he := jq_n hc4 he
    refine lv_iconst (v := 1) C.1 C.2.1 dX11_own_282 (by decide) ?_
    refine lv_goto (tgt := 287) C.1 C.2.1 dX11_own_283 (by decide) ?_
    exact TX11_own_b287 (n := n) C hr hlk X (lv_sub hl [] rfl) he
set_option maxRecDepth 100000 in
set_option maxHeartbeats 4000000 in
theorem TX11_own_b262 {p : Program} {l : Launch} {e : Env} {s : State} {m : MethodId} {args : Array Value} {below : List Frame} {meth : Method} {c : Code} {D : va_G} {ct : Nat → ClassId} {bs : Nat} {res : Int32 × jq_H} {n : Nat} (C : jq_C p s m args c cX11_own 8 RX11 D ct bs) (hr : meth.sig.returnType = (some .int)) (hlk : meth.locks = false) {s0 : Int32} {h : jq_H} {H : Heap} {locs : List Loc} {ls : Array Slot} (X : jq_X bs D ct s.heap h H locs) (hl : lv_has ls 8 []) (he : X11_own_b262 n s0 h = some res) :
    W p l e rm_X11_own s m args below meth c H locs 0 0 (MQ below (jq_Qi bs D ct res) args s rm_X11_own.cells rm_X11_own.slots (fun q => bs ≤ q)) (F0 m 262 ls [.int s0]) := by
  unfold X11_own_b262 at he
  exact jq_iret C X hr hlk he (by decide) (by decide) dX11_own_262
set_option maxRecDepth 100000 in
set_option maxHeartbeats 4000000 in
theorem TX11_own_b236 {p : Program} {l : Launch} {e : Env} {s : State} {m : MethodId} {args : Array Value} {below : List Frame} {meth : Method} {c : Code} {D : va_G} {ct : Nat → ClassId} {bs : Nat} {res : Int32 × jq_H} {n : Nat} (C : jq_C p s m args c cX11_own 8 RX11 D ct bs) (hr : meth.sig.returnType = (some .int)) (hlk : meth.locks = false) {s0 : Int32} {h : jq_H} {H : Heap} {locs : List Loc} {ls : Array Slot} (X : jq_X bs D ct s.heap h H locs) (hl : lv_has ls 8 []) (he : X11_own_b236 n s0 h = some res) :
    W p l e rm_X11_own s m args below meth c H locs 0 0 (MQ below (jq_Qi bs D ct res) args s rm_X11_own.cells rm_X11_own.slots (fun q => bs ≤ q)) (F0 m 236 ls [.int s0]) := by
  unfold X11_own_b236 at he
  exact jq_iret C X hr hlk he (by decide) (by decide) dX11_own_236
set_option maxRecDepth 100000 in
set_option maxHeartbeats 4000000 in
theorem TX11_own_b224 {p : Program} {l : Launch} {e : Env} {s : State} {m : MethodId} {args : Array Value} {below : List Frame} {meth : Method} {c : Code} {D : va_G} {ct : Nat → ClassId} {bs : Nat} {res : Int32 × jq_H} {n : Nat} (C : jq_C p s m args c cX11_own 8 RX11 D ct bs) (hr : meth.sig.returnType = (some .int)) (hlk : meth.locks = false) {s0 : Int32} {h : jq_H} {H : Heap} {locs : List Loc} {ls : Array Slot} (X : jq_X bs D ct s.heap h H locs) (hl : lv_has ls 8 []) (he : X11_own_b224 n s0 h = some res) :
    W p l e rm_X11_own s m args below meth c H locs 0 0 (MQ below (jq_Qi bs D ct res) args s rm_X11_own.cells rm_X11_own.slots (fun q => bs ≤ q)) (F0 m 224 ls [.int s0]) := by
  unfold X11_own_b224 at he
  refine lv_istore (lv' := [(7, .int s0)]) C.1 C.2.1 dX11_own_224 hl (by decide) rfl (fun ls hl => ?_)
  refine lv_iload C.1 C.2.1 dX11_own_226 (lv_at hl 0 rfl) ?_
  refine lv_if_eq (tgt := 235) C.1 C.2.1 dX11_own_228 (by decide) (fun hc5 => ?_) (fun hc5 => ?_)
  · have he := jq_t hc5 he
    refine lv_iconst (v := 1) C.1 C.2.1 dX11_own_235 (by decide) ?_
    exact TX11_own_b236 (n := n) C hr hlk X (lv_sub hl [] rfl) he
  · have he := jq_n hc5 he
    refine lv_iconst (v := 0) C.1 C.2.1 dX11_own_231 (by decide) ?_
    refine lv_goto (tgt := 236) C.1 C.2.1 dX11_own_232 (by decide) ?_
    exact TX11_own_b236 (n := n) C hr hlk X (lv_sub hl [] rfl) he
set_option maxRecDepth 100000 in
set_option maxHeartbeats 4000000 in
theorem TX11_own_b223 {p : Program} {l : Launch} {e : Env} {s : State} {m : MethodId} {args : Array Value} {below : List Frame} {meth : Method} {c : Code} {D : va_G} {ct : Nat → ClassId} {bs : Nat} {res : Int32 × jq_H} {n : Nat} (C : jq_C p s m args c cX11_own 8 RX11 D ct bs) (hr : meth.sig.returnType = (some .int)) (hlk : meth.locks = false) {h : jq_H} {H : Heap} {locs : List Loc} {ls : Array Slot} (X : jq_X bs D ct s.heap h H locs) (hl : lv_has ls 8 []) (he : X11_own_b223 n h = some res) :
    W p l e rm_X11_own s m args below meth c H locs 0 0 (MQ below (jq_Qi bs D ct res) args s rm_X11_own.cells rm_X11_own.slots (fun q => bs ≤ q)) (F0 m 223 ls []) := by
  unfold X11_own_b223 at he
  refine lv_iconst (v := 0) C.1 C.2.1 dX11_own_223 (by decide) ?_
  exact TX11_own_b224 (n := n) C hr hlk X (lv_sub hl [] rfl) he
set_option maxRecDepth 100000 in
set_option maxHeartbeats 4000000 in
theorem TX11_own_b169 {p : Program} {l : Launch} {e : Env} {s : State} {m : MethodId} {args : Array Value} {below : List Frame} {meth : Method} {c : Code} {D : va_G} {ct : Nat → ClassId} {bs : Nat} {res : Int32 × jq_H} {n : Nat} (C : jq_C p s m args c cX11_own 8 RX11 D ct bs) (hr : meth.sig.returnType = (some .int)) (hlk : meth.locks = false) {s0 : Int32} {h : jq_H} {H : Heap} {locs : List Loc} {ls : Array Slot} (X : jq_X bs D ct s.heap h H locs) (hl : lv_has ls 8 []) (he : X11_own_b169 n s0 h = some res) :
    W p l e rm_X11_own s m args below meth c H locs 0 0 (MQ below (jq_Qi bs D ct res) args s rm_X11_own.cells rm_X11_own.slots (fun q => bs ≤ q)) (F0 m 169 ls [.int s0]) := by
  unfold X11_own_b169 at he
  exact jq_iret C X hr hlk he (by decide) (by decide) dX11_own_169
set_option maxRecDepth 100000 in
set_option maxHeartbeats 4000000 in
theorem TX11_own_b154 {p : Program} {l : Launch} {e : Env} {s : State} {m : MethodId} {args : Array Value} {below : List Frame} {meth : Method} {c : Code} {D : va_G} {ct : Nat → ClassId} {bs : Nat} {res : Int32 × jq_H} {n : Nat} (C : jq_C p s m args c cX11_own 8 RX11 D ct bs) (hr : meth.sig.returnType = (some .int)) (hlk : meth.locks = false) {s0 : Int32} {h : jq_H} {H : Heap} {locs : List Loc} {ls : Array Slot} (X : jq_X bs D ct s.heap h H locs) (hl : lv_has ls 8 []) (he : X11_own_b154 n s0 h = some res) :
    W p l e rm_X11_own s m args below meth c H locs 0 0 (MQ below (jq_Qi bs D ct res) args s rm_X11_own.cells rm_X11_own.slots (fun q => bs ≤ q)) (F0 m 154 ls [.int s0]) := by
  unfold X11_own_b154 at he
  exact jq_iret C X hr hlk he (by decide) (by decide) dX11_own_154
set_option maxRecDepth 100000 in
set_option maxHeartbeats 4000000 in
theorem TX11_own_b143 {p : Program} {l : Launch} {e : Env} {s : State} {m : MethodId} {args : Array Value} {below : List Frame} {meth : Method} {c : Code} {D : va_G} {ct : Nat → ClassId} {bs : Nat} {res : Int32 × jq_H} {n : Nat} (C : jq_C p s m args c cX11_own 8 RX11 D ct bs) (hr : meth.sig.returnType = (some .int)) (hlk : meth.locks = false) {v6 : Int32} {h : jq_H} {H : Heap} {locs : List Loc} {ls : Array Slot} (X : jq_X bs D ct s.heap h H locs) (hl : lv_has ls 8 [(6, .int v6)]) (he : X11_own_b143 n v6 h = some res) :
    W p l e rm_X11_own s m args below meth c H locs 0 0 (MQ below (jq_Qi bs D ct res) args s rm_X11_own.cells rm_X11_own.slots (fun q => bs ≤ q)) (F0 m 143 ls []) := by
  unfold X11_own_b143 at he
  refine lv_iload C.1 C.2.1 dX11_own_143 (lv_at hl 0 rfl) ?_
  refine lv_iconst (v := 1) C.1 C.2.1 dX11_own_145 (by decide) ?_
  refine lv_icmp_le (tgt := 153) C.1 C.2.1 dX11_own_146 (by decide) (fun hc6 => ?_) (fun hc6 => ?_)
  · have he := jq_t hc6 he
    refine lv_iconst (v := 0) C.1 C.2.1 dX11_own_153 (by decide) ?_
    exact TX11_own_b154 (n := n) C hr hlk X (lv_sub hl [] rfl) he
  · have he := jq_n hc6 he
    refine lv_iconst (v := 1) C.1 C.2.1 dX11_own_149 (by decide) ?_
    refine lv_goto (tgt := 154) C.1 C.2.1 dX11_own_150 (by decide) ?_
    exact TX11_own_b154 (n := n) C hr hlk X (lv_sub hl [] rfl) he
set_option maxRecDepth 100000 in
set_option maxHeartbeats 4000000 in
theorem TX11_own_b134 {p : Program} {l : Launch} {e : Env} {s : State} {m : MethodId} {args : Array Value} {below : List Frame} {meth : Method} {c : Code} {D : va_G} {ct : Nat → ClassId} {bs : Nat} {res : Int32 × jq_H} {n : Nat} {KB : Nat → Int32 → Int32 → Int32 → Int32 → Int32 → jq_H → Option (Int32 × jq_H)} {K143 : Int32 → jq_H → Option (Int32 × jq_H)} (C : jq_C p s m args c cX11_own 8 RX11 D ct bs) (hr : meth.sig.returnType = (some .int)) (hlk : meth.locks = false) (hKB : ∀ (u0 : Nat) (u1 : Int32) (u2 : Int32) (u5 : Int32) (u6 : Int32) (u7 : Int32) (h1 : jq_H) (H1 : Heap) (locs1 : List Loc) (ls1 : Array Slot), KB u0 u1 u2 u5 u6 u7 h1 = some res → jq_X bs D ct s.heap h1 H1 locs1 → lv_has ls1 8 [(0, .ref u0), (1, .int u1), (2, .int u2), (5, .int u5), (6, .int u6), (7, .int u7)] → W p l e rm_X11_own s m args below meth c H1 locs1 0 0 (MQ below (jq_Qi bs D ct res) args s rm_X11_own.cells rm_X11_own.slots (fun q => bs ≤ q)) (F0 m 101 ls1 [])) (hK143 : ∀ (u6 : Int32) (h1 : jq_H) (H1 : Heap) (locs1 : List Loc) (ls1 : Array Slot), K143 u6 h1 = some res → jq_X bs D ct s.heap h1 H1 locs1 → lv_has ls1 8 [(6, .int u6)] → W p l e rm_X11_own s m args below meth c H1 locs1 0 0 (MQ below (jq_Qi bs D ct res) args s rm_X11_own.cells rm_X11_own.slots (fun q => bs ≤ q)) (F0 m 143 ls1 [])) {v0 : Nat} {v1 : Int32} {v2 : Int32} {v5 : Int32} {v7 : Int32} {s0 : Int32} {s1 : Int32} {h : jq_H} {H : Heap} {locs : List Loc} {ls : Array Slot} (X : jq_X bs D ct s.heap h H locs) (hl : lv_has ls 8 [(0, .ref v0), (1, .int v1), (2, .int v2), (5, .int v5), (7, .int v7)]) (he : X11_own_b134 n KB K143 v0 v1 v2 v5 v7 s0 s1 h = some res) :
    W p l e rm_X11_own s m args below meth c H locs 0 0 (MQ below (jq_Qi bs D ct res) args s rm_X11_own.cells rm_X11_own.slots (fun q => bs ≤ q)) (F0 m 134 ls [.int s1, .int s0]) := by
  unfold X11_own_b134 at he
  refine lv_iadd C.1 C.2.1 dX11_own_134 ?_
  obtain ⟨x7, hx7, he⟩ := jq_ln he
  refine jq_top hx7 ?_
  refine lv_istore (lv' := [(6, .int x7), (0, .ref v0), (1, .int v1), (2, .int v2), (5, .int v5), (7, .int v7)]) C.1 C.2.1 dX11_own_135 hl (by decide) rfl (fun ls hl => ?_)
  obtain ⟨x8, hx8, he⟩ := jq_ln he
  refine lv_iinc (v := x8) (lv' := [(7, .int x8), (6, .int x7), (0, .ref v0), (1, .int v1), (2, .int v2), (5, .int v5)]) C.1 C.2.1 dX11_own_137 hl (k := 5) rfl (by rw [hx8]; rfl) (by decide) rfl (fun ls hl => ?_)
  refine lv_goto (tgt := 101) C.1 C.2.1 dX11_own_140 (by decide) ?_
  exact hKB _ _ _ _ _ _ _ _ _ _ he X (lv_sub hl [2, 3, 4, 5, 1, 0] rfl)
set_option maxRecDepth 100000 in
set_option maxHeartbeats 4000000 in
theorem TX11_own_b101 {p : Program} {l : Launch} {e : Env} {s : State} {m : MethodId} {args : Array Value} {below : List Frame} {meth : Method} {c : Code} {D : va_G} {ct : Nat → ClassId} {bs : Nat} {res : Int32 × jq_H} {n : Nat} {KB : Nat → Int32 → Int32 → Int32 → Int32 → Int32 → jq_H → Option (Int32 × jq_H)} {K143 : Int32 → jq_H → Option (Int32 × jq_H)} (C : jq_C p s m args c cX11_own 8 RX11 D ct bs) (hr : meth.sig.returnType = (some .int)) (hlk : meth.locks = false) (hKB : ∀ (u0 : Nat) (u1 : Int32) (u2 : Int32) (u5 : Int32) (u6 : Int32) (u7 : Int32) (h1 : jq_H) (H1 : Heap) (locs1 : List Loc) (ls1 : Array Slot), KB u0 u1 u2 u5 u6 u7 h1 = some res → jq_X bs D ct s.heap h1 H1 locs1 → lv_has ls1 8 [(0, .ref u0), (1, .int u1), (2, .int u2), (5, .int u5), (6, .int u6), (7, .int u7)] → W p l e rm_X11_own s m args below meth c H1 locs1 0 0 (MQ below (jq_Qi bs D ct res) args s rm_X11_own.cells rm_X11_own.slots (fun q => bs ≤ q)) (F0 m 101 ls1 [])) (hK143 : ∀ (u6 : Int32) (h1 : jq_H) (H1 : Heap) (locs1 : List Loc) (ls1 : Array Slot), K143 u6 h1 = some res → jq_X bs D ct s.heap h1 H1 locs1 → lv_has ls1 8 [(6, .int u6)] → W p l e rm_X11_own s m args below meth c H1 locs1 0 0 (MQ below (jq_Qi bs D ct res) args s rm_X11_own.cells rm_X11_own.slots (fun q => bs ≤ q)) (F0 m 143 ls1 [])) {v0 : Nat} {v1 : Int32} {v2 : Int32} {v5 : Int32} {v6 : Int32} {v7 : Int32} {h : jq_H} {H : Heap} {locs : List Loc} {ls : Array Slot} (X : jq_X bs D ct s.heap h H locs) (hl : lv_has ls 8 [(0, .ref v0), (1, .int v1), (2, .int v2), (5, .int v5), (6, .int v6), (7, .int v7)]) (he : X11_own_b101 n KB K143 v0 v1 v2 v5 v6 v7 h = some res) :
    W p l e rm_X11_own s m args below meth c H locs 0 0 (MQ below (jq_Qi bs D ct res) args s rm_X11_own.cells rm_X11_own.slots (fun q => bs ≤ q)) (F0 m 101 ls []) := by
  unfold X11_own_b101 at he
  refine lv_iload C.1 C.2.1 dX11_own_101 (lv_at hl 5 rfl) ?_
  refine lv_iconst (v := 3) C.1 C.2.1 dX11_own_103 (by decide) ?_
  refine lv_icmp_ge (tgt := 143) C.1 C.2.1 dX11_own_104 (by decide) (fun hc9 => ?_) (fun hc9 => ?_)
  · have he := jq_t hc9 he
    exact hK143 _ _ _ _ _ he X (lv_sub hl [4] rfl)
  · have he := jq_n hc9 he
    refine lv_iload C.1 C.2.1 dX11_own_107 (lv_at hl 4 rfl) ?_
    refine lv_aload_n C.1 C.2.1 dX11_own_109 rfl (lv_at hl 0 rfl) ?_
    refine jq_rgR C X fs_X11_49 he dX11_own_110 (fun q10 he => ?_)
    refine lv_iload C.1 C.2.1 dX11_own_113 (lv_at hl 3 rfl) ?_
    refine lv_aload_n C.1 C.2.1 dX11_own_115 rfl (lv_at hl 0 rfl) ?_
    refine lv_iload_n C.1 C.2.1 dX11_own_116 rfl (lv_at hl 1 rfl) ?_
    refine lv_iload_n C.1 C.2.1 dX11_own_117 rfl (lv_at hl 2 rfl) ?_
    refine lv_iload C.1 C.2.1 dX11_own_118 (lv_at hl 5 rfl) ?_
    obtain ⟨z11, hz11, he⟩ := jq_b he
    obtain ⟨hz11c, hz11⟩ := jq_ite hz11
    refine jq_gi (jq_runV (a := v0) (av := [.int v1, .int v2, .int v7]) C X (M_X11_counter l bs D ct n h v0 v1 v2 v7 _ hz11) mf_X11_counter gw_890 gs_31 (Or.inl gw_888) rc_X11 hz11c (by decide) rfl hl.1 rfl (Nat.le_of_ble_eq_true rfl) ⟨by decide, by decide⟩ ⟨by decide, by decide⟩ dX11_own_120) X (fun H locs X => ?_)
    refine lv_iadd C.1 C.2.1 dX11_own_123 ?_
    refine jq_rldI C X he dX11_own_124 (fun x12 he => ?_)
    refine lv_iconst (v := 1) C.1 C.2.1 dX11_own_125 (by decide) ?_
    refine lv_icmp_le (tgt := 133) C.1 C.2.1 dX11_own_126 (by decide) (fun hc13 => ?_) (fun hc13 => ?_)
    · have he := jq_t hc13 he
      refine lv_iconst (v := 0) C.1 C.2.1 dX11_own_133 (by decide) ?_
      exact TX11_own_b134 (n := n) C hr hlk hKB hK143 X (lv_sub hl [0, 1, 2, 3, 5] rfl) he
    · have he := jq_n hc13 he
      refine lv_iconst (v := 1) C.1 C.2.1 dX11_own_129 (by decide) ?_
      refine lv_goto (tgt := 134) C.1 C.2.1 dX11_own_130 (by decide) ?_
      exact TX11_own_b134 (n := n) C hr hlk hKB hK143 X (lv_sub hl [0, 1, 2, 3, 5] rfl) he
set_option maxRecDepth 100000 in
set_option maxHeartbeats 4000000 in
theorem TX11_own_l101 {p : Program} {l : Launch} {e : Env} {s : State} {m : MethodId} {args : Array Value} {below : List Frame} {meth : Method} {c : Code} {D : va_G} {ct : Nat → ClassId} {bs : Nat} {res : Int32 × jq_H} {n : Nat} {K143 : Int32 → jq_H → Option (Int32 × jq_H)} (C : jq_C p s m args c cX11_own 8 RX11 D ct bs) (hr : meth.sig.returnType = (some .int)) (hlk : meth.locks = false) (hK143 : ∀ (u6 : Int32) (h1 : jq_H) (H1 : Heap) (locs1 : List Loc) (ls1 : Array Slot), K143 u6 h1 = some res → jq_X bs D ct s.heap h1 H1 locs1 → lv_has ls1 8 [(6, .int u6)] → W p l e rm_X11_own s m args below meth c H1 locs1 0 0 (MQ below (jq_Qi bs D ct res) args s rm_X11_own.cells rm_X11_own.slots (fun q => bs ≤ q)) (F0 m 143 ls1 [])) :
    ∀ (k : Nat) (v0 : Nat) (v1 : Int32) (v2 : Int32) (v5 : Int32) (v6 : Int32) (v7 : Int32) (h : jq_H) (H : Heap) (locs : List Loc) (ls : Array Slot), X11_own_l101 n K143 k v0 v1 v2 v5 v6 v7 h = some res → jq_X bs D ct s.heap h H locs → lv_has ls 8 [(0, .ref v0), (1, .int v1), (2, .int v2), (5, .int v5), (6, .int v6), (7, .int v7)] → W p l e rm_X11_own s m args below meth c H locs 0 0 (MQ below (jq_Qi bs D ct res) args s rm_X11_own.cells rm_X11_own.slots (fun q => bs ≤ q)) (F0 m 101 ls []) := by
  intro k
  induction k with
  | zero => intro v0 v1 v2 v5 v6 v7 h H locs ls he; cases (show (none : Option (Int32 × jq_H)) = some res from he)
  | succ k ih =>
    intro v0 v1 v2 v5 v6 v7 h H locs ls he X hl
    exact TX11_own_b101 (n := n) C hr hlk (KB := X11_own_l101 n K143 k) ih hK143 X hl he
set_option maxRecDepth 100000 in
set_option maxHeartbeats 4000000 in
theorem TX11_own_b94 {p : Program} {l : Launch} {e : Env} {s : State} {m : MethodId} {args : Array Value} {below : List Frame} {meth : Method} {c : Code} {D : va_G} {ct : Nat → ClassId} {bs : Nat} {res : Int32 × jq_H} {n : Nat} (C : jq_C p s m args c cX11_own 8 RX11 D ct bs) (hr : meth.sig.returnType = (some .int)) (hlk : meth.locks = false) {s0 : Int32} {h : jq_H} {H : Heap} {locs : List Loc} {ls : Array Slot} (X : jq_X bs D ct s.heap h H locs) (hl : lv_has ls 8 []) (he : X11_own_b94 n s0 h = some res) :
    W p l e rm_X11_own s m args below meth c H locs 0 0 (MQ below (jq_Qi bs D ct res) args s rm_X11_own.cells rm_X11_own.slots (fun q => bs ≤ q)) (F0 m 94 ls [.int s0]) := by
  unfold X11_own_b94 at he
  exact jq_iret C X hr hlk he (by decide) (by decide) dX11_own_94
set_option maxRecDepth 100000 in
set_option maxHeartbeats 4000000 in
theorem M_X11_own (l : Launch) (bs : Nat) (D : va_G) (ct : Nat → ClassId) (n : Nat) (h : jq_H) (a : Nat) (p0 : Int32) (p1 : Int32) (p2 : Int32) (p3 : Int32) (res : Int32 × jq_H) (he : X11_own n h a p0 p1 p2 p3 = some res) : jq_M l yX11_own cX11_own 8 (some .int) rm_X11_own (jq_P [.ref a, .int p0, .int p1, .int p2, .int p3] bs D ct h) (jq_Qi bs D ct res) bs := by
  refine jq_start2 (by decide +kernel) (Nat.le_of_ble_eq_true rfl) ?_
  intro p e s m args below meth c ls H locs C hr hlk hin hl X
  have C : jq_C p s m args c cX11_own 8 RX11 D ct bs := C
  have hin : meth.name = "own" := hin
  have hl : lv_has ls 8 [(0, .ref a), (1, .int p0), (2, .int p1), (3, .int p2), (4, .int p3)] := hl
  unfold X11_own at he
  refine lv_sipush (v := 812) C.1 C.2.1 dX11_own_0 (by decide) ?_
  refine lv_iload_n C.1 C.2.1 dX11_own_3 rfl (lv_at hl 1 rfl) ?_
  refine lv_imul C.1 C.2.1 dX11_own_4 ?_
  obtain ⟨x14, hx14, he⟩ := jq_ln he
  refine jq_top hx14 ?_
  refine lv_istore (lv' := [(5, .int x14), (0, .ref a), (1, .int p0), (2, .int p1), (3, .int p2), (4, .int p3)]) C.1 C.2.1 dX11_own_5 hl (by decide) rfl (fun ls hl => ?_)
  refine lv_aload_n C.1 C.2.1 dX11_own_7 rfl (lv_at hl 1 rfl) ?_
  refine jq_rgR C X fs_X11_34 he dX11_own_8 (fun q15 he => ?_)
  refine lv_iload_n C.1 C.2.1 dX11_own_11 rfl (lv_at hl 2 rfl) ?_
  refine jq_rldI C X he dX11_own_12 (fun x16 he => ?_)
  by_cases hc25 : x16 = 0
  · have he := jq_t hc25 he
    refine lv_tableIn (tgt := 60) C.1 C.2.1 dX11_own_13 (by rw [hc25]; decide) (by rw [hc25]; decide) (by rw [hc25]; rfl) (by decide) ?_
    refine lv_aload_n C.1 C.2.1 dX11_own_60 rfl (lv_at hl 1 rfl) ?_
    refine jq_rgR C X fs_X11_37 he dX11_own_61 (fun q17 he => ?_)
    refine lv_iload_n C.1 C.2.1 dX11_own_64 rfl (lv_at hl 2 rfl) ?_
    refine jq_rldI C X he dX11_own_65 (fun x18 he => ?_)
    refine lv_iconst (v := 2) C.1 C.2.1 dX11_own_66 (by decide) ?_
    refine lv_icmp_ge (tgt := 79) C.1 C.2.1 dX11_own_67 (by decide) (fun hc19 => ?_) (fun hc19 => ?_)
    · have he := jq_t hc19 he
      refine lv_aload_n C.1 C.2.1 dX11_own_79 rfl (lv_at hl 1 rfl) ?_
      refine jq_rgR C X fs_X11_19 he dX11_own_80 (fun q20 he => ?_)
      refine lv_iload_n C.1 C.2.1 dX11_own_83 rfl (lv_at hl 3 rfl) ?_
      refine jq_rldI C X he dX11_own_84 (fun x21 he => ?_)
      refine lv_iload_n C.1 C.2.1 dX11_own_85 rfl (lv_at hl 3 rfl) ?_
      refine lv_icmp_gt (tgt := 93) C.1 C.2.1 dX11_own_86 (by decide) (fun hc22 => ?_) (fun hc22 => ?_)
      · have he := jq_t hc22 he
        refine lv_iconst (v := 0) C.1 C.2.1 dX11_own_93 (by decide) ?_
        exact TX11_own_b94 (n := n) C hr hlk X (lv_sub hl [] rfl) he
      · have he := jq_n hc22 he
        refine lv_iconst (v := 1) C.1 C.2.1 dX11_own_89 (by decide) ?_
        refine lv_goto (tgt := 94) C.1 C.2.1 dX11_own_90 (by decide) ?_
        exact TX11_own_b94 (n := n) C hr hlk X (lv_sub hl [] rfl) he
    · have he := jq_n hc19 he
      refine lv_aload_n C.1 C.2.1 dX11_own_70 rfl (lv_at hl 1 rfl) ?_
      refine jq_rgR C X fs_X11_37 he dX11_own_71 (fun q23 he => ?_)
      refine lv_iload_n C.1 C.2.1 dX11_own_74 rfl (lv_at hl 2 rfl) ?_
      refine jq_rldI C X he dX11_own_75 (fun x24 he => ?_)
      refine lv_goto (tgt := 94) C.1 C.2.1 dX11_own_76 (by decide) ?_
      exact TX11_own_b94 (n := n) C hr hlk X (lv_sub hl [] rfl) he
  have he := jq_n hc25 he
  by_cases hc26 : x16 = 1
  · have he := jq_t hc26 he
    refine lv_tableIn (tgt := 263) C.1 C.2.1 dX11_own_13 (by rw [hc26]; decide) (by rw [hc26]; decide) (by rw [hc26]; rfl) (by decide) ?_
    exact TX11_own_b263 (n := n) C hr hlk X (lv_sub hl [1, 2, 3, 0] rfl) he
  have he := jq_n hc26 he
  by_cases hc27 : x16 = 2
  · have he := jq_t hc27 he
    refine lv_tableIn (tgt := 263) C.1 C.2.1 dX11_own_13 (by rw [hc27]; decide) (by rw [hc27]; decide) (by rw [hc27]; rfl) (by decide) ?_
    exact TX11_own_b263 (n := n) C hr hlk X (lv_sub hl [1, 2, 3, 0] rfl) he
  have he := jq_n hc27 he
  by_cases hc28 : x16 = 3
  · have he := jq_t hc28 he
    refine lv_tableIn (tgt := 263) C.1 C.2.1 dX11_own_13 (by rw [hc28]; decide) (by rw [hc28]; decide) (by rw [hc28]; rfl) (by decide) ?_
    exact TX11_own_b263 (n := n) C hr hlk X (lv_sub hl [1, 2, 3, 0] rfl) he
  have he := jq_n hc28 he
  by_cases hc29 : x16 = 4
  · have he := jq_t hc29 he
    refine lv_tableIn (tgt := 95) C.1 C.2.1 dX11_own_13 (by rw [hc29]; decide) (by rw [hc29]; decide) (by rw [hc29]; rfl) (by decide) ?_
    refine lv_iconst (v := 0) C.1 C.2.1 dX11_own_95 (by decide) ?_
    refine lv_istore (lv' := [(6, .int 0), (5, .int x14), (0, .ref a), (1, .int p0), (2, .int p1), (3, .int p2), (4, .int p3)]) C.1 C.2.1 dX11_own_96 hl (by decide) rfl (fun ls hl => ?_)
    refine lv_iconst (v := 0) C.1 C.2.1 dX11_own_98 (by decide) ?_
    refine lv_istore (lv' := [(7, .int 0), (6, .int 0), (5, .int x14), (0, .ref a), (1, .int p0), (2, .int p1), (3, .int p2), (4, .int p3)]) C.1 C.2.1 dX11_own_99 hl (by decide) rfl (fun ls hl => ?_)
    exact TX11_own_l101 (n := n) C hr hlk (fun w6 hh H locs ls he X hl => by
    exact TX11_own_b143 (n := n) C hr hlk X hl he) n _ _ _ _ _ _ _ _ _ _ he X (lv_sub hl [3, 4, 5, 2, 1, 0] rfl)
  have he := jq_n hc29 he
  by_cases hc32 : x16 = 5
  · have he := jq_t hc32 he
    refine lv_tableIn (tgt := 155) C.1 C.2.1 dX11_own_13 (by rw [hc32]; decide) (by rw [hc32]; decide) (by rw [hc32]; rfl) (by decide) ?_
    refine lv_aload_n C.1 C.2.1 dX11_own_155 rfl (lv_at hl 1 rfl) ?_
    refine lv_iload_n C.1 C.2.1 dX11_own_156 rfl (lv_at hl 2 rfl) ?_
    refine lv_iload_n C.1 C.2.1 dX11_own_157 rfl (lv_at hl 3 rfl) ?_
    obtain ⟨z30, hz30, he⟩ := jq_b he
    obtain ⟨hz30c, hz30⟩ := jq_ite hz30
    refine jq_gi (jq_runV (a := a) (av := [.int p0, .int p1]) C X (M_X11_sum l bs D ct n h a p0 p1 _ hz30) mf_X11_sum gw_901 gs_33 (Or.inl gw_899) rc_X11 hz30c (by decide) rfl hl.1 rfl (Nat.le_of_ble_eq_true rfl) ⟨by decide, by decide⟩ ⟨by decide, by decide⟩ dX11_own_158) X (fun H locs X => ?_)
    refine lv_if_lt (tgt := 168) C.1 C.2.1 dX11_own_161 (by decide) (fun hc31 => ?_) (fun hc31 => ?_)
    · have he := jq_t hc31 he
      refine lv_iconst (v := 0) C.1 C.2.1 dX11_own_168 (by decide) ?_
      exact TX11_own_b169 (n := n) C hr hlk X (lv_sub hl [] rfl) he
    · have he := jq_n hc31 he
      refine lv_iconst (v := 1) C.1 C.2.1 dX11_own_164 (by decide) ?_
      refine lv_goto (tgt := 169) C.1 C.2.1 dX11_own_165 (by decide) ?_
      exact TX11_own_b169 (n := n) C hr hlk X (lv_sub hl [] rfl) he
  have he := jq_n hc32 he
  by_cases hc43 : x16 = 6
  · have he := jq_t hc43 he
    refine lv_tableIn (tgt := 170) C.1 C.2.1 dX11_own_13 (by rw [hc43]; decide) (by rw [hc43]; decide) (by rw [hc43]; rfl) (by decide) ?_
    refine lv_aload_n C.1 C.2.1 dX11_own_170 rfl (lv_at hl 1 rfl) ?_
    refine jq_rgR C X fs_X11_49 he dX11_own_171 (fun q33 he => ?_)
    refine lv_iload C.1 C.2.1 dX11_own_174 (lv_at hl 0 rfl) ?_
    refine lv_iconst (v := 3) C.1 C.2.1 dX11_own_176 (by decide) ?_
    refine lv_iload_n C.1 C.2.1 dX11_own_177 rfl (lv_at hl 3 rfl) ?_
    refine lv_imul C.1 C.2.1 dX11_own_178 ?_
    refine lv_iadd C.1 C.2.1 dX11_own_179 ?_
    refine lv_iconst (v := 2) C.1 C.2.1 dX11_own_180 (by decide) ?_
    refine lv_iadd C.1 C.2.1 dX11_own_181 ?_
    refine jq_rldI C X he dX11_own_182 (fun x34 he => ?_)
    refine lv_aload_n C.1 C.2.1 dX11_own_183 rfl (lv_at hl 1 rfl) ?_
    refine jq_rgR C X fs_X11_37 he dX11_own_184 (fun q35 he => ?_)
    refine lv_iload_n C.1 C.2.1 dX11_own_187 rfl (lv_at hl 2 rfl) ?_
    refine jq_rldI C X he dX11_own_188 (fun x36 he => ?_)
    refine lv_icmp_lt (tgt := 223) C.1 C.2.1 dX11_own_189 (by decide) (fun hc37 => ?_) (fun hc37 => ?_)
    · have he := jq_t hc37 he
      exact TX11_own_b223 (n := n) C hr hlk X (lv_sub hl [] rfl) he
    · have he := jq_n hc37 he
      refine lv_aload_n C.1 C.2.1 dX11_own_192 rfl (lv_at hl 1 rfl) ?_
      refine jq_rgR C X fs_X11_49 he dX11_own_193 (fun q38 he => ?_)
      refine lv_iload C.1 C.2.1 dX11_own_196 (lv_at hl 0 rfl) ?_
      refine lv_iconst (v := 3) C.1 C.2.1 dX11_own_198 (by decide) ?_
      refine lv_iload_n C.1 C.2.1 dX11_own_199 rfl (lv_at hl 3 rfl) ?_
      refine lv_imul C.1 C.2.1 dX11_own_200 ?_
      refine lv_iadd C.1 C.2.1 dX11_own_201 ?_
      refine jq_rldI C X he dX11_own_202 (fun x39 he => ?_)
      refine lv_aload_n C.1 C.2.1 dX11_own_203 rfl (lv_at hl 1 rfl) ?_
      refine jq_rgR C X fs_X11_49 he dX11_own_204 (fun q40 he => ?_)
      refine lv_iload C.1 C.2.1 dX11_own_207 (lv_at hl 0 rfl) ?_
      refine lv_iconst (v := 3) C.1 C.2.1 dX11_own_209 (by decide) ?_
      refine lv_iload_n C.1 C.2.1 dX11_own_210 rfl (lv_at hl 3 rfl) ?_
      refine lv_imul C.1 C.2.1 dX11_own_211 ?_
      refine lv_iadd C.1 C.2.1 dX11_own_212 ?_
      refine lv_iconst (v := 1) C.1 C.2.1 dX11_own_213 (by decide) ?_
      refine lv_iadd C.1 C.2.1 dX11_own_214 ?_
      refine jq_rldI C X he dX11_own_215 (fun x41 he => ?_)
      refine lv_icmp_ne (tgt := 223) C.1 C.2.1 dX11_own_216 (by decide) (fun hc42 => ?_) (fun hc42 => ?_)
      · have he := jq_n hc42 he
        exact TX11_own_b223 (n := n) C hr hlk X (lv_sub hl [] rfl) he
      · have he := jq_t hc42 he
        refine lv_iconst (v := 1) C.1 C.2.1 dX11_own_219 (by decide) ?_
        refine lv_goto (tgt := 224) C.1 C.2.1 dX11_own_220 (by decide) ?_
        exact TX11_own_b224 (n := n) C hr hlk X (lv_sub hl [] rfl) he
  have he := jq_n hc43 he
  by_cases hc48 : x16 = 7
  · have he := jq_t hc48 he
    refine lv_tableIn (tgt := 237) C.1 C.2.1 dX11_own_13 (by rw [hc48]; decide) (by rw [hc48]; decide) (by rw [hc48]; rfl) (by decide) ?_
    refine lv_aload_n C.1 C.2.1 dX11_own_237 rfl (lv_at hl 1 rfl) ?_
    refine jq_rgR C X fs_X11_49 he dX11_own_238 (fun q44 he => ?_)
    refine lv_iload C.1 C.2.1 dX11_own_241 (lv_at hl 0 rfl) ?_
    refine lv_aload_n C.1 C.2.1 dX11_own_243 rfl (lv_at hl 1 rfl) ?_
    refine lv_iload_n C.1 C.2.1 dX11_own_244 rfl (lv_at hl 2 rfl) ?_
    refine lv_iload_n C.1 C.2.1 dX11_own_245 rfl (lv_at hl 3 rfl) ?_
    refine lv_iconst (v := 0) C.1 C.2.1 dX11_own_246 (by decide) ?_
    obtain ⟨z45, hz45, he⟩ := jq_b he
    obtain ⟨hz45c, hz45⟩ := jq_ite hz45
    refine jq_gi (jq_runV (a := a) (av := [.int p0, .int p1, .int 0]) C X (M_X11_counter l bs D ct n h a p0 p1 0 _ hz45) mf_X11_counter gw_890 gs_31 (Or.inl gw_888) rc_X11 hz45c (by decide) rfl hl.1 rfl (Nat.le_of_ble_eq_true rfl) ⟨by decide, by decide⟩ ⟨by decide, by decide⟩ dX11_own_247) X (fun H locs X => ?_)
    refine lv_iadd C.1 C.2.1 dX11_own_250 ?_
    refine jq_rldI C X he dX11_own_251 (fun x46 he => ?_)
    refine lv_iconst (v := 1) C.1 C.2.1 dX11_own_252 (by decide) ?_
    refine lv_icmp_le (tgt := 261) C.1 C.2.1 dX11_own_253 (by decide) (fun hc47 => ?_) (fun hc47 => ?_)
    · have he := jq_t hc47 he
      refine lv_iload_n C.1 C.2.1 dX11_own_261 rfl (lv_at hl 4 rfl) ?_
      exact TX11_own_b262 (n := n) C hr hlk X (lv_sub hl [] rfl) he
    · have he := jq_n hc47 he
      refine lv_iload C.1 C.2.1 dX11_own_256 (lv_at hl 5 rfl) ?_
      refine lv_goto (tgt := 262) C.1 C.2.1 dX11_own_258 (by decide) ?_
      exact TX11_own_b262 (n := n) C hr hlk X (lv_sub hl [] rfl) he
  have he := jq_n hc48 he
  refine lv_tableOut (tgt := 263) C.1 C.2.1 dX11_own_13 (jq_swo (fun k h1 h2 hk => by
    rcases (show k = 0 ∨ k = 1 ∨ k = 2 ∨ k = 3 ∨ k = 4 ∨ k = 5 ∨ k = 6 ∨ k = 7 by omega) with rfl | rfl | rfl | rfl | rfl | rfl | rfl | rfl
    · exact lv_neT hc25 (by decide) hk
    · exact lv_neT hc26 (by decide) hk
    · exact lv_neT hc27 (by decide) hk
    · exact lv_neT hc28 (by decide) hk
    · exact lv_neT hc29 (by decide) hk
    · exact lv_neT hc32 (by decide) hk
    · exact lv_neT hc43 (by decide) hk
    · exact lv_neT hc48 (by decide) hk)) (by decide) ?_
  exact TX11_own_b263 (n := n) C hr hlk X (lv_sub hl [1, 2, 3, 0] rfl) he
set_option maxRecDepth 100000 in
set_option maxHeartbeats 4000000 in
theorem TX11_turn_b43 {p : Program} {l : Launch} {e : Env} {s : State} {m : MethodId} {args : Array Value} {below : List Frame} {meth : Method} {c : Code} {D : va_G} {ct : Nat → ClassId} {bs : Nat} {res : jq_H} {n : Nat} (C : jq_C p s m args c cX11_turn 4 RX11 D ct bs) (hr : meth.sig.returnType = none) (hlk : meth.locks = false) {s0 : Nat} {s1 : Int32} {s2 : Int32} {h : jq_H} {H : Heap} {locs : List Loc} {ls : Array Slot} (X : jq_X bs D ct s.heap h H locs) (hl : lv_has ls 4 []) (he : X11_turn_b43 n s0 s1 s2 h = some res) :
    W p l e rm_X11_turn s m args below meth c H locs 0 0 (MQ below (jq_Qv bs D ct res) args s rm_X11_turn.cells rm_X11_turn.slots (fun q => bs ≤ q)) (F0 m 43 ls [.int s2, .int s1, .ref s0]) := by
  unfold X11_turn_b43 at he
  refine jq_rstI C X he dX11_turn_43 (fun h1 H locs he X => ?_)
  exact jq_vret C X hr hlk he (by decide) (by decide) dX11_turn_44
set_option maxRecDepth 100000 in
set_option maxHeartbeats 4000000 in
theorem M_X11_turn (l : Launch) (bs : Nat) (D : va_G) (ct : Nat → ClassId) (n : Nat) (h : jq_H) (a : Nat) (p0 : Int32) (p1 : Int32) (res : jq_H) (he : X11_turn n h a p0 p1 = some res) : jq_M l yX11_turn cX11_turn 4 none rm_X11_turn (jq_P [.ref a, .int p0, .int p1] bs D ct h) (jq_Qv bs D ct res) bs := by
  refine jq_start2 (by decide +kernel) (Nat.le_of_ble_eq_true rfl) ?_
  intro p e s m args below meth c ls H locs C hr hlk hin hl X
  have C : jq_C p s m args c cX11_turn 4 RX11 D ct bs := C
  have hin : meth.name = "turn" := hin
  have hl : lv_has ls 4 [(0, .ref a), (1, .int p0), (2, .int p1)] := hl
  unfold X11_turn at he
  refine lv_aload_n C.1 C.2.1 dX11_turn_0 rfl (lv_at hl 0 rfl) ?_
  refine jq_rgR C X fs_X11_49 he dX11_turn_1 (fun q2 he => ?_)
  refine lv_iload_n C.1 C.2.1 dX11_turn_4 rfl (lv_at hl 1 rfl) ?_
  refine jq_rldI C X he dX11_turn_5 (fun x3 he => ?_)
  refine lv_istore_n (lv' := [(3, .int x3), (0, .ref a), (1, .int p0), (2, .int p1)]) C.1 C.2.1 dX11_turn_6 rfl hl (by decide) rfl (fun ls hl => ?_)
  refine lv_aload_n C.1 C.2.1 dX11_turn_7 rfl (lv_at hl 1 rfl) ?_
  refine jq_rgR C X fs_X11_49 he dX11_turn_8 (fun q4 he => ?_)
  refine lv_iload_n C.1 C.2.1 dX11_turn_11 rfl (lv_at hl 2 rfl) ?_
  refine lv_iload_n C.1 C.2.1 dX11_turn_12 rfl (lv_at hl 3 rfl) ?_
  refine lv_iconst (v := 1) C.1 C.2.1 dX11_turn_13 (by decide) ?_
  refine lv_icmp_ne (tgt := 32) C.1 C.2.1 dX11_turn_14 (by decide) (fun hc5 => ?_) (fun hc5 => ?_)
  · have he := jq_n hc5 he
    refine lv_iload_n C.1 C.2.1 dX11_turn_32 rfl (lv_at hl 0 rfl) ?_
    refine lv_if_le (tgt := 42) C.1 C.2.1 dX11_turn_33 (by decide) (fun hc6 => ?_) (fun hc6 => ?_)
    · have he := jq_t hc6 he
      refine lv_iconst (v := 0) C.1 C.2.1 dX11_turn_42 (by decide) ?_
      exact TX11_turn_b43 (n := n) C hr hlk X (lv_sub hl [] rfl) he
    · have he := jq_n hc6 he
      refine lv_iload_n C.1 C.2.1 dX11_turn_36 rfl (lv_at hl 0 rfl) ?_
      refine lv_iconst (v := 1) C.1 C.2.1 dX11_turn_37 (by decide) ?_
      refine lv_isub C.1 C.2.1 dX11_turn_38 ?_
      refine lv_goto (tgt := 43) C.1 C.2.1 dX11_turn_39 (by decide) ?_
      exact TX11_turn_b43 (n := n) C hr hlk X (lv_sub hl [] rfl) he
  · have he := jq_t hc5 he
    refine lv_iload_n C.1 C.2.1 dX11_turn_17 rfl (lv_at hl 0 rfl) ?_
    refine lv_iconst (v := 3) C.1 C.2.1 dX11_turn_18 (by decide) ?_
    refine lv_icmp_ge (tgt := 28) C.1 C.2.1 dX11_turn_19 (by decide) (fun hc7 => ?_) (fun hc7 => ?_)
    · have he := jq_t hc7 he
      refine lv_iconst (v := 3) C.1 C.2.1 dX11_turn_28 (by decide) ?_
      refine lv_goto (tgt := 43) C.1 C.2.1 dX11_turn_29 (by decide) ?_
      exact TX11_turn_b43 (n := n) C hr hlk X (lv_sub hl [] rfl) he
    · have he := jq_n hc7 he
      refine lv_iload_n C.1 C.2.1 dX11_turn_22 rfl (lv_at hl 0 rfl) ?_
      refine lv_iconst (v := 1) C.1 C.2.1 dX11_turn_23 (by decide) ?_
      refine lv_iadd C.1 C.2.1 dX11_turn_24 ?_
      refine lv_goto (tgt := 43) C.1 C.2.1 dX11_turn_25 (by decide) ?_
      exact TX11_turn_b43 (n := n) C hr hlk X (lv_sub hl [] rfl) he
set_option maxRecDepth 100000 in
set_option maxHeartbeats 4000000 in
theorem TX11_weigh_b188 {p : Program} {l : Launch} {e : Env} {s : State} {m : MethodId} {args : Array Value} {below : List Frame} {meth : Method} {c : Code} {D : va_G} {ct : Nat → ClassId} {bs : Nat} {res : jq_H} {n : Nat} (C : jq_C p s m args c cX11_weigh 10 RX11 D ct bs) (hr : meth.sig.returnType = none) (hlk : meth.locks = false) {h : jq_H} {H : Heap} {locs : List Loc} {ls : Array Slot} (X : jq_X bs D ct s.heap h H locs) (hl : lv_has ls 10 []) (he : X11_weigh_b188 n h = some res) :
    W p l e rm_X11_weigh s m args below meth c H locs 0 0 (MQ below (jq_Qv bs D ct res) args s rm_X11_weigh.cells rm_X11_weigh.slots (fun q => bs ≤ q)) (F0 m 188 ls []) := by
  unfold X11_weigh_b188 at he
  exact jq_vret C X hr hlk he (by decide) (by decide) dX11_weigh_188
set_option maxRecDepth 100000 in
set_option maxHeartbeats 4000000 in
theorem TX11_weigh_b181 {p : Program} {l : Launch} {e : Env} {s : State} {m : MethodId} {args : Array Value} {below : List Frame} {meth : Method} {c : Code} {D : va_G} {ct : Nat → ClassId} {bs : Nat} {res : jq_H} {n : Nat} {KB : Nat → Int32 → Int32 → Int32 → Int32 → jq_H → Option (jq_H)} {K188 : jq_H → Option (jq_H)} (C : jq_C p s m args c cX11_weigh 10 RX11 D ct bs) (hr : meth.sig.returnType = none) (hlk : meth.locks = false) (hKB : ∀ (u0 : Nat) (u1 : Int32) (u3 : Int32) (u6 : Int32) (u7 : Int32) (h1 : jq_H) (H1 : Heap) (locs1 : List Loc) (ls1 : Array Slot), KB u0 u1 u3 u6 u7 h1 = some res → jq_X bs D ct s.heap h1 H1 locs1 → lv_has ls1 10 [(0, .ref u0), (1, .int u1), (3, .int u3), (6, .int u6), (7, .int u7)] → W p l e rm_X11_weigh s m args below meth c H1 locs1 0 0 (MQ below (jq_Qv bs D ct res) args s rm_X11_weigh.cells rm_X11_weigh.slots (fun q => bs ≤ q)) (F0 m 79 ls1 [])) (hK188 : ∀ (h1 : jq_H) (H1 : Heap) (locs1 : List Loc) (ls1 : Array Slot), K188 h1 = some res → jq_X bs D ct s.heap h1 H1 locs1 → lv_has ls1 10 [] → W p l e rm_X11_weigh s m args below meth c H1 locs1 0 0 (MQ below (jq_Qv bs D ct res) args s rm_X11_weigh.cells rm_X11_weigh.slots (fun q => bs ≤ q)) (F0 m 188 ls1 [])) {v0 : Nat} {v1 : Int32} {v3 : Int32} {v6 : Int32} {v7 : Int32} {s0 : Nat} {s1 : Int32} {s2 : Int32} {h : jq_H} {H : Heap} {locs : List Loc} {ls : Array Slot} (X : jq_X bs D ct s.heap h H locs) (hl : lv_has ls 10 [(0, .ref v0), (1, .int v1), (3, .int v3), (6, .int v6), (7, .int v7)]) (he : X11_weigh_b181 n KB K188 v0 v1 v3 v6 v7 s0 s1 s2 h = some res) :
    W p l e rm_X11_weigh s m args below meth c H locs 0 0 (MQ below (jq_Qv bs D ct res) args s rm_X11_weigh.cells rm_X11_weigh.slots (fun q => bs ≤ q)) (F0 m 181 ls [.int s2, .int s1, .ref s0]) := by
  unfold X11_weigh_b181 at he
  refine jq_rstI C X he dX11_weigh_181 (fun h1 H locs he X => ?_)
  obtain ⟨x2, hx2, he⟩ := jq_ln he
  refine lv_iinc (v := x2) (lv' := [(7, .int x2), (0, .ref v0), (1, .int v1), (3, .int v3), (6, .int v6)]) C.1 C.2.1 dX11_weigh_182 hl (k := 4) rfl (by rw [hx2]; rfl) (by decide) rfl (fun ls hl => ?_)
  refine lv_goto (tgt := 79) C.1 C.2.1 dX11_weigh_185 (by decide) ?_
  exact hKB _ _ _ _ _ _ _ _ _ he X (lv_sub hl [1, 2, 3, 4, 0] rfl)
set_option maxRecDepth 100000 in
set_option maxHeartbeats 4000000 in
theorem TX11_weigh_b143 {p : Program} {l : Launch} {e : Env} {s : State} {m : MethodId} {args : Array Value} {below : List Frame} {meth : Method} {c : Code} {D : va_G} {ct : Nat → ClassId} {bs : Nat} {res : jq_H} {n : Nat} {KB : Nat → Int32 → Int32 → Int32 → Int32 → jq_H → Option (jq_H)} {K188 : jq_H → Option (jq_H)} (C : jq_C p s m args c cX11_weigh 10 RX11 D ct bs) (hr : meth.sig.returnType = none) (hlk : meth.locks = false) (hKB : ∀ (u0 : Nat) (u1 : Int32) (u3 : Int32) (u6 : Int32) (u7 : Int32) (h1 : jq_H) (H1 : Heap) (locs1 : List Loc) (ls1 : Array Slot), KB u0 u1 u3 u6 u7 h1 = some res → jq_X bs D ct s.heap h1 H1 locs1 → lv_has ls1 10 [(0, .ref u0), (1, .int u1), (3, .int u3), (6, .int u6), (7, .int u7)] → W p l e rm_X11_weigh s m args below meth c H1 locs1 0 0 (MQ below (jq_Qv bs D ct res) args s rm_X11_weigh.cells rm_X11_weigh.slots (fun q => bs ≤ q)) (F0 m 79 ls1 [])) (hK188 : ∀ (h1 : jq_H) (H1 : Heap) (locs1 : List Loc) (ls1 : Array Slot), K188 h1 = some res → jq_X bs D ct s.heap h1 H1 locs1 → lv_has ls1 10 [] → W p l e rm_X11_weigh s m args below meth c H1 locs1 0 0 (MQ below (jq_Qv bs D ct res) args s rm_X11_weigh.cells rm_X11_weigh.slots (fun q => bs ≤ q)) (F0 m 188 ls1 [])) {v0 : Nat} {v1 : Int32} {v3 : Int32} {v6 : Int32} {v7 : Int32} {s0 : Int32} {s1 : Int32} {h : jq_H} {H : Heap} {locs : List Loc} {ls : Array Slot} (X : jq_X bs D ct s.heap h H locs) (hl : lv_has ls 10 [(0, .ref v0), (1, .int v1), (3, .int v3), (6, .int v6), (7, .int v7)]) (he : X11_weigh_b143 n KB K188 v0 v1 v3 v6 v7 s0 s1 h = some res) :
    W p l e rm_X11_weigh s m args below meth c H locs 0 0 (MQ below (jq_Qv bs D ct res) args s rm_X11_weigh.cells rm_X11_weigh.slots (fun q => bs ≤ q)) (F0 m 143 ls [.int s1, .int s0]) := by
  unfold X11_weigh_b143 at he
  refine lv_iadd C.1 C.2.1 dX11_weigh_143 ?_
  obtain ⟨x3, hx3, he⟩ := jq_ln he
  refine jq_top hx3 ?_
  refine lv_istore (lv' := [(9, .int x3), (0, .ref v0), (1, .int v1), (3, .int v3), (6, .int v6), (7, .int v7)]) C.1 C.2.1 dX11_weigh_144 hl (by decide) rfl (fun ls hl => ?_)
  refine lv_aload_n C.1 C.2.1 dX11_weigh_146 rfl (lv_at hl 1 rfl) ?_
  refine jq_rgR C X fs_X11_49 he dX11_weigh_147 (fun q4 he => ?_)
  refine lv_iload C.1 C.2.1 dX11_weigh_150 (lv_at hl 4 rfl) ?_
  refine lv_iload C.1 C.2.1 dX11_weigh_152 (lv_at hl 5 rfl) ?_
  refine lv_iadd C.1 C.2.1 dX11_weigh_154 ?_
  refine lv_iload C.1 C.2.1 dX11_weigh_155 (lv_at hl 0 rfl) ?_
  refine lv_bipush (v := 63) C.1 C.2.1 dX11_weigh_157 (by decide) ?_
  refine lv_icmp_le (tgt := 167) C.1 C.2.1 dX11_weigh_159 (by decide) (fun hc5 => ?_) (fun hc5 => ?_)
  · have he := jq_t hc5 he
    refine lv_iload C.1 C.2.1 dX11_weigh_167 (lv_at hl 0 rfl) ?_
    refine lv_bipush (v := (-64)) C.1 C.2.1 dX11_weigh_169 (by decide) ?_
    refine lv_icmp_ge (tgt := 179) C.1 C.2.1 dX11_weigh_171 (by decide) (fun hc6 => ?_) (fun hc6 => ?_)
    · have he := jq_t hc6 he
      refine lv_iload C.1 C.2.1 dX11_weigh_179 (lv_at hl 0 rfl) ?_
      exact TX11_weigh_b181 (n := n) C hr hlk hKB hK188 X (lv_sub hl [1, 2, 3, 4, 5] rfl) he
    · have he := jq_n hc6 he
      refine lv_bipush (v := (-64)) C.1 C.2.1 dX11_weigh_174 (by decide) ?_
      refine lv_goto (tgt := 181) C.1 C.2.1 dX11_weigh_176 (by decide) ?_
      exact TX11_weigh_b181 (n := n) C hr hlk hKB hK188 X (lv_sub hl [1, 2, 3, 4, 5] rfl) he
  · have he := jq_n hc5 he
    refine lv_bipush (v := 63) C.1 C.2.1 dX11_weigh_162 (by decide) ?_
    refine lv_goto (tgt := 181) C.1 C.2.1 dX11_weigh_164 (by decide) ?_
    exact TX11_weigh_b181 (n := n) C hr hlk hKB hK188 X (lv_sub hl [1, 2, 3, 4, 5] rfl) he
set_option maxRecDepth 100000 in
set_option maxHeartbeats 4000000 in
theorem TX11_weigh_b120 {p : Program} {l : Launch} {e : Env} {s : State} {m : MethodId} {args : Array Value} {below : List Frame} {meth : Method} {c : Code} {D : va_G} {ct : Nat → ClassId} {bs : Nat} {res : jq_H} {n : Nat} {KB : Nat → Int32 → Int32 → Int32 → Int32 → jq_H → Option (jq_H)} {K188 : jq_H → Option (jq_H)} (C : jq_C p s m args c cX11_weigh 10 RX11 D ct bs) (hr : meth.sig.returnType = none) (hlk : meth.locks = false) (hKB : ∀ (u0 : Nat) (u1 : Int32) (u3 : Int32) (u6 : Int32) (u7 : Int32) (h1 : jq_H) (H1 : Heap) (locs1 : List Loc) (ls1 : Array Slot), KB u0 u1 u3 u6 u7 h1 = some res → jq_X bs D ct s.heap h1 H1 locs1 → lv_has ls1 10 [(0, .ref u0), (1, .int u1), (3, .int u3), (6, .int u6), (7, .int u7)] → W p l e rm_X11_weigh s m args below meth c H1 locs1 0 0 (MQ below (jq_Qv bs D ct res) args s rm_X11_weigh.cells rm_X11_weigh.slots (fun q => bs ≤ q)) (F0 m 79 ls1 [])) (hK188 : ∀ (h1 : jq_H) (H1 : Heap) (locs1 : List Loc) (ls1 : Array Slot), K188 h1 = some res → jq_X bs D ct s.heap h1 H1 locs1 → lv_has ls1 10 [] → W p l e rm_X11_weigh s m args below meth c H1 locs1 0 0 (MQ below (jq_Qv bs D ct res) args s rm_X11_weigh.cells rm_X11_weigh.slots (fun q => bs ≤ q)) (F0 m 188 ls1 [])) {v0 : Nat} {v1 : Int32} {v3 : Int32} {v6 : Int32} {v7 : Int32} {s0 : Int32} {h : jq_H} {H : Heap} {locs : List Loc} {ls : Array Slot} (X : jq_X bs D ct s.heap h H locs) (hl : lv_has ls 10 [(0, .ref v0), (1, .int v1), (3, .int v3), (6, .int v6), (7, .int v7)]) (he : X11_weigh_b120 n KB K188 v0 v1 v3 v6 v7 s0 h = some res) :
    W p l e rm_X11_weigh s m args below meth c H locs 0 0 (MQ below (jq_Qv bs D ct res) args s rm_X11_weigh.cells rm_X11_weigh.slots (fun q => bs ≤ q)) (F0 m 120 ls [.int s0]) := by
  unfold X11_weigh_b120 at he
  refine lv_istore (lv' := [(8, .int s0), (0, .ref v0), (1, .int v1), (3, .int v3), (6, .int v6), (7, .int v7)]) C.1 C.2.1 dX11_weigh_120 hl (by decide) rfl (fun ls hl => ?_)
  refine lv_aload_n C.1 C.2.1 dX11_weigh_122 rfl (lv_at hl 1 rfl) ?_
  refine jq_rgR C X fs_X11_49 he dX11_weigh_123 (fun q7 he => ?_)
  refine lv_iload C.1 C.2.1 dX11_weigh_126 (lv_at hl 4 rfl) ?_
  refine lv_iload C.1 C.2.1 dX11_weigh_128 (lv_at hl 5 rfl) ?_
  refine lv_iadd C.1 C.2.1 dX11_weigh_130 ?_
  refine jq_rldI C X he dX11_weigh_131 (fun x8 he => ?_)
  refine lv_iload C.1 C.2.1 dX11_weigh_132 (lv_at hl 0 rfl) ?_
  refine lv_iload_n C.1 C.2.1 dX11_weigh_134 rfl (lv_at hl 3 rfl) ?_
  refine lv_icmp_ne (tgt := 142) C.1 C.2.1 dX11_weigh_135 (by decide) (fun hc9 => ?_) (fun hc9 => ?_)
  · have he := jq_n hc9 he
    refine lv_iconst (v := (-1)) C.1 C.2.1 dX11_weigh_142 (by decide) ?_
    exact TX11_weigh_b143 (n := n) C hr hlk hKB hK188 X (lv_sub hl [1, 2, 3, 4, 5] rfl) he
  · have he := jq_t hc9 he
    refine lv_iconst (v := 1) C.1 C.2.1 dX11_weigh_138 (by decide) ?_
    refine lv_goto (tgt := 143) C.1 C.2.1 dX11_weigh_139 (by decide) ?_
    exact TX11_weigh_b143 (n := n) C hr hlk hKB hK188 X (lv_sub hl [1, 2, 3, 4, 5] rfl) he
set_option maxRecDepth 100000 in
set_option maxHeartbeats 4000000 in
theorem TX11_weigh_b79 {p : Program} {l : Launch} {e : Env} {s : State} {m : MethodId} {args : Array Value} {below : List Frame} {meth : Method} {c : Code} {D : va_G} {ct : Nat → ClassId} {bs : Nat} {res : jq_H} {n : Nat} {KB : Nat → Int32 → Int32 → Int32 → Int32 → jq_H → Option (jq_H)} {K188 : jq_H → Option (jq_H)} (C : jq_C p s m args c cX11_weigh 10 RX11 D ct bs) (hr : meth.sig.returnType = none) (hlk : meth.locks = false) (hKB : ∀ (u0 : Nat) (u1 : Int32) (u3 : Int32) (u6 : Int32) (u7 : Int32) (h1 : jq_H) (H1 : Heap) (locs1 : List Loc) (ls1 : Array Slot), KB u0 u1 u3 u6 u7 h1 = some res → jq_X bs D ct s.heap h1 H1 locs1 → lv_has ls1 10 [(0, .ref u0), (1, .int u1), (3, .int u3), (6, .int u6), (7, .int u7)] → W p l e rm_X11_weigh s m args below meth c H1 locs1 0 0 (MQ below (jq_Qv bs D ct res) args s rm_X11_weigh.cells rm_X11_weigh.slots (fun q => bs ≤ q)) (F0 m 79 ls1 [])) (hK188 : ∀ (h1 : jq_H) (H1 : Heap) (locs1 : List Loc) (ls1 : Array Slot), K188 h1 = some res → jq_X bs D ct s.heap h1 H1 locs1 → lv_has ls1 10 [] → W p l e rm_X11_weigh s m args below meth c H1 locs1 0 0 (MQ below (jq_Qv bs D ct res) args s rm_X11_weigh.cells rm_X11_weigh.slots (fun q => bs ≤ q)) (F0 m 188 ls1 [])) {v0 : Nat} {v1 : Int32} {v3 : Int32} {v6 : Int32} {v7 : Int32} {h : jq_H} {H : Heap} {locs : List Loc} {ls : Array Slot} (X : jq_X bs D ct s.heap h H locs) (hl : lv_has ls 10 [(0, .ref v0), (1, .int v1), (3, .int v3), (6, .int v6), (7, .int v7)]) (he : X11_weigh_b79 n KB K188 v0 v1 v3 v6 v7 h = some res) :
    W p l e rm_X11_weigh s m args below meth c H locs 0 0 (MQ below (jq_Qv bs D ct res) args s rm_X11_weigh.cells rm_X11_weigh.slots (fun q => bs ≤ q)) (F0 m 79 ls []) := by
  unfold X11_weigh_b79 at he
  refine lv_iload C.1 C.2.1 dX11_weigh_79 (lv_at hl 4 rfl) ?_
  refine lv_aload_n C.1 C.2.1 dX11_weigh_81 rfl (lv_at hl 0 rfl) ?_
  refine jq_rgR C X fs_X11_40 he dX11_weigh_82 (fun q10 he => ?_)
  refine lv_iload_n C.1 C.2.1 dX11_weigh_85 rfl (lv_at hl 1 rfl) ?_
  refine jq_rldI C X he dX11_weigh_86 (fun x11 he => ?_)
  refine lv_icmp_gt (tgt := 188) C.1 C.2.1 dX11_weigh_87 (by decide) (fun hc12 => ?_) (fun hc12 => ?_)
  · have he := jq_t hc12 he
    exact hK188 _ _ _ _ he X (lv_sub hl [] rfl)
  · have he := jq_n hc12 he
    refine lv_iload C.1 C.2.1 dX11_weigh_90 (lv_at hl 4 rfl) ?_
    refine lv_if_ne (tgt := 99) C.1 C.2.1 dX11_weigh_92 (by decide) (fun hc13 => ?_) (fun hc13 => ?_)
    · have he := jq_n hc13 he
      refine lv_aload_n C.1 C.2.1 dX11_weigh_99 rfl (lv_at hl 0 rfl) ?_
      refine jq_rgR C X fs_X11_49 he dX11_weigh_100 (fun q14 he => ?_)
      refine lv_sipush (v := 812) C.1 C.2.1 dX11_weigh_103 (by decide) ?_
      refine lv_iload_n C.1 C.2.1 dX11_weigh_106 rfl (lv_at hl 1 rfl) ?_
      refine lv_imul C.1 C.2.1 dX11_weigh_107 ?_
      refine lv_sipush (v := 808) C.1 C.2.1 dX11_weigh_108 (by decide) ?_
      refine lv_iadd C.1 C.2.1 dX11_weigh_111 ?_
      refine jq_rldI C X he dX11_weigh_112 (fun x15 he => ?_)
      refine lv_iload C.1 C.2.1 dX11_weigh_113 (lv_at hl 4 rfl) ?_
      refine lv_iconst (v := 1) C.1 C.2.1 dX11_weigh_115 (by decide) ?_
      refine lv_isub C.1 C.2.1 dX11_weigh_116 ?_
      refine lv_ishr C.1 C.2.1 dX11_weigh_117 ?_
      refine lv_iconst (v := 1) C.1 C.2.1 dX11_weigh_118 (by decide) ?_
      refine lv_iand C.1 C.2.1 dX11_weigh_119 ?_
      exact TX11_weigh_b120 (n := n) C hr hlk hKB hK188 X (lv_sub hl [0, 1, 2, 3, 4] rfl) he
    · have he := jq_t hc13 he
      refine lv_iconst (v := 1) C.1 C.2.1 dX11_weigh_95 (by decide) ?_
      refine lv_goto (tgt := 120) C.1 C.2.1 dX11_weigh_96 (by decide) ?_
      exact TX11_weigh_b120 (n := n) C hr hlk hKB hK188 X (lv_sub hl [0, 1, 2, 3, 4] rfl) he
set_option maxRecDepth 100000 in
set_option maxHeartbeats 4000000 in
theorem TX11_weigh_l79 {p : Program} {l : Launch} {e : Env} {s : State} {m : MethodId} {args : Array Value} {below : List Frame} {meth : Method} {c : Code} {D : va_G} {ct : Nat → ClassId} {bs : Nat} {res : jq_H} {n : Nat} {K188 : jq_H → Option (jq_H)} (C : jq_C p s m args c cX11_weigh 10 RX11 D ct bs) (hr : meth.sig.returnType = none) (hlk : meth.locks = false) (hK188 : ∀ (h1 : jq_H) (H1 : Heap) (locs1 : List Loc) (ls1 : Array Slot), K188 h1 = some res → jq_X bs D ct s.heap h1 H1 locs1 → lv_has ls1 10 [] → W p l e rm_X11_weigh s m args below meth c H1 locs1 0 0 (MQ below (jq_Qv bs D ct res) args s rm_X11_weigh.cells rm_X11_weigh.slots (fun q => bs ≤ q)) (F0 m 188 ls1 [])) :
    ∀ (k : Nat) (v0 : Nat) (v1 : Int32) (v3 : Int32) (v6 : Int32) (v7 : Int32) (h : jq_H) (H : Heap) (locs : List Loc) (ls : Array Slot), X11_weigh_l79 n K188 k v0 v1 v3 v6 v7 h = some res → jq_X bs D ct s.heap h H locs → lv_has ls 10 [(0, .ref v0), (1, .int v1), (3, .int v3), (6, .int v6), (7, .int v7)] → W p l e rm_X11_weigh s m args below meth c H locs 0 0 (MQ below (jq_Qv bs D ct res) args s rm_X11_weigh.cells rm_X11_weigh.slots (fun q => bs ≤ q)) (F0 m 79 ls []) := by
  intro k
  induction k with
  | zero => intro v0 v1 v3 v6 v7 h H locs ls he; cases (show (none : Option (jq_H)) = some res from he)
  | succ k ih =>
    intro v0 v1 v3 v6 v7 h H locs ls he X hl
    exact TX11_weigh_b79 (n := n) C hr hlk (KB := X11_weigh_l79 n K188 k) ih hK188 X hl he
set_option maxRecDepth 100000 in
set_option maxHeartbeats 4000000 in
theorem TX11_weigh_b58 {p : Program} {l : Launch} {e : Env} {s : State} {m : MethodId} {args : Array Value} {below : List Frame} {meth : Method} {c : Code} {D : va_G} {ct : Nat → ClassId} {bs : Nat} {res : jq_H} {n : Nat} (C : jq_C p s m args c cX11_weigh 10 RX11 D ct bs) (hr : meth.sig.returnType = none) (hlk : meth.locks = false) {v0 : Nat} {v1 : Int32} {v2 : Int32} {v3 : Int32} {h : jq_H} {H : Heap} {locs : List Loc} {ls : Array Slot} (X : jq_X bs D ct s.heap h H locs) (hl : lv_has ls 10 [(0, .ref v0), (1, .int v1), (2, .int v2), (3, .int v3)]) (he : X11_weigh_b58 n v0 v1 v2 v3 h = some res) :
    W p l e rm_X11_weigh s m args below meth c H locs 0 0 (MQ below (jq_Qv bs D ct res) args s rm_X11_weigh.cells rm_X11_weigh.slots (fun q => bs ≤ q)) (F0 m 58 ls []) := by
  unfold X11_weigh_b58 at he
  refine lv_sipush (v := 812) C.1 C.2.1 dX11_weigh_58 (by decide) ?_
  refine lv_iload_n C.1 C.2.1 dX11_weigh_61 rfl (lv_at hl 1 rfl) ?_
  refine lv_imul C.1 C.2.1 dX11_weigh_62 ?_
  refine lv_bipush (v := 9) C.1 C.2.1 dX11_weigh_63 (by decide) ?_
  refine lv_aload_n C.1 C.2.1 dX11_weigh_65 rfl (lv_at hl 0 rfl) ?_
  refine lv_iload_n C.1 C.2.1 dX11_weigh_66 rfl (lv_at hl 1 rfl) ?_
  refine lv_iload_n C.1 C.2.1 dX11_weigh_67 rfl (lv_at hl 2 rfl) ?_
  refine lv_iconst (v := 0) C.1 C.2.1 dX11_weigh_68 (by decide) ?_
  obtain ⟨z16, hz16, he⟩ := jq_b he
  obtain ⟨hz16c, hz16⟩ := jq_ite hz16
  refine jq_gi (jq_runV (a := v0) (av := [.int v1, .int v2, .int 0]) C X (M_X11_counter l bs D ct n h v0 v1 v2 0 _ hz16) mf_X11_counter gw_890 gs_31 (Or.inl gw_888) rc_X11 hz16c (by decide) rfl hl.1 rfl (Nat.le_of_ble_eq_true rfl) ⟨by decide, by decide⟩ ⟨by decide, by decide⟩ dX11_weigh_69) X (fun H locs X => ?_)
  refine lv_imul C.1 C.2.1 dX11_weigh_72 ?_
  refine lv_iadd C.1 C.2.1 dX11_weigh_73 ?_
  obtain ⟨x17, hx17, he⟩ := jq_ln he
  refine jq_top hx17 ?_
  refine lv_istore (lv' := [(6, .int x17), (0, .ref v0), (1, .int v1), (2, .int v2), (3, .int v3)]) C.1 C.2.1 dX11_weigh_74 hl (by decide) rfl (fun ls hl => ?_)
  refine lv_iconst (v := 0) C.1 C.2.1 dX11_weigh_76 (by decide) ?_
  refine lv_istore (lv' := [(7, .int 0), (6, .int x17), (0, .ref v0), (1, .int v1), (2, .int v2), (3, .int v3)]) C.1 C.2.1 dX11_weigh_77 hl (by decide) rfl (fun ls hl => ?_)
  exact TX11_weigh_l79 (n := n) C hr hlk (fun  hh H locs ls he X hl => by
    exact TX11_weigh_b188 (n := n) C hr hlk X hl he) n _ _ _ _ _ _ _ _ _ he X (lv_sub hl [2, 3, 5, 1, 0] rfl)
set_option maxRecDepth 100000 in
set_option maxHeartbeats 4000000 in
theorem TX11_weigh_b43 {p : Program} {l : Launch} {e : Env} {s : State} {m : MethodId} {args : Array Value} {below : List Frame} {meth : Method} {c : Code} {D : va_G} {ct : Nat → ClassId} {bs : Nat} {res : jq_H} {n : Nat} (C : jq_C p s m args c cX11_weigh 10 RX11 D ct bs) (hr : meth.sig.returnType = none) (hlk : meth.locks = false) {v0 : Nat} {v1 : Int32} {v2 : Int32} {v3 : Int32} {v5 : Int32} {s0 : Int32} {s1 : Int32} {h : jq_H} {H : Heap} {locs : List Loc} {ls : Array Slot} (X : jq_X bs D ct s.heap h H locs) (hl : lv_has ls 10 [(0, .ref v0), (1, .int v1), (2, .int v2), (3, .int v3), (5, .int v5)]) (he : X11_weigh_b43 n v0 v1 v2 v3 v5 s0 s1 h = some res) :
    W p l e rm_X11_weigh s m args below meth c H locs 0 0 (MQ below (jq_Qv bs D ct res) args s rm_X11_weigh.cells rm_X11_weigh.slots (fun q => bs ≤ q)) (F0 m 43 ls [.int s1, .int s0]) := by
  unfold X11_weigh_b43 at he
  refine lv_icmp_ne (tgt := 58) C.1 C.2.1 dX11_weigh_43 (by decide) (fun hc18 => ?_) (fun hc18 => ?_)
  · have he := jq_n hc18 he
    exact TX11_weigh_b58 (n := n) C hr hlk X (lv_sub hl [0, 1, 2, 3] rfl) he
  · have he := jq_t hc18 he
    refine lv_iload C.1 C.2.1 dX11_weigh_46 (lv_at hl 4 rfl) ?_
    refine lv_aload_n C.1 C.2.1 dX11_weigh_48 rfl (lv_at hl 0 rfl) ?_
    refine jq_rgR C X fs_X11_43 he dX11_weigh_49 (fun q19 he => ?_)
    refine lv_iload_n C.1 C.2.1 dX11_weigh_52 rfl (lv_at hl 1 rfl) ?_
    refine jq_rldI C X he dX11_weigh_53 (fun x20 he => ?_)
    refine lv_icmp_le (tgt := 58) C.1 C.2.1 dX11_weigh_54 (by decide) (fun hc21 => ?_) (fun hc21 => ?_)
    · have he := jq_t hc21 he
      exact TX11_weigh_b58 (n := n) C hr hlk X (lv_sub hl [0, 1, 2, 3] rfl) he
    · have he := jq_n hc21 he
      exact jq_vret C X hr hlk he (by decide) (by decide) dX11_weigh_57
set_option maxRecDepth 100000 in
set_option maxHeartbeats 4000000 in
theorem TX11_weigh_b33 {p : Program} {l : Launch} {e : Env} {s : State} {m : MethodId} {args : Array Value} {below : List Frame} {meth : Method} {c : Code} {D : va_G} {ct : Nat → ClassId} {bs : Nat} {res : jq_H} {n : Nat} (C : jq_C p s m args c cX11_weigh 10 RX11 D ct bs) (hr : meth.sig.returnType = none) (hlk : meth.locks = false) {v0 : Nat} {v1 : Int32} {v2 : Int32} {v3 : Int32} {v5 : Int32} {s0 : Int32} {h : jq_H} {H : Heap} {locs : List Loc} {ls : Array Slot} (X : jq_X bs D ct s.heap h H locs) (hl : lv_has ls 10 [(0, .ref v0), (1, .int v1), (2, .int v2), (3, .int v3), (5, .int v5)]) (he : X11_weigh_b33 n v0 v1 v2 v3 v5 s0 h = some res) :
    W p l e rm_X11_weigh s m args below meth c H locs 0 0 (MQ below (jq_Qv bs D ct res) args s rm_X11_weigh.cells rm_X11_weigh.slots (fun q => bs ≤ q)) (F0 m 33 ls [.int s0]) := by
  unfold X11_weigh_b33 at he
  refine lv_iload_n C.1 C.2.1 dX11_weigh_33 rfl (lv_at hl 3 rfl) ?_
  refine lv_iconst (v := 1) C.1 C.2.1 dX11_weigh_34 (by decide) ?_
  refine lv_icmp_ne (tgt := 42) C.1 C.2.1 dX11_weigh_35 (by decide) (fun hc22 => ?_) (fun hc22 => ?_)
  · have he := jq_n hc22 he
    refine lv_iconst (v := 0) C.1 C.2.1 dX11_weigh_42 (by decide) ?_
    exact TX11_weigh_b43 (n := n) C hr hlk X (lv_sub hl [0, 1, 2, 3, 4] rfl) he
  · have he := jq_t hc22 he
    refine lv_iconst (v := 1) C.1 C.2.1 dX11_weigh_38 (by decide) ?_
    refine lv_goto (tgt := 43) C.1 C.2.1 dX11_weigh_39 (by decide) ?_
    exact TX11_weigh_b43 (n := n) C hr hlk X (lv_sub hl [0, 1, 2, 3, 4] rfl) he
set_option maxRecDepth 100000 in
set_option maxHeartbeats 4000000 in
theorem TX11_weigh_b21 {p : Program} {l : Launch} {e : Env} {s : State} {m : MethodId} {args : Array Value} {below : List Frame} {meth : Method} {c : Code} {D : va_G} {ct : Nat → ClassId} {bs : Nat} {res : jq_H} {n : Nat} (C : jq_C p s m args c cX11_weigh 10 RX11 D ct bs) (hr : meth.sig.returnType = none) (hlk : meth.locks = false) {v0 : Nat} {v1 : Int32} {v2 : Int32} {v3 : Int32} {v4 : Int32} {s0 : Int32} {h : jq_H} {H : Heap} {locs : List Loc} {ls : Array Slot} (X : jq_X bs D ct s.heap h H locs) (hl : lv_has ls 10 [(0, .ref v0), (1, .int v1), (2, .int v2), (3, .int v3), (4, .int v4)]) (he : X11_weigh_b21 n v0 v1 v2 v3 v4 s0 h = some res) :
    W p l e rm_X11_weigh s m args below meth c H locs 0 0 (MQ below (jq_Qv bs D ct res) args s rm_X11_weigh.cells rm_X11_weigh.slots (fun q => bs ≤ q)) (F0 m 21 ls [.int s0]) := by
  unfold X11_weigh_b21 at he
  refine lv_istore (lv' := [(5, .int s0), (0, .ref v0), (1, .int v1), (2, .int v2), (3, .int v3), (4, .int v4)]) C.1 C.2.1 dX11_weigh_21 hl (by decide) rfl (fun ls hl => ?_)
  refine lv_iload C.1 C.2.1 dX11_weigh_23 (lv_at hl 5 rfl) ?_
  refine lv_if_lt (tgt := 32) C.1 C.2.1 dX11_weigh_25 (by decide) (fun hc23 => ?_) (fun hc23 => ?_)
  · have he := jq_t hc23 he
    refine lv_iconst (v := 0) C.1 C.2.1 dX11_weigh_32 (by decide) ?_
    exact TX11_weigh_b33 (n := n) C hr hlk X (lv_sub hl [1, 2, 3, 4, 0] rfl) he
  · have he := jq_n hc23 he
    refine lv_iconst (v := 1) C.1 C.2.1 dX11_weigh_28 (by decide) ?_
    refine lv_goto (tgt := 33) C.1 C.2.1 dX11_weigh_29 (by decide) ?_
    exact TX11_weigh_b33 (n := n) C hr hlk X (lv_sub hl [1, 2, 3, 4, 0] rfl) he
set_option maxRecDepth 100000 in
set_option maxHeartbeats 4000000 in
theorem M_X11_weigh (l : Launch) (bs : Nat) (D : va_G) (ct : Nat → ClassId) (n : Nat) (h : jq_H) (a : Nat) (p0 : Int32) (p1 : Int32) (p2 : Int32) (res : jq_H) (he : X11_weigh n h a p0 p1 p2 = some res) : jq_M l yX11_weigh cX11_weigh 10 none rm_X11_weigh (jq_P [.ref a, .int p0, .int p1, .int p2] bs D ct h) (jq_Qv bs D ct res) bs := by
  refine jq_start2 (by decide +kernel) (Nat.le_of_ble_eq_true rfl) ?_
  intro p e s m args below meth c ls H locs C hr hlk hin hl X
  have C : jq_C p s m args c cX11_weigh 10 RX11 D ct bs := C
  have hin : meth.name = "weigh" := hin
  have hl : lv_has ls 10 [(0, .ref a), (1, .int p0), (2, .int p1), (3, .int p2)] := hl
  unfold X11_weigh at he
  refine lv_aload_n C.1 C.2.1 dX11_weigh_0 rfl (lv_at hl 0 rfl) ?_
  refine lv_iload_n C.1 C.2.1 dX11_weigh_1 rfl (lv_at hl 1 rfl) ?_
  refine lv_iload_n C.1 C.2.1 dX11_weigh_2 rfl (lv_at hl 2 rfl) ?_
  obtain ⟨z24, hz24, he⟩ := jq_b he
  obtain ⟨hz24c, hz24⟩ := jq_ite hz24
  refine jq_gi (jq_runV (a := a) (av := [.int p0, .int p1]) C X (M_X11_sum l bs D ct n h a p0 p1 _ hz24) mf_X11_sum gw_901 gs_33 (Or.inl gw_899) rc_X11 hz24c (by decide) rfl hl.1 rfl (Nat.le_of_ble_eq_true rfl) ⟨by decide, by decide⟩ ⟨by decide, by decide⟩ dX11_weigh_3) X (fun H locs X => ?_)
  obtain ⟨x25, hx25, he⟩ := jq_ln he
  refine jq_top hx25 ?_
  refine lv_istore (lv' := [(4, .int x25), (0, .ref a), (1, .int p0), (2, .int p1), (3, .int p2)]) C.1 C.2.1 dX11_weigh_6 hl (by decide) rfl (fun ls hl => ?_)
  refine lv_iload C.1 C.2.1 dX11_weigh_8 (lv_at hl 0 rfl) ?_
  refine lv_if_ge (tgt := 19) C.1 C.2.1 dX11_weigh_10 (by decide) (fun hc26 => ?_) (fun hc26 => ?_)
  · have he := jq_t hc26 he
    refine lv_iload C.1 C.2.1 dX11_weigh_19 (lv_at hl 0 rfl) ?_
    exact TX11_weigh_b21 (n := n) C hr hlk X (lv_sub hl [1, 2, 3, 4, 0] rfl) he
  · have he := jq_n hc26 he
    refine lv_iload C.1 C.2.1 dX11_weigh_13 (lv_at hl 0 rfl) ?_
    refine lv_ineg C.1 C.2.1 dX11_weigh_15 ?_
    refine lv_goto (tgt := 21) C.1 C.2.1 dX11_weigh_16 (by decide) ?_
    exact TX11_weigh_b21 (n := n) C hr hlk X (lv_sub hl [1, 2, 3, 4, 0] rfl) he
set_option maxRecDepth 100000 in
set_option maxHeartbeats 4000000 in
theorem TX11_loop_b115 {p : Program} {l : Launch} {e : Env} {s : State} {m : MethodId} {args : Array Value} {below : List Frame} {meth : Method} {c : Code} {D : va_G} {ct : Nat → ClassId} {bs : Nat} {res : jq_H} {n : Nat} (C : jq_C p s m args c cX11_loop 3 RX11 D ct bs) (hr : meth.sig.returnType = none) (hlk : meth.locks = false) {v0 : Nat} {v1 : Int32} {h : jq_H} {H : Heap} {locs : List Loc} {ls : Array Slot} (X : jq_X bs D ct s.heap h H locs) (hl : lv_has ls 3 [(0, .ref v0), (1, .int v1)]) (he : X11_loop_b115 n v0 v1 h = some res) :
    W p l e rm_X11_loop s m args below meth c H locs 0 0 (MQ below (jq_Qv bs D ct res) args s rm_X11_loop.cells rm_X11_loop.slots (fun q => bs ≤ q)) (F0 m 115 ls []) := by
  unfold X11_loop_b115 at he
  refine lv_aload_n C.1 C.2.1 dX11_loop_115 rfl (lv_at hl 0 rfl) ?_
  refine jq_rgR C X fs_X11_49 he dX11_loop_116 (fun q1 he => ?_)
  refine lv_iload_n C.1 C.2.1 dX11_loop_119 rfl (lv_at hl 1 rfl) ?_
  refine lv_iconst (v := 0) C.1 C.2.1 dX11_loop_120 (by decide) ?_
  refine jq_rstI C X he dX11_loop_121 (fun h2 H locs he X => ?_)
  exact jq_vret C X hr hlk he (by decide) (by decide) dX11_loop_122
set_option maxRecDepth 100000 in
set_option maxHeartbeats 4000000 in
theorem TX11_loop_b88 {p : Program} {l : Launch} {e : Env} {s : State} {m : MethodId} {args : Array Value} {below : List Frame} {meth : Method} {c : Code} {D : va_G} {ct : Nat → ClassId} {bs : Nat} {res : jq_H} {n : Nat} (C : jq_C p s m args c cX11_loop 3 RX11 D ct bs) (hr : meth.sig.returnType = none) (hlk : meth.locks = false) {v0 : Nat} {v1 : Int32} {s0 : Nat} {s1 : Int32} {s2 : Int32} {h : jq_H} {H : Heap} {locs : List Loc} {ls : Array Slot} (X : jq_X bs D ct s.heap h H locs) (hl : lv_has ls 3 [(0, .ref v0), (1, .int v1)]) (he : X11_loop_b88 n v0 v1 s0 s1 s2 h = some res) :
    W p l e rm_X11_loop s m args below meth c H locs 0 0 (MQ below (jq_Qv bs D ct res) args s rm_X11_loop.cells rm_X11_loop.slots (fun q => bs ≤ q)) (F0 m 88 ls [.int s2, .int s1, .ref s0]) := by
  unfold X11_loop_b88 at he
  refine jq_rstI C X he dX11_loop_88 (fun h3 H locs he X => ?_)
  refine lv_goto (tgt := 115) C.1 C.2.1 dX11_loop_89 (by decide) ?_
  exact TX11_loop_b115 (n := n) C hr hlk X (lv_sub hl [0, 1] rfl) he
set_option maxRecDepth 100000 in
set_option maxHeartbeats 4000000 in
theorem TX11_loop_b36 {p : Program} {l : Launch} {e : Env} {s : State} {m : MethodId} {args : Array Value} {below : List Frame} {meth : Method} {c : Code} {D : va_G} {ct : Nat → ClassId} {bs : Nat} {res : jq_H} {n : Nat} (C : jq_C p s m args c cX11_loop 3 RX11 D ct bs) (hr : meth.sig.returnType = none) (hlk : meth.locks = false) {s0 : Nat} {s1 : Int32} {s2 : Int32} {h : jq_H} {H : Heap} {locs : List Loc} {ls : Array Slot} (X : jq_X bs D ct s.heap h H locs) (hl : lv_has ls 3 []) (he : X11_loop_b36 n s0 s1 s2 h = some res) :
    W p l e rm_X11_loop s m args below meth c H locs 0 0 (MQ below (jq_Qv bs D ct res) args s rm_X11_loop.cells rm_X11_loop.slots (fun q => bs ≤ q)) (F0 m 36 ls [.int s2, .int s1, .ref s0]) := by
  unfold X11_loop_b36 at he
  refine jq_rstI C X he dX11_loop_36 (fun h4 H locs he X => ?_)
  exact jq_vret C X hr hlk he (by decide) (by decide) dX11_loop_37
set_option maxRecDepth 100000 in
set_option maxHeartbeats 4000000 in
theorem M_X11_loop (l : Launch) (bs : Nat) (D : va_G) (ct : Nat → ClassId) (n : Nat) (h : jq_H) (a : Nat) (p0 : Int32) (p1 : Int32) (res : jq_H) (he : X11_loop n h a p0 p1 = some res) : jq_M l yX11_loop cX11_loop 3 none rm_X11_loop (jq_P [.ref a, .int p0, .int p1] bs D ct h) (jq_Qv bs D ct res) bs := by
  refine jq_start2 (by decide +kernel) (Nat.le_of_ble_eq_true rfl) ?_
  intro p e s m args below meth c ls H locs C hr hlk hin hl X
  have C : jq_C p s m args c cX11_loop 3 RX11 D ct bs := C
  have hin : meth.name = "loop" := hin
  have hl : lv_has ls 3 [(0, .ref a), (1, .int p0), (2, .int p1)] := hl
  unfold X11_loop at he
  refine lv_iload_n C.1 C.2.1 dX11_loop_0 rfl (lv_at hl 2 rfl) ?_
  refine lv_iconst (v := 1) C.1 C.2.1 dX11_loop_1 (by decide) ?_
  refine lv_icmp_ne (tgt := 38) C.1 C.2.1 dX11_loop_2 (by decide) (fun hc5 => ?_) (fun hc5 => ?_)
  · have he := jq_n hc5 he
    refine lv_aload_n C.1 C.2.1 dX11_loop_38 rfl (lv_at hl 0 rfl) ?_
    refine jq_rgR C X fs_X11_49 he dX11_loop_39 (fun q6 he => ?_)
    refine lv_iload_n C.1 C.2.1 dX11_loop_42 rfl (lv_at hl 1 rfl) ?_
    refine jq_rldI C X he dX11_loop_43 (fun x7 he => ?_)
    refine lv_aload_n C.1 C.2.1 dX11_loop_44 rfl (lv_at hl 0 rfl) ?_
    refine jq_rgR C X fs_X11_49 he dX11_loop_45 (fun q8 he => ?_)
    refine lv_iload_n C.1 C.2.1 dX11_loop_48 rfl (lv_at hl 1 rfl) ?_
    refine lv_iconst (v := 1) C.1 C.2.1 dX11_loop_49 (by decide) ?_
    refine lv_iadd C.1 C.2.1 dX11_loop_50 ?_
    refine jq_rldI C X he dX11_loop_51 (fun x9 he => ?_)
    refine lv_icmp_ne (tgt := 92) C.1 C.2.1 dX11_loop_52 (by decide) (fun hc10 => ?_) (fun hc10 => ?_)
    · have he := jq_n hc10 he
      refine lv_aload_n C.1 C.2.1 dX11_loop_92 rfl (lv_at hl 0 rfl) ?_
      refine jq_rgR C X fs_X11_49 he dX11_loop_93 (fun q11 he => ?_)
      refine lv_iload_n C.1 C.2.1 dX11_loop_96 rfl (lv_at hl 1 rfl) ?_
      refine lv_iconst (v := 2) C.1 C.2.1 dX11_loop_97 (by decide) ?_
      refine lv_iadd C.1 C.2.1 dX11_loop_98 ?_
      refine lv_iconst (v := 0) C.1 C.2.1 dX11_loop_99 (by decide) ?_
      refine jq_rstI C X he dX11_loop_100 (fun h12 H locs he X => ?_)
      refine lv_aload_n C.1 C.2.1 dX11_loop_101 rfl (lv_at hl 0 rfl) ?_
      refine jq_rgR C X fs_X11_49 he dX11_loop_102 (fun q13 he => ?_)
      refine lv_iload_n C.1 C.2.1 dX11_loop_105 rfl (lv_at hl 1 rfl) ?_
      refine lv_iconst (v := 1) C.1 C.2.1 dX11_loop_106 (by decide) ?_
      refine lv_iadd C.1 C.2.1 dX11_loop_107 ?_
      refine lv_aload_n C.1 C.2.1 dX11_loop_108 rfl (lv_at hl 0 rfl) ?_
      refine jq_rgR C X fs_X11_49 he dX11_loop_109 (fun q14 he => ?_)
      refine lv_iload_n C.1 C.2.1 dX11_loop_112 rfl (lv_at hl 1 rfl) ?_
      refine jq_rldI C X he dX11_loop_113 (fun x15 he => ?_)
      refine jq_rstI C X he dX11_loop_114 (fun h16 H locs he X => ?_)
      exact TX11_loop_b115 (n := n) C hr hlk X (lv_sub hl [0, 1] rfl) he
    · have he := jq_t hc10 he
      refine lv_aload_n C.1 C.2.1 dX11_loop_55 rfl (lv_at hl 0 rfl) ?_
      refine jq_rgR C X fs_X11_49 he dX11_loop_56 (fun q17 he => ?_)
      refine lv_iload_n C.1 C.2.1 dX11_loop_59 rfl (lv_at hl 1 rfl) ?_
      refine lv_iconst (v := 2) C.1 C.2.1 dX11_loop_60 (by decide) ?_
      refine lv_iadd C.1 C.2.1 dX11_loop_61 ?_
      refine lv_aload_n C.1 C.2.1 dX11_loop_62 rfl (lv_at hl 0 rfl) ?_
      refine jq_rgR C X fs_X11_49 he dX11_loop_63 (fun q18 he => ?_)
      refine lv_iload_n C.1 C.2.1 dX11_loop_66 rfl (lv_at hl 1 rfl) ?_
      refine lv_iconst (v := 2) C.1 C.2.1 dX11_loop_67 (by decide) ?_
      refine lv_iadd C.1 C.2.1 dX11_loop_68 ?_
      refine jq_rldI C X he dX11_loop_69 (fun x19 he => ?_)
      refine lv_iconst (v := 3) C.1 C.2.1 dX11_loop_70 (by decide) ?_
      refine lv_icmp_ge (tgt := 87) C.1 C.2.1 dX11_loop_71 (by decide) (fun hc20 => ?_) (fun hc20 => ?_)
      · have he := jq_t hc20 he
        refine lv_iconst (v := 3) C.1 C.2.1 dX11_loop_87 (by decide) ?_
        exact TX11_loop_b88 (n := n) C hr hlk X (lv_sub hl [0, 1] rfl) he
      · have he := jq_n hc20 he
        refine lv_aload_n C.1 C.2.1 dX11_loop_74 rfl (lv_at hl 0 rfl) ?_
        refine jq_rgR C X fs_X11_49 he dX11_loop_75 (fun q21 he => ?_)
        refine lv_iload_n C.1 C.2.1 dX11_loop_78 rfl (lv_at hl 1 rfl) ?_
        refine lv_iconst (v := 2) C.1 C.2.1 dX11_loop_79 (by decide) ?_
        refine lv_iadd C.1 C.2.1 dX11_loop_80 ?_
        refine jq_rldI C X he dX11_loop_81 (fun x22 he => ?_)
        refine lv_iconst (v := 1) C.1 C.2.1 dX11_loop_82 (by decide) ?_
        refine lv_iadd C.1 C.2.1 dX11_loop_83 ?_
        refine lv_goto (tgt := 88) C.1 C.2.1 dX11_loop_84 (by decide) ?_
        exact TX11_loop_b88 (n := n) C hr hlk X (lv_sub hl [0, 1] rfl) he
  · have he := jq_t hc5 he
    refine lv_aload_n C.1 C.2.1 dX11_loop_5 rfl (lv_at hl 0 rfl) ?_
    refine jq_rgR C X fs_X11_49 he dX11_loop_6 (fun q23 he => ?_)
    refine lv_iload_n C.1 C.2.1 dX11_loop_9 rfl (lv_at hl 1 rfl) ?_
    refine lv_aload_n C.1 C.2.1 dX11_loop_10 rfl (lv_at hl 0 rfl) ?_
    refine jq_rgR C X fs_X11_49 he dX11_loop_11 (fun q24 he => ?_)
    refine lv_iload_n C.1 C.2.1 dX11_loop_14 rfl (lv_at hl 1 rfl) ?_
    refine jq_rldI C X he dX11_loop_15 (fun x25 he => ?_)
    refine lv_sipush (v := 255) C.1 C.2.1 dX11_loop_16 (by decide) ?_
    refine lv_icmp_ge (tgt := 33) C.1 C.2.1 dX11_loop_19 (by decide) (fun hc26 => ?_) (fun hc26 => ?_)
    · have he := jq_t hc26 he
      refine lv_sipush (v := 255) C.1 C.2.1 dX11_loop_33 (by decide) ?_
      exact TX11_loop_b36 (n := n) C hr hlk X (lv_sub hl [] rfl) he
    · have he := jq_n hc26 he
      refine lv_aload_n C.1 C.2.1 dX11_loop_22 rfl (lv_at hl 0 rfl) ?_
      refine jq_rgR C X fs_X11_49 he dX11_loop_23 (fun q27 he => ?_)
      refine lv_iload_n C.1 C.2.1 dX11_loop_26 rfl (lv_at hl 1 rfl) ?_
      refine jq_rldI C X he dX11_loop_27 (fun x28 he => ?_)
      refine lv_iconst (v := 1) C.1 C.2.1 dX11_loop_28 (by decide) ?_
      refine lv_iadd C.1 C.2.1 dX11_loop_29 ?_
      refine lv_goto (tgt := 36) C.1 C.2.1 dX11_loop_30 (by decide) ?_
      exact TX11_loop_b36 (n := n) C hr hlk X (lv_sub hl [] rfl) he
