set_option maxRecDepth 100000 in
set_option maxHeartbeats 4000000 in
theorem TX11_asks_b339 {p : Program} {l : Launch} {e : Env} {s : State} {m : MethodId} {args : Array Value} {below : List Frame} {meth : Method} {c : Code} {D : va_G} {ct : Nat → ClassId} {bs : Nat} {res : jq_H} {n : Nat} (C : jq_C p s m args c cX11_asks 10 RX11 D ct bs) (hr : meth.sig.returnType = none) (hlk : meth.locks = false) {v0 : Nat} {v2 : Int32} {v3 : Int32} {v4 : Int32} {h : jq_H} {H : Heap} {locs : List Loc} {ls : Array Slot} (X : jq_X bs D ct s.heap h H locs) (hl : lv_has ls 10 [(0, .ref v0), (2, .int v2), (3, .int v3), (4, .int v4)]) (he : X11_asks_b339 n v0 v2 v3 v4 h = some res) :
    W p l e rm_X11_asks s m args below meth c H locs 0 0 (MQ below (jq_Qv bs D ct res) args s rm_X11_asks.cells rm_X11_asks.slots (fun q => bs ≤ q)) (F0 m 339 ls []) := by
  unfold X11_asks_b339 at he
  refine lv_aload_n C.1 C.2.1 dX11_asks_339 rfl (lv_at hl 0 rfl) ?_
  refine jq_rgR C X fs_X11_49 he dX11_asks_340 (fun q1 he => ?_)
  refine lv_iload C.1 C.2.1 dX11_asks_343 (lv_at hl 3 rfl) ?_
  refine lv_sipush (v := 808) C.1 C.2.1 dX11_asks_345 (by decide) ?_
  refine lv_iadd C.1 C.2.1 dX11_asks_348 ?_
  refine lv_aload_n C.1 C.2.1 dX11_asks_349 rfl (lv_at hl 0 rfl) ?_
  refine jq_rgR C X fs_X11_49 he dX11_asks_350 (fun q2 he => ?_)
  refine lv_iload C.1 C.2.1 dX11_asks_353 (lv_at hl 3 rfl) ?_
  refine lv_sipush (v := 808) C.1 C.2.1 dX11_asks_355 (by decide) ?_
  refine lv_iadd C.1 C.2.1 dX11_asks_358 ?_
  refine jq_rldI C X he dX11_asks_359 (fun x3 he => ?_)
  refine lv_iconst (v := 1) C.1 C.2.1 dX11_asks_360 (by decide) ?_
  refine lv_ishl C.1 C.2.1 dX11_asks_361 ?_
  refine lv_iload_n C.1 C.2.1 dX11_asks_362 rfl (lv_at hl 2 rfl) ?_
  refine lv_ior C.1 C.2.1 dX11_asks_363 ?_
  refine lv_ldc (v := 65535) C.1 C.2.1 C.2.2.2.1 (C.2.2.2.2.1 _ gw_915) dX11_asks_364 ?_
  refine lv_iand C.1 C.2.1 dX11_asks_366 ?_
  refine jq_rstI C X he dX11_asks_367 (fun h4 H locs he X => ?_)
  refine lv_aload_n C.1 C.2.1 dX11_asks_368 rfl (lv_at hl 0 rfl) ?_
  refine jq_rgR C X fs_X11_49 he dX11_asks_369 (fun q5 he => ?_)
  refine lv_iload C.1 C.2.1 dX11_asks_372 (lv_at hl 3 rfl) ?_
  refine lv_sipush (v := 384) C.1 C.2.1 dX11_asks_374 (by decide) ?_
  refine lv_iadd C.1 C.2.1 dX11_asks_377 ?_
  refine lv_iload_n C.1 C.2.1 dX11_asks_378 rfl (lv_at hl 1 rfl) ?_
  refine lv_iadd C.1 C.2.1 dX11_asks_379 ?_
  refine lv_aload_n C.1 C.2.1 dX11_asks_380 rfl (lv_at hl 0 rfl) ?_
  refine jq_rgR C X fs_X11_49 he dX11_asks_381 (fun q6 he => ?_)
  refine lv_iload C.1 C.2.1 dX11_asks_384 (lv_at hl 3 rfl) ?_
  refine lv_sipush (v := 384) C.1 C.2.1 dX11_asks_386 (by decide) ?_
  refine lv_iadd C.1 C.2.1 dX11_asks_389 ?_
  refine lv_iload_n C.1 C.2.1 dX11_asks_390 rfl (lv_at hl 1 rfl) ?_
  refine lv_iadd C.1 C.2.1 dX11_asks_391 ?_
  refine jq_rldI C X he dX11_asks_392 (fun x7 he => ?_)
  refine lv_iconst (v := 1) C.1 C.2.1 dX11_asks_393 (by decide) ?_
  refine lv_ishl C.1 C.2.1 dX11_asks_394 ?_
  refine lv_iload_n C.1 C.2.1 dX11_asks_395 rfl (lv_at hl 2 rfl) ?_
  refine lv_ior C.1 C.2.1 dX11_asks_396 ?_
  refine lv_ldc (v := 65535) C.1 C.2.1 C.2.2.2.1 (C.2.2.2.2.1 _ gw_915) dX11_asks_397 ?_
  refine lv_iand C.1 C.2.1 dX11_asks_399 ?_
  refine jq_rstI C X he dX11_asks_400 (fun h8 H locs he X => ?_)
  exact jq_vret C X hr hlk he (by decide) (by decide) dX11_asks_401
set_option maxRecDepth 100000 in
set_option maxHeartbeats 4000000 in
theorem TX11_asks_b324 {p : Program} {l : Launch} {e : Env} {s : State} {m : MethodId} {args : Array Value} {below : List Frame} {meth : Method} {c : Code} {D : va_G} {ct : Nat → ClassId} {bs : Nat} {res : jq_H} {n : Nat} (C : jq_C p s m args c cX11_asks 10 RX11 D ct bs) (hr : meth.sig.returnType = none) (hlk : meth.locks = false) {v0 : Nat} {v1 : Int32} {v2 : Int32} {v3 : Int32} {v4 : Int32} {h : jq_H} {H : Heap} {locs : List Loc} {ls : Array Slot} (X : jq_X bs D ct s.heap h H locs) (hl : lv_has ls 10 [(0, .ref v0), (1, .int v1), (2, .int v2), (3, .int v3), (4, .int v4)]) (he : X11_asks_b324 n v0 v1 v2 v3 v4 h = some res) :
    W p l e rm_X11_asks s m args below meth c H locs 0 0 (MQ below (jq_Qv bs D ct res) args s rm_X11_asks.cells rm_X11_asks.slots (fun q => bs ≤ q)) (F0 m 324 ls []) := by
  unfold X11_asks_b324 at he
  refine lv_aload_n C.1 C.2.1 dX11_asks_324 rfl (lv_at hl 0 rfl) ?_
  refine lv_iload C.1 C.2.1 dX11_asks_325 (lv_at hl 4 rfl) ?_
  refine lv_aload_n C.1 C.2.1 dX11_asks_327 rfl (lv_at hl 0 rfl) ?_
  refine lv_iload_n C.1 C.2.1 dX11_asks_328 rfl (lv_at hl 1 rfl) ?_
  refine lv_iload_n C.1 C.2.1 dX11_asks_329 rfl (lv_at hl 2 rfl) ?_
  refine lv_iconst (v := 0) C.1 C.2.1 dX11_asks_330 (by decide) ?_
  obtain ⟨z9, hz9, he⟩ := jq_b he
  obtain ⟨hz9c, hz9⟩ := jq_ite hz9
  refine jq_gi (jq_runV (a := v0) (av := [.int v1, .int v2, .int 0]) C X (M_X11_counter l bs D ct n h v0 v1 v2 0 _ hz9) mf_X11_counter gw_890 gs_31 (Or.inl gw_888) rc_X11 hz9c (by decide) rfl hl.1 rfl (Nat.le_of_ble_eq_true rfl) ⟨by decide, by decide⟩ ⟨by decide, by decide⟩ dX11_asks_331) X (fun H locs X => ?_)
  refine lv_iadd C.1 C.2.1 dX11_asks_334 ?_
  refine lv_iload_n C.1 C.2.1 dX11_asks_335 rfl (lv_at hl 3 rfl) ?_
  obtain ⟨z10, hz10, he⟩ := jq_b he
  obtain ⟨hz10c, hz10⟩ := jq_ite hz10
  refine jq_gv (jq_runV (a := v0) (av := [.int (v4 + z9.1), .int v3]) C X (M_X11_turn l bs D ct n z9.2 v0 (v4 + z9.1) v3 _ hz10) mf_X11_turn gw_905 gs_34 (Or.inl gw_903) rc_X11 hz10c (by decide) rfl hl.1 rfl (Nat.le_of_ble_eq_true rfl) ⟨by decide, by decide⟩ ⟨by decide, by decide⟩ dX11_asks_336) X (fun H locs X => ?_)
  exact TX11_asks_b339 (n := n) C hr hlk X (lv_sub hl [0, 2, 3, 4] rfl) he
set_option maxRecDepth 100000 in
set_option maxHeartbeats 4000000 in
theorem TX11_asks_b318 {p : Program} {l : Launch} {e : Env} {s : State} {m : MethodId} {args : Array Value} {below : List Frame} {meth : Method} {c : Code} {D : va_G} {ct : Nat → ClassId} {bs : Nat} {res : jq_H} {n : Nat} (C : jq_C p s m args c cX11_asks 10 RX11 D ct bs) (hr : meth.sig.returnType = none) (hlk : meth.locks = false) {v0 : Nat} {v2 : Int32} {v3 : Int32} {v4 : Int32} {s0 : Nat} {s1 : Int32} {s2 : Int32} {h : jq_H} {H : Heap} {locs : List Loc} {ls : Array Slot} (X : jq_X bs D ct s.heap h H locs) (hl : lv_has ls 10 [(0, .ref v0), (2, .int v2), (3, .int v3), (4, .int v4)]) (he : X11_asks_b318 n v0 v2 v3 v4 s0 s1 s2 h = some res) :
    W p l e rm_X11_asks s m args below meth c H locs 0 0 (MQ below (jq_Qv bs D ct res) args s rm_X11_asks.cells rm_X11_asks.slots (fun q => bs ≤ q)) (F0 m 318 ls [.int s2, .int s1, .ref s0]) := by
  unfold X11_asks_b318 at he
  obtain ⟨z11, hz11, he⟩ := jq_b he
  obtain ⟨hz11c, hz11⟩ := jq_ite hz11
  refine jq_gv (jq_runV (a := s0) (av := [.int s1, .int s2]) C X (M_X11_turn l bs D ct n h s0 s1 s2 _ hz11) mf_X11_turn gw_905 gs_34 (Or.inl gw_903) rc_X11 hz11c (by decide) rfl hl.1 rfl (Nat.le_of_ble_eq_true rfl) ⟨by decide, by decide⟩ ⟨by decide, by decide⟩ dX11_asks_318) X (fun H locs X => ?_)
  refine lv_goto (tgt := 339) C.1 C.2.1 dX11_asks_321 (by decide) ?_
  exact TX11_asks_b339 (n := n) C hr hlk X (lv_sub hl [0, 1, 2, 3] rfl) he
set_option maxRecDepth 100000 in
set_option maxHeartbeats 4000000 in
theorem TX11_asks_b262 {p : Program} {l : Launch} {e : Env} {s : State} {m : MethodId} {args : Array Value} {below : List Frame} {meth : Method} {c : Code} {D : va_G} {ct : Nat → ClassId} {bs : Nat} {res : jq_H} {n : Nat} (C : jq_C p s m args c cX11_asks 10 RX11 D ct bs) (hr : meth.sig.returnType = none) (hlk : meth.locks = false) {v0 : Nat} {v2 : Int32} {v3 : Int32} {v4 : Int32} {h : jq_H} {H : Heap} {locs : List Loc} {ls : Array Slot} (X : jq_X bs D ct s.heap h H locs) (hl : lv_has ls 10 [(0, .ref v0), (2, .int v2), (3, .int v3), (4, .int v4)]) (he : X11_asks_b262 n v0 v2 v3 v4 h = some res) :
    W p l e rm_X11_asks s m args below meth c H locs 0 0 (MQ below (jq_Qv bs D ct res) args s rm_X11_asks.cells rm_X11_asks.slots (fun q => bs ≤ q)) (F0 m 262 ls []) := by
  unfold X11_asks_b262 at he
  refine lv_goto (tgt := 339) C.1 C.2.1 dX11_asks_262 (by decide) ?_
  exact TX11_asks_b339 (n := n) C hr hlk X (lv_sub hl [0, 1, 2, 3] rfl) he
set_option maxRecDepth 100000 in
set_option maxHeartbeats 4000000 in
theorem TX11_asks_b234 {p : Program} {l : Launch} {e : Env} {s : State} {m : MethodId} {args : Array Value} {below : List Frame} {meth : Method} {c : Code} {D : va_G} {ct : Nat → ClassId} {bs : Nat} {res : jq_H} {n : Nat} {KB : Nat → Int32 → Int32 → Int32 → Int32 → Int32 → jq_H → Option (jq_H)} {K262 : Nat → Int32 → Int32 → Int32 → jq_H → Option (jq_H)} (C : jq_C p s m args c cX11_asks 10 RX11 D ct bs) (hr : meth.sig.returnType = none) (hlk : meth.locks = false) (hKB : ∀ (u0 : Nat) (u1 : Int32) (u2 : Int32) (u3 : Int32) (u4 : Int32) (u9 : Int32) (h1 : jq_H) (H1 : Heap) (locs1 : List Loc) (ls1 : Array Slot), KB u0 u1 u2 u3 u4 u9 h1 = some res → jq_X bs D ct s.heap h1 H1 locs1 → lv_has ls1 10 [(0, .ref u0), (1, .int u1), (2, .int u2), (3, .int u3), (4, .int u4), (9, .int u9)] → W p l e rm_X11_asks s m args below meth c H1 locs1 0 0 (MQ below (jq_Qv bs D ct res) args s rm_X11_asks.cells rm_X11_asks.slots (fun q => bs ≤ q)) (F0 m 234 ls1 [])) (hK262 : ∀ (u0 : Nat) (u2 : Int32) (u3 : Int32) (u4 : Int32) (h1 : jq_H) (H1 : Heap) (locs1 : List Loc) (ls1 : Array Slot), K262 u0 u2 u3 u4 h1 = some res → jq_X bs D ct s.heap h1 H1 locs1 → lv_has ls1 10 [(0, .ref u0), (2, .int u2), (3, .int u3), (4, .int u4)] → W p l e rm_X11_asks s m args below meth c H1 locs1 0 0 (MQ below (jq_Qv bs D ct res) args s rm_X11_asks.cells rm_X11_asks.slots (fun q => bs ≤ q)) (F0 m 262 ls1 [])) {v0 : Nat} {v1 : Int32} {v2 : Int32} {v3 : Int32} {v4 : Int32} {v9 : Int32} {h : jq_H} {H : Heap} {locs : List Loc} {ls : Array Slot} (X : jq_X bs D ct s.heap h H locs) (hl : lv_has ls 10 [(0, .ref v0), (1, .int v1), (2, .int v2), (3, .int v3), (4, .int v4), (9, .int v9)]) (he : X11_asks_b234 n KB K262 v0 v1 v2 v3 v4 v9 h = some res) :
    W p l e rm_X11_asks s m args below meth c H locs 0 0 (MQ below (jq_Qv bs D ct res) args s rm_X11_asks.cells rm_X11_asks.slots (fun q => bs ≤ q)) (F0 m 234 ls []) := by
  unfold X11_asks_b234 at he
  refine lv_iload C.1 C.2.1 dX11_asks_234 (lv_at hl 5 rfl) ?_
  refine lv_iconst (v := 3) C.1 C.2.1 dX11_asks_236 (by decide) ?_
  refine lv_icmp_ge (tgt := 262) C.1 C.2.1 dX11_asks_237 (by decide) (fun hc12 => ?_) (fun hc12 => ?_)
  · have he := jq_t hc12 he
    exact hK262 _ _ _ _ _ _ _ _ he X (lv_sub hl [0, 2, 3, 4] rfl)
  · have he := jq_n hc12 he
    refine lv_aload_n C.1 C.2.1 dX11_asks_240 rfl (lv_at hl 0 rfl) ?_
    refine lv_iload C.1 C.2.1 dX11_asks_241 (lv_at hl 4 rfl) ?_
    refine lv_aload_n C.1 C.2.1 dX11_asks_243 rfl (lv_at hl 0 rfl) ?_
    refine lv_iload_n C.1 C.2.1 dX11_asks_244 rfl (lv_at hl 1 rfl) ?_
    refine lv_iload_n C.1 C.2.1 dX11_asks_245 rfl (lv_at hl 2 rfl) ?_
    refine lv_iload C.1 C.2.1 dX11_asks_246 (lv_at hl 5 rfl) ?_
    obtain ⟨z13, hz13, he⟩ := jq_b he
    obtain ⟨hz13c, hz13⟩ := jq_ite hz13
    refine jq_gi (jq_runV (a := v0) (av := [.int v1, .int v2, .int v9]) C X (M_X11_counter l bs D ct n h v0 v1 v2 v9 _ hz13) mf_X11_counter gw_890 gs_31 (Or.inl gw_888) rc_X11 hz13c (by decide) rfl hl.1 rfl (Nat.le_of_ble_eq_true rfl) ⟨by decide, by decide⟩ ⟨by decide, by decide⟩ dX11_asks_248) X (fun H locs X => ?_)
    refine lv_iadd C.1 C.2.1 dX11_asks_251 ?_
    refine lv_iload_n C.1 C.2.1 dX11_asks_252 rfl (lv_at hl 3 rfl) ?_
    obtain ⟨z14, hz14, he⟩ := jq_b he
    obtain ⟨hz14c, hz14⟩ := jq_ite hz14
    refine jq_gv (jq_runV (a := v0) (av := [.int (v4 + z13.1), .int v3]) C X (M_X11_turn l bs D ct n z13.2 v0 (v4 + z13.1) v3 _ hz14) mf_X11_turn gw_905 gs_34 (Or.inl gw_903) rc_X11 hz14c (by decide) rfl hl.1 rfl (Nat.le_of_ble_eq_true rfl) ⟨by decide, by decide⟩ ⟨by decide, by decide⟩ dX11_asks_253) X (fun H locs X => ?_)
    obtain ⟨x15, hx15, he⟩ := jq_ln he
    refine lv_iinc (v := x15) (lv' := [(9, .int x15), (0, .ref v0), (1, .int v1), (2, .int v2), (3, .int v3), (4, .int v4)]) C.1 C.2.1 dX11_asks_256 hl (k := 5) rfl (by rw [hx15]; rfl) (by decide) rfl (fun ls hl => ?_)
    refine lv_goto (tgt := 234) C.1 C.2.1 dX11_asks_259 (by decide) ?_
    exact hKB _ _ _ _ _ _ _ _ _ _ he X (lv_sub hl [1, 2, 3, 4, 5, 0] rfl)
set_option maxRecDepth 100000 in
set_option maxHeartbeats 4000000 in
theorem TX11_asks_l234 {p : Program} {l : Launch} {e : Env} {s : State} {m : MethodId} {args : Array Value} {below : List Frame} {meth : Method} {c : Code} {D : va_G} {ct : Nat → ClassId} {bs : Nat} {res : jq_H} {n : Nat} {K262 : Nat → Int32 → Int32 → Int32 → jq_H → Option (jq_H)} (C : jq_C p s m args c cX11_asks 10 RX11 D ct bs) (hr : meth.sig.returnType = none) (hlk : meth.locks = false) (hK262 : ∀ (u0 : Nat) (u2 : Int32) (u3 : Int32) (u4 : Int32) (h1 : jq_H) (H1 : Heap) (locs1 : List Loc) (ls1 : Array Slot), K262 u0 u2 u3 u4 h1 = some res → jq_X bs D ct s.heap h1 H1 locs1 → lv_has ls1 10 [(0, .ref u0), (2, .int u2), (3, .int u3), (4, .int u4)] → W p l e rm_X11_asks s m args below meth c H1 locs1 0 0 (MQ below (jq_Qv bs D ct res) args s rm_X11_asks.cells rm_X11_asks.slots (fun q => bs ≤ q)) (F0 m 262 ls1 [])) :
    ∀ (k : Nat) (v0 : Nat) (v1 : Int32) (v2 : Int32) (v3 : Int32) (v4 : Int32) (v9 : Int32) (h : jq_H) (H : Heap) (locs : List Loc) (ls : Array Slot), X11_asks_l234 n K262 k v0 v1 v2 v3 v4 v9 h = some res → jq_X bs D ct s.heap h H locs → lv_has ls 10 [(0, .ref v0), (1, .int v1), (2, .int v2), (3, .int v3), (4, .int v4), (9, .int v9)] → W p l e rm_X11_asks s m args below meth c H locs 0 0 (MQ below (jq_Qv bs D ct res) args s rm_X11_asks.cells rm_X11_asks.slots (fun q => bs ≤ q)) (F0 m 234 ls []) := by
  intro k
  induction k with
  | zero => intro v0 v1 v2 v3 v4 v9 h H locs ls he; cases (show (none : Option (jq_H)) = some res from he)
  | succ k ih =>
    intro v0 v1 v2 v3 v4 v9 h H locs ls he X hl
    exact TX11_asks_b234 (n := n) C hr hlk (KB := X11_asks_l234 n K262 k) ih hK262 X hl he
set_option maxRecDepth 100000 in
set_option maxHeartbeats 4000000 in
theorem TX11_asks_b157 {p : Program} {l : Launch} {e : Env} {s : State} {m : MethodId} {args : Array Value} {below : List Frame} {meth : Method} {c : Code} {D : va_G} {ct : Nat → ClassId} {bs : Nat} {res : jq_H} {n : Nat} (C : jq_C p s m args c cX11_asks 10 RX11 D ct bs) (hr : meth.sig.returnType = none) (hlk : meth.locks = false) {v0 : Nat} {v1 : Int32} {v2 : Int32} {v3 : Int32} {v4 : Int32} {v5 : Int32} {v6 : Int32} {s0 : Nat} {s1 : Int32} {s2 : Int32} {s3 : Int32} {h : jq_H} {H : Heap} {locs : List Loc} {ls : Array Slot} (X : jq_X bs D ct s.heap h H locs) (hl : lv_has ls 10 [(0, .ref v0), (1, .int v1), (2, .int v2), (3, .int v3), (4, .int v4), (5, .int v5), (6, .int v6)]) (he : X11_asks_b157 n v0 v1 v2 v3 v4 v5 v6 s0 s1 s2 s3 h = some res) :
    W p l e rm_X11_asks s m args below meth c H locs 0 0 (MQ below (jq_Qv bs D ct res) args s rm_X11_asks.cells rm_X11_asks.slots (fun q => bs ≤ q)) (F0 m 157 ls [.int s3, .int s2, .int s1, .ref s0]) := by
  unfold X11_asks_b157 at he
  refine lv_iadd C.1 C.2.1 dX11_asks_157 ?_
  refine jq_rstI C X he dX11_asks_158 (fun h16 H locs he X => ?_)
  refine lv_aload_n C.1 C.2.1 dX11_asks_159 rfl (lv_at hl 0 rfl) ?_
  refine jq_rgR C X fs_X11_49 he dX11_asks_160 (fun q17 he => ?_)
  refine lv_iload C.1 C.2.1 dX11_asks_163 (lv_at hl 4 rfl) ?_
  refine lv_sipush (v := 809) C.1 C.2.1 dX11_asks_165 (by decide) ?_
  refine lv_iadd C.1 C.2.1 dX11_asks_168 ?_
  refine lv_dup2_11 C.1 C.2.1 dX11_asks_169 rfl rfl ?_
  refine jq_rldI C X he dX11_asks_170 (fun x18 he => ?_)
  refine lv_iconst (v := 1) C.1 C.2.1 dX11_asks_171 (by decide) ?_
  refine lv_iadd C.1 C.2.1 dX11_asks_172 ?_
  refine jq_rstI C X he dX11_asks_173 (fun h19 H locs he X => ?_)
  refine lv_aload_n C.1 C.2.1 dX11_asks_174 rfl (lv_at hl 0 rfl) ?_
  refine jq_rgR C X fs_X11_34 he dX11_asks_175 (fun q20 he => ?_)
  refine lv_iload_n C.1 C.2.1 dX11_asks_178 rfl (lv_at hl 1 rfl) ?_
  refine jq_rldI C X he dX11_asks_179 (fun x21 he => ?_)
  by_cases hc22 : x21 = 0
  · have he := jq_t hc22 he
    refine lv_tableIn (tgt := 228) C.1 C.2.1 dX11_asks_180 (by rw [hc22]; decide) (by rw [hc22]; decide) (by rw [hc22]; rfl) (by decide) ?_
    refine lv_goto (tgt := 339) C.1 C.2.1 dX11_asks_228 (by decide) ?_
    exact TX11_asks_b339 (n := n) C hr hlk X (lv_sub hl [0, 2, 3, 4] rfl) he
  have he := jq_n hc22 he
  by_cases hc23 : x21 = 1
  · have he := jq_t hc23 he
    refine lv_tableIn (tgt := 324) C.1 C.2.1 dX11_asks_180 (by rw [hc23]; decide) (by rw [hc23]; decide) (by rw [hc23]; rfl) (by decide) ?_
    exact TX11_asks_b324 (n := n) C hr hlk X (lv_sub hl [0, 1, 2, 3, 4] rfl) he
  have he := jq_n hc23 he
  by_cases hc24 : x21 = 2
  · have he := jq_t hc24 he
    refine lv_tableIn (tgt := 324) C.1 C.2.1 dX11_asks_180 (by rw [hc24]; decide) (by rw [hc24]; decide) (by rw [hc24]; rfl) (by decide) ?_
    exact TX11_asks_b324 (n := n) C hr hlk X (lv_sub hl [0, 1, 2, 3, 4] rfl) he
  have he := jq_n hc24 he
  by_cases hc25 : x21 = 3
  · have he := jq_t hc25 he
    refine lv_tableIn (tgt := 324) C.1 C.2.1 dX11_asks_180 (by rw [hc25]; decide) (by rw [hc25]; decide) (by rw [hc25]; rfl) (by decide) ?_
    exact TX11_asks_b324 (n := n) C hr hlk X (lv_sub hl [0, 1, 2, 3, 4] rfl) he
  have he := jq_n hc25 he
  by_cases hc26 : x21 = 4
  · have he := jq_t hc26 he
    refine lv_tableIn (tgt := 231) C.1 C.2.1 dX11_asks_180 (by rw [hc26]; decide) (by rw [hc26]; decide) (by rw [hc26]; rfl) (by decide) ?_
    refine lv_iconst (v := 0) C.1 C.2.1 dX11_asks_231 (by decide) ?_
    refine lv_istore (lv' := [(9, .int 0), (0, .ref v0), (1, .int v1), (2, .int v2), (3, .int v3), (4, .int v4), (5, .int v5), (6, .int v6)]) C.1 C.2.1 dX11_asks_232 hl (by decide) rfl (fun ls hl => ?_)
    exact TX11_asks_l234 (n := n) C hr hlk (fun w0 w2 w3 w4 hh H locs ls he X hl => by
    exact TX11_asks_b262 (n := n) C hr hlk X hl he) n _ _ _ _ _ _ _ _ _ _ he X (lv_sub hl [1, 2, 3, 4, 5, 0] rfl)
  have he := jq_n hc26 he
  by_cases hc28 : x21 = 5
  · have he := jq_t hc28 he
    refine lv_tableIn (tgt := 265) C.1 C.2.1 dX11_asks_180 (by rw [hc28]; decide) (by rw [hc28]; decide) (by rw [hc28]; rfl) (by decide) ?_
    refine lv_aload_n C.1 C.2.1 dX11_asks_265 rfl (lv_at hl 0 rfl) ?_
    refine lv_iload_n C.1 C.2.1 dX11_asks_266 rfl (lv_at hl 1 rfl) ?_
    refine lv_iload_n C.1 C.2.1 dX11_asks_267 rfl (lv_at hl 2 rfl) ?_
    refine lv_iload_n C.1 C.2.1 dX11_asks_268 rfl (lv_at hl 3 rfl) ?_
    obtain ⟨z27, hz27, he⟩ := jq_b he
    obtain ⟨hz27c, hz27⟩ := jq_ite hz27
    refine jq_gv (jq_runV (a := v0) (av := [.int v1, .int v2, .int v3]) C X (M_X11_weigh l bs D ct n h19 v0 v1 v2 v3 _ hz27) mf_X11_weigh gw_909 gs_35 (Or.inl gw_907) rc_X11 hz27c (by decide) rfl hl.1 rfl (Nat.le_of_ble_eq_true rfl) ⟨by decide, by decide⟩ ⟨by decide, by decide⟩ dX11_asks_269) X (fun H locs X => ?_)
    refine lv_goto (tgt := 339) C.1 C.2.1 dX11_asks_272 (by decide) ?_
    exact TX11_asks_b339 (n := n) C hr hlk X (lv_sub hl [0, 2, 3, 4] rfl) he
  have he := jq_n hc28 he
  by_cases hc30 : x21 = 6
  · have he := jq_t hc30 he
    refine lv_tableIn (tgt := 275) C.1 C.2.1 dX11_asks_180 (by rw [hc30]; decide) (by rw [hc30]; decide) (by rw [hc30]; rfl) (by decide) ?_
    refine lv_aload_n C.1 C.2.1 dX11_asks_275 rfl (lv_at hl 0 rfl) ?_
    refine lv_iload C.1 C.2.1 dX11_asks_276 (lv_at hl 4 rfl) ?_
    refine lv_iconst (v := 3) C.1 C.2.1 dX11_asks_278 (by decide) ?_
    refine lv_iload_n C.1 C.2.1 dX11_asks_279 rfl (lv_at hl 2 rfl) ?_
    refine lv_imul C.1 C.2.1 dX11_asks_280 ?_
    refine lv_iadd C.1 C.2.1 dX11_asks_281 ?_
    refine lv_iload_n C.1 C.2.1 dX11_asks_282 rfl (lv_at hl 3 rfl) ?_
    obtain ⟨z29, hz29, he⟩ := jq_b he
    obtain ⟨hz29c, hz29⟩ := jq_ite hz29
    refine jq_gv (jq_runV (a := v0) (av := [.int (v4 + (3 * v2)), .int v3]) C X (M_X11_loop l bs D ct n h19 v0 (v4 + (3 * v2)) v3 _ hz29) mf_X11_loop gw_913 gs_36 (Or.inl gw_911) rc_X11 hz29c (by decide) rfl hl.1 rfl (Nat.le_of_ble_eq_true rfl) ⟨by decide, by decide⟩ ⟨by decide, by decide⟩ dX11_asks_283) X (fun H locs X => ?_)
    refine lv_goto (tgt := 339) C.1 C.2.1 dX11_asks_286 (by decide) ?_
    exact TX11_asks_b339 (n := n) C hr hlk X (lv_sub hl [0, 2, 3, 4] rfl) he
  have he := jq_n hc30 he
  by_cases hc34 : x21 = 7
  · have he := jq_t hc34 he
    refine lv_tableIn (tgt := 289) C.1 C.2.1 dX11_asks_180 (by rw [hc34]; decide) (by rw [hc34]; decide) (by rw [hc34]; rfl) (by decide) ?_
    refine lv_iload C.1 C.2.1 dX11_asks_289 (lv_at hl 5 rfl) ?_
    refine lv_iload C.1 C.2.1 dX11_asks_291 (lv_at hl 6 rfl) ?_
    refine lv_icmp_eq (tgt := 339) C.1 C.2.1 dX11_asks_293 (by decide) (fun hc31 => ?_) (fun hc31 => ?_)
    · have he := jq_t hc31 he
      exact TX11_asks_b339 (n := n) C hr hlk X (lv_sub hl [0, 2, 3, 4] rfl) he
    · have he := jq_n hc31 he
      refine lv_aload_n C.1 C.2.1 dX11_asks_296 rfl (lv_at hl 0 rfl) ?_
      refine lv_iload C.1 C.2.1 dX11_asks_297 (lv_at hl 4 rfl) ?_
      refine lv_aload_n C.1 C.2.1 dX11_asks_299 rfl (lv_at hl 0 rfl) ?_
      refine lv_iload_n C.1 C.2.1 dX11_asks_300 rfl (lv_at hl 1 rfl) ?_
      refine lv_iload_n C.1 C.2.1 dX11_asks_301 rfl (lv_at hl 2 rfl) ?_
      refine lv_iconst (v := 0) C.1 C.2.1 dX11_asks_302 (by decide) ?_
      obtain ⟨z32, hz32, he⟩ := jq_b he
      obtain ⟨hz32c, hz32⟩ := jq_ite hz32
      refine jq_gi (jq_runV (a := v0) (av := [.int v1, .int v2, .int 0]) C X (M_X11_counter l bs D ct n h19 v0 v1 v2 0 _ hz32) mf_X11_counter gw_890 gs_31 (Or.inl gw_888) rc_X11 hz32c (by decide) rfl hl.1 rfl (Nat.le_of_ble_eq_true rfl) ⟨by decide, by decide⟩ ⟨by decide, by decide⟩ dX11_asks_303) X (fun H locs X => ?_)
      refine lv_iadd C.1 C.2.1 dX11_asks_306 ?_
      refine lv_iload C.1 C.2.1 dX11_asks_307 (lv_at hl 6 rfl) ?_
      refine lv_iload_n C.1 C.2.1 dX11_asks_309 rfl (lv_at hl 3 rfl) ?_
      refine lv_icmp_ne (tgt := 317) C.1 C.2.1 dX11_asks_310 (by decide) (fun hc33 => ?_) (fun hc33 => ?_)
      · have he := jq_n hc33 he
        refine lv_iconst (v := 0) C.1 C.2.1 dX11_asks_317 (by decide) ?_
        exact TX11_asks_b318 (n := n) C hr hlk X (lv_sub hl [0, 2, 3, 4] rfl) he
      · have he := jq_t hc33 he
        refine lv_iconst (v := 1) C.1 C.2.1 dX11_asks_313 (by decide) ?_
        refine lv_goto (tgt := 318) C.1 C.2.1 dX11_asks_314 (by decide) ?_
        exact TX11_asks_b318 (n := n) C hr hlk X (lv_sub hl [0, 2, 3, 4] rfl) he
  have he := jq_n hc34 he
  refine lv_tableOut (tgt := 324) C.1 C.2.1 dX11_asks_180 (jq_swo (fun k h1 h2 hk => by
    rcases (show k = 0 ∨ k = 1 ∨ k = 2 ∨ k = 3 ∨ k = 4 ∨ k = 5 ∨ k = 6 ∨ k = 7 by omega) with rfl | rfl | rfl | rfl | rfl | rfl | rfl | rfl
    · exact lv_neT hc22 (by decide) hk
    · exact lv_neT hc23 (by decide) hk
    · exact lv_neT hc24 (by decide) hk
    · exact lv_neT hc25 (by decide) hk
    · exact lv_neT hc26 (by decide) hk
    · exact lv_neT hc28 (by decide) hk
    · exact lv_neT hc30 (by decide) hk
    · exact lv_neT hc34 (by decide) hk)) (by decide) ?_
  exact TX11_asks_b324 (n := n) C hr hlk X (lv_sub hl [0, 1, 2, 3, 4] rfl) he
set_option maxRecDepth 100000 in
set_option maxHeartbeats 4000000 in
theorem TX11_asks_b131 {p : Program} {l : Launch} {e : Env} {s : State} {m : MethodId} {args : Array Value} {below : List Frame} {meth : Method} {c : Code} {D : va_G} {ct : Nat → ClassId} {bs : Nat} {res : jq_H} {n : Nat} (C : jq_C p s m args c cX11_asks 10 RX11 D ct bs) (hr : meth.sig.returnType = none) (hlk : meth.locks = false) {v0 : Nat} {v1 : Int32} {v2 : Int32} {v3 : Int32} {v4 : Int32} {v5 : Int32} {v6 : Int32} {s0 : Int32} {h : jq_H} {H : Heap} {locs : List Loc} {ls : Array Slot} (X : jq_X bs D ct s.heap h H locs) (hl : lv_has ls 10 [(0, .ref v0), (1, .int v1), (2, .int v2), (3, .int v3), (4, .int v4), (5, .int v5), (6, .int v6)]) (he : X11_asks_b131 n v0 v1 v2 v3 v4 v5 v6 s0 h = some res) :
    W p l e rm_X11_asks s m args below meth c H locs 0 0 (MQ below (jq_Qv bs D ct res) args s rm_X11_asks.cells rm_X11_asks.slots (fun q => bs ≤ q)) (F0 m 131 ls [.int s0]) := by
  unfold X11_asks_b131 at he
  refine lv_istore (lv' := [(8, .int s0), (0, .ref v0), (1, .int v1), (2, .int v2), (3, .int v3), (4, .int v4), (5, .int v5), (6, .int v6)]) C.1 C.2.1 dX11_asks_131 hl (by decide) rfl (fun ls hl => ?_)
  refine lv_aload_n C.1 C.2.1 dX11_asks_133 rfl (lv_at hl 1 rfl) ?_
  refine jq_rgR C X fs_X11_49 he dX11_asks_134 (fun q35 he => ?_)
  refine lv_iload C.1 C.2.1 dX11_asks_137 (lv_at hl 5 rfl) ?_
  refine lv_sipush (v := 448) C.1 C.2.1 dX11_asks_139 (by decide) ?_
  refine lv_iadd C.1 C.2.1 dX11_asks_142 ?_
  refine lv_iload_n C.1 C.2.1 dX11_asks_143 rfl (lv_at hl 3 rfl) ?_
  refine lv_iadd C.1 C.2.1 dX11_asks_144 ?_
  refine lv_dup2_11 C.1 C.2.1 dX11_asks_145 rfl rfl ?_
  refine jq_rldI C X he dX11_asks_146 (fun x36 he => ?_)
  refine lv_iload C.1 C.2.1 dX11_asks_147 (lv_at hl 0 rfl) ?_
  refine lv_if_eq (tgt := 156) C.1 C.2.1 dX11_asks_149 (by decide) (fun hc37 => ?_) (fun hc37 => ?_)
  · have he := jq_t hc37 he
    refine lv_iconst (v := 0) C.1 C.2.1 dX11_asks_156 (by decide) ?_
    exact TX11_asks_b157 (n := n) C hr hlk X (lv_sub hl [1, 2, 3, 4, 5, 6, 7] rfl) he
  · have he := jq_n hc37 he
    refine lv_iconst (v := 1) C.1 C.2.1 dX11_asks_152 (by decide) ?_
    refine lv_goto (tgt := 157) C.1 C.2.1 dX11_asks_153 (by decide) ?_
    exact TX11_asks_b157 (n := n) C hr hlk X (lv_sub hl [1, 2, 3, 4, 5, 6, 7] rfl) he
set_option maxRecDepth 100000 in
set_option maxHeartbeats 4000000 in
theorem TX11_asks_b115 {p : Program} {l : Launch} {e : Env} {s : State} {m : MethodId} {args : Array Value} {below : List Frame} {meth : Method} {c : Code} {D : va_G} {ct : Nat → ClassId} {bs : Nat} {res : jq_H} {n : Nat} (C : jq_C p s m args c cX11_asks 10 RX11 D ct bs) (hr : meth.sig.returnType = none) (hlk : meth.locks = false) {v0 : Nat} {v1 : Int32} {v2 : Int32} {v3 : Int32} {v4 : Int32} {v5 : Int32} {v6 : Int32} {s0 : Nat} {s1 : Int32} {s2 : Int32} {h : jq_H} {H : Heap} {locs : List Loc} {ls : Array Slot} (X : jq_X bs D ct s.heap h H locs) (hl : lv_has ls 10 [(0, .ref v0), (1, .int v1), (2, .int v2), (3, .int v3), (4, .int v4), (5, .int v5), (6, .int v6)]) (he : X11_asks_b115 n v0 v1 v2 v3 v4 v5 v6 s0 s1 s2 h = some res) :
    W p l e rm_X11_asks s m args below meth c H locs 0 0 (MQ below (jq_Qv bs D ct res) args s rm_X11_asks.cells rm_X11_asks.slots (fun q => bs ≤ q)) (F0 m 115 ls [.int s2, .int s1, .ref s0]) := by
  unfold X11_asks_b115 at he
  refine jq_rstI C X he dX11_asks_115 (fun h38 H locs he X => ?_)
  refine lv_aload_n C.1 C.2.1 dX11_asks_116 rfl (lv_at hl 0 rfl) ?_
  refine jq_rgR C X fs_X11_59 he dX11_asks_117 (fun q39 he => ?_)
  refine lv_iload_n C.1 C.2.1 dX11_asks_120 rfl (lv_at hl 1 rfl) ?_
  refine jq_rldI C X he dX11_asks_121 (fun x40 he => ?_)
  refine lv_iload_n C.1 C.2.1 dX11_asks_122 rfl (lv_at hl 3 rfl) ?_
  refine lv_icmp_eq (tgt := 130) C.1 C.2.1 dX11_asks_123 (by decide) (fun hc41 => ?_) (fun hc41 => ?_)
  · have he := jq_t hc41 he
    refine lv_iconst (v := 0) C.1 C.2.1 dX11_asks_130 (by decide) ?_
    exact TX11_asks_b131 (n := n) C hr hlk X (lv_sub hl [0, 1, 2, 3, 4, 5, 6] rfl) he
  · have he := jq_n hc41 he
    refine lv_iconst (v := 1) C.1 C.2.1 dX11_asks_126 (by decide) ?_
    refine lv_goto (tgt := 131) C.1 C.2.1 dX11_asks_127 (by decide) ?_
    exact TX11_asks_b131 (n := n) C hr hlk X (lv_sub hl [0, 1, 2, 3, 4, 5, 6] rfl) he
set_option maxRecDepth 100000 in
set_option maxHeartbeats 4000000 in
theorem TX11_asks_b75 {p : Program} {l : Launch} {e : Env} {s : State} {m : MethodId} {args : Array Value} {below : List Frame} {meth : Method} {c : Code} {D : va_G} {ct : Nat → ClassId} {bs : Nat} {res : jq_H} {n : Nat} (C : jq_C p s m args c cX11_asks 10 RX11 D ct bs) (hr : meth.sig.returnType = none) (hlk : meth.locks = false) {v0 : Nat} {v1 : Int32} {v2 : Int32} {v3 : Int32} {v4 : Int32} {v5 : Int32} {s0 : Int32} {h : jq_H} {H : Heap} {locs : List Loc} {ls : Array Slot} (X : jq_X bs D ct s.heap h H locs) (hl : lv_has ls 10 [(0, .ref v0), (1, .int v1), (2, .int v2), (3, .int v3), (4, .int v4), (5, .int v5)]) (he : X11_asks_b75 n v0 v1 v2 v3 v4 v5 s0 h = some res) :
    W p l e rm_X11_asks s m args below meth c H locs 0 0 (MQ below (jq_Qv bs D ct res) args s rm_X11_asks.cells rm_X11_asks.slots (fun q => bs ≤ q)) (F0 m 75 ls [.int s0]) := by
  unfold X11_asks_b75 at he
  refine lv_istore (lv' := [(6, .int s0), (0, .ref v0), (1, .int v1), (2, .int v2), (3, .int v3), (4, .int v4), (5, .int v5)]) C.1 C.2.1 dX11_asks_75 hl (by decide) rfl (fun ls hl => ?_)
  refine lv_aload_n C.1 C.2.1 dX11_asks_77 rfl (lv_at hl 1 rfl) ?_
  refine jq_rgR C X fs_X11_46 he dX11_asks_78 (fun q42 he => ?_)
  refine lv_bipush (v := 64) C.1 C.2.1 dX11_asks_81 (by decide) ?_
  refine lv_iload_n C.1 C.2.1 dX11_asks_83 rfl (lv_at hl 2 rfl) ?_
  refine lv_imul C.1 C.2.1 dX11_asks_84 ?_
  refine lv_iload_n C.1 C.2.1 dX11_asks_85 rfl (lv_at hl 3 rfl) ?_
  refine lv_iadd C.1 C.2.1 dX11_asks_86 ?_
  refine jq_rldI C X he dX11_asks_87 (fun x43 he => ?_)
  refine lv_istore (lv' := [(7, .int x43), (6, .int s0), (0, .ref v0), (1, .int v1), (2, .int v2), (3, .int v3), (4, .int v4), (5, .int v5)]) C.1 C.2.1 dX11_asks_88 hl (by decide) rfl (fun ls hl => ?_)
  refine lv_aload_n C.1 C.2.1 dX11_asks_90 rfl (lv_at hl 2 rfl) ?_
  refine jq_rgR C X fs_X11_59 he dX11_asks_91 (fun q44 he => ?_)
  refine lv_iload_n C.1 C.2.1 dX11_asks_94 rfl (lv_at hl 3 rfl) ?_
  refine lv_iload C.1 C.2.1 dX11_asks_95 (lv_at hl 0 rfl) ?_
  refine lv_if_lt (tgt := 105) C.1 C.2.1 dX11_asks_97 (by decide) (fun hc45 => ?_) (fun hc45 => ?_)
  · have he := jq_t hc45 he
    refine lv_aload_n C.1 C.2.1 dX11_asks_105 rfl (lv_at hl 2 rfl) ?_
    refine lv_iload_n C.1 C.2.1 dX11_asks_106 rfl (lv_at hl 3 rfl) ?_
    refine lv_iload_n C.1 C.2.1 dX11_asks_107 rfl (lv_at hl 4 rfl) ?_
    refine lv_iload C.1 C.2.1 dX11_asks_108 (lv_at hl 7 rfl) ?_
    refine lv_iload C.1 C.2.1 dX11_asks_110 (lv_at hl 1 rfl) ?_
    obtain ⟨z46, hz46, he⟩ := jq_b he
    obtain ⟨hz46c, hz46⟩ := jq_ite hz46
    refine jq_gi (jq_runV (a := v0) (av := [.int v1, .int v2, .int v5, .int s0]) C X (M_X11_own l bs D ct n h v0 v1 v2 v5 s0 _ hz46) mf_X11_own gw_897 gs_32 (Or.inl gw_895) rc_X11 hz46c (by decide) rfl hl.1 rfl (Nat.le_of_ble_eq_true rfl) ⟨by decide, by decide⟩ ⟨by decide, by decide⟩ dX11_asks_112) X (fun H locs X => ?_)
    exact TX11_asks_b115 (n := n) C hr hlk X (lv_sub hl [2, 3, 4, 5, 6, 7, 1] rfl) he
  · have he := jq_n hc45 he
    refine lv_iload C.1 C.2.1 dX11_asks_100 (lv_at hl 0 rfl) ?_
    refine lv_goto (tgt := 115) C.1 C.2.1 dX11_asks_102 (by decide) ?_
    exact TX11_asks_b115 (n := n) C hr hlk X (lv_sub hl [2, 3, 4, 5, 6, 7, 1] rfl) he
set_option maxRecDepth 100000 in
set_option maxHeartbeats 4000000 in
theorem TX11_asks_b47 {p : Program} {l : Launch} {e : Env} {s : State} {m : MethodId} {args : Array Value} {below : List Frame} {meth : Method} {c : Code} {D : va_G} {ct : Nat → ClassId} {bs : Nat} {res : jq_H} {n : Nat} (C : jq_C p s m args c cX11_asks 10 RX11 D ct bs) (hr : meth.sig.returnType = none) (hlk : meth.locks = false) {v0 : Nat} {v1 : Int32} {v2 : Int32} {v3 : Int32} {v4 : Int32} {s0 : Int32} {h : jq_H} {H : Heap} {locs : List Loc} {ls : Array Slot} (X : jq_X bs D ct s.heap h H locs) (hl : lv_has ls 10 [(0, .ref v0), (1, .int v1), (2, .int v2), (3, .int v3), (4, .int v4)]) (he : X11_asks_b47 n v0 v1 v2 v3 v4 s0 h = some res) :
    W p l e rm_X11_asks s m args below meth c H locs 0 0 (MQ below (jq_Qv bs D ct res) args s rm_X11_asks.cells rm_X11_asks.slots (fun q => bs ≤ q)) (F0 m 47 ls [.int s0]) := by
  unfold X11_asks_b47 at he
  refine lv_istore (lv' := [(5, .int s0), (0, .ref v0), (1, .int v1), (2, .int v2), (3, .int v3), (4, .int v4)]) C.1 C.2.1 dX11_asks_47 hl (by decide) rfl (fun ls hl => ?_)
  refine lv_aload_n C.1 C.2.1 dX11_asks_49 rfl (lv_at hl 1 rfl) ?_
  refine jq_rgR C X fs_X11_34 he dX11_asks_50 (fun q47 he => ?_)
  refine lv_iload_n C.1 C.2.1 dX11_asks_53 rfl (lv_at hl 2 rfl) ?_
  refine jq_rldI C X he dX11_asks_54 (fun x48 he => ?_)
  refine lv_bipush (v := 7) C.1 C.2.1 dX11_asks_55 (by decide) ?_
  refine lv_icmp_ne (tgt := 74) C.1 C.2.1 dX11_asks_57 (by decide) (fun hc49 => ?_) (fun hc49 => ?_)
  · have he := jq_n hc49 he
    refine lv_iconst (v := 0) C.1 C.2.1 dX11_asks_74 (by decide) ?_
    exact TX11_asks_b75 (n := n) C hr hlk X (lv_sub hl [1, 2, 3, 4, 5, 0] rfl) he
  · have he := jq_t hc49 he
    refine lv_aload_n C.1 C.2.1 dX11_asks_60 rfl (lv_at hl 1 rfl) ?_
    refine jq_rgR C X fs_X11_59 he dX11_asks_61 (fun q50 he => ?_)
    refine lv_aload_n C.1 C.2.1 dX11_asks_64 rfl (lv_at hl 1 rfl) ?_
    refine jq_rgR C X fs_X11_40 he dX11_asks_65 (fun q51 he => ?_)
    refine lv_iload_n C.1 C.2.1 dX11_asks_68 rfl (lv_at hl 2 rfl) ?_
    refine jq_rldI C X he dX11_asks_69 (fun x52 he => ?_)
    refine jq_rldI C X he dX11_asks_70 (fun x53 he => ?_)
    refine lv_goto (tgt := 75) C.1 C.2.1 dX11_asks_71 (by decide) ?_
    exact TX11_asks_b75 (n := n) C hr hlk X (lv_sub hl [1, 2, 3, 4, 5, 0] rfl) he
set_option maxRecDepth 100000 in
set_option maxHeartbeats 4000000 in
theorem TX11_asks_b21 {p : Program} {l : Launch} {e : Env} {s : State} {m : MethodId} {args : Array Value} {below : List Frame} {meth : Method} {c : Code} {D : va_G} {ct : Nat → ClassId} {bs : Nat} {res : jq_H} {n : Nat} (C : jq_C p s m args c cX11_asks 10 RX11 D ct bs) (hr : meth.sig.returnType = none) (hlk : meth.locks = false) {v0 : Nat} {v1 : Int32} {v2 : Int32} {v3 : Int32} {v4 : Int32} {h : jq_H} {H : Heap} {locs : List Loc} {ls : Array Slot} (X : jq_X bs D ct s.heap h H locs) (hl : lv_has ls 10 [(0, .ref v0), (1, .int v1), (2, .int v2), (3, .int v3), (4, .int v4)]) (he : X11_asks_b21 n v0 v1 v2 v3 v4 h = some res) :
    W p l e rm_X11_asks s m args below meth c H locs 0 0 (MQ below (jq_Qv bs D ct res) args s rm_X11_asks.cells rm_X11_asks.slots (fun q => bs ≤ q)) (F0 m 21 ls []) := by
  unfold X11_asks_b21 at he
  refine lv_aload_n C.1 C.2.1 dX11_asks_21 rfl (lv_at hl 0 rfl) ?_
  refine jq_rgR C X fs_X11_34 he dX11_asks_22 (fun q54 he => ?_)
  refine lv_iload_n C.1 C.2.1 dX11_asks_25 rfl (lv_at hl 1 rfl) ?_
  refine jq_rldI C X he dX11_asks_26 (fun x55 he => ?_)
  refine lv_bipush (v := 7) C.1 C.2.1 dX11_asks_27 (by decide) ?_
  refine lv_icmp_ne (tgt := 46) C.1 C.2.1 dX11_asks_29 (by decide) (fun hc56 => ?_) (fun hc56 => ?_)
  · have he := jq_n hc56 he
    refine lv_iconst (v := 0) C.1 C.2.1 dX11_asks_46 (by decide) ?_
    exact TX11_asks_b47 (n := n) C hr hlk X (lv_sub hl [0, 1, 2, 3, 4] rfl) he
  · have he := jq_t hc56 he
    refine lv_aload_n C.1 C.2.1 dX11_asks_32 rfl (lv_at hl 0 rfl) ?_
    refine jq_rgR C X fs_X11_59 he dX11_asks_33 (fun q57 he => ?_)
    refine lv_aload_n C.1 C.2.1 dX11_asks_36 rfl (lv_at hl 0 rfl) ?_
    refine jq_rgR C X fs_X11_37 he dX11_asks_37 (fun q58 he => ?_)
    refine lv_iload_n C.1 C.2.1 dX11_asks_40 rfl (lv_at hl 1 rfl) ?_
    refine jq_rldI C X he dX11_asks_41 (fun x59 he => ?_)
    refine jq_rldI C X he dX11_asks_42 (fun x60 he => ?_)
    refine lv_goto (tgt := 47) C.1 C.2.1 dX11_asks_43 (by decide) ?_
    exact TX11_asks_b47 (n := n) C hr hlk X (lv_sub hl [0, 1, 2, 3, 4] rfl) he
set_option maxRecDepth 100000 in
set_option maxHeartbeats 4000000 in
theorem M_X11_asks (l : Launch) (bs : Nat) (D : va_G) (ct : Nat → ClassId) (n : Nat) (h : jq_H) (a : Nat) (p0 : Int32) (p1 : Int32) (p2 : Int32) (res : jq_H) (he : X11_asks n h a p0 p1 p2 = some res) : jq_M l yX11_asks cX11_asks 10 none rm_X11_asks (jq_P [.ref a, .int p0, .int p1, .int p2] bs D ct h) (jq_Qv bs D ct res) bs := by
  refine jq_start2 (by decide +kernel) (Nat.le_of_ble_eq_true rfl) ?_
  intro p e s m args below meth c ls H locs C hr hlk hin hl X
  have C : jq_C p s m args c cX11_asks 10 RX11 D ct bs := C
  have hin : meth.name = "asks" := hin
  have hl : lv_has ls 10 [(0, .ref a), (1, .int p0), (2, .int p1), (3, .int p2)] := hl
  unfold X11_asks at he
  refine lv_sipush (v := 812) C.1 C.2.1 dX11_asks_0 (by decide) ?_
  refine lv_iload_n C.1 C.2.1 dX11_asks_3 rfl (lv_at hl 1 rfl) ?_
  refine lv_imul C.1 C.2.1 dX11_asks_4 ?_
  obtain ⟨x61, hx61, he⟩ := jq_ln he
  refine jq_top hx61 ?_
  refine lv_istore (lv' := [(4, .int x61), (0, .ref a), (1, .int p0), (2, .int p1), (3, .int p2)]) C.1 C.2.1 dX11_asks_5 hl (by decide) rfl (fun ls hl => ?_)
  refine lv_aload_n C.1 C.2.1 dX11_asks_7 rfl (lv_at hl 1 rfl) ?_
  refine lv_iload_n C.1 C.2.1 dX11_asks_8 rfl (lv_at hl 2 rfl) ?_
  obtain ⟨z62, hz62, he⟩ := jq_b he
  obtain ⟨hz62c, hz62⟩ := jq_ite hz62
  refine jq_gi (jq_runV (a := a) (av := [.int p0]) C X (M_X11_clashes1 l bs D ct n h a p0 _ hz62) mf_X11_clashes1 gw_882 gs_29 (Or.inl gw_880) rc_X11 hz62c (by decide) rfl hl.1 rfl (Nat.le_of_ble_eq_true rfl) ⟨by decide, by decide⟩ ⟨by decide, by decide⟩ dX11_asks_9) X (fun H locs X => ?_)
  refine lv_if_eq (tgt := 21) C.1 C.2.1 dX11_asks_12 (by decide) (fun hc63 => ?_) (fun hc63 => ?_)
  · have he := jq_t hc63 he
    exact TX11_asks_b21 (n := n) C hr hlk X (lv_sub hl [1, 2, 3, 4, 0] rfl) he
  · have he := jq_n hc63 he
    refine lv_aload_n C.1 C.2.1 dX11_asks_15 rfl (lv_at hl 1 rfl) ?_
    refine lv_iload_n C.1 C.2.1 dX11_asks_16 rfl (lv_at hl 2 rfl) ?_
    refine lv_iload_n C.1 C.2.1 dX11_asks_17 rfl (lv_at hl 3 rfl) ?_
    obtain ⟨z64, hz64, he⟩ := jq_b he
    obtain ⟨hz64c, hz64⟩ := jq_ite hz64
    refine jq_gv (jq_runV (a := a) (av := [.int p0, .int p1]) C X (M_X11_clash l bs D ct n z62.2 a p0 p1 _ hz64) mf_X11_clash gw_886 gs_30 (Or.inl gw_884) rc_X11 hz64c (by decide) rfl hl.1 rfl (Nat.le_of_ble_eq_true rfl) ⟨by decide, by decide⟩ ⟨by decide, by decide⟩ dX11_asks_18) X (fun H locs X => ?_)
    exact TX11_asks_b21 (n := n) C hr hlk X (lv_sub hl [1, 2, 3, 4, 0] rfl) he
set_option maxRecDepth 100000 in
set_option maxHeartbeats 4000000 in
theorem TX11_missesOf_b35 {p : Program} {l : Launch} {e : Env} {s : State} {m : MethodId} {args : Array Value} {below : List Frame} {meth : Method} {c : Code} {D : va_G} {ct : Nat → ClassId} {bs : Nat} {res : Int32 × jq_H} {n : Nat} (C : jq_C p s m args c cX11_missesOf 4 RX11 D ct bs) (hr : meth.sig.returnType = (some .int)) (hlk : meth.locks = false) {v2 : Int32} {h : jq_H} {H : Heap} {locs : List Loc} {ls : Array Slot} (X : jq_X bs D ct s.heap h H locs) (hl : lv_has ls 4 [(2, .int v2)]) (he : X11_missesOf_b35 n v2 h = some res) :
    W p l e rm_X11_missesOf s m args below meth c H locs 0 0 (MQ below (jq_Qi bs D ct res) args s rm_X11_missesOf.cells rm_X11_missesOf.slots (fun q => bs ≤ q)) (F0 m 35 ls []) := by
  unfold X11_missesOf_b35 at he
  refine lv_iload_n C.1 C.2.1 dX11_missesOf_35 rfl (lv_at hl 0 rfl) ?_
  exact jq_iret C X hr hlk he (by decide) (by decide) dX11_missesOf_36
set_option maxRecDepth 100000 in
set_option maxHeartbeats 4000000 in
theorem TX11_missesOf_b4 {p : Program} {l : Launch} {e : Env} {s : State} {m : MethodId} {args : Array Value} {below : List Frame} {meth : Method} {c : Code} {D : va_G} {ct : Nat → ClassId} {bs : Nat} {res : Int32 × jq_H} {n : Nat} {KB : Nat → Int32 → Int32 → Int32 → jq_H → Option (Int32 × jq_H)} {K35 : Int32 → jq_H → Option (Int32 × jq_H)} (C : jq_C p s m args c cX11_missesOf 4 RX11 D ct bs) (hr : meth.sig.returnType = (some .int)) (hlk : meth.locks = false) (hKB : ∀ (u0 : Nat) (u1 : Int32) (u2 : Int32) (u3 : Int32) (h1 : jq_H) (H1 : Heap) (locs1 : List Loc) (ls1 : Array Slot), KB u0 u1 u2 u3 h1 = some res → jq_X bs D ct s.heap h1 H1 locs1 → lv_has ls1 4 [(0, .ref u0), (1, .int u1), (2, .int u2), (3, .int u3)] → W p l e rm_X11_missesOf s m args below meth c H1 locs1 0 0 (MQ below (jq_Qi bs D ct res) args s rm_X11_missesOf.cells rm_X11_missesOf.slots (fun q => bs ≤ q)) (F0 m 4 ls1 [])) (hK35 : ∀ (u2 : Int32) (h1 : jq_H) (H1 : Heap) (locs1 : List Loc) (ls1 : Array Slot), K35 u2 h1 = some res → jq_X bs D ct s.heap h1 H1 locs1 → lv_has ls1 4 [(2, .int u2)] → W p l e rm_X11_missesOf s m args below meth c H1 locs1 0 0 (MQ below (jq_Qi bs D ct res) args s rm_X11_missesOf.cells rm_X11_missesOf.slots (fun q => bs ≤ q)) (F0 m 35 ls1 [])) {v0 : Nat} {v1 : Int32} {v2 : Int32} {v3 : Int32} {h : jq_H} {H : Heap} {locs : List Loc} {ls : Array Slot} (X : jq_X bs D ct s.heap h H locs) (hl : lv_has ls 4 [(0, .ref v0), (1, .int v1), (2, .int v2), (3, .int v3)]) (he : X11_missesOf_b4 n KB K35 v0 v1 v2 v3 h = some res) :
    W p l e rm_X11_missesOf s m args below meth c H locs 0 0 (MQ below (jq_Qi bs D ct res) args s rm_X11_missesOf.cells rm_X11_missesOf.slots (fun q => bs ≤ q)) (F0 m 4 ls []) := by
  unfold X11_missesOf_b4 at he
  refine lv_iload_n C.1 C.2.1 dX11_missesOf_4 rfl (lv_at hl 3 rfl) ?_
  refine lv_bipush (v := 64) C.1 C.2.1 dX11_missesOf_5 (by decide) ?_
  refine lv_icmp_ge (tgt := 35) C.1 C.2.1 dX11_missesOf_7 (by decide) (fun hc1 => ?_) (fun hc1 => ?_)
  · have he := jq_t hc1 he
    exact hK35 _ _ _ _ _ he X (lv_sub hl [2] rfl)
  · have he := jq_n hc1 he
    refine lv_iload_n C.1 C.2.1 dX11_missesOf_10 rfl (lv_at hl 2 rfl) ?_
    refine lv_aload_n C.1 C.2.1 dX11_missesOf_11 rfl (lv_at hl 0 rfl) ?_
    refine jq_rgR C X fs_X11_49 he dX11_missesOf_12 (fun q2 he => ?_)
    refine lv_sipush (v := 812) C.1 C.2.1 dX11_missesOf_15 (by decide) ?_
    refine lv_iload_n C.1 C.2.1 dX11_missesOf_18 rfl (lv_at hl 1 rfl) ?_
    refine lv_imul C.1 C.2.1 dX11_missesOf_19 ?_
    refine lv_sipush (v := 448) C.1 C.2.1 dX11_missesOf_20 (by decide) ?_
    refine lv_iadd C.1 C.2.1 dX11_missesOf_23 ?_
    refine lv_iload_n C.1 C.2.1 dX11_missesOf_24 rfl (lv_at hl 3 rfl) ?_
    refine lv_iadd C.1 C.2.1 dX11_missesOf_25 ?_
    refine jq_rldI C X he dX11_missesOf_26 (fun x3 he => ?_)
    refine lv_iadd C.1 C.2.1 dX11_missesOf_27 ?_
    obtain ⟨x4, hx4, he⟩ := jq_ln he
    refine jq_top hx4 ?_
    refine lv_istore_n (lv' := [(2, .int x4), (0, .ref v0), (1, .int v1), (3, .int v3)]) C.1 C.2.1 dX11_missesOf_28 rfl hl (by decide) rfl (fun ls hl => ?_)
    obtain ⟨x5, hx5, he⟩ := jq_ln he
    refine lv_iinc (v := x5) (lv' := [(3, .int x5), (2, .int x4), (0, .ref v0), (1, .int v1)]) C.1 C.2.1 dX11_missesOf_29 hl (k := 3) rfl (by rw [hx5]; rfl) (by decide) rfl (fun ls hl => ?_)
    refine lv_goto (tgt := 4) C.1 C.2.1 dX11_missesOf_32 (by decide) ?_
    exact hKB _ _ _ _ _ _ _ _ he X (lv_sub hl [2, 3, 1, 0] rfl)
set_option maxRecDepth 100000 in
set_option maxHeartbeats 4000000 in
theorem TX11_missesOf_l4 {p : Program} {l : Launch} {e : Env} {s : State} {m : MethodId} {args : Array Value} {below : List Frame} {meth : Method} {c : Code} {D : va_G} {ct : Nat → ClassId} {bs : Nat} {res : Int32 × jq_H} {n : Nat} {K35 : Int32 → jq_H → Option (Int32 × jq_H)} (C : jq_C p s m args c cX11_missesOf 4 RX11 D ct bs) (hr : meth.sig.returnType = (some .int)) (hlk : meth.locks = false) (hK35 : ∀ (u2 : Int32) (h1 : jq_H) (H1 : Heap) (locs1 : List Loc) (ls1 : Array Slot), K35 u2 h1 = some res → jq_X bs D ct s.heap h1 H1 locs1 → lv_has ls1 4 [(2, .int u2)] → W p l e rm_X11_missesOf s m args below meth c H1 locs1 0 0 (MQ below (jq_Qi bs D ct res) args s rm_X11_missesOf.cells rm_X11_missesOf.slots (fun q => bs ≤ q)) (F0 m 35 ls1 [])) :
    ∀ (k : Nat) (v0 : Nat) (v1 : Int32) (v2 : Int32) (v3 : Int32) (h : jq_H) (H : Heap) (locs : List Loc) (ls : Array Slot), X11_missesOf_l4 n K35 k v0 v1 v2 v3 h = some res → jq_X bs D ct s.heap h H locs → lv_has ls 4 [(0, .ref v0), (1, .int v1), (2, .int v2), (3, .int v3)] → W p l e rm_X11_missesOf s m args below meth c H locs 0 0 (MQ below (jq_Qi bs D ct res) args s rm_X11_missesOf.cells rm_X11_missesOf.slots (fun q => bs ≤ q)) (F0 m 4 ls []) := by
  intro k
  induction k with
  | zero => intro v0 v1 v2 v3 h H locs ls he; cases (show (none : Option (Int32 × jq_H)) = some res from he)
  | succ k ih =>
    intro v0 v1 v2 v3 h H locs ls he X hl
    exact TX11_missesOf_b4 (n := n) C hr hlk (KB := X11_missesOf_l4 n K35 k) ih hK35 X hl he
set_option maxRecDepth 100000 in
set_option maxHeartbeats 4000000 in
theorem M_X11_missesOf (l : Launch) (bs : Nat) (D : va_G) (ct : Nat → ClassId) (n : Nat) (h : jq_H) (a : Nat) (p0 : Int32) (res : Int32 × jq_H) (he : X11_missesOf n h a p0 = some res) : jq_M l yX11_missesOf cX11_missesOf 4 (some .int) rm_X11_missesOf (jq_P [.ref a, .int p0] bs D ct h) (jq_Qi bs D ct res) bs := by
  refine jq_start2 (by decide +kernel) (Nat.le_of_ble_eq_true rfl) ?_
  intro p e s m args below meth c ls H locs C hr hlk hin hl X
  have C : jq_C p s m args c cX11_missesOf 4 RX11 D ct bs := C
  have hin : meth.name = "missesOf" := hin
  have hl : lv_has ls 4 [(0, .ref a), (1, .int p0)] := hl
  unfold X11_missesOf at he
  refine lv_iconst (v := 0) C.1 C.2.1 dX11_missesOf_0 (by decide) ?_
  refine lv_istore_n (lv' := [(2, .int 0), (0, .ref a), (1, .int p0)]) C.1 C.2.1 dX11_missesOf_1 rfl hl (by decide) rfl (fun ls hl => ?_)
  refine lv_iconst (v := 0) C.1 C.2.1 dX11_missesOf_2 (by decide) ?_
  refine lv_istore_n (lv' := [(3, .int 0), (2, .int 0), (0, .ref a), (1, .int p0)]) C.1 C.2.1 dX11_missesOf_3 rfl hl (by decide) rfl (fun ls hl => ?_)
  exact TX11_missesOf_l4 (n := n) C hr hlk (fun w2 hh H locs ls he X hl => by
    exact TX11_missesOf_b35 (n := n) C hr hlk X hl he) n _ _ _ _ _ _ _ _ he X (lv_sub hl [2, 3, 1, 0] rfl)
set_option maxRecDepth 100000 in
set_option maxHeartbeats 4000000 in
theorem TX11_again_b168 {p : Program} {l : Launch} {e : Env} {s : State} {m : MethodId} {args : Array Value} {below : List Frame} {meth : Method} {c : Code} {D : va_G} {ct : Nat → ClassId} {bs : Nat} {res : Int32 × jq_H} {n : Nat} (C : jq_C p s m args c cX11_again 5 RX11 D ct bs) (hr : meth.sig.returnType = (some .int)) (hlk : meth.locks = false) {v0 : Nat} {v1 : Int32} {h : jq_H} {H : Heap} {locs : List Loc} {ls : Array Slot} (X : jq_X bs D ct s.heap h H locs) (hl : lv_has ls 5 [(0, .ref v0), (1, .int v1)]) (he : X11_again_b168 n v0 v1 h = some res) :
    W p l e rm_X11_again s m args below meth c H locs 0 0 (MQ below (jq_Qi bs D ct res) args s rm_X11_again.cells rm_X11_again.slots (fun q => bs ≤ q)) (F0 m 168 ls []) := by
  unfold X11_again_b168 at he
  refine lv_aload_n C.1 C.2.1 dX11_again_168 rfl (lv_at hl 0 rfl) ?_
  refine lv_iload_n C.1 C.2.1 dX11_again_169 rfl (lv_at hl 1 rfl) ?_
  obtain ⟨z1, hz1, he⟩ := jq_b he
  obtain ⟨hz1c, hz1⟩ := jq_ite hz1
  refine jq_gi (jq_runV (a := v0) (av := [.int v1]) C X (M_X11_missesOf l bs D ct n h v0 v1 _ hz1) mf_X11_missesOf gw_961 gs_40 (Or.inl gw_959) rc_X11 hz1c (by decide) rfl hl.1 rfl (Nat.le_of_ble_eq_true rfl) ⟨by decide, by decide⟩ ⟨by decide, by decide⟩ dX11_again_170) X (fun H locs X => ?_)
  exact jq_iret C X hr hlk he (by decide) (by decide) dX11_again_173
set_option maxRecDepth 100000 in
set_option maxHeartbeats 4000000 in
theorem TX11_again_b162 {p : Program} {l : Launch} {e : Env} {s : State} {m : MethodId} {args : Array Value} {below : List Frame} {meth : Method} {c : Code} {D : va_G} {ct : Nat → ClassId} {bs : Nat} {res : Int32 × jq_H} {n : Nat} {KB : Nat → Int32 → Int32 → Int32 → jq_H → Option (Int32 × jq_H)} {K168 : Nat → Int32 → jq_H → Option (Int32 × jq_H)} (C : jq_C p s m args c cX11_again 5 RX11 D ct bs) (hr : meth.sig.returnType = (some .int)) (hlk : meth.locks = false) (hKB : ∀ (u0 : Nat) (u1 : Int32) (u2 : Int32) (u3 : Int32) (h1 : jq_H) (H1 : Heap) (locs1 : List Loc) (ls1 : Array Slot), KB u0 u1 u2 u3 h1 = some res → jq_X bs D ct s.heap h1 H1 locs1 → lv_has ls1 5 [(0, .ref u0), (1, .int u1), (2, .int u2), (3, .int u3)] → W p l e rm_X11_again s m args below meth c H1 locs1 0 0 (MQ below (jq_Qi bs D ct res) args s rm_X11_again.cells rm_X11_again.slots (fun q => bs ≤ q)) (F0 m 111 ls1 [])) (hK168 : ∀ (u0 : Nat) (u1 : Int32) (h1 : jq_H) (H1 : Heap) (locs1 : List Loc) (ls1 : Array Slot), K168 u0 u1 h1 = some res → jq_X bs D ct s.heap h1 H1 locs1 → lv_has ls1 5 [(0, .ref u0), (1, .int u1)] → W p l e rm_X11_again s m args below meth c H1 locs1 0 0 (MQ below (jq_Qi bs D ct res) args s rm_X11_again.cells rm_X11_again.slots (fun q => bs ≤ q)) (F0 m 168 ls1 [])) {v0 : Nat} {v1 : Int32} {v2 : Int32} {v3 : Int32} {h : jq_H} {H : Heap} {locs : List Loc} {ls : Array Slot} (X : jq_X bs D ct s.heap h H locs) (hl : lv_has ls 5 [(0, .ref v0), (1, .int v1), (2, .int v2), (3, .int v3)]) (he : X11_again_b162 n KB K168 v0 v1 v2 v3 h = some res) :
    W p l e rm_X11_again s m args below meth c H locs 0 0 (MQ below (jq_Qi bs D ct res) args s rm_X11_again.cells rm_X11_again.slots (fun q => bs ≤ q)) (F0 m 162 ls []) := by
  unfold X11_again_b162 at he
  obtain ⟨x2, hx2, he⟩ := jq_ln he
  refine lv_iinc (v := x2) (lv' := [(3, .int x2), (0, .ref v0), (1, .int v1), (2, .int v2)]) C.1 C.2.1 dX11_again_162 hl (k := 3) rfl (by rw [hx2]; rfl) (by decide) rfl (fun ls hl => ?_)
  refine lv_goto (tgt := 111) C.1 C.2.1 dX11_again_165 (by decide) ?_
  exact hKB _ _ _ _ _ _ _ _ he X (lv_sub hl [1, 2, 3, 0] rfl)
set_option maxRecDepth 100000 in
set_option maxHeartbeats 4000000 in
theorem TX11_again_b156 {p : Program} {l : Launch} {e : Env} {s : State} {m : MethodId} {args : Array Value} {below : List Frame} {meth : Method} {c : Code} {D : va_G} {ct : Nat → ClassId} {bs : Nat} {res : Int32 × jq_H} {n : Nat} {KB : Nat → Int32 → Int32 → Int32 → Int32 → jq_H → Option (Int32 × jq_H)} {K162 : Nat → Int32 → Int32 → Int32 → jq_H → Option (Int32 × jq_H)} (C : jq_C p s m args c cX11_again 5 RX11 D ct bs) (hr : meth.sig.returnType = (some .int)) (hlk : meth.locks = false) (hKB : ∀ (u0 : Nat) (u1 : Int32) (u2 : Int32) (u3 : Int32) (u4 : Int32) (h1 : jq_H) (H1 : Heap) (locs1 : List Loc) (ls1 : Array Slot), KB u0 u1 u2 u3 u4 h1 = some res → jq_X bs D ct s.heap h1 H1 locs1 → lv_has ls1 5 [(0, .ref u0), (1, .int u1), (2, .int u2), (3, .int u3), (4, .int u4)] → W p l e rm_X11_again s m args below meth c H1 locs1 0 0 (MQ below (jq_Qi bs D ct res) args s rm_X11_again.cells rm_X11_again.slots (fun q => bs ≤ q)) (F0 m 122 ls1 [])) (hK162 : ∀ (u0 : Nat) (u1 : Int32) (u2 : Int32) (u3 : Int32) (h1 : jq_H) (H1 : Heap) (locs1 : List Loc) (ls1 : Array Slot), K162 u0 u1 u2 u3 h1 = some res → jq_X bs D ct s.heap h1 H1 locs1 → lv_has ls1 5 [(0, .ref u0), (1, .int u1), (2, .int u2), (3, .int u3)] → W p l e rm_X11_again s m args below meth c H1 locs1 0 0 (MQ below (jq_Qi bs D ct res) args s rm_X11_again.cells rm_X11_again.slots (fun q => bs ≤ q)) (F0 m 162 ls1 [])) {v0 : Nat} {v1 : Int32} {v2 : Int32} {v3 : Int32} {v4 : Int32} {h : jq_H} {H : Heap} {locs : List Loc} {ls : Array Slot} (X : jq_X bs D ct s.heap h H locs) (hl : lv_has ls 5 [(0, .ref v0), (1, .int v1), (2, .int v2), (3, .int v3), (4, .int v4)]) (he : X11_again_b156 n KB K162 v0 v1 v2 v3 v4 h = some res) :
    W p l e rm_X11_again s m args below meth c H locs 0 0 (MQ below (jq_Qi bs D ct res) args s rm_X11_again.cells rm_X11_again.slots (fun q => bs ≤ q)) (F0 m 156 ls []) := by
  unfold X11_again_b156 at he
  obtain ⟨x3, hx3, he⟩ := jq_ln he
  refine lv_iinc (v := x3) (lv' := [(4, .int x3), (0, .ref v0), (1, .int v1), (2, .int v2), (3, .int v3)]) C.1 C.2.1 dX11_again_156 hl (k := 4) rfl (by rw [hx3]; rfl) (by decide) rfl (fun ls hl => ?_)
  refine lv_goto (tgt := 122) C.1 C.2.1 dX11_again_159 (by decide) ?_
  exact hKB _ _ _ _ _ _ _ _ _ he X (lv_sub hl [1, 2, 3, 4, 0] rfl)
set_option maxRecDepth 100000 in
set_option maxHeartbeats 4000000 in
theorem TX11_again_b122 {p : Program} {l : Launch} {e : Env} {s : State} {m : MethodId} {args : Array Value} {below : List Frame} {meth : Method} {c : Code} {D : va_G} {ct : Nat → ClassId} {bs : Nat} {res : Int32 × jq_H} {n : Nat} {KB : Nat → Int32 → Int32 → Int32 → Int32 → jq_H → Option (Int32 × jq_H)} {K162 : Nat → Int32 → Int32 → Int32 → jq_H → Option (Int32 × jq_H)} (C : jq_C p s m args c cX11_again 5 RX11 D ct bs) (hr : meth.sig.returnType = (some .int)) (hlk : meth.locks = false) (hKB : ∀ (u0 : Nat) (u1 : Int32) (u2 : Int32) (u3 : Int32) (u4 : Int32) (h1 : jq_H) (H1 : Heap) (locs1 : List Loc) (ls1 : Array Slot), KB u0 u1 u2 u3 u4 h1 = some res → jq_X bs D ct s.heap h1 H1 locs1 → lv_has ls1 5 [(0, .ref u0), (1, .int u1), (2, .int u2), (3, .int u3), (4, .int u4)] → W p l e rm_X11_again s m args below meth c H1 locs1 0 0 (MQ below (jq_Qi bs D ct res) args s rm_X11_again.cells rm_X11_again.slots (fun q => bs ≤ q)) (F0 m 122 ls1 [])) (hK162 : ∀ (u0 : Nat) (u1 : Int32) (u2 : Int32) (u3 : Int32) (h1 : jq_H) (H1 : Heap) (locs1 : List Loc) (ls1 : Array Slot), K162 u0 u1 u2 u3 h1 = some res → jq_X bs D ct s.heap h1 H1 locs1 → lv_has ls1 5 [(0, .ref u0), (1, .int u1), (2, .int u2), (3, .int u3)] → W p l e rm_X11_again s m args below meth c H1 locs1 0 0 (MQ below (jq_Qi bs D ct res) args s rm_X11_again.cells rm_X11_again.slots (fun q => bs ≤ q)) (F0 m 162 ls1 [])) {v0 : Nat} {v1 : Int32} {v2 : Int32} {v3 : Int32} {v4 : Int32} {h : jq_H} {H : Heap} {locs : List Loc} {ls : Array Slot} (X : jq_X bs D ct s.heap h H locs) (hl : lv_has ls 5 [(0, .ref v0), (1, .int v1), (2, .int v2), (3, .int v3), (4, .int v4)]) (he : X11_again_b122 n KB K162 v0 v1 v2 v3 v4 h = some res) :
    W p l e rm_X11_again s m args below meth c H locs 0 0 (MQ below (jq_Qi bs D ct res) args s rm_X11_again.cells rm_X11_again.slots (fun q => bs ≤ q)) (F0 m 122 ls []) := by
  unfold X11_again_b122 at he
  refine lv_iload C.1 C.2.1 dX11_again_122 (lv_at hl 4 rfl) ?_
  refine lv_iload_n C.1 C.2.1 dX11_again_124 rfl (lv_at hl 1 rfl) ?_
  refine lv_icmp_gt (tgt := 162) C.1 C.2.1 dX11_again_125 (by decide) (fun hc4 => ?_) (fun hc4 => ?_)
  · have he := jq_t hc4 he
    exact hK162 _ _ _ _ _ _ _ _ he X (lv_sub hl [0, 1, 2, 3] rfl)
  · have he := jq_n hc4 he
    refine lv_iload_n C.1 C.2.1 dX11_again_128 rfl (lv_at hl 2 rfl) ?_
    refine lv_iload C.1 C.2.1 dX11_again_129 (lv_at hl 4 rfl) ?_
    refine lv_ishr C.1 C.2.1 dX11_again_131 ?_
    refine lv_iconst (v := 1) C.1 C.2.1 dX11_again_132 (by decide) ?_
    refine lv_iand C.1 C.2.1 dX11_again_133 ?_
    refine lv_iconst (v := 1) C.1 C.2.1 dX11_again_134 (by decide) ?_
    refine lv_icmp_ne (tgt := 156) C.1 C.2.1 dX11_again_135 (by decide) (fun hc5 => ?_) (fun hc5 => ?_)
    · have he := jq_n hc5 he
      exact TX11_again_b156 (n := n) C hr hlk hKB hK162 X (lv_sub hl [0, 1, 2, 3, 4] rfl) he
    · have he := jq_t hc5 he
      refine lv_aload_n C.1 C.2.1 dX11_again_138 rfl (lv_at hl 0 rfl) ?_
      refine lv_iload C.1 C.2.1 dX11_again_139 (lv_at hl 4 rfl) ?_
      refine lv_aload_n C.1 C.2.1 dX11_again_141 rfl (lv_at hl 0 rfl) ?_
      refine jq_rgR C X fs_X11_28 he dX11_again_142 (fun q6 he => ?_)
      refine lv_iload_n C.1 C.2.1 dX11_again_145 rfl (lv_at hl 3 rfl) ?_
      refine jq_rldI C X he dX11_again_146 (fun x7 he => ?_)
      refine lv_aload_n C.1 C.2.1 dX11_again_147 rfl (lv_at hl 0 rfl) ?_
      refine jq_rgR C X fs_X11_31 he dX11_again_148 (fun q8 he => ?_)
      refine lv_iload_n C.1 C.2.1 dX11_again_151 rfl (lv_at hl 3 rfl) ?_
      refine jq_rldI C X he dX11_again_152 (fun x9 he => ?_)
      obtain ⟨z10, hz10, he⟩ := jq_b he
      obtain ⟨hz10c, hz10⟩ := jq_ite hz10
      refine jq_gv (jq_runV (a := v0) (av := [.int v4, .int x7, .int x9]) C X (M_X11_asks l bs D ct n h v0 v4 x7 x9 _ hz10) mf_X11_asks gw_878 gs_28 (Or.inl gw_876) rc_X11 hz10c (by decide) rfl hl.1 rfl (Nat.le_of_ble_eq_true rfl) ⟨by decide, by decide⟩ ⟨by decide, by decide⟩ dX11_again_153) X (fun H locs X => ?_)
      exact TX11_again_b156 (n := n) C hr hlk hKB hK162 X (lv_sub hl [0, 1, 2, 3, 4] rfl) he
set_option maxRecDepth 100000 in
set_option maxHeartbeats 4000000 in
theorem TX11_again_l122 {p : Program} {l : Launch} {e : Env} {s : State} {m : MethodId} {args : Array Value} {below : List Frame} {meth : Method} {c : Code} {D : va_G} {ct : Nat → ClassId} {bs : Nat} {res : Int32 × jq_H} {n : Nat} {K162 : Nat → Int32 → Int32 → Int32 → jq_H → Option (Int32 × jq_H)} (C : jq_C p s m args c cX11_again 5 RX11 D ct bs) (hr : meth.sig.returnType = (some .int)) (hlk : meth.locks = false) (hK162 : ∀ (u0 : Nat) (u1 : Int32) (u2 : Int32) (u3 : Int32) (h1 : jq_H) (H1 : Heap) (locs1 : List Loc) (ls1 : Array Slot), K162 u0 u1 u2 u3 h1 = some res → jq_X bs D ct s.heap h1 H1 locs1 → lv_has ls1 5 [(0, .ref u0), (1, .int u1), (2, .int u2), (3, .int u3)] → W p l e rm_X11_again s m args below meth c H1 locs1 0 0 (MQ below (jq_Qi bs D ct res) args s rm_X11_again.cells rm_X11_again.slots (fun q => bs ≤ q)) (F0 m 162 ls1 [])) :
    ∀ (k : Nat) (v0 : Nat) (v1 : Int32) (v2 : Int32) (v3 : Int32) (v4 : Int32) (h : jq_H) (H : Heap) (locs : List Loc) (ls : Array Slot), X11_again_l122 n K162 k v0 v1 v2 v3 v4 h = some res → jq_X bs D ct s.heap h H locs → lv_has ls 5 [(0, .ref v0), (1, .int v1), (2, .int v2), (3, .int v3), (4, .int v4)] → W p l e rm_X11_again s m args below meth c H locs 0 0 (MQ below (jq_Qi bs D ct res) args s rm_X11_again.cells rm_X11_again.slots (fun q => bs ≤ q)) (F0 m 122 ls []) := by
  intro k
  induction k with
  | zero => intro v0 v1 v2 v3 v4 h H locs ls he; cases (show (none : Option (Int32 × jq_H)) = some res from he)
  | succ k ih =>
    intro v0 v1 v2 v3 v4 h H locs ls he X hl
    exact TX11_again_b122 (n := n) C hr hlk (KB := X11_again_l122 n K162 k) ih hK162 X hl he
set_option maxRecDepth 100000 in
set_option maxHeartbeats 4000000 in
theorem TX11_again_b111 {p : Program} {l : Launch} {e : Env} {s : State} {m : MethodId} {args : Array Value} {below : List Frame} {meth : Method} {c : Code} {D : va_G} {ct : Nat → ClassId} {bs : Nat} {res : Int32 × jq_H} {n : Nat} {KB : Nat → Int32 → Int32 → Int32 → jq_H → Option (Int32 × jq_H)} {K168 : Nat → Int32 → jq_H → Option (Int32 × jq_H)} (C : jq_C p s m args c cX11_again 5 RX11 D ct bs) (hr : meth.sig.returnType = (some .int)) (hlk : meth.locks = false) (hKB : ∀ (u0 : Nat) (u1 : Int32) (u2 : Int32) (u3 : Int32) (h1 : jq_H) (H1 : Heap) (locs1 : List Loc) (ls1 : Array Slot), KB u0 u1 u2 u3 h1 = some res → jq_X bs D ct s.heap h1 H1 locs1 → lv_has ls1 5 [(0, .ref u0), (1, .int u1), (2, .int u2), (3, .int u3)] → W p l e rm_X11_again s m args below meth c H1 locs1 0 0 (MQ below (jq_Qi bs D ct res) args s rm_X11_again.cells rm_X11_again.slots (fun q => bs ≤ q)) (F0 m 111 ls1 [])) (hK168 : ∀ (u0 : Nat) (u1 : Int32) (h1 : jq_H) (H1 : Heap) (locs1 : List Loc) (ls1 : Array Slot), K168 u0 u1 h1 = some res → jq_X bs D ct s.heap h1 H1 locs1 → lv_has ls1 5 [(0, .ref u0), (1, .int u1)] → W p l e rm_X11_again s m args below meth c H1 locs1 0 0 (MQ below (jq_Qi bs D ct res) args s rm_X11_again.cells rm_X11_again.slots (fun q => bs ≤ q)) (F0 m 168 ls1 [])) {v0 : Nat} {v1 : Int32} {v2 : Int32} {v3 : Int32} {h : jq_H} {H : Heap} {locs : List Loc} {ls : Array Slot} (X : jq_X bs D ct s.heap h H locs) (hl : lv_has ls 5 [(0, .ref v0), (1, .int v1), (2, .int v2), (3, .int v3)]) (he : X11_again_b111 n KB K168 v0 v1 v2 v3 h = some res) :
    W p l e rm_X11_again s m args below meth c H locs 0 0 (MQ below (jq_Qi bs D ct res) args s rm_X11_again.cells rm_X11_again.slots (fun q => bs ≤ q)) (F0 m 111 ls []) := by
  unfold X11_again_b111 at he
  refine lv_iload_n C.1 C.2.1 dX11_again_111 rfl (lv_at hl 3 rfl) ?_
  refine lv_aload_n C.1 C.2.1 dX11_again_112 rfl (lv_at hl 0 rfl) ?_
  refine jq_rgI C X fs_X11_101 he dX11_again_113 (fun x11 he => ?_)
  refine lv_icmp_ge (tgt := 168) C.1 C.2.1 dX11_again_116 (by decide) (fun hc12 => ?_) (fun hc12 => ?_)
  · have he := jq_t hc12 he
    exact hK168 _ _ _ _ _ _ he X (lv_sub hl [0, 1] rfl)
  · have he := jq_n hc12 he
    refine lv_iconst (v := 0) C.1 C.2.1 dX11_again_119 (by decide) ?_
    refine lv_istore (lv' := [(4, .int 0), (0, .ref v0), (1, .int v1), (2, .int v2), (3, .int v3)]) C.1 C.2.1 dX11_again_120 hl (by decide) rfl (fun ls hl => ?_)
    exact TX11_again_l122 (n := n) C hr hlk (fun w0 w1 w2 w3 hh H locs ls he X hl => by
    exact TX11_again_b162 (n := n) C hr hlk hKB hK168 X hl he) n _ _ _ _ _ _ _ _ _ he X (lv_sub hl [1, 2, 3, 4, 0] rfl)
set_option maxRecDepth 100000 in
set_option maxHeartbeats 4000000 in
theorem TX11_again_l111 {p : Program} {l : Launch} {e : Env} {s : State} {m : MethodId} {args : Array Value} {below : List Frame} {meth : Method} {c : Code} {D : va_G} {ct : Nat → ClassId} {bs : Nat} {res : Int32 × jq_H} {n : Nat} {K168 : Nat → Int32 → jq_H → Option (Int32 × jq_H)} (C : jq_C p s m args c cX11_again 5 RX11 D ct bs) (hr : meth.sig.returnType = (some .int)) (hlk : meth.locks = false) (hK168 : ∀ (u0 : Nat) (u1 : Int32) (h1 : jq_H) (H1 : Heap) (locs1 : List Loc) (ls1 : Array Slot), K168 u0 u1 h1 = some res → jq_X bs D ct s.heap h1 H1 locs1 → lv_has ls1 5 [(0, .ref u0), (1, .int u1)] → W p l e rm_X11_again s m args below meth c H1 locs1 0 0 (MQ below (jq_Qi bs D ct res) args s rm_X11_again.cells rm_X11_again.slots (fun q => bs ≤ q)) (F0 m 168 ls1 [])) :
    ∀ (k : Nat) (v0 : Nat) (v1 : Int32) (v2 : Int32) (v3 : Int32) (h : jq_H) (H : Heap) (locs : List Loc) (ls : Array Slot), X11_again_l111 n K168 k v0 v1 v2 v3 h = some res → jq_X bs D ct s.heap h H locs → lv_has ls 5 [(0, .ref v0), (1, .int v1), (2, .int v2), (3, .int v3)] → W p l e rm_X11_again s m args below meth c H locs 0 0 (MQ below (jq_Qi bs D ct res) args s rm_X11_again.cells rm_X11_again.slots (fun q => bs ≤ q)) (F0 m 111 ls []) := by
  intro k
  induction k with
  | zero => intro v0 v1 v2 v3 h H locs ls he; cases (show (none : Option (Int32 × jq_H)) = some res from he)
  | succ k ih =>
    intro v0 v1 v2 v3 h H locs ls he X hl
    exact TX11_again_b111 (n := n) C hr hlk (KB := X11_again_l111 n K168 k) ih hK168 X hl he
set_option maxRecDepth 100000 in
set_option maxHeartbeats 4000000 in
theorem TX11_again_b109 {p : Program} {l : Launch} {e : Env} {s : State} {m : MethodId} {args : Array Value} {below : List Frame} {meth : Method} {c : Code} {D : va_G} {ct : Nat → ClassId} {bs : Nat} {res : Int32 × jq_H} {n : Nat} (C : jq_C p s m args c cX11_again 5 RX11 D ct bs) (hr : meth.sig.returnType = (some .int)) (hlk : meth.locks = false) {v0 : Nat} {v1 : Int32} {v2 : Int32} {h : jq_H} {H : Heap} {locs : List Loc} {ls : Array Slot} (X : jq_X bs D ct s.heap h H locs) (hl : lv_has ls 5 [(0, .ref v0), (1, .int v1), (2, .int v2)]) (he : X11_again_b109 n v0 v1 v2 h = some res) :
    W p l e rm_X11_again s m args below meth c H locs 0 0 (MQ below (jq_Qi bs D ct res) args s rm_X11_again.cells rm_X11_again.slots (fun q => bs ≤ q)) (F0 m 109 ls []) := by
  unfold X11_again_b109 at he
  refine lv_iconst (v := 0) C.1 C.2.1 dX11_again_109 (by decide) ?_
  refine lv_istore_n (lv' := [(3, .int 0), (0, .ref v0), (1, .int v1), (2, .int v2)]) C.1 C.2.1 dX11_again_110 rfl hl (by decide) rfl (fun ls hl => ?_)
  exact TX11_again_l111 (n := n) C hr hlk (fun w0 w1 hh H locs ls he X hl => by
    exact TX11_again_b168 (n := n) C hr hlk X hl he) n _ _ _ _ _ _ _ _ he X (lv_sub hl [1, 2, 3, 0] rfl)
set_option maxRecDepth 100000 in
set_option maxHeartbeats 4000000 in
theorem TX11_again_b103 {p : Program} {l : Launch} {e : Env} {s : State} {m : MethodId} {args : Array Value} {below : List Frame} {meth : Method} {c : Code} {D : va_G} {ct : Nat → ClassId} {bs : Nat} {res : Int32 × jq_H} {n : Nat} {KB : Nat → Int32 → Int32 → Int32 → jq_H → Option (Int32 × jq_H)} {K109 : Nat → Int32 → Int32 → jq_H → Option (Int32 × jq_H)} (C : jq_C p s m args c cX11_again 5 RX11 D ct bs) (hr : meth.sig.returnType = (some .int)) (hlk : meth.locks = false) (hKB : ∀ (u0 : Nat) (u1 : Int32) (u2 : Int32) (u3 : Int32) (h1 : jq_H) (H1 : Heap) (locs1 : List Loc) (ls1 : Array Slot), KB u0 u1 u2 u3 h1 = some res → jq_X bs D ct s.heap h1 H1 locs1 → lv_has ls1 5 [(0, .ref u0), (1, .int u1), (2, .int u2), (3, .int u3)] → W p l e rm_X11_again s m args below meth c H1 locs1 0 0 (MQ below (jq_Qi bs D ct res) args s rm_X11_again.cells rm_X11_again.slots (fun q => bs ≤ q)) (F0 m 84 ls1 [])) (hK109 : ∀ (u0 : Nat) (u1 : Int32) (u2 : Int32) (h1 : jq_H) (H1 : Heap) (locs1 : List Loc) (ls1 : Array Slot), K109 u0 u1 u2 h1 = some res → jq_X bs D ct s.heap h1 H1 locs1 → lv_has ls1 5 [(0, .ref u0), (1, .int u1), (2, .int u2)] → W p l e rm_X11_again s m args below meth c H1 locs1 0 0 (MQ below (jq_Qi bs D ct res) args s rm_X11_again.cells rm_X11_again.slots (fun q => bs ≤ q)) (F0 m 109 ls1 [])) {v0 : Nat} {v1 : Int32} {v2 : Int32} {v3 : Int32} {h : jq_H} {H : Heap} {locs : List Loc} {ls : Array Slot} (X : jq_X bs D ct s.heap h H locs) (hl : lv_has ls 5 [(0, .ref v0), (1, .int v1), (2, .int v2), (3, .int v3)]) (he : X11_again_b103 n KB K109 v0 v1 v2 v3 h = some res) :
    W p l e rm_X11_again s m args below meth c H locs 0 0 (MQ below (jq_Qi bs D ct res) args s rm_X11_again.cells rm_X11_again.slots (fun q => bs ≤ q)) (F0 m 103 ls []) := by
  unfold X11_again_b103 at he
  obtain ⟨x13, hx13, he⟩ := jq_ln he
  refine lv_iinc (v := x13) (lv' := [(3, .int x13), (0, .ref v0), (1, .int v1), (2, .int v2)]) C.1 C.2.1 dX11_again_103 hl (k := 3) rfl (by rw [hx13]; rfl) (by decide) rfl (fun ls hl => ?_)
  refine lv_goto (tgt := 84) C.1 C.2.1 dX11_again_106 (by decide) ?_
  exact hKB _ _ _ _ _ _ _ _ he X (lv_sub hl [1, 2, 3, 0] rfl)
set_option maxRecDepth 100000 in
set_option maxHeartbeats 4000000 in
theorem TX11_again_b84 {p : Program} {l : Launch} {e : Env} {s : State} {m : MethodId} {args : Array Value} {below : List Frame} {meth : Method} {c : Code} {D : va_G} {ct : Nat → ClassId} {bs : Nat} {res : Int32 × jq_H} {n : Nat} {KB : Nat → Int32 → Int32 → Int32 → jq_H → Option (Int32 × jq_H)} {K109 : Nat → Int32 → Int32 → jq_H → Option (Int32 × jq_H)} (C : jq_C p s m args c cX11_again 5 RX11 D ct bs) (hr : meth.sig.returnType = (some .int)) (hlk : meth.locks = false) (hKB : ∀ (u0 : Nat) (u1 : Int32) (u2 : Int32) (u3 : Int32) (h1 : jq_H) (H1 : Heap) (locs1 : List Loc) (ls1 : Array Slot), KB u0 u1 u2 u3 h1 = some res → jq_X bs D ct s.heap h1 H1 locs1 → lv_has ls1 5 [(0, .ref u0), (1, .int u1), (2, .int u2), (3, .int u3)] → W p l e rm_X11_again s m args below meth c H1 locs1 0 0 (MQ below (jq_Qi bs D ct res) args s rm_X11_again.cells rm_X11_again.slots (fun q => bs ≤ q)) (F0 m 84 ls1 [])) (hK109 : ∀ (u0 : Nat) (u1 : Int32) (u2 : Int32) (h1 : jq_H) (H1 : Heap) (locs1 : List Loc) (ls1 : Array Slot), K109 u0 u1 u2 h1 = some res → jq_X bs D ct s.heap h1 H1 locs1 → lv_has ls1 5 [(0, .ref u0), (1, .int u1), (2, .int u2)] → W p l e rm_X11_again s m args below meth c H1 locs1 0 0 (MQ below (jq_Qi bs D ct res) args s rm_X11_again.cells rm_X11_again.slots (fun q => bs ≤ q)) (F0 m 109 ls1 [])) {v0 : Nat} {v1 : Int32} {v2 : Int32} {v3 : Int32} {h : jq_H} {H : Heap} {locs : List Loc} {ls : Array Slot} (X : jq_X bs D ct s.heap h H locs) (hl : lv_has ls 5 [(0, .ref v0), (1, .int v1), (2, .int v2), (3, .int v3)]) (he : X11_again_b84 n KB K109 v0 v1 v2 v3 h = some res) :
    W p l e rm_X11_again s m args below meth c H locs 0 0 (MQ below (jq_Qi bs D ct res) args s rm_X11_again.cells rm_X11_again.slots (fun q => bs ≤ q)) (F0 m 84 ls []) := by
  unfold X11_again_b84 at he
  refine lv_iload_n C.1 C.2.1 dX11_again_84 rfl (lv_at hl 3 rfl) ?_
  refine lv_iload_n C.1 C.2.1 dX11_again_85 rfl (lv_at hl 1 rfl) ?_
  refine lv_icmp_gt (tgt := 109) C.1 C.2.1 dX11_again_86 (by decide) (fun hc14 => ?_) (fun hc14 => ?_)
  · have he := jq_t hc14 he
    exact hK109 _ _ _ _ _ _ _ he X (lv_sub hl [0, 1, 2] rfl)
  · have he := jq_n hc14 he
    refine lv_iload_n C.1 C.2.1 dX11_again_89 rfl (lv_at hl 2 rfl) ?_
    refine lv_iload_n C.1 C.2.1 dX11_again_90 rfl (lv_at hl 3 rfl) ?_
    refine lv_ishr C.1 C.2.1 dX11_again_91 ?_
    refine lv_iconst (v := 1) C.1 C.2.1 dX11_again_92 (by decide) ?_
    refine lv_iand C.1 C.2.1 dX11_again_93 ?_
    refine lv_iconst (v := 1) C.1 C.2.1 dX11_again_94 (by decide) ?_
    refine lv_icmp_ne (tgt := 103) C.1 C.2.1 dX11_again_95 (by decide) (fun hc15 => ?_) (fun hc15 => ?_)
    · have he := jq_n hc15 he
      exact TX11_again_b103 (n := n) C hr hlk hKB hK109 X (lv_sub hl [0, 1, 2, 3] rfl) he
    · have he := jq_t hc15 he
      refine lv_aload_n C.1 C.2.1 dX11_again_98 rfl (lv_at hl 0 rfl) ?_
      refine lv_iload_n C.1 C.2.1 dX11_again_99 rfl (lv_at hl 3 rfl) ?_
      obtain ⟨z16, hz16, he⟩ := jq_b he
      obtain ⟨hz16c, hz16⟩ := jq_ite hz16
      refine jq_gv (jq_runV (a := v0) (av := [.int v3]) C X (M_X11_begin l bs D ct n h v0 v3 _ hz16) mf_X11_begin gw_937 gs_38 (Or.inl gw_935) rc_X11 hz16c (by decide) rfl hl.1 rfl (Nat.le_of_ble_eq_true rfl) ⟨by decide, by decide⟩ ⟨by decide, by decide⟩ dX11_again_100) X (fun H locs X => ?_)
      exact TX11_again_b103 (n := n) C hr hlk hKB hK109 X (lv_sub hl [0, 1, 2, 3] rfl) he
set_option maxRecDepth 100000 in
set_option maxHeartbeats 4000000 in
theorem TX11_again_l84 {p : Program} {l : Launch} {e : Env} {s : State} {m : MethodId} {args : Array Value} {below : List Frame} {meth : Method} {c : Code} {D : va_G} {ct : Nat → ClassId} {bs : Nat} {res : Int32 × jq_H} {n : Nat} {K109 : Nat → Int32 → Int32 → jq_H → Option (Int32 × jq_H)} (C : jq_C p s m args c cX11_again 5 RX11 D ct bs) (hr : meth.sig.returnType = (some .int)) (hlk : meth.locks = false) (hK109 : ∀ (u0 : Nat) (u1 : Int32) (u2 : Int32) (h1 : jq_H) (H1 : Heap) (locs1 : List Loc) (ls1 : Array Slot), K109 u0 u1 u2 h1 = some res → jq_X bs D ct s.heap h1 H1 locs1 → lv_has ls1 5 [(0, .ref u0), (1, .int u1), (2, .int u2)] → W p l e rm_X11_again s m args below meth c H1 locs1 0 0 (MQ below (jq_Qi bs D ct res) args s rm_X11_again.cells rm_X11_again.slots (fun q => bs ≤ q)) (F0 m 109 ls1 [])) :
    ∀ (k : Nat) (v0 : Nat) (v1 : Int32) (v2 : Int32) (v3 : Int32) (h : jq_H) (H : Heap) (locs : List Loc) (ls : Array Slot), X11_again_l84 n K109 k v0 v1 v2 v3 h = some res → jq_X bs D ct s.heap h H locs → lv_has ls 5 [(0, .ref v0), (1, .int v1), (2, .int v2), (3, .int v3)] → W p l e rm_X11_again s m args below meth c H locs 0 0 (MQ below (jq_Qi bs D ct res) args s rm_X11_again.cells rm_X11_again.slots (fun q => bs ≤ q)) (F0 m 84 ls []) := by
  intro k
  induction k with
  | zero => intro v0 v1 v2 v3 h H locs ls he; cases (show (none : Option (Int32 × jq_H)) = some res from he)
  | succ k ih =>
    intro v0 v1 v2 v3 h H locs ls he X hl
    exact TX11_again_b84 (n := n) C hr hlk (KB := X11_again_l84 n K109 k) ih hK109 X hl he
set_option maxRecDepth 100000 in
set_option maxHeartbeats 4000000 in
theorem TX11_again_b82 {p : Program} {l : Launch} {e : Env} {s : State} {m : MethodId} {args : Array Value} {below : List Frame} {meth : Method} {c : Code} {D : va_G} {ct : Nat → ClassId} {bs : Nat} {res : Int32 × jq_H} {n : Nat} (C : jq_C p s m args c cX11_again 5 RX11 D ct bs) (hr : meth.sig.returnType = (some .int)) (hlk : meth.locks = false) {v0 : Nat} {v1 : Int32} {v2 : Int32} {h : jq_H} {H : Heap} {locs : List Loc} {ls : Array Slot} (X : jq_X bs D ct s.heap h H locs) (hl : lv_has ls 5 [(0, .ref v0), (1, .int v1), (2, .int v2)]) (he : X11_again_b82 n v0 v1 v2 h = some res) :
    W p l e rm_X11_again s m args below meth c H locs 0 0 (MQ below (jq_Qi bs D ct res) args s rm_X11_again.cells rm_X11_again.slots (fun q => bs ≤ q)) (F0 m 82 ls []) := by
  unfold X11_again_b82 at he
  refine lv_iconst (v := 0) C.1 C.2.1 dX11_again_82 (by decide) ?_
  refine lv_istore_n (lv' := [(3, .int 0), (0, .ref v0), (1, .int v1), (2, .int v2)]) C.1 C.2.1 dX11_again_83 rfl hl (by decide) rfl (fun ls hl => ?_)
  exact TX11_again_l84 (n := n) C hr hlk (fun w0 w1 w2 hh H locs ls he X hl => by
    exact TX11_again_b109 (n := n) C hr hlk X hl he) n _ _ _ _ _ _ _ _ he X (lv_sub hl [1, 2, 3, 0] rfl)
set_option maxRecDepth 100000 in
set_option maxHeartbeats 4000000 in
theorem TX11_again_b74 {p : Program} {l : Launch} {e : Env} {s : State} {m : MethodId} {args : Array Value} {below : List Frame} {meth : Method} {c : Code} {D : va_G} {ct : Nat → ClassId} {bs : Nat} {res : Int32 × jq_H} {n : Nat} {KB : Nat → Int32 → Int32 → Int32 → jq_H → Option (Int32 × jq_H)} {K82 : Nat → Int32 → Int32 → jq_H → Option (Int32 × jq_H)} (C : jq_C p s m args c cX11_again 5 RX11 D ct bs) (hr : meth.sig.returnType = (some .int)) (hlk : meth.locks = false) (hKB : ∀ (u0 : Nat) (u1 : Int32) (u2 : Int32) (u3 : Int32) (h1 : jq_H) (H1 : Heap) (locs1 : List Loc) (ls1 : Array Slot), KB u0 u1 u2 u3 h1 = some res → jq_X bs D ct s.heap h1 H1 locs1 → lv_has ls1 5 [(0, .ref u0), (1, .int u1), (2, .int u2), (3, .int u3)] → W p l e rm_X11_again s m args below meth c H1 locs1 0 0 (MQ below (jq_Qi bs D ct res) args s rm_X11_again.cells rm_X11_again.slots (fun q => bs ≤ q)) (F0 m 16 ls1 [])) (hK82 : ∀ (u0 : Nat) (u1 : Int32) (u2 : Int32) (h1 : jq_H) (H1 : Heap) (locs1 : List Loc) (ls1 : Array Slot), K82 u0 u1 u2 h1 = some res → jq_X bs D ct s.heap h1 H1 locs1 → lv_has ls1 5 [(0, .ref u0), (1, .int u1), (2, .int u2)] → W p l e rm_X11_again s m args below meth c H1 locs1 0 0 (MQ below (jq_Qi bs D ct res) args s rm_X11_again.cells rm_X11_again.slots (fun q => bs ≤ q)) (F0 m 82 ls1 [])) {v0 : Nat} {v1 : Int32} {v3 : Int32} {s0 : Int32} {s1 : Int32} {h : jq_H} {H : Heap} {locs : List Loc} {ls : Array Slot} (X : jq_X bs D ct s.heap h H locs) (hl : lv_has ls 5 [(0, .ref v0), (1, .int v1), (3, .int v3)]) (he : X11_again_b74 n KB K82 v0 v1 v3 s0 s1 h = some res) :
    W p l e rm_X11_again s m args below meth c H locs 0 0 (MQ below (jq_Qi bs D ct res) args s rm_X11_again.cells rm_X11_again.slots (fun q => bs ≤ q)) (F0 m 74 ls [.int s1, .int s0]) := by
  unfold X11_again_b74 at he
  refine lv_ior C.1 C.2.1 dX11_again_74 ?_
  obtain ⟨x17, hx17, he⟩ := jq_ln he
  refine jq_top hx17 ?_
  refine lv_istore_n (lv' := [(2, .int x17), (0, .ref v0), (1, .int v1), (3, .int v3)]) C.1 C.2.1 dX11_again_75 rfl hl (by decide) rfl (fun ls hl => ?_)
  obtain ⟨x18, hx18, he⟩ := jq_ln he
  refine lv_iinc (v := x18) (lv' := [(3, .int x18), (2, .int x17), (0, .ref v0), (1, .int v1)]) C.1 C.2.1 dX11_again_76 hl (k := 3) rfl (by rw [hx18]; rfl) (by decide) rfl (fun ls hl => ?_)
  refine lv_goto (tgt := 16) C.1 C.2.1 dX11_again_79 (by decide) ?_
  exact hKB _ _ _ _ _ _ _ _ he X (lv_sub hl [2, 3, 1, 0] rfl)
set_option maxRecDepth 100000 in
set_option maxHeartbeats 4000000 in
theorem TX11_again_b45 {p : Program} {l : Launch} {e : Env} {s : State} {m : MethodId} {args : Array Value} {below : List Frame} {meth : Method} {c : Code} {D : va_G} {ct : Nat → ClassId} {bs : Nat} {res : Int32 × jq_H} {n : Nat} {KB : Nat → Int32 → Int32 → Int32 → jq_H → Option (Int32 × jq_H)} {K82 : Nat → Int32 → Int32 → jq_H → Option (Int32 × jq_H)} (C : jq_C p s m args c cX11_again 5 RX11 D ct bs) (hr : meth.sig.returnType = (some .int)) (hlk : meth.locks = false) (hKB : ∀ (u0 : Nat) (u1 : Int32) (u2 : Int32) (u3 : Int32) (h1 : jq_H) (H1 : Heap) (locs1 : List Loc) (ls1 : Array Slot), KB u0 u1 u2 u3 h1 = some res → jq_X bs D ct s.heap h1 H1 locs1 → lv_has ls1 5 [(0, .ref u0), (1, .int u1), (2, .int u2), (3, .int u3)] → W p l e rm_X11_again s m args below meth c H1 locs1 0 0 (MQ below (jq_Qi bs D ct res) args s rm_X11_again.cells rm_X11_again.slots (fun q => bs ≤ q)) (F0 m 16 ls1 [])) (hK82 : ∀ (u0 : Nat) (u1 : Int32) (u2 : Int32) (h1 : jq_H) (H1 : Heap) (locs1 : List Loc) (ls1 : Array Slot), K82 u0 u1 u2 h1 = some res → jq_X bs D ct s.heap h1 H1 locs1 → lv_has ls1 5 [(0, .ref u0), (1, .int u1), (2, .int u2)] → W p l e rm_X11_again s m args below meth c H1 locs1 0 0 (MQ below (jq_Qi bs D ct res) args s rm_X11_again.cells rm_X11_again.slots (fun q => bs ≤ q)) (F0 m 82 ls1 [])) {v0 : Nat} {v1 : Int32} {v2 : Int32} {v3 : Int32} {s0 : Int32} {h : jq_H} {H : Heap} {locs : List Loc} {ls : Array Slot} (X : jq_X bs D ct s.heap h H locs) (hl : lv_has ls 5 [(0, .ref v0), (1, .int v1), (2, .int v2), (3, .int v3)]) (he : X11_again_b45 n KB K82 v0 v1 v2 v3 s0 h = some res) :
    W p l e rm_X11_again s m args below meth c H locs 0 0 (MQ below (jq_Qi bs D ct res) args s rm_X11_again.cells rm_X11_again.slots (fun q => bs ≤ q)) (F0 m 45 ls [.int s0]) := by
  unfold X11_again_b45 at he
  refine lv_istore (lv' := [(4, .int s0), (0, .ref v0), (1, .int v1), (2, .int v2), (3, .int v3)]) C.1 C.2.1 dX11_again_45 hl (by decide) rfl (fun ls hl => ?_)
  refine lv_iload_n C.1 C.2.1 dX11_again_47 rfl (lv_at hl 3 rfl) ?_
  refine lv_iload C.1 C.2.1 dX11_again_48 (lv_at hl 0 rfl) ?_
  refine lv_if_eq (tgt := 73) C.1 C.2.1 dX11_again_50 (by decide) (fun hc19 => ?_) (fun hc19 => ?_)
  · have he := jq_t hc19 he
    refine lv_iconst (v := 0) C.1 C.2.1 dX11_again_73 (by decide) ?_
    exact TX11_again_b74 (n := n) C hr hlk hKB hK82 X (lv_sub hl [1, 2, 4] rfl) he
  · have he := jq_n hc19 he
    refine lv_iconst (v := 1) C.1 C.2.1 dX11_again_53 (by decide) ?_
    refine lv_aload_n C.1 C.2.1 dX11_again_54 rfl (lv_at hl 1 rfl) ?_
    refine jq_rgR C X fs_X11_37 he dX11_again_55 (fun q20 he => ?_)
    refine lv_iload_n C.1 C.2.1 dX11_again_58 rfl (lv_at hl 4 rfl) ?_
    refine jq_rldI C X he dX11_again_59 (fun x21 he => ?_)
    refine lv_ishl C.1 C.2.1 dX11_again_60 ?_
    refine lv_iconst (v := 1) C.1 C.2.1 dX11_again_61 (by decide) ?_
    refine lv_aload_n C.1 C.2.1 dX11_again_62 rfl (lv_at hl 1 rfl) ?_
    refine jq_rgR C X fs_X11_40 he dX11_again_63 (fun q22 he => ?_)
    refine lv_iload_n C.1 C.2.1 dX11_again_66 rfl (lv_at hl 4 rfl) ?_
    refine jq_rldI C X he dX11_again_67 (fun x23 he => ?_)
    refine lv_ishl C.1 C.2.1 dX11_again_68 ?_
    refine lv_ior C.1 C.2.1 dX11_again_69 ?_
    refine lv_goto (tgt := 74) C.1 C.2.1 dX11_again_70 (by decide) ?_
    exact TX11_again_b74 (n := n) C hr hlk hKB hK82 X (lv_sub hl [1, 2, 4] rfl) he
set_option maxRecDepth 100000 in
set_option maxHeartbeats 4000000 in
theorem TX11_again_b44 {p : Program} {l : Launch} {e : Env} {s : State} {m : MethodId} {args : Array Value} {below : List Frame} {meth : Method} {c : Code} {D : va_G} {ct : Nat → ClassId} {bs : Nat} {res : Int32 × jq_H} {n : Nat} {KB : Nat → Int32 → Int32 → Int32 → jq_H → Option (Int32 × jq_H)} {K82 : Nat → Int32 → Int32 → jq_H → Option (Int32 × jq_H)} (C : jq_C p s m args c cX11_again 5 RX11 D ct bs) (hr : meth.sig.returnType = (some .int)) (hlk : meth.locks = false) (hKB : ∀ (u0 : Nat) (u1 : Int32) (u2 : Int32) (u3 : Int32) (h1 : jq_H) (H1 : Heap) (locs1 : List Loc) (ls1 : Array Slot), KB u0 u1 u2 u3 h1 = some res → jq_X bs D ct s.heap h1 H1 locs1 → lv_has ls1 5 [(0, .ref u0), (1, .int u1), (2, .int u2), (3, .int u3)] → W p l e rm_X11_again s m args below meth c H1 locs1 0 0 (MQ below (jq_Qi bs D ct res) args s rm_X11_again.cells rm_X11_again.slots (fun q => bs ≤ q)) (F0 m 16 ls1 [])) (hK82 : ∀ (u0 : Nat) (u1 : Int32) (u2 : Int32) (h1 : jq_H) (H1 : Heap) (locs1 : List Loc) (ls1 : Array Slot), K82 u0 u1 u2 h1 = some res → jq_X bs D ct s.heap h1 H1 locs1 → lv_has ls1 5 [(0, .ref u0), (1, .int u1), (2, .int u2)] → W p l e rm_X11_again s m args below meth c H1 locs1 0 0 (MQ below (jq_Qi bs D ct res) args s rm_X11_again.cells rm_X11_again.slots (fun q => bs ≤ q)) (F0 m 82 ls1 [])) {v0 : Nat} {v1 : Int32} {v2 : Int32} {v3 : Int32} {h : jq_H} {H : Heap} {locs : List Loc} {ls : Array Slot} (X : jq_X bs D ct s.heap h H locs) (hl : lv_has ls 5 [(0, .ref v0), (1, .int v1), (2, .int v2), (3, .int v3)]) (he : X11_again_b44 n KB K82 v0 v1 v2 v3 h = some res) :
    W p l e rm_X11_again s m args below meth c H locs 0 0 (MQ below (jq_Qi bs D ct res) args s rm_X11_again.cells rm_X11_again.slots (fun q => bs ≤ q)) (F0 m 44 ls []) := by
  unfold X11_again_b44 at he
  refine lv_iconst (v := 0) C.1 C.2.1 dX11_again_44 (by decide) ?_
  exact TX11_again_b45 (n := n) C hr hlk hKB hK82 X (lv_sub hl [0, 1, 2, 3] rfl) he
set_option maxRecDepth 100000 in
set_option maxHeartbeats 4000000 in
theorem TX11_again_b16 {p : Program} {l : Launch} {e : Env} {s : State} {m : MethodId} {args : Array Value} {below : List Frame} {meth : Method} {c : Code} {D : va_G} {ct : Nat → ClassId} {bs : Nat} {res : Int32 × jq_H} {n : Nat} {KB : Nat → Int32 → Int32 → Int32 → jq_H → Option (Int32 × jq_H)} {K82 : Nat → Int32 → Int32 → jq_H → Option (Int32 × jq_H)} (C : jq_C p s m args c cX11_again 5 RX11 D ct bs) (hr : meth.sig.returnType = (some .int)) (hlk : meth.locks = false) (hKB : ∀ (u0 : Nat) (u1 : Int32) (u2 : Int32) (u3 : Int32) (h1 : jq_H) (H1 : Heap) (locs1 : List Loc) (ls1 : Array Slot), KB u0 u1 u2 u3 h1 = some res → jq_X bs D ct s.heap h1 H1 locs1 → lv_has ls1 5 [(0, .ref u0), (1, .int u1), (2, .int u2), (3, .int u3)] → W p l e rm_X11_again s m args below meth c H1 locs1 0 0 (MQ below (jq_Qi bs D ct res) args s rm_X11_again.cells rm_X11_again.slots (fun q => bs ≤ q)) (F0 m 16 ls1 [])) (hK82 : ∀ (u0 : Nat) (u1 : Int32) (u2 : Int32) (h1 : jq_H) (H1 : Heap) (locs1 : List Loc) (ls1 : Array Slot), K82 u0 u1 u2 h1 = some res → jq_X bs D ct s.heap h1 H1 locs1 → lv_has ls1 5 [(0, .ref u0), (1, .int u1), (2, .int u2)] → W p l e rm_X11_again s m args below meth c H1 locs1 0 0 (MQ below (jq_Qi bs D ct res) args s rm_X11_again.cells rm_X11_again.slots (fun q => bs ≤ q)) (F0 m 82 ls1 [])) {v0 : Nat} {v1 : Int32} {v2 : Int32} {v3 : Int32} {h : jq_H} {H : Heap} {locs : List Loc} {ls : Array Slot} (X : jq_X bs D ct s.heap h H locs) (hl : lv_has ls 5 [(0, .ref v0), (1, .int v1), (2, .int v2), (3, .int v3)]) (he : X11_again_b16 n KB K82 v0 v1 v2 v3 h = some res) :
    W p l e rm_X11_again s m args below meth c H locs 0 0 (MQ below (jq_Qi bs D ct res) args s rm_X11_again.cells rm_X11_again.slots (fun q => bs ≤ q)) (F0 m 16 ls []) := by
  unfold X11_again_b16 at he
  refine lv_iload_n C.1 C.2.1 dX11_again_16 rfl (lv_at hl 3 rfl) ?_
  refine lv_if_lt (tgt := 82) C.1 C.2.1 dX11_again_17 (by decide) (fun hc24 => ?_) (fun hc24 => ?_)
  · have he := jq_t hc24 he
    exact hK82 _ _ _ _ _ _ _ he X (lv_sub hl [0, 1, 2] rfl)
  · have he := jq_n hc24 he
    refine lv_iload_n C.1 C.2.1 dX11_again_20 rfl (lv_at hl 2 rfl) ?_
    refine lv_iload_n C.1 C.2.1 dX11_again_21 rfl (lv_at hl 3 rfl) ?_
    refine lv_ishr C.1 C.2.1 dX11_again_22 ?_
    refine lv_iconst (v := 1) C.1 C.2.1 dX11_again_23 (by decide) ?_
    refine lv_iand C.1 C.2.1 dX11_again_24 ?_
    refine lv_iconst (v := 1) C.1 C.2.1 dX11_again_25 (by decide) ?_
    refine lv_icmp_ne (tgt := 44) C.1 C.2.1 dX11_again_26 (by decide) (fun hc25 => ?_) (fun hc25 => ?_)
    · have he := jq_n hc25 he
      exact TX11_again_b44 (n := n) C hr hlk hKB hK82 X (lv_sub hl [0, 1, 2, 3] rfl) he
    · have he := jq_t hc25 he
      refine lv_aload_n C.1 C.2.1 dX11_again_29 rfl (lv_at hl 0 rfl) ?_
      refine jq_rgR C X fs_X11_34 he dX11_again_30 (fun q26 he => ?_)
      refine lv_iload_n C.1 C.2.1 dX11_again_33 rfl (lv_at hl 3 rfl) ?_
      refine jq_rldI C X he dX11_again_34 (fun x27 he => ?_)
      refine lv_bipush (v := 7) C.1 C.2.1 dX11_again_35 (by decide) ?_
      refine lv_icmp_ne (tgt := 44) C.1 C.2.1 dX11_again_37 (by decide) (fun hc28 => ?_) (fun hc28 => ?_)
      · have he := jq_n hc28 he
        exact TX11_again_b44 (n := n) C hr hlk hKB hK82 X (lv_sub hl [0, 1, 2, 3] rfl) he
      · have he := jq_t hc28 he
        refine lv_iconst (v := 1) C.1 C.2.1 dX11_again_40 (by decide) ?_
        refine lv_goto (tgt := 45) C.1 C.2.1 dX11_again_41 (by decide) ?_
        exact TX11_again_b45 (n := n) C hr hlk hKB hK82 X (lv_sub hl [0, 1, 2, 3] rfl) he
set_option maxRecDepth 100000 in
set_option maxHeartbeats 4000000 in
theorem TX11_again_l16 {p : Program} {l : Launch} {e : Env} {s : State} {m : MethodId} {args : Array Value} {below : List Frame} {meth : Method} {c : Code} {D : va_G} {ct : Nat → ClassId} {bs : Nat} {res : Int32 × jq_H} {n : Nat} {K82 : Nat → Int32 → Int32 → jq_H → Option (Int32 × jq_H)} (C : jq_C p s m args c cX11_again 5 RX11 D ct bs) (hr : meth.sig.returnType = (some .int)) (hlk : meth.locks = false) (hK82 : ∀ (u0 : Nat) (u1 : Int32) (u2 : Int32) (h1 : jq_H) (H1 : Heap) (locs1 : List Loc) (ls1 : Array Slot), K82 u0 u1 u2 h1 = some res → jq_X bs D ct s.heap h1 H1 locs1 → lv_has ls1 5 [(0, .ref u0), (1, .int u1), (2, .int u2)] → W p l e rm_X11_again s m args below meth c H1 locs1 0 0 (MQ below (jq_Qi bs D ct res) args s rm_X11_again.cells rm_X11_again.slots (fun q => bs ≤ q)) (F0 m 82 ls1 [])) :
    ∀ (k : Nat) (v0 : Nat) (v1 : Int32) (v2 : Int32) (v3 : Int32) (h : jq_H) (H : Heap) (locs : List Loc) (ls : Array Slot), X11_again_l16 n K82 k v0 v1 v2 v3 h = some res → jq_X bs D ct s.heap h H locs → lv_has ls 5 [(0, .ref v0), (1, .int v1), (2, .int v2), (3, .int v3)] → W p l e rm_X11_again s m args below meth c H locs 0 0 (MQ below (jq_Qi bs D ct res) args s rm_X11_again.cells rm_X11_again.slots (fun q => bs ≤ q)) (F0 m 16 ls []) := by
  intro k
  induction k with
  | zero => intro v0 v1 v2 v3 h H locs ls he; cases (show (none : Option (Int32 × jq_H)) = some res from he)
  | succ k ih =>
    intro v0 v1 v2 v3 h H locs ls he X hl
    exact TX11_again_b16 (n := n) C hr hlk (KB := X11_again_l16 n K82 k) ih hK82 X hl he
set_option maxRecDepth 100000 in
set_option maxHeartbeats 4000000 in
theorem M_X11_again (l : Launch) (bs : Nat) (D : va_G) (ct : Nat → ClassId) (n : Nat) (h : jq_H) (a : Nat) (p0 : Int32) (res : Int32 × jq_H) (he : X11_again n h a p0 = some res) : jq_M l yX11_again cX11_again 5 (some .int) rm_X11_again (jq_P [.ref a, .int p0] bs D ct h) (jq_Qi bs D ct res) bs := by
  refine jq_start2 (by decide +kernel) (Nat.le_of_ble_eq_true rfl) ?_
  intro p e s m args below meth c ls H locs C hr hlk hin hl X
  have C : jq_C p s m args c cX11_again 5 RX11 D ct bs := C
  have hin : meth.name = "again" := hin
  have hl : lv_has ls 5 [(0, .ref a), (1, .int p0)] := hl
  unfold X11_again at he
  refine lv_aload_n C.1 C.2.1 dX11_again_0 rfl (lv_at hl 0 rfl) ?_
  refine lv_iload_n C.1 C.2.1 dX11_again_1 rfl (lv_at hl 1 rfl) ?_
  obtain ⟨z29, hz29, he⟩ := jq_b he
  obtain ⟨hz29c, hz29⟩ := jq_ite hz29
  refine jq_gi (jq_runV (a := a) (av := [.int p0]) C X (M_X11_isGuesser l bs D ct n h a p0 _ hz29) mf_X11_isGuesser gw_930 gs_37 (Or.inl gw_928) rc_X11 hz29c (by decide) rfl hl.1 rfl (Nat.le_of_ble_eq_true rfl) ⟨by decide, by decide⟩ ⟨by decide, by decide⟩ dX11_again_2) X (fun H locs X => ?_)
  refine lv_if_ne (tgt := 10) C.1 C.2.1 dX11_again_5 (by decide) (fun hc30 => ?_) (fun hc30 => ?_)
  · have he := jq_n hc30 he
    refine lv_iconst (v := 1) C.1 C.2.1 dX11_again_10 (by decide) ?_
    refine lv_iload_n C.1 C.2.1 dX11_again_11 rfl (lv_at hl 1 rfl) ?_
    refine lv_ishl C.1 C.2.1 dX11_again_12 ?_
    obtain ⟨x31, hx31, he⟩ := jq_ln he
    refine jq_top hx31 ?_
    refine lv_istore_n (lv' := [(2, .int x31), (0, .ref a), (1, .int p0)]) C.1 C.2.1 dX11_again_13 rfl hl (by decide) rfl (fun ls hl => ?_)
    refine lv_iload_n C.1 C.2.1 dX11_again_14 rfl (lv_at hl 2 rfl) ?_
    refine lv_istore_n (lv' := [(3, .int p0), (2, .int x31), (0, .ref a), (1, .int p0)]) C.1 C.2.1 dX11_again_15 rfl hl (by decide) rfl (fun ls hl => ?_)
    exact TX11_again_l16 (n := n) C hr hlk (fun w0 w1 w2 hh H locs ls he X hl => by
    exact TX11_again_b82 (n := n) C hr hlk X hl he) n _ _ _ _ _ _ _ _ he X (lv_sub hl [2, 3, 1, 0] rfl)
  · have he := jq_t hc30 he
    refine lv_iconst (v := (-1)) C.1 C.2.1 dX11_again_8 (by decide) ?_
    exact jq_iret C X hr hlk he (by decide) (by decide) dX11_again_9
set_option maxRecDepth 100000 in
set_option maxHeartbeats 4000000 in
theorem TX11_asked_b26 {p : Program} {l : Launch} {e : Env} {s : State} {m : MethodId} {args : Array Value} {below : List Frame} {meth : Method} {c : Code} {D : va_G} {ct : Nat → ClassId} {bs : Nat} {res : Int32 × jq_H} {n : Nat} (C : jq_C p s m args c cX11_asked 2 RX11 D ct bs) (hr : meth.sig.returnType = (some .int)) (hlk : meth.locks = false) {s0 : Int32} {h : jq_H} {H : Heap} {locs : List Loc} {ls : Array Slot} (X : jq_X bs D ct s.heap h H locs) (hl : lv_has ls 2 []) (he : X11_asked_b26 n s0 h = some res) :
    W p l e rm_X11_asked s m args below meth c H locs 0 0 (MQ below (jq_Qi bs D ct res) args s rm_X11_asked.cells rm_X11_asked.slots (fun q => bs ≤ q)) (F0 m 26 ls [.int s0]) := by
  unfold X11_asked_b26 at he
  exact jq_iret C X hr hlk he (by decide) (by decide) dX11_asked_26
set_option maxRecDepth 100000 in
set_option maxHeartbeats 4000000 in
theorem M_X11_asked (l : Launch) (bs : Nat) (D : va_G) (ct : Nat → ClassId) (n : Nat) (h : jq_H) (a : Nat) (p0 : Int32) (res : Int32 × jq_H) (he : X11_asked n h a p0 = some res) : jq_M l yX11_asked cX11_asked 2 (some .int) rm_X11_asked (jq_P [.ref a, .int p0] bs D ct h) (jq_Qi bs D ct res) bs := by
  refine jq_start2 (by decide +kernel) (Nat.le_of_ble_eq_true rfl) ?_
  intro p e s m args below meth c ls H locs C hr hlk hin hl X
  have C : jq_C p s m args c cX11_asked 2 RX11 D ct bs := C
  have hin : meth.name = "asked" := hin
  have hl : lv_has ls 2 [(0, .ref a), (1, .int p0)] := hl
  unfold X11_asked at he
  refine lv_aload_n C.1 C.2.1 dX11_asked_0 rfl (lv_at hl 0 rfl) ?_
  refine lv_iload_n C.1 C.2.1 dX11_asked_1 rfl (lv_at hl 1 rfl) ?_
  obtain ⟨z1, hz1, he⟩ := jq_b he
  obtain ⟨hz1c, hz1⟩ := jq_ite hz1
  refine jq_gi (jq_runV (a := a) (av := [.int p0]) C X (M_X11_isGuesser l bs D ct n h a p0 _ hz1) mf_X11_isGuesser gw_930 gs_37 (Or.inl gw_928) rc_X11 hz1c (by decide) rfl hl.1 rfl (Nat.le_of_ble_eq_true rfl) ⟨by decide, by decide⟩ ⟨by decide, by decide⟩ dX11_asked_2) X (fun H locs X => ?_)
  refine lv_if_eq (tgt := 25) C.1 C.2.1 dX11_asked_5 (by decide) (fun hc2 => ?_) (fun hc2 => ?_)
  · have he := jq_t hc2 he
    refine lv_iconst (v := (-1)) C.1 C.2.1 dX11_asked_25 (by decide) ?_
    exact TX11_asked_b26 (n := n) C hr hlk X (lv_sub hl [] rfl) he
  · have he := jq_n hc2 he
    refine lv_aload_n C.1 C.2.1 dX11_asked_8 rfl (lv_at hl 0 rfl) ?_
    refine jq_rgR C X fs_X11_49 he dX11_asked_9 (fun q3 he => ?_)
    refine lv_sipush (v := 812) C.1 C.2.1 dX11_asked_12 (by decide) ?_
    refine lv_iload_n C.1 C.2.1 dX11_asked_15 rfl (lv_at hl 1 rfl) ?_
    refine lv_imul C.1 C.2.1 dX11_asked_16 ?_
    refine lv_sipush (v := 809) C.1 C.2.1 dX11_asked_17 (by decide) ?_
    refine lv_iadd C.1 C.2.1 dX11_asked_20 ?_
    refine jq_rldI C X he dX11_asked_21 (fun x4 he => ?_)
    refine lv_goto (tgt := 26) C.1 C.2.1 dX11_asked_22 (by decide) ?_
    exact TX11_asked_b26 (n := n) C hr hlk X (lv_sub hl [] rfl) he
