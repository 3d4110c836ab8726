set_option maxRecDepth 100000 in
set_option maxHeartbeats 4000000 in
theorem TX7_survey_b142 {p : Program} {l : Launch} {e : Env} {s : State} {m : MethodId} {args : Array Value} {below : List Frame} {meth : Method} {c : Code} {D : va_G} {ct : Nat → ClassId} {bs : Nat} {res : jq_H} {n : Nat} (C : jq_C p s m args c cX7_survey 7 RX7 D ct bs) (hr : meth.sig.returnType = none) (hlk : meth.locks = false) {h : jq_H} {H : Heap} {locs : List Loc} {ls : Array Slot} (X : jq_X bs D ct s.heap h H locs) (hl : lv_has ls 7 []) (he : X7_survey_b142 n h = some res) :
    W p l e rm_X7_survey s m args below meth c H locs 0 0 (MQ below (jq_Qv bs D ct res) args s rm_X7_survey.cells rm_X7_survey.slots (fun q => bs ≤ q)) (F0 m 142 ls []) := by
  unfold X7_survey_b142 at he
  exact jq_vret C X hr hlk he (by decide) (by decide) dX7_survey_142
set_option maxRecDepth 100000 in
set_option maxHeartbeats 4000000 in
theorem TX7_survey_b116 {p : Program} {l : Launch} {e : Env} {s : State} {m : MethodId} {args : Array Value} {below : List Frame} {meth : Method} {c : Code} {D : va_G} {ct : Nat → ClassId} {bs : Nat} {res : jq_H} {n : Nat} {KB : Nat → Int32 → jq_H → Option (jq_H)} {K142 : jq_H → Option (jq_H)} (C : jq_C p s m args c cX7_survey 7 RX7 D ct bs) (hr : meth.sig.returnType = none) (hlk : meth.locks = false) (hKB : ∀ (u0 : Nat) (u3 : Int32) (h1 : jq_H) (H1 : Heap) (locs1 : List Loc) (ls1 : Array Slot), KB u0 u3 h1 = some res → jq_X bs D ct s.heap h1 H1 locs1 → lv_has ls1 7 [(0, .ref u0), (3, .int u3)] → W p l e rm_X7_survey s m args below meth c H1 locs1 0 0 (MQ below (jq_Qv bs D ct res) args s rm_X7_survey.cells rm_X7_survey.slots (fun q => bs ≤ q)) (F0 m 116 ls1 [])) (hK142 : ∀ (h1 : jq_H) (H1 : Heap) (locs1 : List Loc) (ls1 : Array Slot), K142 h1 = some res → jq_X bs D ct s.heap h1 H1 locs1 → lv_has ls1 7 [] → W p l e rm_X7_survey s m args below meth c H1 locs1 0 0 (MQ below (jq_Qv bs D ct res) args s rm_X7_survey.cells rm_X7_survey.slots (fun q => bs ≤ q)) (F0 m 142 ls1 [])) {v0 : Nat} {v3 : Int32} {h : jq_H} {H : Heap} {locs : List Loc} {ls : Array Slot} (X : jq_X bs D ct s.heap h H locs) (hl : lv_has ls 7 [(0, .ref v0), (3, .int v3)]) (he : X7_survey_b116 n KB K142 v0 v3 h = some res) :
    W p l e rm_X7_survey s m args below meth c H locs 0 0 (MQ below (jq_Qv bs D ct res) args s rm_X7_survey.cells rm_X7_survey.slots (fun q => bs ≤ q)) (F0 m 116 ls []) := by
  unfold X7_survey_b116 at he
  refine lv_iload_n C.1 C.2.1 dX7_survey_116 rfl (lv_at hl 1 rfl) ?_
  refine lv_aload_n C.1 C.2.1 dX7_survey_117 rfl (lv_at hl 0 rfl) ?_
  refine jq_rgI C X fs_X7_27 he dX7_survey_118 (fun x1 he => ?_)
  refine lv_icmp_ge (tgt := 142) C.1 C.2.1 dX7_survey_121 (by decide) (fun hc2 => ?_) (fun hc2 => ?_)
  · have he := jq_t hc2 he
    exact hK142 _ _ _ _ he X (lv_sub hl [] rfl)
  · have he := jq_n hc2 he
    refine lv_aload_n C.1 C.2.1 dX7_survey_124 rfl (lv_at hl 0 rfl) ?_
    refine jq_rgR C X fs_X7_18 he dX7_survey_125 (fun q3 he => ?_)
    refine lv_aload_n C.1 C.2.1 dX7_survey_128 rfl (lv_at hl 0 rfl) ?_
    refine jq_rgR C X fs_X7_21 he dX7_survey_129 (fun q4 he => ?_)
    refine lv_iload_n C.1 C.2.1 dX7_survey_132 rfl (lv_at hl 1 rfl) ?_
    refine jq_rldI C X he dX7_survey_133 (fun x5 he => ?_)
    refine lv_iconst (v := 0) C.1 C.2.1 dX7_survey_134 (by decide) ?_
    refine jq_rstI C X he dX7_survey_135 (fun h6 H locs he X => ?_)
    obtain ⟨x7, hx7, he⟩ := jq_ln he
    refine lv_iinc (v := x7) (lv' := [(3, .int x7), (0, .ref v0)]) C.1 C.2.1 dX7_survey_136 hl (k := 1) rfl (by rw [hx7]; rfl) (by decide) rfl (fun ls hl => ?_)
    refine lv_goto (tgt := 116) C.1 C.2.1 dX7_survey_139 (by decide) ?_
    exact hKB _ _ _ _ _ _ he X (lv_sub hl [1, 0] rfl)
set_option maxRecDepth 100000 in
set_option maxHeartbeats 4000000 in
theorem TX7_survey_l116 {p : Program} {l : Launch} {e : Env} {s : State} {m : MethodId} {args : Array Value} {below : List Frame} {meth : Method} {c : Code} {D : va_G} {ct : Nat → ClassId} {bs : Nat} {res : jq_H} {n : Nat} {K142 : jq_H → Option (jq_H)} (C : jq_C p s m args c cX7_survey 7 RX7 D ct bs) (hr : meth.sig.returnType = none) (hlk : meth.locks = false) (hK142 : ∀ (h1 : jq_H) (H1 : Heap) (locs1 : List Loc) (ls1 : Array Slot), K142 h1 = some res → jq_X bs D ct s.heap h1 H1 locs1 → lv_has ls1 7 [] → W p l e rm_X7_survey s m args below meth c H1 locs1 0 0 (MQ below (jq_Qv bs D ct res) args s rm_X7_survey.cells rm_X7_survey.slots (fun q => bs ≤ q)) (F0 m 142 ls1 [])) :
    ∀ (k : Nat) (v0 : Nat) (v3 : Int32) (h : jq_H) (H : Heap) (locs : List Loc) (ls : Array Slot), X7_survey_l116 n K142 k v0 v3 h = some res → jq_X bs D ct s.heap h H locs → lv_has ls 7 [(0, .ref v0), (3, .int v3)] → W p l e rm_X7_survey s m args below meth c H locs 0 0 (MQ below (jq_Qv bs D ct res) args s rm_X7_survey.cells rm_X7_survey.slots (fun q => bs ≤ q)) (F0 m 116 ls []) := by
  intro k
  induction k with
  | zero => intro v0 v3 h H locs ls he; cases (show (none : Option (jq_H)) = some res from he)
  | succ k ih =>
    intro v0 v3 h H locs ls he X hl
    exact TX7_survey_b116 (n := n) C hr hlk (KB := X7_survey_l116 n K142 k) ih hK142 X hl he
set_option maxRecDepth 100000 in
set_option maxHeartbeats 4000000 in
theorem TX7_survey_b114 {p : Program} {l : Launch} {e : Env} {s : State} {m : MethodId} {args : Array Value} {below : List Frame} {meth : Method} {c : Code} {D : va_G} {ct : Nat → ClassId} {bs : Nat} {res : jq_H} {n : Nat} (C : jq_C p s m args c cX7_survey 7 RX7 D ct bs) (hr : meth.sig.returnType = none) (hlk : meth.locks = false) {v0 : Nat} {h : jq_H} {H : Heap} {locs : List Loc} {ls : Array Slot} (X : jq_X bs D ct s.heap h H locs) (hl : lv_has ls 7 [(0, .ref v0)]) (he : X7_survey_b114 n v0 h = some res) :
    W p l e rm_X7_survey s m args below meth c H locs 0 0 (MQ below (jq_Qv bs D ct res) args s rm_X7_survey.cells rm_X7_survey.slots (fun q => bs ≤ q)) (F0 m 114 ls []) := by
  unfold X7_survey_b114 at he
  refine lv_iconst (v := 0) C.1 C.2.1 dX7_survey_114 (by decide) ?_
  refine lv_istore_n (lv' := [(3, .int 0), (0, .ref v0)]) C.1 C.2.1 dX7_survey_115 rfl hl (by decide) rfl (fun ls hl => ?_)
  exact TX7_survey_l116 (n := n) C hr hlk (fun  hh H locs ls he X hl => by
    exact TX7_survey_b142 (n := n) C hr hlk X hl he) n _ _ _ _ _ _ he X (lv_sub hl [1, 0] rfl)
set_option maxRecDepth 100000 in
set_option maxHeartbeats 4000000 in
theorem TX7_survey_b52 {p : Program} {l : Launch} {e : Env} {s : State} {m : MethodId} {args : Array Value} {below : List Frame} {meth : Method} {c : Code} {D : va_G} {ct : Nat → ClassId} {bs : Nat} {res : jq_H} {n : Nat} {KB : Nat → Int32 → Int32 → Int32 → jq_H → Option (jq_H)} {K114 : Nat → jq_H → Option (jq_H)} (C : jq_C p s m args c cX7_survey 7 RX7 D ct bs) (hr : meth.sig.returnType = none) (hlk : meth.locks = false) (hKB : ∀ (u0 : Nat) (u1 : Int32) (u2 : Int32) (u3 : Int32) (h1 : jq_H) (H1 : Heap) (locs1 : List Loc) (ls1 : Array Slot), KB u0 u1 u2 u3 h1 = some res → jq_X bs D ct s.heap h1 H1 locs1 → lv_has ls1 7 [(0, .ref u0), (1, .int u1), (2, .int u2), (3, .int u3)] → W p l e rm_X7_survey s m args below meth c H1 locs1 0 0 (MQ below (jq_Qv bs D ct res) args s rm_X7_survey.cells rm_X7_survey.slots (fun q => bs ≤ q)) (F0 m 20 ls1 [])) (hK114 : ∀ (u0 : Nat) (h1 : jq_H) (H1 : Heap) (locs1 : List Loc) (ls1 : Array Slot), K114 u0 h1 = some res → jq_X bs D ct s.heap h1 H1 locs1 → lv_has ls1 7 [(0, .ref u0)] → W p l e rm_X7_survey s m args below meth c H1 locs1 0 0 (MQ below (jq_Qv bs D ct res) args s rm_X7_survey.cells rm_X7_survey.slots (fun q => bs ≤ q)) (F0 m 114 ls1 [])) {v0 : Nat} {v1 : Int32} {v2 : Int32} {v3 : Int32} {v4 : Int32} {v5 : Int32} {s0 : Int32} {h : jq_H} {H : Heap} {locs : List Loc} {ls : Array Slot} (X : jq_X bs D ct s.heap h H locs) (hl : lv_has ls 7 [(0, .ref v0), (1, .int v1), (2, .int v2), (3, .int v3), (4, .int v4), (5, .int v5)]) (he : X7_survey_b52 n KB K114 v0 v1 v2 v3 v4 v5 s0 h = some res) :
    W p l e rm_X7_survey s m args below meth c H locs 0 0 (MQ below (jq_Qv bs D ct res) args s rm_X7_survey.cells rm_X7_survey.slots (fun q => bs ≤ q)) (F0 m 52 ls [.int s0]) := by
  unfold X7_survey_b52 at he
  refine lv_istore (lv' := [(6, .int s0), (0, .ref v0), (1, .int v1), (2, .int v2), (3, .int v3), (4, .int v4), (5, .int v5)]) C.1 C.2.1 dX7_survey_52 hl (by decide) rfl (fun ls hl => ?_)
  refine lv_aload_n C.1 C.2.1 dX7_survey_54 rfl (lv_at hl 1 rfl) ?_
  refine jq_rgR C X fs_X7_21 he dX7_survey_55 (fun q8 he => ?_)
  refine lv_iload_n C.1 C.2.1 dX7_survey_58 rfl (lv_at hl 4 rfl) ?_
  refine lv_iload C.1 C.2.1 dX7_survey_59 (lv_at hl 5 rfl) ?_
  refine lv_iload_n C.1 C.2.1 dX7_survey_61 rfl (lv_at hl 2 rfl) ?_
  refine lv_ishl C.1 C.2.1 dX7_survey_62 ?_
  refine lv_aload_n C.1 C.2.1 dX7_survey_63 rfl (lv_at hl 1 rfl) ?_
  refine jq_rgR C X fs_X7_24 he dX7_survey_64 (fun q9 he => ?_)
  refine lv_iload C.1 C.2.1 dX7_survey_67 (lv_at hl 0 rfl) ?_
  refine jq_rldI C X he dX7_survey_69 (fun x10 he => ?_)
  refine lv_ior C.1 C.2.1 dX7_survey_70 ?_
  refine jq_rstI C X he dX7_survey_71 (fun h11 H locs he X => ?_)
  refine lv_aload_n C.1 C.2.1 dX7_survey_72 rfl (lv_at hl 1 rfl) ?_
  refine lv_aload_n C.1 C.2.1 dX7_survey_73 rfl (lv_at hl 1 rfl) ?_
  refine jq_rgR C X fs_X7_21 he dX7_survey_74 (fun q12 he => ?_)
  refine lv_iload_n C.1 C.2.1 dX7_survey_77 rfl (lv_at hl 4 rfl) ?_
  refine jq_rldI C X he dX7_survey_78 (fun x13 he => ?_)
  refine lv_iload C.1 C.2.1 dX7_survey_79 (lv_at hl 6 rfl) ?_
  obtain ⟨z14, hz14, he⟩ := jq_b he
  obtain ⟨hz14c, hz14⟩ := jq_ite hz14
  refine jq_gv (jq_runV (a := v0) (av := [.int x13, .int v5]) C X (M_X7_tally l bs D ct n h11 v0 x13 v5 _ hz14) mf_X7_tally gw_720 gs_24 (Or.inl gw_718) rc_X7 hz14c (by decide) rfl hl.1 rfl (Nat.le_of_ble_eq_true rfl) ⟨by decide, by decide⟩ ⟨by decide, by decide⟩ dX7_survey_81) X (fun H locs X => ?_)
  refine lv_aload_n C.1 C.2.1 dX7_survey_84 rfl (lv_at hl 1 rfl) ?_
  refine jq_rgR C X fs_X7_24 he dX7_survey_85 (fun q15 he => ?_)
  refine lv_iload C.1 C.2.1 dX7_survey_88 (lv_at hl 0 rfl) ?_
  refine lv_aload_n C.1 C.2.1 dX7_survey_90 rfl (lv_at hl 1 rfl) ?_
  refine jq_rgR C X fs_X7_24 he dX7_survey_91 (fun q16 he => ?_)
  refine lv_iload C.1 C.2.1 dX7_survey_94 (lv_at hl 0 rfl) ?_
  refine jq_rldI C X he dX7_survey_96 (fun x17 he => ?_)
  refine lv_iconst (v := 1) C.1 C.2.1 dX7_survey_97 (by decide) ?_
  refine lv_ishl C.1 C.2.1 dX7_survey_98 ?_
  refine lv_iload C.1 C.2.1 dX7_survey_99 (lv_at hl 6 rfl) ?_
  refine lv_ior C.1 C.2.1 dX7_survey_101 ?_
  refine lv_iload_n C.1 C.2.1 dX7_survey_102 rfl (lv_at hl 2 rfl) ?_
  obtain ⟨z18, hz18, he⟩ := jq_b he
  refine jq_gi (jq_runS (av := [.int v1]) C X (M_X10_lowBits l bs D ct n z14 v1 _ hz18) mf_X10_lowBits gw_235 (Or.inr ⟨_, gw_724⟩) rfl hl.1 rfl (Nat.le_of_ble_eq_true rfl) ⟨by decide, by decide⟩ ⟨by decide, by decide⟩ dX7_survey_103) X (fun H locs X => ?_)
  refine lv_iand C.1 C.2.1 dX7_survey_106 ?_
  refine jq_rstI C X he dX7_survey_107 (fun h19 H locs he X => ?_)
  obtain ⟨x20, hx20, he⟩ := jq_ln he
  refine lv_iinc (v := x20) (lv' := [(3, .int x20), (6, .int s0), (0, .ref v0), (1, .int v1), (2, .int v2), (4, .int v4), (5, .int v5)]) C.1 C.2.1 dX7_survey_108 hl (k := 4) rfl (by rw [hx20]; rfl) (by decide) rfl (fun ls hl => ?_)
  refine lv_goto (tgt := 20) C.1 C.2.1 dX7_survey_111 (by decide) ?_
  exact hKB _ _ _ _ _ _ _ _ he X (lv_sub hl [2, 3, 4, 0] rfl)
set_option maxRecDepth 100000 in
set_option maxHeartbeats 4000000 in
theorem TX7_survey_b20 {p : Program} {l : Launch} {e : Env} {s : State} {m : MethodId} {args : Array Value} {below : List Frame} {meth : Method} {c : Code} {D : va_G} {ct : Nat → ClassId} {bs : Nat} {res : jq_H} {n : Nat} {KB : Nat → Int32 → Int32 → Int32 → jq_H → Option (jq_H)} {K114 : Nat → jq_H → Option (jq_H)} (C : jq_C p s m args c cX7_survey 7 RX7 D ct bs) (hr : meth.sig.returnType = none) (hlk : meth.locks = false) (hKB : ∀ (u0 : Nat) (u1 : Int32) (u2 : Int32) (u3 : Int32) (h1 : jq_H) (H1 : Heap) (locs1 : List Loc) (ls1 : Array Slot), KB u0 u1 u2 u3 h1 = some res → jq_X bs D ct s.heap h1 H1 locs1 → lv_has ls1 7 [(0, .ref u0), (1, .int u1), (2, .int u2), (3, .int u3)] → W p l e rm_X7_survey s m args below meth c H1 locs1 0 0 (MQ below (jq_Qv bs D ct res) args s rm_X7_survey.cells rm_X7_survey.slots (fun q => bs ≤ q)) (F0 m 20 ls1 [])) (hK114 : ∀ (u0 : Nat) (h1 : jq_H) (H1 : Heap) (locs1 : List Loc) (ls1 : Array Slot), K114 u0 h1 = some res → jq_X bs D ct s.heap h1 H1 locs1 → lv_has ls1 7 [(0, .ref u0)] → W p l e rm_X7_survey s m args below meth c H1 locs1 0 0 (MQ below (jq_Qv bs D ct res) args s rm_X7_survey.cells rm_X7_survey.slots (fun q => bs ≤ q)) (F0 m 114 ls1 [])) {v0 : Nat} {v1 : Int32} {v2 : Int32} {v3 : Int32} {h : jq_H} {H : Heap} {locs : List Loc} {ls : Array Slot} (X : jq_X bs D ct s.heap h H locs) (hl : lv_has ls 7 [(0, .ref v0), (1, .int v1), (2, .int v2), (3, .int v3)]) (he : X7_survey_b20 n KB K114 v0 v1 v2 v3 h = some res) :
    W p l e rm_X7_survey s m args below meth c H locs 0 0 (MQ below (jq_Qv bs D ct res) args s rm_X7_survey.cells rm_X7_survey.slots (fun q => bs ≤ q)) (F0 m 20 ls []) := by
  unfold X7_survey_b20 at he
  refine lv_iload_n C.1 C.2.1 dX7_survey_20 rfl (lv_at hl 3 rfl) ?_
  refine lv_aload_n C.1 C.2.1 dX7_survey_21 rfl (lv_at hl 0 rfl) ?_
  refine jq_rgI C X fs_X7_27 he dX7_survey_22 (fun x21 he => ?_)
  refine lv_icmp_ge (tgt := 114) C.1 C.2.1 dX7_survey_25 (by decide) (fun hc22 => ?_) (fun hc22 => ?_)
  · have he := jq_t hc22 he
    exact hK114 _ _ _ _ _ he X (lv_sub hl [0] rfl)
  · have he := jq_n hc22 he
    refine lv_aload_n C.1 C.2.1 dX7_survey_28 rfl (lv_at hl 0 rfl) ?_
    refine lv_iload_n C.1 C.2.1 dX7_survey_29 rfl (lv_at hl 3 rfl) ?_
    obtain ⟨z23, hz23, he⟩ := jq_b he
    obtain ⟨hz23c, hz23⟩ := jq_ite hz23
    refine jq_gi (jq_runV (a := v0) (av := [.int v3]) C X (M_X7_placeOf l bs D ct n h v0 v3 _ hz23) mf_X7_placeOf gw_338 gs_14 (Or.inl gw_716) rc_X7 hz23c (by decide) rfl hl.1 rfl (Nat.le_of_ble_eq_true rfl) ⟨by decide, by decide⟩ ⟨by decide, by decide⟩ dX7_survey_30) X (fun H locs X => ?_)
    obtain ⟨x24, hx24, he⟩ := jq_ln he
    refine jq_top hx24 ?_
    refine lv_istore (lv' := [(4, .int x24), (0, .ref v0), (1, .int v1), (2, .int v2), (3, .int v3)]) C.1 C.2.1 dX7_survey_33 hl (by decide) rfl (fun ls hl => ?_)
    refine lv_aload_n C.1 C.2.1 dX7_survey_35 rfl (lv_at hl 1 rfl) ?_
    refine lv_iload_n C.1 C.2.1 dX7_survey_36 rfl (lv_at hl 4 rfl) ?_
    obtain ⟨z25, hz25, he⟩ := jq_b he
    obtain ⟨hz25c, hz25⟩ := jq_ite hz25
    refine jq_gi (jq_runV (a := v0) (av := [.int v3]) C X (M_X7_wayOf l bs D ct n z23.2 v0 v3 _ hz25) mf_X7_wayOf gw_342 gs_15 (Or.inl gw_717) rc_X7 hz25c (by decide) rfl hl.1 rfl (Nat.le_of_ble_eq_true rfl) ⟨by decide, by decide⟩ ⟨by decide, by decide⟩ dX7_survey_37) X (fun H locs X => ?_)
    obtain ⟨x26, hx26, he⟩ := jq_ln he
    refine jq_top hx26 ?_
    refine lv_istore (lv' := [(5, .int x26), (4, .int x24), (0, .ref v0), (1, .int v1), (2, .int v2), (3, .int v3)]) C.1 C.2.1 dX7_survey_40 hl (by decide) rfl (fun ls hl => ?_)
    refine lv_iload_n C.1 C.2.1 dX7_survey_42 rfl (lv_at hl 4 rfl) ?_
    refine lv_if_eq (tgt := 51) C.1 C.2.1 dX7_survey_43 (by decide) (fun hc27 => ?_) (fun hc27 => ?_)
    · have he := jq_t hc27 he
      refine lv_iconst (v := 0) C.1 C.2.1 dX7_survey_51 (by decide) ?_
      exact TX7_survey_b52 (n := n) C hr hlk hKB hK114 X (lv_sub hl [2, 3, 4, 5, 1, 0] rfl) he
    · have he := jq_n hc27 he
      refine lv_iload C.1 C.2.1 dX7_survey_46 (lv_at hl 1 rfl) ?_
      refine lv_goto (tgt := 52) C.1 C.2.1 dX7_survey_48 (by decide) ?_
      exact TX7_survey_b52 (n := n) C hr hlk hKB hK114 X (lv_sub hl [2, 3, 4, 5, 1, 0] rfl) he
set_option maxRecDepth 100000 in
set_option maxHeartbeats 4000000 in
theorem TX7_survey_l20 {p : Program} {l : Launch} {e : Env} {s : State} {m : MethodId} {args : Array Value} {below : List Frame} {meth : Method} {c : Code} {D : va_G} {ct : Nat → ClassId} {bs : Nat} {res : jq_H} {n : Nat} {K114 : Nat → jq_H → Option (jq_H)} (C : jq_C p s m args c cX7_survey 7 RX7 D ct bs) (hr : meth.sig.returnType = none) (hlk : meth.locks = false) (hK114 : ∀ (u0 : Nat) (h1 : jq_H) (H1 : Heap) (locs1 : List Loc) (ls1 : Array Slot), K114 u0 h1 = some res → jq_X bs D ct s.heap h1 H1 locs1 → lv_has ls1 7 [(0, .ref u0)] → W p l e rm_X7_survey s m args below meth c H1 locs1 0 0 (MQ below (jq_Qv bs D ct res) args s rm_X7_survey.cells rm_X7_survey.slots (fun q => bs ≤ q)) (F0 m 114 ls1 [])) :
    ∀ (k : Nat) (v0 : Nat) (v1 : Int32) (v2 : Int32) (v3 : Int32) (h : jq_H) (H : Heap) (locs : List Loc) (ls : Array Slot), X7_survey_l20 n K114 k v0 v1 v2 v3 h = some res → jq_X bs D ct s.heap h H locs → lv_has ls 7 [(0, .ref v0), (1, .int v1), (2, .int v2), (3, .int v3)] → W p l e rm_X7_survey s m args below meth c H locs 0 0 (MQ below (jq_Qv bs D ct res) args s rm_X7_survey.cells rm_X7_survey.slots (fun q => bs ≤ q)) (F0 m 20 ls []) := by
  intro k
  induction k with
  | zero => intro v0 v1 v2 v3 h H locs ls he; cases (show (none : Option (jq_H)) = some res from he)
  | succ k ih =>
    intro v0 v1 v2 v3 h H locs ls he X hl
    exact TX7_survey_b20 (n := n) C hr hlk (KB := X7_survey_l20 n K114 k) ih hK114 X hl he
set_option maxRecDepth 100000 in
set_option maxHeartbeats 4000000 in
theorem M_X7_survey (l : Launch) (bs : Nat) (D : va_G) (ct : Nat → ClassId) (n : Nat) (h : jq_H) (a : Nat) (p0 : Int32) (p1 : Int32) (res : jq_H) (he : X7_survey n h a p0 p1 = some res) : jq_M l yX7_survey cX7_survey 7 none rm_X7_survey (jq_P [.ref a, .int p0, .int p1] bs D ct h) (jq_Qv bs D ct res) bs := by
  refine jq_start2 (by decide +kernel) (Nat.le_of_ble_eq_true rfl) ?_
  intro p e s m args below meth c ls H locs C hr hlk hin hl X
  have C : jq_C p s m args c cX7_survey 7 RX7 D ct bs := C
  have hin : meth.name = "survey" := hin
  have hl : lv_has ls 7 [(0, .ref a), (1, .int p0), (2, .int p1)] := hl
  unfold X7_survey at he
  refine lv_aload_n C.1 C.2.1 dX7_survey_0 rfl (lv_at hl 0 rfl) ?_
  refine jq_rgR C X fs_X7_24 he dX7_survey_1 (fun q28 he => ?_)
  refine lv_iconst (v := 0) C.1 C.2.1 dX7_survey_4 (by decide) ?_
  obtain ⟨z29, hz29, he⟩ := jq_b he
  refine jq_gv (jq_runS (av := [.ref q28, .int 0]) C X (M_J7_fill_53178 l bs D ct n h q28 0 _ hz29) mf_J7_fill_53178 gw_371 (Or.inl gw_715) rfl hl.1 rfl (Nat.le_of_ble_eq_true rfl) ⟨by decide, by decide⟩ ⟨by decide, by decide⟩ dX7_survey_5) X (fun H locs X => ?_)
  refine lv_aload_n C.1 C.2.1 dX7_survey_8 rfl (lv_at hl 0 rfl) ?_
  refine lv_iconst (v := 0) C.1 C.2.1 dX7_survey_9 (by decide) ?_
  refine jq_rp (ty := .int) C X fs_X7_41 (by decide +kernel) rfl rfl he dX7_survey_10 (fun h30 H locs he X => ?_)
  refine lv_aload_n C.1 C.2.1 dX7_survey_13 rfl (lv_at hl 0 rfl) ?_
  refine lv_iconst (v := 0) C.1 C.2.1 dX7_survey_14 (by decide) ?_
  refine jq_rp (ty := .int) C X fs_X7_44 (by decide +kernel) rfl rfl he dX7_survey_15 (fun h31 H locs he X => ?_)
  refine lv_iconst (v := 0) C.1 C.2.1 dX7_survey_18 (by decide) ?_
  refine lv_istore_n (lv' := [(3, .int 0), (0, .ref a), (1, .int p0), (2, .int p1)]) C.1 C.2.1 dX7_survey_19 rfl hl (by decide) rfl (fun ls hl => ?_)
  exact TX7_survey_l20 (n := n) C hr hlk (fun w0 hh H locs ls he X hl => by
    exact TX7_survey_b114 (n := n) C hr hlk X hl he) n _ _ _ _ _ _ _ _ he X (lv_sub hl [1, 2, 3, 0] rfl)
set_option maxRecDepth 100000 in
set_option maxHeartbeats 4000000 in
theorem M_X10_best (l : Launch) (bs : Nat) (D : va_G) (ct : Nat → ClassId) (n : Nat) (h : jq_H) (a : Nat) (p0 : Int32) (p1 : Int32) (res : Int32 × jq_H) (he : X10_best n h a p0 p1 = some res) : jq_M l yX10_best cX10_best 3 (some .int) rm_X10_best (jq_P [.ref a, .int p0, .int p1] bs D ct h) (jq_Qi bs D ct res) bs := by
  refine jq_start2 (by decide +kernel) (Nat.le_of_ble_eq_true rfl) ?_
  intro p e s m args below meth c ls H locs C hr hlk hin hl X
  have C : jq_C p s m args c cX10_best 3 RX10 D ct bs := C
  have hin : meth.name = "best" := hin
  have hl : lv_has ls 3 [(0, .ref a), (1, .int p0), (2, .int p1)] := hl
  unfold X10_best at he
  refine lv_iload_n C.1 C.2.1 dX10_best_0 rfl (lv_at hl 1 rfl) ?_
  refine lv_iconst (v := 0) C.1 C.2.1 dX10_best_1 (by decide) ?_
  refine lv_bipush (v := 8) C.1 C.2.1 dX10_best_2 (by decide) ?_
  obtain ⟨z1, hz1, he⟩ := jq_b he
  refine jq_gi (jq_runS (av := [.int p0, .int 0, .int 8]) C X (M_X10_within l bs D ct n h p0 0 8 _ hz1) mf_X10_within gw_122 (Or.inl gw_121) rfl hl.1 rfl (Nat.le_of_ble_eq_true rfl) ⟨by decide, by decide⟩ ⟨by decide, by decide⟩ dX10_best_4) X (fun H locs X => ?_)
  refine lv_if_ne (tgt := 13) C.1 C.2.1 dX10_best_7 (by decide) (fun hc2 => ?_) (fun hc2 => ?_)
  · have he := jq_n hc2 he
    refine lv_aload_n C.1 C.2.1 dX10_best_13 rfl (lv_at hl 0 rfl) ?_
    refine jq_rgR C X fs_X10_19 he dX10_best_14 (fun q3 he => ?_)
    refine lv_iload_n C.1 C.2.1 dX10_best_17 rfl (lv_at hl 1 rfl) ?_
    refine lv_iload_n C.1 C.2.1 dX10_best_18 rfl (lv_at hl 2 rfl) ?_
    obtain ⟨z4, hz4, he⟩ := jq_b he
    obtain ⟨hz4c, hz4⟩ := jq_ite hz4
    refine jq_gv (jq_runV (a := q3) (av := [.int p0, .int p1]) C X (M_X7_survey l bs D ct n z1.2 q3 p0 p1 _ hz4) mf_X7_survey gw_713 gs_23 (Or.inr ⟨_, gw_711⟩) rc_X7 hz4c (by decide) rfl hl.1 rfl (Nat.le_of_ble_eq_true rfl) ⟨by decide, by decide⟩ ⟨by decide, by decide⟩ dX10_best_19) X (fun H locs X => ?_)
    refine lv_aload_n C.1 C.2.1 dX10_best_22 rfl (lv_at hl 0 rfl) ?_
    refine jq_rgR C X fs_X10_19 he dX10_best_23 (fun q5 he => ?_)
    refine jq_rgI C X fs_X10_173 he dX10_best_26 (fun x6 he => ?_)
    exact jq_iret C X hr hlk he (by decide) (by decide) dX10_best_29
  · have he := jq_t hc2 he
    refine lv_bipush (v := (-2)) C.1 C.2.1 dX10_best_10 (by decide) ?_
    exact jq_iret C X hr hlk he (by decide) (by decide) dX10_best_12
set_option maxRecDepth 100000 in
set_option maxHeartbeats 4000000 in
theorem M_X10_isPlace (l : Launch) (bs : Nat) (D : va_G) (ct : Nat → ClassId) (n : Nat) (h : jq_H) (p0 : Int32) (res : Int32 × jq_H) (he : X10_isPlace n h p0 = some res) : jq_M l yX10_isPlace cX10_isPlace 1 (some .boolean) rm_X10_isPlace (jq_P [.int p0] bs D ct h) (jq_Qi bs D ct res) bs := by
  refine jq_start2 (by decide +kernel) (Nat.le_of_ble_eq_true rfl) ?_
  intro p e s m args below meth c ls H locs C hr hlk hin hl X
  have C : jq_C p s m args c cX10_isPlace 1 RX10 D ct bs := C
  have hin : meth.name = "isPlace" := hin
  have hl : lv_has ls 1 [(0, .int p0)] := hl
  unfold X10_isPlace at he
  refine lv_iload_n C.1 C.2.1 dX10_isPlace_0 rfl (lv_at hl 0 rfl) ?_
  refine lv_iconst (v := 0) C.1 C.2.1 dX10_isPlace_1 (by decide) ?_
  refine lv_bipush (v := 63) C.1 C.2.1 dX10_isPlace_2 (by decide) ?_
  obtain ⟨z1, hz1, he⟩ := jq_b he
  refine jq_gi (jq_runS (av := [.int p0, .int 0, .int 63]) C X (M_X10_within l bs D ct n h p0 0 63 _ hz1) mf_X10_within gw_122 (Or.inl gw_121) rfl hl.1 rfl (Nat.le_of_ble_eq_true rfl) ⟨by decide, by decide⟩ ⟨by decide, by decide⟩ dX10_isPlace_4) X (fun H locs X => ?_)
  exact jq_zret C X hr hlk he (by decide) (by decide) dX10_isPlace_7
set_option maxRecDepth 100000 in
set_option maxHeartbeats 4000000 in
theorem TX10_isWay_b14 {p : Program} {l : Launch} {e : Env} {s : State} {m : MethodId} {args : Array Value} {below : List Frame} {meth : Method} {c : Code} {D : va_G} {ct : Nat → ClassId} {bs : Nat} {res : Int32 × jq_H} {n : Nat} (C : jq_C p s m args c cX10_isWay 1 RX10 D ct bs) (hr : meth.sig.returnType = (some .boolean)) (hlk : meth.locks = false) {s0 : Int32} {h : jq_H} {H : Heap} {locs : List Loc} {ls : Array Slot} (X : jq_X bs D ct s.heap h H locs) (hl : lv_has ls 1 []) (he : X10_isWay_b14 n s0 h = some res) :
    W p l e rm_X10_isWay s m args below meth c H locs 0 0 (MQ below (jq_Qi bs D ct res) args s rm_X10_isWay.cells rm_X10_isWay.slots (fun q => bs ≤ q)) (F0 m 14 ls [.int s0]) := by
  unfold X10_isWay_b14 at he
  exact jq_zret C X hr hlk he (by decide) (by decide) dX10_isWay_14
set_option maxRecDepth 100000 in
set_option maxHeartbeats 4000000 in
theorem TX10_isWay_b9 {p : Program} {l : Launch} {e : Env} {s : State} {m : MethodId} {args : Array Value} {below : List Frame} {meth : Method} {c : Code} {D : va_G} {ct : Nat → ClassId} {bs : Nat} {res : Int32 × jq_H} {n : Nat} (C : jq_C p s m args c cX10_isWay 1 RX10 D ct bs) (hr : meth.sig.returnType = (some .boolean)) (hlk : meth.locks = false) {h : jq_H} {H : Heap} {locs : List Loc} {ls : Array Slot} (X : jq_X bs D ct s.heap h H locs) (hl : lv_has ls 1 []) (he : X10_isWay_b9 n h = some res) :
    W p l e rm_X10_isWay s m args below meth c H locs 0 0 (MQ below (jq_Qi bs D ct res) args s rm_X10_isWay.cells rm_X10_isWay.slots (fun q => bs ≤ q)) (F0 m 9 ls []) := by
  unfold X10_isWay_b9 at he
  refine lv_iconst (v := 1) C.1 C.2.1 dX10_isWay_9 (by decide) ?_
  refine lv_goto (tgt := 14) C.1 C.2.1 dX10_isWay_10 (by decide) ?_
  exact TX10_isWay_b14 (n := n) C hr hlk X (lv_sub hl [] rfl) he
set_option maxRecDepth 100000 in
set_option maxHeartbeats 4000000 in
theorem M_X10_isWay (l : Launch) (bs : Nat) (D : va_G) (ct : Nat → ClassId) (n : Nat) (h : jq_H) (p0 : Int32) (res : Int32 × jq_H) (he : X10_isWay n h p0 = some res) : jq_M l yX10_isWay cX10_isWay 1 (some .boolean) rm_X10_isWay (jq_P [.int p0] bs D ct h) (jq_Qi bs D ct res) bs := by
  refine jq_start2 (by decide +kernel) (Nat.le_of_ble_eq_true rfl) ?_
  intro p e s m args below meth c ls H locs C hr hlk hin hl X
  have C : jq_C p s m args c cX10_isWay 1 RX10 D ct bs := C
  have hin : meth.name = "isWay" := hin
  have hl : lv_has ls 1 [(0, .int p0)] := hl
  unfold X10_isWay at he
  refine lv_iload_n C.1 C.2.1 dX10_isWay_0 rfl (lv_at hl 0 rfl) ?_
  refine lv_if_eq (tgt := 9) C.1 C.2.1 dX10_isWay_1 (by decide) (fun hc1 => ?_) (fun hc1 => ?_)
  · have he := jq_t hc1 he
    exact TX10_isWay_b9 (n := n) C hr hlk X (lv_sub hl [] rfl) he
  · have he := jq_n hc1 he
    refine lv_iload_n C.1 C.2.1 dX10_isWay_4 rfl (lv_at hl 0 rfl) ?_
    refine lv_iconst (v := 1) C.1 C.2.1 dX10_isWay_5 (by decide) ?_
    refine lv_icmp_ne (tgt := 13) C.1 C.2.1 dX10_isWay_6 (by decide) (fun hc2 => ?_) (fun hc2 => ?_)
    · have he := jq_n hc2 he
      refine lv_iconst (v := 0) C.1 C.2.1 dX10_isWay_13 (by decide) ?_
      exact TX10_isWay_b14 (n := n) C hr hlk X (lv_sub hl [] rfl) he
    · have he := jq_t hc2 he
      exact TX10_isWay_b9 (n := n) C hr hlk X (lv_sub hl [] rfl) he
set_option maxRecDepth 100000 in
set_option maxHeartbeats 4000000 in
theorem M_X7_add (l : Launch) (bs : Nat) (D : va_G) (ct : Nat → ClassId) (n : Nat) (h : jq_H) (a : Nat) (p0 : Int32) (p1 : Int32) (res : jq_H) (he : X7_add n h a p0 p1 = some res) : jq_M l yX7_add cX7_add 3 none rm_X7_add (jq_P [.ref a, .int p0, .int p1] bs D ct h) (jq_Qv bs D ct res) bs := by
  refine jq_start2 (by decide +kernel) (Nat.le_of_ble_eq_true rfl) ?_
  intro p e s m args below meth c ls H locs C hr hlk hin hl X
  have C : jq_C p s m args c cX7_add 3 RX7 D ct bs := C
  have hin : meth.name = "add" := hin
  have hl : lv_has ls 3 [(0, .ref a), (1, .int p0), (2, .int p1)] := hl
  unfold X7_add at he
  refine lv_aload_n C.1 C.2.1 dX7_add_0 rfl (lv_at hl 0 rfl) ?_
  refine jq_rgI C X fs_X7_27 he dX7_add_1 (fun x1 he => ?_)
  refine lv_sipush (v := 3000) C.1 C.2.1 dX7_add_4 (by decide) ?_
  refine lv_icmp_lt (tgt := 11) C.1 C.2.1 dX7_add_7 (by decide) (fun hc2 => ?_) (fun hc2 => ?_)
  · have he := jq_t hc2 he
    refine lv_aload_n C.1 C.2.1 dX7_add_11 rfl (lv_at hl 0 rfl) ?_
    refine jq_rgR C X fs_X7_11 he dX7_add_12 (fun q3 he => ?_)
    refine lv_aload_n C.1 C.2.1 dX7_add_15 rfl (lv_at hl 0 rfl) ?_
    refine jq_rgI C X fs_X7_27 he dX7_add_16 (fun x4 he => ?_)
    refine lv_iconst (v := 2) C.1 C.2.1 dX7_add_19 (by decide) ?_
    refine lv_iload_n C.1 C.2.1 dX7_add_20 rfl (lv_at hl 1 rfl) ?_
    refine lv_imul C.1 C.2.1 dX7_add_21 ?_
    refine lv_iload_n C.1 C.2.1 dX7_add_22 rfl (lv_at hl 2 rfl) ?_
    refine lv_iadd C.1 C.2.1 dX7_add_23 ?_
    refine jq_rstI C X he dX7_add_24 (fun h5 H locs he X => ?_)
    refine lv_aload_n C.1 C.2.1 dX7_add_25 rfl (lv_at hl 0 rfl) ?_
    refine jq_rgR C X fs_X7_15 he dX7_add_26 (fun q6 he => ?_)
    refine lv_iconst (v := 2) C.1 C.2.1 dX7_add_29 (by decide) ?_
    refine lv_iload_n C.1 C.2.1 dX7_add_30 rfl (lv_at hl 1 rfl) ?_
    refine lv_imul C.1 C.2.1 dX7_add_31 ?_
    refine lv_iload_n C.1 C.2.1 dX7_add_32 rfl (lv_at hl 2 rfl) ?_
    refine lv_iadd C.1 C.2.1 dX7_add_33 ?_
    refine lv_dup2_11 C.1 C.2.1 dX7_add_34 rfl rfl ?_
    refine jq_rldI C X he dX7_add_35 (fun x7 he => ?_)
    refine lv_iconst (v := 1) C.1 C.2.1 dX7_add_36 (by decide) ?_
    refine lv_iadd C.1 C.2.1 dX7_add_37 ?_
    refine jq_rstI C X he dX7_add_38 (fun h8 H locs he X => ?_)
    refine lv_aload_n C.1 C.2.1 dX7_add_39 rfl (lv_at hl 0 rfl) ?_
    refine lv_dup C.1 C.2.1 dX7_add_40 rfl ?_
    refine jq_rgI C X fs_X7_27 he dX7_add_41 (fun x9 he => ?_)
    refine lv_iconst (v := 1) C.1 C.2.1 dX7_add_44 (by decide) ?_
    refine lv_iadd C.1 C.2.1 dX7_add_45 ?_
    refine jq_rp (ty := .int) C X fs_X7_27 (by decide +kernel) rfl rfl he dX7_add_46 (fun h10 H locs he X => ?_)
    exact jq_vret C X hr hlk he (by decide) (by decide) dX7_add_49
  · have he := jq_n hc2 he
    exact jq_vret C X hr hlk he (by decide) (by decide) dX7_add_10
set_option maxRecDepth 100000 in
set_option maxHeartbeats 4000000 in
theorem TX10_meet_b46 {p : Program} {l : Launch} {e : Env} {s : State} {m : MethodId} {args : Array Value} {below : List Frame} {meth : Method} {c : Code} {D : va_G} {ct : Nat → ClassId} {bs : Nat} {res : jq_H} {n : Nat} (C : jq_C p s m args c cX10_meet 4 RX10 D ct bs) (hr : meth.sig.returnType = none) (hlk : meth.locks = false) {h : jq_H} {H : Heap} {locs : List Loc} {ls : Array Slot} (X : jq_X bs D ct s.heap h H locs) (hl : lv_has ls 4 []) (he : X10_meet_b46 n h = some res) :
    W p l e rm_X10_meet s m args below meth c H locs 0 0 (MQ below (jq_Qv bs D ct res) args s rm_X10_meet.cells rm_X10_meet.slots (fun q => bs ≤ q)) (F0 m 46 ls []) := by
  unfold X10_meet_b46 at he
  exact jq_vret C X hr hlk he (by decide) (by decide) dX10_meet_46
set_option maxRecDepth 100000 in
set_option maxHeartbeats 4000000 in
theorem TX10_meet_b21 {p : Program} {l : Launch} {e : Env} {s : State} {m : MethodId} {args : Array Value} {below : List Frame} {meth : Method} {c : Code} {D : va_G} {ct : Nat → ClassId} {bs : Nat} {res : jq_H} {n : Nat} {KB : Nat → Int32 → Int32 → Int32 → jq_H → Option (jq_H)} {K46 : jq_H → Option (jq_H)} (C : jq_C p s m args c cX10_meet 4 RX10 D ct bs) (hr : meth.sig.returnType = none) (hlk : meth.locks = false) (hKB : ∀ (u0 : Nat) (u1 : Int32) (u2 : Int32) (u3 : Int32) (h1 : jq_H) (H1 : Heap) (locs1 : List Loc) (ls1 : Array Slot), KB u0 u1 u2 u3 h1 = some res → jq_X bs D ct s.heap h1 H1 locs1 → lv_has ls1 4 [(0, .ref u0), (1, .int u1), (2, .int u2), (3, .int u3)] → W p l e rm_X10_meet s m args below meth c H1 locs1 0 0 (MQ below (jq_Qv bs D ct res) args s rm_X10_meet.cells rm_X10_meet.slots (fun q => bs ≤ q)) (F0 m 21 ls1 [])) (hK46 : ∀ (h1 : jq_H) (H1 : Heap) (locs1 : List Loc) (ls1 : Array Slot), K46 h1 = some res → jq_X bs D ct s.heap h1 H1 locs1 → lv_has ls1 4 [] → W p l e rm_X10_meet s m args below meth c H1 locs1 0 0 (MQ below (jq_Qv bs D ct res) args s rm_X10_meet.cells rm_X10_meet.slots (fun q => bs ≤ q)) (F0 m 46 ls1 [])) {v0 : Nat} {v1 : Int32} {v2 : Int32} {v3 : Int32} {h : jq_H} {H : Heap} {locs : List Loc} {ls : Array Slot} (X : jq_X bs D ct s.heap h H locs) (hl : lv_has ls 4 [(0, .ref v0), (1, .int v1), (2, .int v2), (3, .int v3)]) (he : X10_meet_b21 n KB K46 v0 v1 v2 v3 h = some res) :
    W p l e rm_X10_meet s m args below meth c H locs 0 0 (MQ below (jq_Qv bs D ct res) args s rm_X10_meet.cells rm_X10_meet.slots (fun q => bs ≤ q)) (F0 m 21 ls []) := by
  unfold X10_meet_b21 at he
  refine lv_iload_n C.1 C.2.1 dX10_meet_21 rfl (lv_at hl 3 rfl) ?_
  refine lv_aload_n C.1 C.2.1 dX10_meet_22 rfl (lv_at hl 0 rfl) ?_
  refine jq_rgI C X fs_X10_92 he dX10_meet_23 (fun x1 he => ?_)
  refine lv_icmp_ge (tgt := 46) C.1 C.2.1 dX10_meet_26 (by decide) (fun hc2 => ?_) (fun hc2 => ?_)
  · have he := jq_t hc2 he
    exact hK46 _ _ _ _ he X (lv_sub hl [] rfl)
  · have he := jq_n hc2 he
    refine lv_aload_n C.1 C.2.1 dX10_meet_29 rfl (lv_at hl 0 rfl) ?_
    refine jq_rgR C X fs_X10_25 he dX10_meet_30 (fun q3 he => ?_)
    refine lv_iload_n C.1 C.2.1 dX10_meet_33 rfl (lv_at hl 3 rfl) ?_
    refine jq_rldN C X (Or.inl ⟨rfl, rfl⟩) he dX10_meet_34 (fun q4 he => ?_)
    refine lv_iload_n C.1 C.2.1 dX10_meet_35 rfl (lv_at hl 1 rfl) ?_
    refine lv_iload_n C.1 C.2.1 dX10_meet_36 rfl (lv_at hl 2 rfl) ?_
    obtain ⟨z5, hz5, he⟩ := jq_b he
    have hrun : va_Run p l e rm_X10_meet s m args below meth c H locs 0 0 0 0 (F0 m 37 ls [.int v2, .int v1, .ref q4]) [] (jq_Qv bs D ct z5 (Value.ref q4 :: [.int v1, .int v2]).toArray) (fun q => bs ≤ q) := by
      unfold V_meetBranch at hz5
      by_cases hci0 : jq_ci h q4 = 0
      · exact jq_runU (a := q4) (av := [.int v1, .int v2]) (x := ⟨"WayGuesses$Guesser", "meetBranch", "(II)V"⟩) (owner := "WayGuesses$Guesser") (E := RX0) C X (M_X3_meetBranch l bs D ct n h q4 v1 v2 _ (jq_t hci0 hz5)) mf_X3_meetBranch gw_178 gw_180 gw_177 gw_179 (Or.inl ⟨_, _, _, gw_178, gw_186⟩) rfl ⟨by decide, by decide⟩ rc_X0 hci0 (by decide) rfl hl.1 rfl (Nat.le_of_ble_eq_true rfl) ⟨by decide, by decide⟩ ⟨by decide, by decide⟩ dX10_meet_37
      have hz5 := jq_n hci0 hz5
      by_cases hci1 : jq_ci h q4 = 1
      · exact jq_runU (a := q4) (av := [.int v1, .int v2]) (x := ⟨"WayGuesses$Guesser", "meetBranch", "(II)V"⟩) (owner := "WayGuesses$Guesser") (E := RX1) C X (M_X3_meetBranch l bs D ct n h q4 v1 v2 _ (jq_t hci1 hz5)) mf_X3_meetBranch gw_178 gw_181 gw_177 gw_179 (Or.inl ⟨_, _, _, gw_178, gw_186⟩) rfl ⟨by decide, by decide⟩ rc_X1 hci1 (by decide) rfl hl.1 rfl (Nat.le_of_ble_eq_true rfl) ⟨by decide, by decide⟩ ⟨by decide, by decide⟩ dX10_meet_37
      have hz5 := jq_n hci1 hz5
      by_cases hci2 : jq_ci h q4 = 2
      · exact jq_runU (a := q4) (av := [.int v1, .int v2]) (x := ⟨"WayGuesses$Guesser", "meetBranch", "(II)V"⟩) (owner := "WayGuesses$Guesser") (E := RX2) C X (M_X3_meetBranch l bs D ct n h q4 v1 v2 _ (jq_t hci2 hz5)) mf_X3_meetBranch gw_178 gw_182 gw_177 gw_179 (Or.inl ⟨_, _, _, gw_178, gw_186⟩) rfl ⟨by decide, by decide⟩ rc_X2 hci2 (by decide) rfl hl.1 rfl (Nat.le_of_ble_eq_true rfl) ⟨by decide, by decide⟩ ⟨by decide, by decide⟩ dX10_meet_37
      have hz5 := jq_n hci2 hz5
      by_cases hci4 : jq_ci h q4 = 4
      · exact jq_runU (a := q4) (av := [.int v1, .int v2]) (x := ⟨"WayGuesses$Guesser", "meetBranch", "(II)V"⟩) (owner := "WayGuesses$Guesser") (E := RX5) C X (M_X3_meetBranch l bs D ct n h q4 v1 v2 _ (jq_t hci4 hz5)) mf_X3_meetBranch gw_178 gw_183 gw_177 gw_179 (Or.inl ⟨_, _, _, gw_178, gw_186⟩) rfl ⟨by decide, by decide⟩ rc_X5 hci4 (by decide) rfl hl.1 rfl (Nat.le_of_ble_eq_true rfl) ⟨by decide, by decide⟩ ⟨by decide, by decide⟩ dX10_meet_37
      have hz5 := jq_n hci4 hz5
      by_cases hci7 : jq_ci h q4 = 7
      · exact jq_runU (a := q4) (av := [.int v1, .int v2]) (x := ⟨"WayGuesses$Guesser", "meetBranch", "(II)V"⟩) (owner := "WayGuesses$Guesser") (E := RX8) C X (M_X3_meetBranch l bs D ct n h q4 v1 v2 _ (jq_t hci7 hz5)) mf_X3_meetBranch gw_178 gw_184 gw_177 gw_179 (Or.inl ⟨_, _, _, gw_178, gw_186⟩) rfl ⟨by decide, by decide⟩ rc_X8 hci7 (by decide) rfl hl.1 rfl (Nat.le_of_ble_eq_true rfl) ⟨by decide, by decide⟩ ⟨by decide, by decide⟩ dX10_meet_37
      have hz5 := jq_n hci7 hz5
      by_cases hci8 : jq_ci h q4 = 8
      · exact jq_runU (a := q4) (av := [.int v1, .int v2]) (x := ⟨"WayGuesses$Guesser", "meetBranch", "(II)V"⟩) (owner := "WayGuesses$Guesser") (E := RX9) C X (M_X3_meetBranch l bs D ct n h q4 v1 v2 _ (jq_t hci8 hz5)) mf_X3_meetBranch gw_178 gw_185 gw_177 gw_179 (Or.inl ⟨_, _, _, gw_178, gw_186⟩) rfl ⟨by decide, by decide⟩ rc_X9 hci8 (by decide) rfl hl.1 rfl (Nat.le_of_ble_eq_true rfl) ⟨by decide, by decide⟩ ⟨by decide, by decide⟩ dX10_meet_37
      have hz5 := jq_n hci8 hz5
      cases hz5
    refine jq_gv (hrun) X (fun H locs X => ?_)
    obtain ⟨x6, hx6, he⟩ := jq_ln he
    refine lv_iinc (v := x6) (lv' := [(3, .int x6), (0, .ref v0), (1, .int v1), (2, .int v2)]) C.1 C.2.1 dX10_meet_40 hl (k := 3) rfl (by rw [hx6]; rfl) (by decide) rfl (fun ls hl => ?_)
    refine lv_goto (tgt := 21) C.1 C.2.1 dX10_meet_43 (by decide) ?_
    exact hKB _ _ _ _ _ _ _ _ he X (lv_sub hl [1, 2, 3, 0] rfl)
set_option maxRecDepth 100000 in
set_option maxHeartbeats 4000000 in
theorem TX10_meet_l21 {p : Program} {l : Launch} {e : Env} {s : State} {m : MethodId} {args : Array Value} {below : List Frame} {meth : Method} {c : Code} {D : va_G} {ct : Nat → ClassId} {bs : Nat} {res : jq_H} {n : Nat} {K46 : jq_H → Option (jq_H)} (C : jq_C p s m args c cX10_meet 4 RX10 D ct bs) (hr : meth.sig.returnType = none) (hlk : meth.locks = false) (hK46 : ∀ (h1 : jq_H) (H1 : Heap) (locs1 : List Loc) (ls1 : Array Slot), K46 h1 = some res → jq_X bs D ct s.heap h1 H1 locs1 → lv_has ls1 4 [] → W p l e rm_X10_meet s m args below meth c H1 locs1 0 0 (MQ below (jq_Qv bs D ct res) args s rm_X10_meet.cells rm_X10_meet.slots (fun q => bs ≤ q)) (F0 m 46 ls1 [])) :
    ∀ (k : Nat) (v0 : Nat) (v1 : Int32) (v2 : Int32) (v3 : Int32) (h : jq_H) (H : Heap) (locs : List Loc) (ls : Array Slot), X10_meet_l21 n K46 k v0 v1 v2 v3 h = some res → jq_X bs D ct s.heap h H locs → lv_has ls 4 [(0, .ref v0), (1, .int v1), (2, .int v2), (3, .int v3)] → W p l e rm_X10_meet s m args below meth c H locs 0 0 (MQ below (jq_Qv bs D ct res) args s rm_X10_meet.cells rm_X10_meet.slots (fun q => bs ≤ q)) (F0 m 21 ls []) := by
  intro k
  induction k with
  | zero => intro v0 v1 v2 v3 h H locs ls he; cases (show (none : Option (jq_H)) = some res from he)
  | succ k ih =>
    intro v0 v1 v2 v3 h H locs ls he X hl
    exact TX10_meet_b21 (n := n) C hr hlk (KB := X10_meet_l21 n K46 k) ih hK46 X hl he
set_option maxRecDepth 100000 in
set_option maxHeartbeats 4000000 in
theorem M_X10_meet (l : Launch) (bs : Nat) (D : va_G) (ct : Nat → ClassId) (n : Nat) (h : jq_H) (a : Nat) (p0 : Int32) (p1 : Int32) (res : jq_H) (he : X10_meet n h a p0 p1 = some res) : jq_M l yX10_meet cX10_meet 4 none rm_X10_meet (jq_P [.ref a, .int p0, .int p1] bs D ct h) (jq_Qv bs D ct res) bs := by
  refine jq_start2 (by decide +kernel) (Nat.le_of_ble_eq_true rfl) ?_
  intro p e s m args below meth c ls H locs C hr hlk hin hl X
  have C : jq_C p s m args c cX10_meet 4 RX10 D ct bs := C
  have hin : meth.name = "meet" := hin
  have hl : lv_has ls 4 [(0, .ref a), (1, .int p0), (2, .int p1)] := hl
  unfold X10_meet at he
  refine lv_aload_n C.1 C.2.1 dX10_meet_0 rfl (lv_at hl 0 rfl) ?_
  refine lv_dup C.1 C.2.1 dX10_meet_1 rfl ?_
  refine jq_rgI C X fs_X10_72 he dX10_meet_2 (fun x7 he => ?_)
  refine lv_iconst (v := 1) C.1 C.2.1 dX10_meet_5 (by decide) ?_
  refine lv_iadd C.1 C.2.1 dX10_meet_6 ?_
  refine jq_rp (ty := .int) C X fs_X10_72 (by decide +kernel) rfl rfl he dX10_meet_7 (fun h8 H locs he X => ?_)
  refine lv_aload_n C.1 C.2.1 dX10_meet_10 rfl (lv_at hl 0 rfl) ?_
  refine jq_rgR C X fs_X10_19 he dX10_meet_11 (fun q9 he => ?_)
  refine lv_iload_n C.1 C.2.1 dX10_meet_14 rfl (lv_at hl 1 rfl) ?_
  refine lv_iload_n C.1 C.2.1 dX10_meet_15 rfl (lv_at hl 2 rfl) ?_
  obtain ⟨z10, hz10, he⟩ := jq_b he
  obtain ⟨hz10c, hz10⟩ := jq_ite hz10
  refine jq_gv (jq_runV (a := q9) (av := [.int p0, .int p1]) C X (M_X7_add l bs D ct n h8 q9 p0 p1 _ hz10) mf_X7_add gw_175 gs_4 (Or.inr ⟨_, gw_173⟩) rc_X7 hz10c (by decide) rfl hl.1 rfl (Nat.le_of_ble_eq_true rfl) ⟨by decide, by decide⟩ ⟨by decide, by decide⟩ dX10_meet_16) X (fun H locs X => ?_)
  refine lv_iconst (v := 0) C.1 C.2.1 dX10_meet_19 (by decide) ?_
  refine lv_istore_n (lv' := [(3, .int 0), (0, .ref a), (1, .int p0), (2, .int p1)]) C.1 C.2.1 dX10_meet_20 rfl hl (by decide) rfl (fun ls hl => ?_)
  exact TX10_meet_l21 (n := n) C hr hlk (fun  hh H locs ls he X hl => by
    exact TX10_meet_b46 (n := n) C hr hlk X hl he) n _ _ _ _ _ _ _ _ he X (lv_sub hl [1, 2, 3, 0] rfl)
set_option maxRecDepth 100000 in
set_option maxHeartbeats 4000000 in
theorem M_X10_branch (l : Launch) (bs : Nat) (D : va_G) (ct : Nat → ClassId) (n : Nat) (h : jq_H) (a : Nat) (p0 : Int32) (p1 : Int32) (res : Int32 × jq_H) (he : X10_branch n h a p0 p1 = some res) : jq_M l yX10_branch cX10_branch 3 (some .int) rm_X10_branch (jq_P [.ref a, .int p0, .int p1] bs D ct h) (jq_Qi bs D ct res) bs := by
  refine jq_start2 (by decide +kernel) (Nat.le_of_ble_eq_true rfl) ?_
  intro p e s m args below meth c ls H locs C hr hlk hin hl X
  have C : jq_C p s m args c cX10_branch 3 RX10 D ct bs := C
  have hin : meth.name = "branch" := hin
  have hl : lv_has ls 3 [(0, .ref a), (1, .int p0), (2, .int p1)] := hl
  unfold X10_branch at he
  refine lv_iload_n C.1 C.2.1 dX10_branch_0 rfl (lv_at hl 1 rfl) ?_
  obtain ⟨z1, hz1, he⟩ := jq_b he
  refine jq_gi (jq_runS (av := [.int p0]) C X (M_X10_isPlace l bs D ct n h p0 _ hz1) mf_X10_isPlace gw_119 (Or.inl gw_118) rfl hl.1 rfl (Nat.le_of_ble_eq_true rfl) ⟨by decide, by decide⟩ ⟨by decide, by decide⟩ dX10_branch_1) X (fun H locs X => ?_)
  refine lv_if_ne (tgt := 9) C.1 C.2.1 dX10_branch_4 (by decide) (fun hc2 => ?_) (fun hc2 => ?_)
  · have he := jq_n hc2 he
    refine lv_iload_n C.1 C.2.1 dX10_branch_9 rfl (lv_at hl 2 rfl) ?_
    obtain ⟨z3, hz3, he⟩ := jq_b he
    refine jq_gi (jq_runS (av := [.int p1]) C X (M_X10_isWay l bs D ct n z1.2 p1 _ hz3) mf_X10_isWay gw_330 (Or.inl gw_329) rfl hl.1 rfl (Nat.le_of_ble_eq_true rfl) ⟨by decide, by decide⟩ ⟨by decide, by decide⟩ dX10_branch_10) X (fun H locs X => ?_)
    refine lv_if_ne (tgt := 19) C.1 C.2.1 dX10_branch_13 (by decide) (fun hc4 => ?_) (fun hc4 => ?_)
    · have he := jq_n hc4 he
      refine lv_aload_n C.1 C.2.1 dX10_branch_19 rfl (lv_at hl 0 rfl) ?_
      refine lv_iload_n C.1 C.2.1 dX10_branch_20 rfl (lv_at hl 1 rfl) ?_
      refine lv_iload_n C.1 C.2.1 dX10_branch_21 rfl (lv_at hl 2 rfl) ?_
      obtain ⟨z5, hz5, he⟩ := jq_b he
      obtain ⟨hz5c, hz5⟩ := jq_ite hz5
      refine jq_gv (jq_runV (a := a) (av := [.int p0, .int p1]) C X (M_X10_meet l bs D ct n z3.2 a p0 p1 _ hz5) mf_X10_meet gw_171 gs_3 (Or.inl gw_169) rc_X10 hz5c (by decide) rfl hl.1 rfl (Nat.le_of_ble_eq_true rfl) ⟨by decide, by decide⟩ ⟨by decide, by decide⟩ dX10_branch_22) X (fun H locs X => ?_)
      refine lv_aload_n C.1 C.2.1 dX10_branch_25 rfl (lv_at hl 0 rfl) ?_
      refine jq_rgI C X fs_X10_72 he dX10_branch_26 (fun x6 he => ?_)
      exact jq_iret C X hr hlk he (by decide) (by decide) dX10_branch_29
    · have he := jq_t hc4 he
      refine lv_bipush (v := (-2)) C.1 C.2.1 dX10_branch_16 (by decide) ?_
      exact jq_iret C X hr hlk he (by decide) (by decide) dX10_branch_18
  · have he := jq_t hc2 he
    refine lv_iconst (v := (-1)) C.1 C.2.1 dX10_branch_7 (by decide) ?_
    exact jq_iret C X hr hlk he (by decide) (by decide) dX10_branch_8
set_option maxRecDepth 100000 in
set_option maxHeartbeats 4000000 in
theorem TX3_canClash_b16 {p : Program} {l : Launch} {e : Env} {s : State} {m : MethodId} {args : Array Value} {below : List Frame} {meth : Method} {c : Code} {D : va_G} {ct : Nat → ClassId} {bs : Nat} {res : Int32 × jq_H} {n : Nat} (C : jq_C p s m args c cX3_canClash 1 RX3 D ct bs) (hr : meth.sig.returnType = (some .boolean)) (hlk : meth.locks = false) {s0 : Int32} {h : jq_H} {H : Heap} {locs : List Loc} {ls : Array Slot} (X : jq_X bs D ct s.heap h H locs) (hl : lv_has ls 1 []) (he : X3_canClash_b16 n s0 h = some res) :
    W p l e rm_X3_canClash s m args below meth c H locs 0 0 (MQ below (jq_Qi bs D ct res) args s rm_X3_canClash.cells rm_X3_canClash.slots (fun q => bs ≤ q)) (F0 m 16 ls [.int s0]) := by
  unfold X3_canClash_b16 at he
  exact jq_zret C X hr hlk he (by decide) (by decide) dX3_canClash_16
set_option maxRecDepth 100000 in
set_option maxHeartbeats 4000000 in
theorem M_X3_canClash (l : Launch) (bs : Nat) (D : va_G) (ct : Nat → ClassId) (n : Nat) (h : jq_H) (a : Nat) (res : Int32 × jq_H) (he : X3_canClash n h a = some res) : jq_M l yX3_canClash cX3_canClash 1 (some .boolean) rm_X3_canClash (jq_P [.ref a] bs D ct h) (jq_Qi bs D ct res) bs := by
  refine jq_start2 (by decide +kernel) (Nat.le_of_ble_eq_true rfl) ?_
  intro p e s m args below meth c ls H locs C hr hlk hin hl X
  have C : jq_C p s m args c cX3_canClash 1 RX3 D ct bs := C
  have hin : meth.name = "canClash" := hin
  have hl : lv_has ls 1 [(0, .ref a)] := hl
  unfold X3_canClash at he
  refine lv_aload_n C.1 C.2.1 dX3_canClash_0 rfl (lv_at hl 0 rfl) ?_
  refine jq_rgR C X fs_X3_48 he dX3_canClash_1 (fun q1 he => ?_)
  refine jq_rgR C X fs_X3_55 he dX3_canClash_4 (fun q2 he => ?_)
  refine jq_rlen C X he dX3_canClash_7 (fun x3 he => ?_)
  refine lv_if_le (tgt := 15) C.1 C.2.1 dX3_canClash_8 (by decide) (fun hc4 => ?_) (fun hc4 => ?_)
  · have he := jq_t hc4 he
    refine lv_iconst (v := 0) C.1 C.2.1 dX3_canClash_15 (by decide) ?_
    exact TX3_canClash_b16 (n := n) C hr hlk X (lv_sub hl [] rfl) he
  · have he := jq_n hc4 he
    refine lv_iconst (v := 1) C.1 C.2.1 dX3_canClash_11 (by decide) ?_
    refine lv_goto (tgt := 16) C.1 C.2.1 dX3_canClash_12 (by decide) ?_
    exact TX3_canClash_b16 (n := n) C hr hlk X (lv_sub hl [] rfl) he
set_option maxRecDepth 100000 in
set_option maxHeartbeats 4000000 in
theorem TX10_clashes_b39 {p : Program} {l : Launch} {e : Env} {s : State} {m : MethodId} {args : Array Value} {below : List Frame} {meth : Method} {c : Code} {D : va_G} {ct : Nat → ClassId} {bs : Nat} {res : Int32 × jq_H} {n : Nat} (C : jq_C p s m args c cX10_clashes 2 RX10 D ct bs) (hr : meth.sig.returnType = (some .int)) (hlk : meth.locks = false) {s0 : Int32} {h : jq_H} {H : Heap} {locs : List Loc} {ls : Array Slot} (X : jq_X bs D ct s.heap h H locs) (hl : lv_has ls 2 []) (he : X10_clashes_b39 n s0 h = some res) :
    W p l e rm_X10_clashes s m args below meth c H locs 0 0 (MQ below (jq_Qi bs D ct res) args s rm_X10_clashes.cells rm_X10_clashes.slots (fun q => bs ≤ q)) (F0 m 39 ls [.int s0]) := by
  unfold X10_clashes_b39 at he
  exact jq_iret C X hr hlk he (by decide) (by decide) dX10_clashes_39
set_option maxRecDepth 100000 in
set_option maxHeartbeats 4000000 in
theorem M_X10_clashes (l : Launch) (bs : Nat) (D : va_G) (ct : Nat → ClassId) (n : Nat) (h : jq_H) (a : Nat) (p0 : Int32) (res : Int32 × jq_H) (he : X10_clashes n h a p0 = some res) : jq_M l yX10_clashes cX10_clashes 2 (some .int) rm_X10_clashes (jq_P [.ref a, .int p0] bs D ct h) (jq_Qi bs D ct res) bs := by
  refine jq_start2 (by decide +kernel) (Nat.le_of_ble_eq_true rfl) ?_
  intro p e s m args below meth c ls H locs C hr hlk hin hl X
  have C : jq_C p s m args c cX10_clashes 2 RX10 D ct bs := C
  have hin : meth.name = "clashes" := hin
  have hl : lv_has ls 2 [(0, .ref a), (1, .int p0)] := hl
  unfold X10_clashes at he
  refine lv_aload_n C.1 C.2.1 dX10_clashes_0 rfl (lv_at hl 0 rfl) ?_
  refine lv_iload_n C.1 C.2.1 dX10_clashes_1 rfl (lv_at hl 1 rfl) ?_
  obtain ⟨z1, hz1, he⟩ := jq_b he
  obtain ⟨hz1c, hz1⟩ := jq_ite hz1
  refine jq_gi (jq_runV (a := a) (av := [.int p0]) C X (M_X10_isGuesser l bs D ct n h a p0 _ hz1) mf_X10_isGuesser gw_350 gs_16 (Or.inl gw_348) rc_X10 hz1c (by decide) rfl hl.1 rfl (Nat.le_of_ble_eq_true rfl) ⟨by decide, by decide⟩ ⟨by decide, by decide⟩ dX10_clashes_2) X (fun H locs X => ?_)
  refine lv_if_ne (tgt := 10) C.1 C.2.1 dX10_clashes_5 (by decide) (fun hc2 => ?_) (fun hc2 => ?_)
  · have he := jq_n hc2 he
    refine lv_aload_n C.1 C.2.1 dX10_clashes_10 rfl (lv_at hl 0 rfl) ?_
    refine jq_rgR C X fs_X10_25 he dX10_clashes_11 (fun q3 he => ?_)
    refine lv_iload_n C.1 C.2.1 dX10_clashes_14 rfl (lv_at hl 1 rfl) ?_
    refine jq_rldN C X (Or.inl ⟨rfl, rfl⟩) he dX10_clashes_15 (fun q4 he => ?_)
    obtain ⟨z5, hz5, he⟩ := jq_b he
    have hrun : va_Run p l e rm_X10_clashes s m args below meth c H locs 0 0 0 0 (F0 m 16 ls [.ref q4]) [] (jq_Qi bs D ct z5 (Value.ref q4 :: []).toArray) (fun q => bs ≤ q) := by
      unfold V_canClash at hz5
      by_cases hci0 : jq_ci z1.2 q4 = 0
      · exact jq_runU (a := q4) (av := []) (x := ⟨"WayGuesses$Guesser", "canClash", "()Z"⟩) (owner := "WayGuesses$Guesser") (E := RX0) C X (M_X3_canClash l bs D ct n z1.2 q4 _ (jq_t hci0 hz5)) mf_X3_canClash gw_630 gw_632 gw_629 gw_631 (Or.inl ⟨_, _, _, gw_630, gw_638⟩) rfl ⟨by decide, by decide⟩ rc_X0 hci0 (by decide) rfl hl.1 rfl (Nat.le_of_ble_eq_true rfl) ⟨by decide, by decide⟩ ⟨by decide, by decide⟩ dX10_clashes_16
      have hz5 := jq_n hci0 hz5
      by_cases hci1 : jq_ci z1.2 q4 = 1
      · exact jq_runU (a := q4) (av := []) (x := ⟨"WayGuesses$Guesser", "canClash", "()Z"⟩) (owner := "WayGuesses$Guesser") (E := RX1) C X (M_X3_canClash l bs D ct n z1.2 q4 _ (jq_t hci1 hz5)) mf_X3_canClash gw_630 gw_633 gw_629 gw_631 (Or.inl ⟨_, _, _, gw_630, gw_638⟩) rfl ⟨by decide, by decide⟩ rc_X1 hci1 (by decide) rfl hl.1 rfl (Nat.le_of_ble_eq_true rfl) ⟨by decide, by decide⟩ ⟨by decide, by decide⟩ dX10_clashes_16
      have hz5 := jq_n hci1 hz5
      by_cases hci2 : jq_ci z1.2 q4 = 2
      · exact jq_runU (a := q4) (av := []) (x := ⟨"WayGuesses$Guesser", "canClash", "()Z"⟩) (owner := "WayGuesses$Guesser") (E := RX2) C X (M_X3_canClash l bs D ct n z1.2 q4 _ (jq_t hci2 hz5)) mf_X3_canClash gw_630 gw_634 gw_629 gw_631 (Or.inl ⟨_, _, _, gw_630, gw_638⟩) rfl ⟨by decide, by decide⟩ rc_X2 hci2 (by decide) rfl hl.1 rfl (Nat.le_of_ble_eq_true rfl) ⟨by decide, by decide⟩ ⟨by decide, by decide⟩ dX10_clashes_16
      have hz5 := jq_n hci2 hz5
      by_cases hci4 : jq_ci z1.2 q4 = 4
      · exact jq_runU (a := q4) (av := []) (x := ⟨"WayGuesses$Guesser", "canClash", "()Z"⟩) (owner := "WayGuesses$Guesser") (E := RX5) C X (M_X3_canClash l bs D ct n z1.2 q4 _ (jq_t hci4 hz5)) mf_X3_canClash gw_630 gw_635 gw_629 gw_631 (Or.inl ⟨_, _, _, gw_630, gw_638⟩) rfl ⟨by decide, by decide⟩ rc_X5 hci4 (by decide) rfl hl.1 rfl (Nat.le_of_ble_eq_true rfl) ⟨by decide, by decide⟩ ⟨by decide, by decide⟩ dX10_clashes_16
      have hz5 := jq_n hci4 hz5
      by_cases hci7 : jq_ci z1.2 q4 = 7
      · exact jq_runU (a := q4) (av := []) (x := ⟨"WayGuesses$Guesser", "canClash", "()Z"⟩) (owner := "WayGuesses$Guesser") (E := RX8) C X (M_X3_canClash l bs D ct n z1.2 q4 _ (jq_t hci7 hz5)) mf_X3_canClash gw_630 gw_636 gw_629 gw_631 (Or.inl ⟨_, _, _, gw_630, gw_638⟩) rfl ⟨by decide, by decide⟩ rc_X8 hci7 (by decide) rfl hl.1 rfl (Nat.le_of_ble_eq_true rfl) ⟨by decide, by decide⟩ ⟨by decide, by decide⟩ dX10_clashes_16
      have hz5 := jq_n hci7 hz5
      by_cases hci8 : jq_ci z1.2 q4 = 8
      · exact jq_runU (a := q4) (av := []) (x := ⟨"WayGuesses$Guesser", "canClash", "()Z"⟩) (owner := "WayGuesses$Guesser") (E := RX9) C X (M_X3_canClash l bs D ct n z1.2 q4 _ (jq_t hci8 hz5)) mf_X3_canClash gw_630 gw_637 gw_629 gw_631 (Or.inl ⟨_, _, _, gw_630, gw_638⟩) rfl ⟨by decide, by decide⟩ rc_X9 hci8 (by decide) rfl hl.1 rfl (Nat.le_of_ble_eq_true rfl) ⟨by decide, by decide⟩ ⟨by decide, by decide⟩ dX10_clashes_16
      have hz5 := jq_n hci8 hz5
      cases hz5
    refine jq_gi (hrun) X (fun H locs X => ?_)
    refine lv_if_eq (tgt := 37) C.1 C.2.1 dX10_clashes_19 (by decide) (fun hc6 => ?_) (fun hc6 => ?_)
    · have he := jq_t hc6 he
      refine lv_bipush (v := (-5)) C.1 C.2.1 dX10_clashes_37 (by decide) ?_
      exact TX10_clashes_b39 (n := n) C hr hlk X (lv_sub hl [] rfl) he
    · have he := jq_n hc6 he
      refine lv_aload_n C.1 C.2.1 dX10_clashes_22 rfl (lv_at hl 0 rfl) ?_
      refine jq_rgR C X fs_X10_25 he dX10_clashes_23 (fun q7 he => ?_)
      refine lv_iload_n C.1 C.2.1 dX10_clashes_26 rfl (lv_at hl 1 rfl) ?_
      refine jq_rldN C X (Or.inl ⟨rfl, rfl⟩) he dX10_clashes_27 (fun q8 he => ?_)
      refine jq_rgR C X fs_X10_112 he dX10_clashes_28 (fun q9 he => ?_)
      refine jq_rgI C X fs_X10_131 he dX10_clashes_31 (fun x10 he => ?_)
      refine lv_goto (tgt := 39) C.1 C.2.1 dX10_clashes_34 (by decide) ?_
      exact TX10_clashes_b39 (n := n) C hr hlk X (lv_sub hl [] rfl) he
  · have he := jq_t hc2 he
    refine lv_iconst (v := (-1)) C.1 C.2.1 dX10_clashes_8 (by decide) ?_
    exact jq_iret C X hr hlk he (by decide) (by decide) dX10_clashes_9
set_option maxRecDepth 100000 in
set_option maxHeartbeats 4000000 in
theorem M_X10_isData (l : Launch) (bs : Nat) (D : va_G) (ct : Nat → ClassId) (n : Nat) (h : jq_H) (p0 : Int32) (res : Int32 × jq_H) (he : X10_isData n h p0 = some res) : jq_M l yX10_isData cX10_isData 1 (some .boolean) rm_X10_isData (jq_P [.int p0] bs D ct h) (jq_Qi bs D ct res) bs := by
  refine jq_start2 (by decide +kernel) (Nat.le_of_ble_eq_true rfl) ?_
  intro p e s m args below meth c ls H locs C hr hlk hin hl X
  have C : jq_C p s m args c cX10_isData 1 RX10 D ct bs := C
  have hin : meth.name = "isData" := hin
  have hl : lv_has ls 1 [(0, .int p0)] := hl
  unfold X10_isData at he
  refine lv_iload_n C.1 C.2.1 dX10_isData_0 rfl (lv_at hl 0 rfl) ?_
  refine lv_iconst (v := 0) C.1 C.2.1 dX10_isData_1 (by decide) ?_
  refine lv_bipush (v := 31) C.1 C.2.1 dX10_isData_2 (by decide) ?_
  obtain ⟨z1, hz1, he⟩ := jq_b he
  refine jq_gi (jq_runS (av := [.int p0, .int 0, .int 31]) C X (M_X10_within l bs D ct n h p0 0 31 _ hz1) mf_X10_within gw_122 (Or.inl gw_121) rfl hl.1 rfl (Nat.le_of_ble_eq_true rfl) ⟨by decide, by decide⟩ ⟨by decide, by decide⟩ dX10_isData_4) X (fun H locs X => ?_)
  exact jq_zret C X hr hlk he (by decide) (by decide) dX10_isData_7
set_option maxRecDepth 100000 in
set_option maxHeartbeats 4000000 in
theorem M_X10_data (l : Launch) (bs : Nat) (D : va_G) (ct : Nat → ClassId) (n : Nat) (h : jq_H) (a : Nat) (p0 : Int32) (p1 : Int32) (res : Int32 × jq_H) (he : X10_data n h a p0 p1 = some res) : jq_M l yX10_data cX10_data 3 (some .int) rm_X10_data (jq_P [.ref a, .int p0, .int p1] bs D ct h) (jq_Qi bs D ct res) bs := by
  refine jq_start2 (by decide +kernel) (Nat.le_of_ble_eq_true rfl) ?_
  intro p e s m args below meth c ls H locs C hr hlk hin hl X
  have C : jq_C p s m args c cX10_data 3 RX10 D ct bs := C
  have hin : meth.name = "data" := hin
  have hl : lv_has ls 3 [(0, .ref a), (1, .int p0), (2, .int p1)] := hl
  unfold X10_data at he
  refine lv_iload_n C.1 C.2.1 dX10_data_0 rfl (lv_at hl 1 rfl) ?_
  obtain ⟨z1, hz1, he⟩ := jq_b he
  refine jq_gi (jq_runS (av := [.int p0]) C X (M_X10_isData l bs D ct n h p0 _ hz1) mf_X10_isData gw_144 (Or.inl gw_143) rfl hl.1 rfl (Nat.le_of_ble_eq_true rfl) ⟨by decide, by decide⟩ ⟨by decide, by decide⟩ dX10_data_1) X (fun H locs X => ?_)
  refine lv_if_ne (tgt := 10) C.1 C.2.1 dX10_data_4 (by decide) (fun hc2 => ?_) (fun hc2 => ?_)
  · have he := jq_n hc2 he
    refine lv_aload_n C.1 C.2.1 dX10_data_10 rfl (lv_at hl 0 rfl) ?_
    refine jq_rgR C X fs_X10_12 he dX10_data_11 (fun q3 he => ?_)
    refine jq_rgR C X fs_X10_54 he dX10_data_14 (fun q4 he => ?_)
    refine lv_iload_n C.1 C.2.1 dX10_data_17 rfl (lv_at hl 1 rfl) ?_
    refine lv_iload_n C.1 C.2.1 dX10_data_18 rfl (lv_at hl 2 rfl) ?_
    refine jq_rstI C X he dX10_data_19 (fun h5 H locs he X => ?_)
    refine lv_iconst (v := 1) C.1 C.2.1 dX10_data_20 (by decide) ?_
    exact jq_iret C X hr hlk he (by decide) (by decide) dX10_data_21
  · have he := jq_t hc2 he
    refine lv_bipush (v := (-2)) C.1 C.2.1 dX10_data_7 (by decide) ?_
    exact jq_iret C X hr hlk he (by decide) (by decide) dX10_data_9
set_option maxRecDepth 100000 in
set_option maxHeartbeats 4000000 in
theorem M_X7_clear (l : Launch) (bs : Nat) (D : va_G) (ct : Nat → ClassId) (n : Nat) (h : jq_H) (a : Nat) (res : jq_H) (he : X7_clear n h a = some res) : jq_M l yX7_clear cX7_clear 1 none rm_X7_clear (jq_P [.ref a] bs D ct h) (jq_Qv bs D ct res) bs := by
  refine jq_start2 (by decide +kernel) (Nat.le_of_ble_eq_true rfl) ?_
  intro p e s m args below meth c ls H locs C hr hlk hin hl X
  have C : jq_C p s m args c cX7_clear 1 RX7 D ct bs := C
  have hin : meth.name = "clear" := hin
  have hl : lv_has ls 1 [(0, .ref a)] := hl
  unfold X7_clear at he
  refine lv_aload_n C.1 C.2.1 dX7_clear_0 rfl (lv_at hl 0 rfl) ?_
  refine lv_iconst (v := 0) C.1 C.2.1 dX7_clear_1 (by decide) ?_
  refine jq_rp (ty := .int) C X fs_X7_27 (by decide +kernel) rfl rfl he dX7_clear_2 (fun h1 H locs he X => ?_)
  refine lv_aload_n C.1 C.2.1 dX7_clear_5 rfl (lv_at hl 0 rfl) ?_
  refine jq_rgR C X fs_X7_15 he dX7_clear_6 (fun q2 he => ?_)
  refine lv_iconst (v := 0) C.1 C.2.1 dX7_clear_9 (by decide) ?_
  obtain ⟨z3, hz3, he⟩ := jq_b he
  refine jq_gv (jq_runS (av := [.ref q2, .int 0]) C X (M_J7_fill_53178 l bs D ct n h1 q2 0 _ hz3) mf_J7_fill_53178 gw_371 (Or.inl gw_715) rfl hl.1 rfl (Nat.le_of_ble_eq_true rfl) ⟨by decide, by decide⟩ ⟨by decide, by decide⟩ dX7_clear_10) X (fun H locs X => ?_)
  exact jq_vret C X hr hlk he (by decide) (by decide) dX7_clear_13
set_option maxRecDepth 100000 in
set_option maxHeartbeats 4000000 in
theorem M_X10_empty (l : Launch) (bs : Nat) (D : va_G) (ct : Nat → ClassId) (n : Nat) (h : jq_H) (a : Nat) (res : Int32 × jq_H) (he : X10_empty n h a = some res) : jq_M l yX10_empty cX10_empty 2 (some .int) rm_X10_empty (jq_P [.ref a] bs D ct h) (jq_Qi bs D ct res) bs := by
  refine jq_start2 (by decide +kernel) (Nat.le_of_ble_eq_true rfl) ?_
  intro p e s m args below meth c ls H locs C hr hlk hin hl X
  have C : jq_C p s m args c cX10_empty 2 RX10 D ct bs := C
  have hin : meth.name = "empty" := hin
  have hl : lv_has ls 2 [(0, .ref a)] := hl
  unfold X10_empty at he
  refine lv_aload_n C.1 C.2.1 dX10_empty_0 rfl (lv_at hl 0 rfl) ?_
  refine jq_rgR C X fs_X10_19 he dX10_empty_1 (fun q1 he => ?_)
  refine jq_rgI C X fs_X10_75 he dX10_empty_4 (fun x2 he => ?_)
  refine lv_istore_n (lv' := [(1, .int x2), (0, .ref a)]) C.1 C.2.1 dX10_empty_7 rfl hl (by decide) rfl (fun ls hl => ?_)
  refine lv_aload_n C.1 C.2.1 dX10_empty_8 rfl (lv_at hl 1 rfl) ?_
  refine jq_rgR C X fs_X10_19 he dX10_empty_9 (fun q3 he => ?_)
  obtain ⟨z4, hz4, he⟩ := jq_b he
  obtain ⟨hz4c, hz4⟩ := jq_ite hz4
  refine jq_gv (jq_runV (a := q3) (av := []) C X (M_X7_clear l bs D ct n h q3 _ hz4) mf_X7_clear gw_748 gs_25 (Or.inr ⟨_, gw_746⟩) rc_X7 hz4c (by decide) rfl hl.1 rfl (Nat.le_of_ble_eq_true rfl) ⟨by decide, by decide⟩ ⟨by decide, by decide⟩ dX10_empty_12) X (fun H locs X => ?_)
  refine lv_iload_n C.1 C.2.1 dX10_empty_15 rfl (lv_at hl 0 rfl) ?_
  exact jq_iret C X hr hlk he (by decide) (by decide) dX10_empty_16
set_option maxRecDepth 100000 in
set_option maxHeartbeats 4000000 in
theorem TX10_fits_b183 {p : Program} {l : Launch} {e : Env} {s : State} {m : MethodId} {args : Array Value} {below : List Frame} {meth : Method} {c : Code} {D : va_G} {ct : Nat → ClassId} {bs : Nat} {res : Int32 × jq_H} {n : Nat} (C : jq_C p s m args c cX10_fits 4 RX10 D ct bs) (hr : meth.sig.returnType = (some .boolean)) (hlk : meth.locks = false) {s0 : Int32} {h : jq_H} {H : Heap} {locs : List Loc} {ls : Array Slot} (X : jq_X bs D ct s.heap h H locs) (hl : lv_has ls 4 []) (he : X10_fits_b183 n s0 h = some res) :
    W p l e rm_X10_fits s m args below meth c H locs 0 0 (MQ below (jq_Qi bs D ct res) args s rm_X10_fits.cells rm_X10_fits.slots (fun q => bs ≤ q)) (F0 m 183 ls [.int s0]) := by
  unfold X10_fits_b183 at he
  exact jq_zret C X hr hlk he (by decide) (by decide) dX10_fits_183
set_option maxRecDepth 100000 in
set_option maxHeartbeats 4000000 in
theorem TX10_fits_b182 {p : Program} {l : Launch} {e : Env} {s : State} {m : MethodId} {args : Array Value} {below : List Frame} {meth : Method} {c : Code} {D : va_G} {ct : Nat → ClassId} {bs : Nat} {res : Int32 × jq_H} {n : Nat} (C : jq_C p s m args c cX10_fits 4 RX10 D ct bs) (hr : meth.sig.returnType = (some .boolean)) (hlk : meth.locks = false) {h : jq_H} {H : Heap} {locs : List Loc} {ls : Array Slot} (X : jq_X bs D ct s.heap h H locs) (hl : lv_has ls 4 []) (he : X10_fits_b182 n h = some res) :
    W p l e rm_X10_fits s m args below meth c H locs 0 0 (MQ below (jq_Qi bs D ct res) args s rm_X10_fits.cells rm_X10_fits.slots (fun q => bs ≤ q)) (F0 m 182 ls []) := by
  unfold X10_fits_b182 at he
  refine lv_iconst (v := 0) C.1 C.2.1 dX10_fits_182 (by decide) ?_
  exact TX10_fits_b183 (n := n) C hr hlk X (lv_sub hl [] rfl) he
set_option maxRecDepth 100000 in
set_option maxHeartbeats 4000000 in
theorem TX10_fits_b148 {p : Program} {l : Launch} {e : Env} {s : State} {m : MethodId} {args : Array Value} {below : List Frame} {meth : Method} {c : Code} {D : va_G} {ct : Nat → ClassId} {bs : Nat} {res : Int32 × jq_H} {n : Nat} (C : jq_C p s m args c cX10_fits 4 RX10 D ct bs) (hr : meth.sig.returnType = (some .boolean)) (hlk : meth.locks = false) {s0 : Int32} {h : jq_H} {H : Heap} {locs : List Loc} {ls : Array Slot} (X : jq_X bs D ct s.heap h H locs) (hl : lv_has ls 4 []) (he : X10_fits_b148 n s0 h = some res) :
    W p l e rm_X10_fits s m args below meth c H locs 0 0 (MQ below (jq_Qi bs D ct res) args s rm_X10_fits.cells rm_X10_fits.slots (fun q => bs ≤ q)) (F0 m 148 ls [.int s0]) := by
  unfold X10_fits_b148 at he
  exact jq_zret C X hr hlk he (by decide) (by decide) dX10_fits_148
set_option maxRecDepth 100000 in
set_option maxHeartbeats 4000000 in
theorem TX10_fits_b147 {p : Program} {l : Launch} {e : Env} {s : State} {m : MethodId} {args : Array Value} {below : List Frame} {meth : Method} {c : Code} {D : va_G} {ct : Nat → ClassId} {bs : Nat} {res : Int32 × jq_H} {n : Nat} (C : jq_C p s m args c cX10_fits 4 RX10 D ct bs) (hr : meth.sig.returnType = (some .boolean)) (hlk : meth.locks = false) {h : jq_H} {H : Heap} {locs : List Loc} {ls : Array Slot} (X : jq_X bs D ct s.heap h H locs) (hl : lv_has ls 4 []) (he : X10_fits_b147 n h = some res) :
    W p l e rm_X10_fits s m args below meth c H locs 0 0 (MQ below (jq_Qi bs D ct res) args s rm_X10_fits.cells rm_X10_fits.slots (fun q => bs ≤ q)) (F0 m 147 ls []) := by
  unfold X10_fits_b147 at he
  refine lv_iconst (v := 0) C.1 C.2.1 dX10_fits_147 (by decide) ?_
  exact TX10_fits_b148 (n := n) C hr hlk X (lv_sub hl [] rfl) he
set_option maxRecDepth 100000 in
set_option maxHeartbeats 4000000 in
theorem TX10_fits_b123 {p : Program} {l : Launch} {e : Env} {s : State} {m : MethodId} {args : Array Value} {below : List Frame} {meth : Method} {c : Code} {D : va_G} {ct : Nat → ClassId} {bs : Nat} {res : Int32 × jq_H} {n : Nat} (C : jq_C p s m args c cX10_fits 4 RX10 D ct bs) (hr : meth.sig.returnType = (some .boolean)) (hlk : meth.locks = false) {s0 : Int32} {h : jq_H} {H : Heap} {locs : List Loc} {ls : Array Slot} (X : jq_X bs D ct s.heap h H locs) (hl : lv_has ls 4 []) (he : X10_fits_b123 n s0 h = some res) :
    W p l e rm_X10_fits s m args below meth c H locs 0 0 (MQ below (jq_Qi bs D ct res) args s rm_X10_fits.cells rm_X10_fits.slots (fun q => bs ≤ q)) (F0 m 123 ls [.int s0]) := by
  unfold X10_fits_b123 at he
  exact jq_zret C X hr hlk he (by decide) (by decide) dX10_fits_123
set_option maxRecDepth 100000 in
set_option maxHeartbeats 4000000 in
theorem TX10_fits_b122 {p : Program} {l : Launch} {e : Env} {s : State} {m : MethodId} {args : Array Value} {below : List Frame} {meth : Method} {c : Code} {D : va_G} {ct : Nat → ClassId} {bs : Nat} {res : Int32 × jq_H} {n : Nat} (C : jq_C p s m args c cX10_fits 4 RX10 D ct bs) (hr : meth.sig.returnType = (some .boolean)) (hlk : meth.locks = false) {h : jq_H} {H : Heap} {locs : List Loc} {ls : Array Slot} (X : jq_X bs D ct s.heap h H locs) (hl : lv_has ls 4 []) (he : X10_fits_b122 n h = some res) :
    W p l e rm_X10_fits s m args below meth c H locs 0 0 (MQ below (jq_Qi bs D ct res) args s rm_X10_fits.cells rm_X10_fits.slots (fun q => bs ≤ q)) (F0 m 122 ls []) := by
  unfold X10_fits_b122 at he
  refine lv_iconst (v := 0) C.1 C.2.1 dX10_fits_122 (by decide) ?_
  exact TX10_fits_b123 (n := n) C hr hlk X (lv_sub hl [] rfl) he
set_option maxRecDepth 100000 in
set_option maxHeartbeats 4000000 in
theorem TX10_fits_b88 {p : Program} {l : Launch} {e : Env} {s : State} {m : MethodId} {args : Array Value} {below : List Frame} {meth : Method} {c : Code} {D : va_G} {ct : Nat → ClassId} {bs : Nat} {res : Int32 × jq_H} {n : Nat} (C : jq_C p s m args c cX10_fits 4 RX10 D ct bs) (hr : meth.sig.returnType = (some .boolean)) (hlk : meth.locks = false) {s0 : Int32} {h : jq_H} {H : Heap} {locs : List Loc} {ls : Array Slot} (X : jq_X bs D ct s.heap h H locs) (hl : lv_has ls 4 []) (he : X10_fits_b88 n s0 h = some res) :
    W p l e rm_X10_fits s m args below meth c H locs 0 0 (MQ below (jq_Qi bs D ct res) args s rm_X10_fits.cells rm_X10_fits.slots (fun q => bs ≤ q)) (F0 m 88 ls [.int s0]) := by
  unfold X10_fits_b88 at he
  exact jq_zret C X hr hlk he (by decide) (by decide) dX10_fits_88
set_option maxRecDepth 100000 in
set_option maxHeartbeats 4000000 in
theorem TX10_fits_b87 {p : Program} {l : Launch} {e : Env} {s : State} {m : MethodId} {args : Array Value} {below : List Frame} {meth : Method} {c : Code} {D : va_G} {ct : Nat → ClassId} {bs : Nat} {res : Int32 × jq_H} {n : Nat} (C : jq_C p s m args c cX10_fits 4 RX10 D ct bs) (hr : meth.sig.returnType = (some .boolean)) (hlk : meth.locks = false) {h : jq_H} {H : Heap} {locs : List Loc} {ls : Array Slot} (X : jq_X bs D ct s.heap h H locs) (hl : lv_has ls 4 []) (he : X10_fits_b87 n h = some res) :
    W p l e rm_X10_fits s m args below meth c H locs 0 0 (MQ below (jq_Qi bs D ct res) args s rm_X10_fits.cells rm_X10_fits.slots (fun q => bs ≤ q)) (F0 m 87 ls []) := by
  unfold X10_fits_b87 at he
  refine lv_iconst (v := 0) C.1 C.2.1 dX10_fits_87 (by decide) ?_
  exact TX10_fits_b88 (n := n) C hr hlk X (lv_sub hl [] rfl) he
set_option maxRecDepth 100000 in
set_option maxHeartbeats 4000000 in
theorem M_X10_fits (l : Launch) (bs : Nat) (D : va_G) (ct : Nat → ClassId) (n : Nat) (h : jq_H) (p0 : Int32) (p1 : Int32) (p2 : Int32) (p3 : Int32) (res : Int32 × jq_H) (he : X10_fits n h p0 p1 p2 p3 = some res) : jq_M l yX10_fits cX10_fits 4 (some .boolean) rm_X10_fits (jq_P [.int p0, .int p1, .int p2, .int p3] bs D ct h) (jq_Qi bs D ct res) bs := by
  refine jq_start2 (by decide +kernel) (Nat.le_of_ble_eq_true rfl) ?_
  intro p e s m args below meth c ls H locs C hr hlk hin hl X
  have C : jq_C p s m args c cX10_fits 4 RX10 D ct bs := C
  have hin : meth.name = "fits" := hin
  have hl : lv_has ls 4 [(0, .int p0), (1, .int p1), (2, .int p2), (3, .int p3)] := hl
  unfold X10_fits at he
  refine lv_iload_n C.1 C.2.1 dX10_fits_0 rfl (lv_at hl 0 rfl) ?_
  by_cases hc2 : p0 = 0
  · have he := jq_t hc2 he
    refine lv_tableIn (tgt := 48) C.1 C.2.1 dX10_fits_1 (by rw [hc2]; decide) (by rw [hc2]; decide) (by rw [hc2]; rfl) (by decide) ?_
    refine lv_iload_n C.1 C.2.1 dX10_fits_48 rfl (lv_at hl 1 rfl) ?_
    refine lv_iconst (v := 0) C.1 C.2.1 dX10_fits_49 (by decide) ?_
    refine lv_iconst (v := 2) C.1 C.2.1 dX10_fits_50 (by decide) ?_
    obtain ⟨z1, hz1, he⟩ := jq_b he
    refine jq_gi (jq_runS (av := [.int p1, .int 0, .int 2]) C X (M_X10_within l bs D ct n h p1 0 2 _ hz1) mf_X10_within gw_122 (Or.inl gw_121) rfl hl.1 rfl (Nat.le_of_ble_eq_true rfl) ⟨by decide, by decide⟩ ⟨by decide, by decide⟩ dX10_fits_51) X (fun H locs X => ?_)
    exact jq_zret C X hr hlk he (by decide) (by decide) dX10_fits_54
  have he := jq_n hc2 he
  by_cases hc4 : p0 = 1
  · have he := jq_t hc4 he
    refine lv_tableIn (tgt := 55) C.1 C.2.1 dX10_fits_1 (by rw [hc4]; decide) (by rw [hc4]; decide) (by rw [hc4]; rfl) (by decide) ?_
    refine lv_iload_n C.1 C.2.1 dX10_fits_55 rfl (lv_at hl 1 rfl) ?_
    refine lv_iconst (v := 0) C.1 C.2.1 dX10_fits_56 (by decide) ?_
    refine lv_bipush (v := 6) C.1 C.2.1 dX10_fits_57 (by decide) ?_
    obtain ⟨z3, hz3, he⟩ := jq_b he
    refine jq_gi (jq_runS (av := [.int p1, .int 0, .int 6]) C X (M_X10_within l bs D ct n h p1 0 6 _ hz3) mf_X10_within gw_122 (Or.inl gw_121) rfl hl.1 rfl (Nat.le_of_ble_eq_true rfl) ⟨by decide, by decide⟩ ⟨by decide, by decide⟩ dX10_fits_59) X (fun H locs X => ?_)
    exact jq_zret C X hr hlk he (by decide) (by decide) dX10_fits_62
  have he := jq_n hc4 he
  by_cases hc9 : p0 = 2
  · have he := jq_t hc9 he
    refine lv_tableIn (tgt := 63) C.1 C.2.1 dX10_fits_1 (by rw [hc9]; decide) (by rw [hc9]; decide) (by rw [hc9]; rfl) (by decide) ?_
    refine lv_iload_n C.1 C.2.1 dX10_fits_63 rfl (lv_at hl 1 rfl) ?_
    refine lv_iconst (v := 0) C.1 C.2.1 dX10_fits_64 (by decide) ?_
    refine lv_bipush (v := 8) C.1 C.2.1 dX10_fits_65 (by decide) ?_
    obtain ⟨z5, hz5, he⟩ := jq_b he
    refine jq_gi (jq_runS (av := [.int p1, .int 0, .int 8]) C X (M_X10_within l bs D ct n h p1 0 8 _ hz5) mf_X10_within gw_122 (Or.inl gw_121) rfl hl.1 rfl (Nat.le_of_ble_eq_true rfl) ⟨by decide, by decide⟩ ⟨by decide, by decide⟩ dX10_fits_67) X (fun H locs X => ?_)
    refine lv_if_eq (tgt := 87) C.1 C.2.1 dX10_fits_70 (by decide) (fun hc6 => ?_) (fun hc6 => ?_)
    · have he := jq_t hc6 he
      exact TX10_fits_b87 (n := n) C hr hlk X (lv_sub hl [] rfl) he
    · have he := jq_n hc6 he
      refine lv_iload_n C.1 C.2.1 dX10_fits_73 rfl (lv_at hl 2 rfl) ?_
      refine lv_iconst (v := 0) C.1 C.2.1 dX10_fits_74 (by decide) ?_
      refine lv_bipush (v := 8) C.1 C.2.1 dX10_fits_75 (by decide) ?_
      obtain ⟨z7, hz7, he⟩ := jq_b he
      refine jq_gi (jq_runS (av := [.int p2, .int 0, .int 8]) C X (M_X10_within l bs D ct n z5.2 p2 0 8 _ hz7) mf_X10_within gw_122 (Or.inl gw_121) rfl hl.1 rfl (Nat.le_of_ble_eq_true rfl) ⟨by decide, by decide⟩ ⟨by decide, by decide⟩ dX10_fits_77) X (fun H locs X => ?_)
      refine lv_if_eq (tgt := 87) C.1 C.2.1 dX10_fits_80 (by decide) (fun hc8 => ?_) (fun hc8 => ?_)
      · have he := jq_t hc8 he
        exact TX10_fits_b87 (n := n) C hr hlk X (lv_sub hl [] rfl) he
      · have he := jq_n hc8 he
        refine lv_iconst (v := 1) C.1 C.2.1 dX10_fits_83 (by decide) ?_
        refine lv_goto (tgt := 88) C.1 C.2.1 dX10_fits_84 (by decide) ?_
        exact TX10_fits_b88 (n := n) C hr hlk X (lv_sub hl [] rfl) he
  have he := jq_n hc9 he
  by_cases hc16 : p0 = 3
  · have he := jq_t hc16 he
    refine lv_tableIn (tgt := 89) C.1 C.2.1 dX10_fits_1 (by rw [hc16]; decide) (by rw [hc16]; decide) (by rw [hc16]; rfl) (by decide) ?_
    refine lv_iload_n C.1 C.2.1 dX10_fits_89 rfl (lv_at hl 1 rfl) ?_
    refine lv_iconst (v := 0) C.1 C.2.1 dX10_fits_90 (by decide) ?_
    refine lv_bipush (v := 8) C.1 C.2.1 dX10_fits_91 (by decide) ?_
    obtain ⟨z10, hz10, he⟩ := jq_b he
    refine jq_gi (jq_runS (av := [.int p1, .int 0, .int 8]) C X (M_X10_within l bs D ct n h p1 0 8 _ hz10) mf_X10_within gw_122 (Or.inl gw_121) rfl hl.1 rfl (Nat.le_of_ble_eq_true rfl) ⟨by decide, by decide⟩ ⟨by decide, by decide⟩ dX10_fits_93) X (fun H locs X => ?_)
    refine lv_if_eq (tgt := 122) C.1 C.2.1 dX10_fits_96 (by decide) (fun hc11 => ?_) (fun hc11 => ?_)
    · have he := jq_t hc11 he
      exact TX10_fits_b122 (n := n) C hr hlk X (lv_sub hl [] rfl) he
    · have he := jq_n hc11 he
      refine lv_iload_n C.1 C.2.1 dX10_fits_99 rfl (lv_at hl 2 rfl) ?_
      refine lv_iconst (v := 0) C.1 C.2.1 dX10_fits_100 (by decide) ?_
      refine lv_bipush (v := 8) C.1 C.2.1 dX10_fits_101 (by decide) ?_
      obtain ⟨z12, hz12, he⟩ := jq_b he
      refine jq_gi (jq_runS (av := [.int p2, .int 0, .int 8]) C X (M_X10_within l bs D ct n z10.2 p2 0 8 _ hz12) mf_X10_within gw_122 (Or.inl gw_121) rfl hl.1 rfl (Nat.le_of_ble_eq_true rfl) ⟨by decide, by decide⟩ ⟨by decide, by decide⟩ dX10_fits_103) X (fun H locs X => ?_)
      refine lv_if_eq (tgt := 122) C.1 C.2.1 dX10_fits_106 (by decide) (fun hc13 => ?_) (fun hc13 => ?_)
      · have he := jq_t hc13 he
        exact TX10_fits_b122 (n := n) C hr hlk X (lv_sub hl [] rfl) he
      · have he := jq_n hc13 he
        refine lv_iload_n C.1 C.2.1 dX10_fits_109 rfl (lv_at hl 3 rfl) ?_
        refine lv_iconst (v := 0) C.1 C.2.1 dX10_fits_110 (by decide) ?_
        refine lv_iconst (v := 1) C.1 C.2.1 dX10_fits_111 (by decide) ?_
        obtain ⟨z14, hz14, he⟩ := jq_b he
        refine jq_gi (jq_runS (av := [.int p3, .int 0, .int 1]) C X (M_X10_within l bs D ct n z12.2 p3 0 1 _ hz14) mf_X10_within gw_122 (Or.inl gw_121) rfl hl.1 rfl (Nat.le_of_ble_eq_true rfl) ⟨by decide, by decide⟩ ⟨by decide, by decide⟩ dX10_fits_112) X (fun H locs X => ?_)
        refine lv_if_eq (tgt := 122) C.1 C.2.1 dX10_fits_115 (by decide) (fun hc15 => ?_) (fun hc15 => ?_)
        · have he := jq_t hc15 he
          exact TX10_fits_b122 (n := n) C hr hlk X (lv_sub hl [] rfl) he
        · have he := jq_n hc15 he
          refine lv_iconst (v := 1) C.1 C.2.1 dX10_fits_118 (by decide) ?_
          refine lv_goto (tgt := 123) C.1 C.2.1 dX10_fits_119 (by decide) ?_
          exact TX10_fits_b123 (n := n) C hr hlk X (lv_sub hl [] rfl) he
  have he := jq_n hc16 he
  by_cases hc21 : p0 = 4
  · have he := jq_t hc21 he
    refine lv_tableIn (tgt := 124) C.1 C.2.1 dX10_fits_1 (by rw [hc21]; decide) (by rw [hc21]; decide) (by rw [hc21]; rfl) (by decide) ?_
    refine lv_iload_n C.1 C.2.1 dX10_fits_124 rfl (lv_at hl 1 rfl) ?_
    refine lv_iconst (v := 1) C.1 C.2.1 dX10_fits_125 (by decide) ?_
    refine lv_bipush (v := 7) C.1 C.2.1 dX10_fits_126 (by decide) ?_
    obtain ⟨z17, hz17, he⟩ := jq_b he
    refine jq_gi (jq_runS (av := [.int p1, .int 1, .int 7]) C X (M_X10_within l bs D ct n h p1 1 7 _ hz17) mf_X10_within gw_122 (Or.inl gw_121) rfl hl.1 rfl (Nat.le_of_ble_eq_true rfl) ⟨by decide, by decide⟩ ⟨by decide, by decide⟩ dX10_fits_128) X (fun H locs X => ?_)
    refine lv_if_eq (tgt := 147) C.1 C.2.1 dX10_fits_131 (by decide) (fun hc18 => ?_) (fun hc18 => ?_)
    · have he := jq_t hc18 he
      exact TX10_fits_b147 (n := n) C hr hlk X (lv_sub hl [] rfl) he
    · have he := jq_n hc18 he
      refine lv_iload_n C.1 C.2.1 dX10_fits_134 rfl (lv_at hl 2 rfl) ?_
      refine lv_iconst (v := 1) C.1 C.2.1 dX10_fits_135 (by decide) ?_
      refine lv_iconst (v := 4) C.1 C.2.1 dX10_fits_136 (by decide) ?_
      obtain ⟨z19, hz19, he⟩ := jq_b he
      refine jq_gi (jq_runS (av := [.int p2, .int 1, .int 4]) C X (M_X10_within l bs D ct n z17.2 p2 1 4 _ hz19) mf_X10_within gw_122 (Or.inl gw_121) rfl hl.1 rfl (Nat.le_of_ble_eq_true rfl) ⟨by decide, by decide⟩ ⟨by decide, by decide⟩ dX10_fits_137) X (fun H locs X => ?_)
      refine lv_if_eq (tgt := 147) C.1 C.2.1 dX10_fits_140 (by decide) (fun hc20 => ?_) (fun hc20 => ?_)
      · have he := jq_t hc20 he
        exact TX10_fits_b147 (n := n) C hr hlk X (lv_sub hl [] rfl) he
      · have he := jq_n hc20 he
        refine lv_iconst (v := 1) C.1 C.2.1 dX10_fits_143 (by decide) ?_
        refine lv_goto (tgt := 148) C.1 C.2.1 dX10_fits_144 (by decide) ?_
        exact TX10_fits_b148 (n := n) C hr hlk X (lv_sub hl [] rfl) he
  have he := jq_n hc21 he
  by_cases hc28 : p0 = 5
  · have he := jq_t hc28 he
    refine lv_tableIn (tgt := 149) C.1 C.2.1 dX10_fits_1 (by rw [hc28]; decide) (by rw [hc28]; decide) (by rw [hc28]; rfl) (by decide) ?_
    refine lv_iload_n C.1 C.2.1 dX10_fits_149 rfl (lv_at hl 1 rfl) ?_
    refine lv_iconst (v := 0) C.1 C.2.1 dX10_fits_150 (by decide) ?_
    refine lv_iconst (v := 4) C.1 C.2.1 dX10_fits_151 (by decide) ?_
    obtain ⟨z22, hz22, he⟩ := jq_b he
    refine jq_gi (jq_runS (av := [.int p1, .int 0, .int 4]) C X (M_X10_within l bs D ct n h p1 0 4 _ hz22) mf_X10_within gw_122 (Or.inl gw_121) rfl hl.1 rfl (Nat.le_of_ble_eq_true rfl) ⟨by decide, by decide⟩ ⟨by decide, by decide⟩ dX10_fits_152) X (fun H locs X => ?_)
    refine lv_if_eq (tgt := 182) C.1 C.2.1 dX10_fits_155 (by decide) (fun hc23 => ?_) (fun hc23 => ?_)
    · have he := jq_t hc23 he
      exact TX10_fits_b182 (n := n) C hr hlk X (lv_sub hl [] rfl) he
    · have he := jq_n hc23 he
      refine lv_iload_n C.1 C.2.1 dX10_fits_158 rfl (lv_at hl 2 rfl) ?_
      refine lv_iconst (v := 1) C.1 C.2.1 dX10_fits_159 (by decide) ?_
      refine lv_bipush (v := 8) C.1 C.2.1 dX10_fits_160 (by decide) ?_
      obtain ⟨z24, hz24, he⟩ := jq_b he
      refine jq_gi (jq_runS (av := [.int p2, .int 1, .int 8]) C X (M_X10_within l bs D ct n z22.2 p2 1 8 _ hz24) mf_X10_within gw_122 (Or.inl gw_121) rfl hl.1 rfl (Nat.le_of_ble_eq_true rfl) ⟨by decide, by decide⟩ ⟨by decide, by decide⟩ dX10_fits_162) X (fun H locs X => ?_)
      refine lv_if_eq (tgt := 182) C.1 C.2.1 dX10_fits_165 (by decide) (fun hc25 => ?_) (fun hc25 => ?_)
      · have he := jq_t hc25 he
        exact TX10_fits_b182 (n := n) C hr hlk X (lv_sub hl [] rfl) he
      · have he := jq_n hc25 he
        refine lv_iload_n C.1 C.2.1 dX10_fits_168 rfl (lv_at hl 3 rfl) ?_
        refine lv_iconst (v := 0) C.1 C.2.1 dX10_fits_169 (by decide) ?_
        refine lv_bipush (v := 50) C.1 C.2.1 dX10_fits_170 (by decide) ?_
        obtain ⟨z26, hz26, he⟩ := jq_b he
        refine jq_gi (jq_runS (av := [.int p3, .int 0, .int 50]) C X (M_X10_within l bs D ct n z24.2 p3 0 50 _ hz26) mf_X10_within gw_122 (Or.inl gw_121) rfl hl.1 rfl (Nat.le_of_ble_eq_true rfl) ⟨by decide, by decide⟩ ⟨by decide, by decide⟩ dX10_fits_172) X (fun H locs X => ?_)
        refine lv_if_eq (tgt := 182) C.1 C.2.1 dX10_fits_175 (by decide) (fun hc27 => ?_) (fun hc27 => ?_)
        · have he := jq_t hc27 he
          exact TX10_fits_b182 (n := n) C hr hlk X (lv_sub hl [] rfl) he
        · have he := jq_n hc27 he
          refine lv_iconst (v := 1) C.1 C.2.1 dX10_fits_178 (by decide) ?_
          refine lv_goto (tgt := 183) C.1 C.2.1 dX10_fits_179 (by decide) ?_
          exact TX10_fits_b183 (n := n) C hr hlk X (lv_sub hl [] rfl) he
  have he := jq_n hc28 he
  by_cases hc30 : p0 = 6
  · have he := jq_t hc30 he
    refine lv_tableIn (tgt := 184) C.1 C.2.1 dX10_fits_1 (by rw [hc30]; decide) (by rw [hc30]; decide) (by rw [hc30]; rfl) (by decide) ?_
    refine lv_iload_n C.1 C.2.1 dX10_fits_184 rfl (lv_at hl 1 rfl) ?_
    refine lv_iconst (v := 1) C.1 C.2.1 dX10_fits_185 (by decide) ?_
    refine lv_iconst (v := 3) C.1 C.2.1 dX10_fits_186 (by decide) ?_
    obtain ⟨z29, hz29, he⟩ := jq_b he
    refine jq_gi (jq_runS (av := [.int p1, .int 1, .int 3]) C X (M_X10_within l bs D ct n h p1 1 3 _ hz29) mf_X10_within gw_122 (Or.inl gw_121) rfl hl.1 rfl (Nat.le_of_ble_eq_true rfl) ⟨by decide, by decide⟩ ⟨by decide, by decide⟩ dX10_fits_187) X (fun H locs X => ?_)
    exact jq_zret C X hr hlk he (by decide) (by decide) dX10_fits_190
  have he := jq_n hc30 he
  by_cases hc32 : p0 = 7
  · have he := jq_t hc32 he
    refine lv_tableIn (tgt := 191) C.1 C.2.1 dX10_fits_1 (by rw [hc32]; decide) (by rw [hc32]; decide) (by rw [hc32]; rfl) (by decide) ?_
    refine lv_iload_n C.1 C.2.1 dX10_fits_191 rfl (lv_at hl 3 rfl) ?_
    refine lv_iconst (v := 0) C.1 C.2.1 dX10_fits_192 (by decide) ?_
    refine lv_bipush (v := 6) C.1 C.2.1 dX10_fits_193 (by decide) ?_
    obtain ⟨z31, hz31, he⟩ := jq_b he
    refine jq_gi (jq_runS (av := [.int p3, .int 0, .int 6]) C X (M_X10_within l bs D ct n h p3 0 6 _ hz31) mf_X10_within gw_122 (Or.inl gw_121) rfl hl.1 rfl (Nat.le_of_ble_eq_true rfl) ⟨by decide, by decide⟩ ⟨by decide, by decide⟩ dX10_fits_195) X (fun H locs X => ?_)
    exact jq_zret C X hr hlk he (by decide) (by decide) dX10_fits_198
  have he := jq_n hc32 he
  refine lv_tableOut (tgt := 199) C.1 C.2.1 dX10_fits_1 (jq_swo (fun k h1 h2 hk => by
    rcases (show k = 0 ∨ k = 1 ∨ k = 2 ∨ k = 3 ∨ k = 4 ∨ k = 5 ∨ k = 6 ∨ k = 7 by omega) with rfl | rfl | rfl | rfl | rfl | rfl | rfl | rfl
    · exact lv_neT hc2 (by decide) hk
    · exact lv_neT hc4 (by decide) hk
    · exact lv_neT hc9 (by decide) hk
    · exact lv_neT hc16 (by decide) hk
    · exact lv_neT hc21 (by decide) hk
    · exact lv_neT hc28 (by decide) hk
    · exact lv_neT hc30 (by decide) hk
    · exact lv_neT hc32 (by decide) hk)) (by decide) ?_
  refine lv_iconst (v := 0) C.1 C.2.1 dX10_fits_199 (by decide) ?_
  exact jq_zret C X hr hlk he (by decide) (by decide) dX10_fits_200
set_option maxRecDepth 100000 in
set_option maxHeartbeats 4000000 in
theorem M_X10_fresh (l : Launch) (bs : Nat) (D : va_G) (ct : Nat → ClassId) (n : Nat) (h : jq_H) (a : Nat) (p0 : Int32) (res : Int32 × jq_H) (he : X10_fresh n h a p0 = some res) : jq_M l yX10_fresh cX10_fresh 3 (some .int) rm_X10_fresh (jq_P [.ref a, .int p0] bs D ct h) (jq_Qi bs D ct res) bs := by
  refine jq_start2 (by decide +kernel) (Nat.le_of_ble_eq_true rfl) ?_
  intro p e s m args below meth c ls H locs C hr hlk hin hl X
  have C : jq_C p s m args c cX10_fresh 3 RX10 D ct bs := C
  have hin : meth.name = "fresh" := hin
  have hl : lv_has ls 3 [(0, .ref a), (1, .int p0)] := hl
  unfold X10_fresh at he
  refine lv_aload_n C.1 C.2.1 dX10_fresh_0 rfl (lv_at hl 0 rfl) ?_
  refine lv_iload_n C.1 C.2.1 dX10_fresh_1 rfl (lv_at hl 1 rfl) ?_
  obtain ⟨z1, hz1, he⟩ := jq_b he
  obtain ⟨hz1c, hz1⟩ := jq_ite hz1
  refine jq_gi (jq_runV (a := a) (av := [.int p0]) C X (M_X10_isGuesser l bs D ct n h a p0 _ hz1) mf_X10_isGuesser gw_350 gs_16 (Or.inl gw_348) rc_X10 hz1c (by decide) rfl hl.1 rfl (Nat.le_of_ble_eq_true rfl) ⟨by decide, by decide⟩ ⟨by decide, by decide⟩ dX10_fresh_2) X (fun H locs X => ?_)
  refine lv_if_ne (tgt := 10) C.1 C.2.1 dX10_fresh_5 (by decide) (fun hc2 => ?_) (fun hc2 => ?_)
  · have he := jq_n hc2 he
    refine lv_aload_n C.1 C.2.1 dX10_fresh_10 rfl (lv_at hl 0 rfl) ?_
    refine jq_rgR C X fs_X10_25 he dX10_fresh_11 (fun q3 he => ?_)
    refine lv_iload_n C.1 C.2.1 dX10_fresh_14 rfl (lv_at hl 1 rfl) ?_
    refine jq_rldN C X (Or.inl ⟨rfl, rfl⟩) he dX10_fresh_15 (fun q4 he => ?_)
    refine jq_rgR C X fs_X10_112 he dX10_fresh_16 (fun q5 he => ?_)
    refine jq_rgI C X fs_X10_124 he dX10_fresh_19 (fun x6 he => ?_)
    refine lv_istore_n (lv' := [(2, .int x6), (0, .ref a), (1, .int p0)]) C.1 C.2.1 dX10_fresh_22 rfl hl (by decide) rfl (fun ls hl => ?_)
    refine lv_aload_n C.1 C.2.1 dX10_fresh_23 rfl (lv_at hl 1 rfl) ?_
    refine jq_rgR C X fs_X10_25 he dX10_fresh_24 (fun q7 he => ?_)
    refine lv_iload_n C.1 C.2.1 dX10_fresh_27 rfl (lv_at hl 2 rfl) ?_
    refine jq_rldN C X (Or.inl ⟨rfl, rfl⟩) he dX10_fresh_28 (fun q8 he => ?_)
    obtain ⟨z9, hz9, he⟩ := jq_b he
    have hrun : va_Run p l e rm_X10_fresh s m args below meth c H locs 0 0 0 0 (F0 m 29 ls [.ref q8]) [] (jq_Qv bs D ct z9 (Value.ref q8 :: []).toArray) (fun q => bs ≤ q) := by
      unfold V_forget at hz9
      by_cases hci0 : jq_ci z1.2 q8 = 0
      · exact jq_runU (a := q8) (av := []) (x := ⟨"WayGuesses$Guesser", "forget", "()V"⟩) (owner := "WayGuesses$Guesser") (E := RX0) C X (M_X3_forget l bs D ct n z1.2 q8 _ (jq_t hci0 hz9)) mf_X3_forget gw_665 gw_667 gw_664 gw_666 (Or.inl ⟨_, _, _, gw_665, gw_673⟩) rfl ⟨by decide, by decide⟩ rc_X0 hci0 (by decide) rfl hl.1 rfl (Nat.le_of_ble_eq_true rfl) ⟨by decide, by decide⟩ ⟨by decide, by decide⟩ dX10_fresh_29
      have hz9 := jq_n hci0 hz9
      by_cases hci1 : jq_ci z1.2 q8 = 1
      · exact jq_runU (a := q8) (av := []) (x := ⟨"WayGuesses$Guesser", "forget", "()V"⟩) (owner := "WayGuesses$Guesser") (E := RX1) C X (M_X3_forget l bs D ct n z1.2 q8 _ (jq_t hci1 hz9)) mf_X3_forget gw_665 gw_668 gw_664 gw_666 (Or.inl ⟨_, _, _, gw_665, gw_673⟩) rfl ⟨by decide, by decide⟩ rc_X1 hci1 (by decide) rfl hl.1 rfl (Nat.le_of_ble_eq_true rfl) ⟨by decide, by decide⟩ ⟨by decide, by decide⟩ dX10_fresh_29
      have hz9 := jq_n hci1 hz9
      by_cases hci2 : jq_ci z1.2 q8 = 2
      · exact jq_runU (a := q8) (av := []) (x := ⟨"WayGuesses$Guesser", "forget", "()V"⟩) (owner := "WayGuesses$Guesser") (E := RX2) C X (M_X3_forget l bs D ct n z1.2 q8 _ (jq_t hci2 hz9)) mf_X3_forget gw_665 gw_669 gw_664 gw_666 (Or.inl ⟨_, _, _, gw_665, gw_673⟩) rfl ⟨by decide, by decide⟩ rc_X2 hci2 (by decide) rfl hl.1 rfl (Nat.le_of_ble_eq_true rfl) ⟨by decide, by decide⟩ ⟨by decide, by decide⟩ dX10_fresh_29
      have hz9 := jq_n hci2 hz9
      by_cases hci4 : jq_ci z1.2 q8 = 4
      · exact jq_runU (a := q8) (av := []) (x := ⟨"WayGuesses$Guesser", "forget", "()V"⟩) (owner := "WayGuesses$Guesser") (E := RX5) C X (M_X3_forget l bs D ct n z1.2 q8 _ (jq_t hci4 hz9)) mf_X3_forget gw_665 gw_670 gw_664 gw_666 (Or.inl ⟨_, _, _, gw_665, gw_673⟩) rfl ⟨by decide, by decide⟩ rc_X5 hci4 (by decide) rfl hl.1 rfl (Nat.le_of_ble_eq_true rfl) ⟨by decide, by decide⟩ ⟨by decide, by decide⟩ dX10_fresh_29
      have hz9 := jq_n hci4 hz9
      by_cases hci7 : jq_ci z1.2 q8 = 7
      · exact jq_runU (a := q8) (av := []) (x := ⟨"WayGuesses$Guesser", "forget", "()V"⟩) (owner := "WayGuesses$Guesser") (E := RX8) C X (M_X3_forget l bs D ct n z1.2 q8 _ (jq_t hci7 hz9)) mf_X3_forget gw_665 gw_671 gw_664 gw_666 (Or.inl ⟨_, _, _, gw_665, gw_673⟩) rfl ⟨by decide, by decide⟩ rc_X8 hci7 (by decide) rfl hl.1 rfl (Nat.le_of_ble_eq_true rfl) ⟨by decide, by decide⟩ ⟨by decide, by decide⟩ dX10_fresh_29
      have hz9 := jq_n hci7 hz9
      by_cases hci8 : jq_ci z1.2 q8 = 8
      · exact jq_runU (a := q8) (av := []) (x := ⟨"WayGuesses$Guesser", "forget", "()V"⟩) (owner := "WayGuesses$Guesser") (E := RX9) C X (M_X3_forget l bs D ct n z1.2 q8 _ (jq_t hci8 hz9)) mf_X3_forget gw_665 gw_672 gw_664 gw_666 (Or.inl ⟨_, _, _, gw_665, gw_673⟩) rfl ⟨by decide, by decide⟩ rc_X9 hci8 (by decide) rfl hl.1 rfl (Nat.le_of_ble_eq_true rfl) ⟨by decide, by decide⟩ ⟨by decide, by decide⟩ dX10_fresh_29
      have hz9 := jq_n hci8 hz9
      cases hz9
    refine jq_gv (hrun) X (fun H locs X => ?_)
    refine lv_iload_n C.1 C.2.1 dX10_fresh_32 rfl (lv_at hl 0 rfl) ?_
    exact jq_iret C X hr hlk he (by decide) (by decide) dX10_fresh_33
  · have he := jq_t hc2 he
    refine lv_iconst (v := (-1)) C.1 C.2.1 dX10_fresh_8 (by decide) ?_
    exact jq_iret C X hr hlk he (by decide) (by decide) dX10_fresh_9
