/-- what the law asks of an invariant: each call answers alike on both sides, and keeps it -/
def jq_sim (Inv : jq_H → Prop) (ax am : Nat) (f g : jq_H → Nat → Option (Int32 × jq_H)) (h : jq_H) : Prop := ∃ (r : Int32) (hA hB : jq_H), jq_ci h ax = 9 ∧ f h ax = some (r, hA) ∧ jq_ci hA am = 10 ∧ g hA am = some (r, hB) ∧ Inv hB
def jq_good (n ax am : Nat) (Inv : jq_H → Prop) : Prop := ∀ h, Inv h → ∀ a1 a2 a3 a4 a5 : Int32,
  jq_sim Inv ax am (fun h a => X10_op n h a a1 a2 a3 a4 a5) (fun h a => X11_op n h a a1 a2 a3 a4 a5) h ∧
  jq_sim Inv ax am (fun h a => X10_register n h a a1 a2) (fun h a => X11_register n h a a1 a2) h ∧
  jq_sim Inv ax am (fun h a => X10_value n h a a1) (fun h a => X11_value n h a a1) h ∧
  jq_sim Inv ax am (fun h a => X10_data n h a a1 a2) (fun h a => X11_data n h a a1 a2) h ∧
  jq_sim Inv ax am (fun h a => X10_stored n h a a1) (fun h a => X11_stored n h a a1) h ∧
  jq_sim Inv ax am (fun h a => X10_stand n h a a1) (fun h a => X11_stand n h a a1) h ∧
  jq_sim Inv ax am (fun h a => X10_run n h a a1) (fun h a => X11_run n h a a1) h ∧
  jq_sim Inv ax am (fun h a => X10_branch n h a a1 a2) (fun h a => X11_branch n h a a1 a2) h ∧
  jq_sim Inv ax am (fun h a => X10_at n h a a1 a2) (fun h a => X11_at n h a a1 a2) h ∧
  jq_sim Inv ax am (fun h a => X10_guesser n h a a1 a2 a3 a4) (fun h a => X11_guesser n h a a1 a2 a3 a4) h ∧
  jq_sim Inv ax am (fun h a => X10_guess n h a a1 a2) (fun h a => X11_guess n h a a1 a2) h ∧
  jq_sim Inv ax am (fun h a => X10_hint n h a a1 a2 a3) (fun h a => X11_hint n h a a1 a2 a3) h ∧
  jq_sim Inv ax am (fun h a => X10_profile n h a a1) (fun h a => X11_profile n h a a1) h ∧
  jq_sim Inv ax am (fun h a => X10_misses n h a a1 a2) (fun h a => X11_misses n h a a1 a2) h ∧
  jq_sim Inv ax am (fun h a => X10_asked n h a a1) (fun h a => X11_asked n h a a1) h ∧
  jq_sim Inv ax am (fun h a => X10_clashes n h a a1) (fun h a => X11_clashes n h a a1) h ∧
  jq_sim Inv ax am (fun h a => X10_pair n h a a1 a2) (fun h a => X11_pair n h a a1 a2) h ∧
  jq_sim Inv ax am (fun h a => X10_inside n h a a1 a2 a3) (fun h a => X11_inside n h a a1 a2 a3) h ∧
  jq_sim Inv ax am (fun h a => X10_fresh n h a a1) (fun h a => X11_fresh n h a a1) h ∧
  jq_sim Inv ax am (fun h a => X10_again n h a a1) (fun h a => X11_again n h a a1) h ∧
  jq_sim Inv ax am (fun h a => X10_keep n h a a1 a2) (fun h a => X11_keep n h a a1 a2) h ∧
  jq_sim Inv ax am (fun h a => X10_back n h a a1 a2) (fun h a => X11_back n h a a1 a2) h ∧
  jq_sim Inv ax am (fun h a => X10_best n h a a1 (if a2 = 0 then 0 else 1)) (fun h a => X11_best n h a a1 (if a2 = 0 then 0 else 1)) h ∧
  jq_sim Inv ax am (fun h a => X10_seen n h a a1 (if a2 = 0 then 0 else 1)) (fun h a => X11_seen n h a a1 (if a2 = 0 then 0 else 1)) h ∧
  jq_sim Inv ax am (fun h a => X10_often n h a a1 a2) (fun h a => X11_often n h a a1 a2) h ∧
  jq_sim Inv ax am (fun h a => X10_ticks n h a a1 a2) (fun h a => X11_ticks n h a a1 a2) h ∧
  jq_sim Inv ax am (fun h a => X10_told n h a a1) (fun h a => X11_told n h a a1) h ∧
  jq_sim Inv ax am (fun h a => X10_empty n h a) (fun h a => X11_empty n h a) h
theorem law_six (j : Nat) : nI (6 * j) + 6 = nI (6 * (j + 1)) := by
  rw [show (6 : Int32) = nI 6 from rfl, nI_add]
  congr 1
theorem law_in {L j : Nat} (hL : L ≤ 3072) (t : Nat) (h : 6 * j + t < L) {y : Int32} (hy : y = nI t := by rfl) : vp_in (nI (6 * j) + y) L := by
  rw [hy, nI_add]
  exact vp_in_nI h (by omega)
theorem law_lt {L j : Nat} (hL : L ≤ 3072) (hj : 6 * j ≤ 3072) (h : ¬ Int32.ofNat L - 6 < nI (6 * j)) : 6 * j + 6 ≤ L := by
  have h1 : ¬ (nI L - nI 6 < nI (6 * j)) := h
  rcases Nat.lt_or_ge L (6 * j + 6) with q | q
  · exfalso
    apply h1
    rw [Int32.lt_iff_toInt_lt, pk_sub_toInt (by omega) (by omega), nI_toInt (by omega)]
    omega
  · exact q
set_option maxRecDepth 100000 in
set_option maxHeartbeats 4000000 in
theorem law_begin {p : Program} {l : Launch} {e : Env} {s : State} {m : MethodId} {below : List Frame} {meth : Method} {c : Code} {D : va_G} {ct : Nat → ClassId} {bs b L : Nat} {xs : Nat → Int32} {Q : State → Prop} (C : jq_C p s m #[Value.ref b] c code 4 RL D ct bs) (hX : va_X b L xs s s.heap) (hbl : b < s.heap.size) (hbA : ¬ bs ≤ b) {n : Nat} {h0 h1 h2 : jq_H} {H : Heap} {locs : List Loc} {ls : Array Slot} (X : jq_X bs D ct s.heap h0 H locs) (hl : lv_has ls 4 [(0, .ref b)]) (e1 : X10_init n (jq_newO 9 [.null, .null, .null, .int 0, .int 0] h0).2 (jq_newO 9 [.null, .null, .null, .int 0, .int 0] h0).1 = some h1) (e2 : X11_init n (jq_newO 10 [.null, .null, .null, .null, .null, .null, .int 0, .int 0, .int 0, .int 0, .null, .null, .int 0, .null, .null, .null, .null, .null, .null, .null, .null, .null, .null, .null, .null] h1).2 (jq_newO 10 [.null, .null, .null, .null, .null, .null, .int 0, .int 0, .int 0, .int 0, .null, .null, .int 0, .null, .null, .null, .null, .null, .null, .null, .null, .null, .null, .null, .null] h1).1 = some h2) (kk : ∀ H1 locs1 ls1, jq_X bs D ct s.heap h2 H1 locs1 → lv_has ls1 4 [(0, .ref b), (1, .ref h0.1), (2, .ref h1.1), (3, .int 0)] → W p l e room_1 s m #[Value.ref b] below meth c H1 locs1 36 82118 Q (F0 m 18 ls1 [])) : W p l e room_1 s m #[Value.ref b] below meth c H locs 0 0 Q (F0 m 0 ls []) := by
  refine jq_rnewO (K := fun z => some z) (res := jq_newO 9 [.null, .null, .null, .int 0, .int 0] h0) (fs := [.null, .null, .null, .int 0, .int 0]) C X cf_X10 gw_16 gw_17 gw_1 (fun j hj => by rcases (show j = 0 ∨ j = 1 ∨ j = 2 ∨ j = 3 ∨ j = 4 by omega) with rfl | rfl | rfl | rfl | rfl <;> rfl) rfl (by decide) (by decide) dL_law_0 (fun z H he X => ?_)
  cases he
  refine lv_dup C.1 C.2.1 dL_law_3 rfl ?_
  refine jq_gv (jq_runI (a := (jq_newO 9 [.null, .null, .null, .int 0, .int 0] h0).1) (av := []) C X (M_X10_init l bs D ct n _ (jq_newO 9 [.null, .null, .null, .int 0, .int 0] h0).1 h1 e1) mf_X10_init rfl gw_19 (Or.inl gw_18) rfl hl.1 rfl (Nat.le_of_ble_eq_true rfl) ⟨by decide, by decide⟩ ⟨by decide, by decide⟩ dL_law_4) X (fun H locs X => ?_)
  refine lv_astore_n (lv' := [(1, .ref h0.1), (0, .ref b)]) C.1 C.2.1 dL_law_7 rfl hl (by decide) rfl (fun ls hl => ?_)
  refine jq_rnewO (K := fun z => some z) (res := jq_newO 10 [.null, .null, .null, .null, .null, .null, .int 0, .int 0, .int 0, .int 0, .null, .null, .int 0, .null, .null, .null, .null, .null, .null, .null, .null, .null, .null, .null, .null] h1) (fs := [.null, .null, .null, .null, .null, .null, .int 0, .int 0, .int 0, .int 0, .null, .null, .int 0, .null, .null, .null, .null, .null, .null, .null, .null, .null, .null, .null, .null]) C X cf_X11 gw_750 gw_751 gw_4 (fun j hj => by rcases (show j = 0 ∨ j = 1 ∨ j = 2 ∨ j = 3 ∨ j = 4 ∨ j = 5 ∨ j = 6 ∨ j = 7 ∨ j = 8 ∨ j = 9 ∨ j = 10 ∨ j = 11 ∨ j = 12 ∨ j = 13 ∨ j = 14 ∨ j = 15 ∨ j = 16 ∨ j = 17 ∨ j = 18 ∨ j = 19 ∨ j = 20 ∨ j = 21 ∨ j = 22 ∨ j = 23 ∨ j = 24 by omega) with rfl | rfl | rfl | rfl | rfl | rfl | rfl | rfl | rfl | rfl | rfl | rfl | rfl | rfl | rfl | rfl | rfl | rfl | rfl | rfl | rfl | rfl | rfl | rfl | rfl <;> rfl) rfl (by decide) (by decide) dL_law_8 (fun z H he X => ?_)
  cases he
  refine lv_dup C.1 C.2.1 dL_law_11 rfl ?_
  refine jq_gv (jq_runI (a := (jq_newO 10 [.null, .null, .null, .null, .null, .null, .int 0, .int 0, .int 0, .int 0, .null, .null, .int 0, .null, .null, .null, .null, .null, .null, .null, .null, .null, .null, .null, .null] h1).1) (av := []) C X (M_X11_init l bs D ct n _ (jq_newO 10 [.null, .null, .null, .null, .null, .null, .int 0, .int 0, .int 0, .int 0, .null, .null, .int 0, .null, .null, .null, .null, .null, .null, .null, .null, .null, .null, .null, .null] h1).1 h2 e2) mf_X11_init rfl gw_753 (Or.inl gw_752) rfl hl.1 rfl (Nat.le_of_ble_eq_true rfl) ⟨by decide, by decide⟩ ⟨by decide, by decide⟩ dL_law_12) X (fun H locs X => ?_)
  refine lv_astore_n (lv' := [(2, .ref h1.1), (1, .ref h0.1), (0, .ref b)]) C.1 C.2.1 dL_law_15 rfl hl (by decide) rfl (fun ls hl => ?_)
  refine lv_iconst (v := 0) C.1 C.2.1 dL_law_16 (by decide) ?_
  refine lv_istore_n (lv' := [(3, .int 0), (2, .ref h1.1), (1, .ref h0.1), (0, .ref b)]) C.1 C.2.1 dL_law_17 rfl hl (by decide) rfl (fun ls hl => ?_)
  exact kk H locs ls X (lv_sub hl [3, 2, 1, 0] rfl)
set_option maxRecDepth 100000 in
set_option maxHeartbeats 4000000 in
theorem law_loop {p : Program} {l : Launch} {e : Env} {s : State} {m : MethodId} {below : List Frame} {meth : Method} {c : Code} {D : va_G} {ct : Nat → ClassId} {bs b L : Nat} {xs : Nat → Int32} (C : jq_C p s m #[Value.ref b] c code 4 RL D ct bs) (hX : va_X b L xs s s.heap) (hbl : b < s.heap.size) (hbA : ¬ bs ≤ b) (hL : L ≤ 3072) {n ax am : Nat} {Inv : jq_H → Prop} (hG : jq_good n ax am Inv) (hlk : meth.locks = false) (hr : meth.sig.returnType = ret) (hbs : s.heap.size ≤ bs) :
    ∀ (k j : Nat) (h : jq_H) (H : Heap) (locs : List Loc) (ls : Array Slot) (x3 : Int32), 512 < j + k → x3 = nI (6 * j) → 6 * j ≤ L → Inv h → jq_X bs D ct s.heap h H locs → lv_has ls 4 [(0, .ref b), (1, .ref ax), (2, .ref am), (3, .int x3)] → W p l e room_1 s m #[Value.ref b] below meth c H locs (36 + 15 * j) (82118 + 2481 * j) (lw_Z below #[Value.ref b] s) (F0 m 18 ls []) := by
  intro k
  induction k with
  | zero => intro j h H locs ls x3 hk hx hj; exfalso; omega
  | succ k ih =>
    intro j h H locs ls x3 hk hx hj hI X hl
    refine lv_iload_n C.1 C.2.1 dL_law_18 rfl (lv_at hl 3 rfl) ?_
    refine lv_aload_n C.1 C.2.1 dL_law_19 rfl (lv_at hl 0 rfl) ?_
    refine va_slen C.1 C.2.1 hX hbl hbA X.2 dL_law_20 ?_
    refine lv_bipush (v := 6) C.1 C.2.1 dL_law_21 (by decide) ?_
    refine lv_isub C.1 C.2.1 dL_law_23 ?_
    refine lv_icmp_gt (tgt := 1072) C.1 C.2.1 dL_law_24 (by decide) (fun hc => ?_) (fun hc => ?_)
    · refine lv_iconst (v := 1) C.1 C.2.1 dL_law_1072 (by decide) ?_
      refine va_forget (fun q hq => Nat.le_trans hbs (X.2.2.2 q hq)) ?_
      refine W.widen (k := 600000) (n := 7302250) (by omega) (by omega) ?_
      exact lw_ret C.1 C.2.1 hr hlk dL_law_1073
    have hlt : 6 * j + 6 ≤ L := law_lt hL (by omega) (by rw [← hx]; exact hc)
    have hi0 : vp_in x3 L := by rw [hx]; exact vp_in_nI (by omega) (by omega)
    have hi1 : vp_in (x3 + 1) L := by rw [hx]; exact law_in hL 1 (by omega)
    have hi2 : vp_in (x3 + 2) L := by rw [hx]; exact law_in hL 2 (by omega)
    have hi3 : vp_in (x3 + 3) L := by rw [hx]; exact law_in hL 3 (by omega)
    have hi4 : vp_in (x3 + 4) L := by rw [hx]; exact law_in hL 4 (by omega)
    have hi5 : vp_in (x3 + 5) L := by rw [hx]; exact law_in hL 5 (by omega)
    have hcl : 36 + 15 * j + 15 ≤ room_1.cells := by show _ ≤ 600000; omega
    have hsl : 82118 + 2481 * j + 2481 ≤ room_1.slots := by show _ ≤ 7302250; omega
    have kk : ∀ (hB : jq_H) (H1 : Heap) (locs1 : List Loc), Inv hB → jq_X bs D ct s.heap hB H1 locs1 → W p l e room_1 s m #[Value.ref b] below meth c H1 locs1 (36 + 15 * j + 15) (82118 + 2481 * j + 2481) (lw_Z below #[Value.ref b] s) (F0 m 1066 ls []) := by
      intro hB H1 locs1 hI X
      obtain ⟨y, hy⟩ : ∃ y : Int32, y = x3 + 6 := ⟨_, rfl⟩
      refine lv_iinc (v := y) (lv' := [(3, .int y), (0, .ref b), (1, .ref ax), (2, .ref am)]) C.1 C.2.1 dL_law_1066 hl (k := 3) rfl (by rw [hy]; rfl) (by decide) rfl (fun ls hl => ?_)
      refine lv_goto (tgt := 18) C.1 C.2.1 dL_law_1069 (by decide) ?_
      exact ih (j + 1) hB H1 locs1 ls y (by omega) (by rw [hy, hx]; exact law_six j) (by omega) hI X (lv_sub hl [1, 2, 3, 0] rfl)
    refine lv_aload_n C.1 C.2.1 dL_law_27 rfl (lv_at hl 0 rfl) ?_
    refine lv_iload_n C.1 C.2.1 dL_law_28 rfl (lv_at hl 3 rfl) ?_
    refine va_sld C.1 C.2.1 hX hbl hbA X.2 hi0 dL_law_29 ?_
    refine lv_bipush (v := 31) C.1 C.2.1 dL_law_30 (by decide) ?_
    refine lv_iand C.1 C.2.1 dL_law_32 ?_
    generalize xs x3.toNatClampNeg &&& 31 = w
    have hS := hG h hI (xs (x3 + 1).toNatClampNeg) (xs (x3 + 2).toNatClampNeg) (xs (x3 + 3).toNatClampNeg) (xs (x3 + 4).toNatClampNeg) (xs (x3 + 5).toNatClampNeg)
    by_cases hw0 : w = 0
    · refine lv_tableIn (tgt := 160) C.1 C.2.1 dL_law_33 (by rw [hw0]; decide) (by rw [hw0]; decide) (by rw [hw0]; rfl) (by decide) ?_
      obtain ⟨r, hA, hB, e1, e2, e3, e4, hI2⟩ := hS.1
      exact law_c0 C hX hbl hbA hi1 hi2 hi3 hi4 hi5 X hl hcl hsl e1 e2 e3 e4 (fun H1 locs1 X1 => kk hB H1 locs1 hI2 X1)
    by_cases hw1 : w = 1
    · refine lv_tableIn (tgt := 223) C.1 C.2.1 dL_law_33 (by rw [hw1]; decide) (by rw [hw1]; decide) (by rw [hw1]; rfl) (by decide) ?_
      obtain ⟨r, hA, hB, e1, e2, e3, e4, hI2⟩ := hS.2.1
      exact law_c1 C hX hbl hbA hi1 hi2 hi3 hi4 hi5 X hl hcl hsl e1 e2 e3 e4 (fun H1 locs1 X1 => kk hB H1 locs1 hI2 X1)
    by_cases hw2 : w = 2
    · refine lv_tableIn (tgt := 256) C.1 C.2.1 dL_law_33 (by rw [hw2]; decide) (by rw [hw2]; decide) (by rw [hw2]; rfl) (by decide) ?_
      obtain ⟨r, hA, hB, e1, e2, e3, e4, hI2⟩ := hS.2.2.1
      exact law_c2 C hX hbl hbA hi1 hi2 hi3 hi4 hi5 X hl hcl hsl e1 e2 e3 e4 (fun H1 locs1 X1 => kk hB H1 locs1 hI2 X1)
    by_cases hw3 : w = 3
    · refine lv_tableIn (tgt := 279) C.1 C.2.1 dL_law_33 (by rw [hw3]; decide) (by rw [hw3]; decide) (by rw [hw3]; rfl) (by decide) ?_
      obtain ⟨r, hA, hB, e1, e2, e3, e4, hI2⟩ := hS.2.2.2.1
      exact law_c3 C hX hbl hbA hi1 hi2 hi3 hi4 hi5 X hl hcl hsl e1 e2 e3 e4 (fun H1 locs1 X1 => kk hB H1 locs1 hI2 X1)
    by_cases hw4 : w = 4
    · refine lv_tableIn (tgt := 312) C.1 C.2.1 dL_law_33 (by rw [hw4]; decide) (by rw [hw4]; decide) (by rw [hw4]; rfl) (by decide) ?_
      obtain ⟨r, hA, hB, e1, e2, e3, e4, hI2⟩ := hS.2.2.2.2.1
      exact law_c4 C hX hbl hbA hi1 hi2 hi3 hi4 hi5 X hl hcl hsl e1 e2 e3 e4 (fun H1 locs1 X1 => kk hB H1 locs1 hI2 X1)
    by_cases hw5 : w = 5
    · refine lv_tableIn (tgt := 335) C.1 C.2.1 dL_law_33 (by rw [hw5]; decide) (by rw [hw5]; decide) (by rw [hw5]; rfl) (by decide) ?_
      obtain ⟨r, hA, hB, e1, e2, e3, e4, hI2⟩ := hS.2.2.2.2.2.1
      exact law_c5 C hX hbl hbA hi1 hi2 hi3 hi4 hi5 X hl hcl hsl e1 e2 e3 e4 (fun H1 locs1 X1 => kk hB H1 locs1 hI2 X1)
    by_cases hw6 : w = 6
    · refine lv_tableIn (tgt := 358) C.1 C.2.1 dL_law_33 (by rw [hw6]; decide) (by rw [hw6]; decide) (by rw [hw6]; rfl) (by decide) ?_
      obtain ⟨r, hA, hB, e1, e2, e3, e4, hI2⟩ := hS.2.2.2.2.2.2.1
      exact law_c6 C hX hbl hbA hi1 hi2 hi3 hi4 hi5 X hl hcl hsl e1 e2 e3 e4 (fun H1 locs1 X1 => kk hB H1 locs1 hI2 X1)
    by_cases hw7 : w = 7
    · refine lv_tableIn (tgt := 381) C.1 C.2.1 dL_law_33 (by rw [hw7]; decide) (by rw [hw7]; decide) (by rw [hw7]; rfl) (by decide) ?_
      obtain ⟨r, hA, hB, e1, e2, e3, e4, hI2⟩ := hS.2.2.2.2.2.2.2.1
      exact law_c7 C hX hbl hbA hi1 hi2 hi3 hi4 hi5 X hl hcl hsl e1 e2 e3 e4 (fun H1 locs1 X1 => kk hB H1 locs1 hI2 X1)
    by_cases hw8 : w = 8
    · refine lv_tableIn (tgt := 414) C.1 C.2.1 dL_law_33 (by rw [hw8]; decide) (by rw [hw8]; decide) (by rw [hw8]; rfl) (by decide) ?_
      obtain ⟨r, hA, hB, e1, e2, e3, e4, hI2⟩ := hS.2.2.2.2.2.2.2.2.1
      exact law_c8 C hX hbl hbA hi1 hi2 hi3 hi4 hi5 X hl hcl hsl e1 e2 e3 e4 (fun H1 locs1 X1 => kk hB H1 locs1 hI2 X1)
    by_cases hw9 : w = 9
    · refine lv_tableIn (tgt := 447) C.1 C.2.1 dL_law_33 (by rw [hw9]; decide) (by rw [hw9]; decide) (by rw [hw9]; rfl) (by decide) ?_
      obtain ⟨r, hA, hB, e1, e2, e3, e4, hI2⟩ := hS.2.2.2.2.2.2.2.2.2.1
      exact law_c9 C hX hbl hbA hi1 hi2 hi3 hi4 hi5 X hl hcl hsl e1 e2 e3 e4 (fun H1 locs1 X1 => kk hB H1 locs1 hI2 X1)
    by_cases hw10 : w = 10
    · refine lv_tableIn (tgt := 500) C.1 C.2.1 dL_law_33 (by rw [hw10]; decide) (by rw [hw10]; decide) (by rw [hw10]; rfl) (by decide) ?_
      obtain ⟨r, hA, hB, e1, e2, e3, e4, hI2⟩ := hS.2.2.2.2.2.2.2.2.2.2.1
      exact law_c10 C hX hbl hbA hi1 hi2 hi3 hi4 hi5 X hl hcl hsl e1 e2 e3 e4 (fun H1 locs1 X1 => kk hB H1 locs1 hI2 X1)
    by_cases hw11 : w = 11
    · refine lv_tableIn (tgt := 533) C.1 C.2.1 dL_law_33 (by rw [hw11]; decide) (by rw [hw11]; decide) (by rw [hw11]; rfl) (by decide) ?_
      obtain ⟨r, hA, hB, e1, e2, e3, e4, hI2⟩ := hS.2.2.2.2.2.2.2.2.2.2.2.1
      exact law_c11 C hX hbl hbA hi1 hi2 hi3 hi4 hi5 X hl hcl hsl e1 e2 e3 e4 (fun H1 locs1 X1 => kk hB H1 locs1 hI2 X1)
    by_cases hw12 : w = 12
    · refine lv_tableIn (tgt := 576) C.1 C.2.1 dL_law_33 (by rw [hw12]; decide) (by rw [hw12]; decide) (by rw [hw12]; rfl) (by decide) ?_
      obtain ⟨r, hA, hB, e1, e2, e3, e4, hI2⟩ := hS.2.2.2.2.2.2.2.2.2.2.2.2.1
      exact law_c12 C hX hbl hbA hi1 hi2 hi3 hi4 hi5 X hl hcl hsl e1 e2 e3 e4 (fun H1 locs1 X1 => kk hB H1 locs1 hI2 X1)
    by_cases hw13 : w = 13
    · refine lv_tableIn (tgt := 599) C.1 C.2.1 dL_law_33 (by rw [hw13]; decide) (by rw [hw13]; decide) (by rw [hw13]; rfl) (by decide) ?_
      obtain ⟨r, hA, hB, e1, e2, e3, e4, hI2⟩ := hS.2.2.2.2.2.2.2.2.2.2.2.2.2.1
      exact law_c13 C hX hbl hbA hi1 hi2 hi3 hi4 hi5 X hl hcl hsl e1 e2 e3 e4 (fun H1 locs1 X1 => kk hB H1 locs1 hI2 X1)
    by_cases hw14 : w = 14
    · refine lv_tableIn (tgt := 632) C.1 C.2.1 dL_law_33 (by rw [hw14]; decide) (by rw [hw14]; decide) (by rw [hw14]; rfl) (by decide) ?_
      obtain ⟨r, hA, hB, e1, e2, e3, e4, hI2⟩ := hS.2.2.2.2.2.2.2.2.2.2.2.2.2.2.1
      exact law_c14 C hX hbl hbA hi1 hi2 hi3 hi4 hi5 X hl hcl hsl e1 e2 e3 e4 (fun H1 locs1 X1 => kk hB H1 locs1 hI2 X1)
    by_cases hw15 : w = 15
    · refine lv_tableIn (tgt := 655) C.1 C.2.1 dL_law_33 (by rw [hw15]; decide) (by rw [hw15]; decide) (by rw [hw15]; rfl) (by decide) ?_
      obtain ⟨r, hA, hB, e1, e2, e3, e4, hI2⟩ := hS.2.2.2.2.2.2.2.2.2.2.2.2.2.2.2.1
      exact law_c15 C hX hbl hbA hi1 hi2 hi3 hi4 hi5 X hl hcl hsl e1 e2 e3 e4 (fun H1 locs1 X1 => kk hB H1 locs1 hI2 X1)
    by_cases hw16 : w = 16
    · refine lv_tableIn (tgt := 678) C.1 C.2.1 dL_law_33 (by rw [hw16]; decide) (by rw [hw16]; decide) (by rw [hw16]; rfl) (by decide) ?_
      obtain ⟨r, hA, hB, e1, e2, e3, e4, hI2⟩ := hS.2.2.2.2.2.2.2.2.2.2.2.2.2.2.2.2.1
      exact law_c16 C hX hbl hbA hi1 hi2 hi3 hi4 hi5 X hl hcl hsl e1 e2 e3 e4 (fun H1 locs1 X1 => kk hB H1 locs1 hI2 X1)
    by_cases hw17 : w = 17
    · refine lv_tableIn (tgt := 711) C.1 C.2.1 dL_law_33 (by rw [hw17]; decide) (by rw [hw17]; decide) (by rw [hw17]; rfl) (by decide) ?_
      obtain ⟨r, hA, hB, e1, e2, e3, e4, hI2⟩ := hS.2.2.2.2.2.2.2.2.2.2.2.2.2.2.2.2.2.1
      exact law_c17 C hX hbl hbA hi1 hi2 hi3 hi4 hi5 X hl hcl hsl e1 e2 e3 e4 (fun H1 locs1 X1 => kk hB H1 locs1 hI2 X1)
    by_cases hw18 : w = 18
    · refine lv_tableIn (tgt := 754) C.1 C.2.1 dL_law_33 (by rw [hw18]; decide) (by rw [hw18]; decide) (by rw [hw18]; rfl) (by decide) ?_
      obtain ⟨r, hA, hB, e1, e2, e3, e4, hI2⟩ := hS.2.2.2.2.2.2.2.2.2.2.2.2.2.2.2.2.2.2.1
      exact law_c18 C hX hbl hbA hi1 hi2 hi3 hi4 hi5 X hl hcl hsl e1 e2 e3 e4 (fun H1 locs1 X1 => kk hB H1 locs1 hI2 X1)
    by_cases hw19 : w = 19
    · refine lv_tableIn (tgt := 777) C.1 C.2.1 dL_law_33 (by rw [hw19]; decide) (by rw [hw19]; decide) (by rw [hw19]; rfl) (by decide) ?_
      obtain ⟨r, hA, hB, e1, e2, e3, e4, hI2⟩ := hS.2.2.2.2.2.2.2.2.2.2.2.2.2.2.2.2.2.2.2.1
      exact law_c19 C hX hbl hbA hi1 hi2 hi3 hi4 hi5 X hl hcl hsl e1 e2 e3 e4 (fun H1 locs1 X1 => kk hB H1 locs1 hI2 X1)
    by_cases hw20 : w = 20
    · refine lv_tableIn (tgt := 800) C.1 C.2.1 dL_law_33 (by rw [hw20]; decide) (by rw [hw20]; decide) (by rw [hw20]; rfl) (by decide) ?_
      obtain ⟨r, hA, hB, e1, e2, e3, e4, hI2⟩ := hS.2.2.2.2.2.2.2.2.2.2.2.2.2.2.2.2.2.2.2.2.1
      exact law_c20 C hX hbl hbA hi1 hi2 hi3 hi4 hi5 X hl hcl hsl e1 e2 e3 e4 (fun H1 locs1 X1 => kk hB H1 locs1 hI2 X1)
    by_cases hw21 : w = 21
    · refine lv_tableIn (tgt := 833) C.1 C.2.1 dL_law_33 (by rw [hw21]; decide) (by rw [hw21]; decide) (by rw [hw21]; rfl) (by decide) ?_
      obtain ⟨r, hA, hB, e1, e2, e3, e4, hI2⟩ := hS.2.2.2.2.2.2.2.2.2.2.2.2.2.2.2.2.2.2.2.2.2.1
      exact law_c21 C hX hbl hbA hi1 hi2 hi3 hi4 hi5 X hl hcl hsl e1 e2 e3 e4 (fun H1 locs1 X1 => kk hB H1 locs1 hI2 X1)
    by_cases hw22 : w = 22
    · refine lv_tableIn (tgt := 866) C.1 C.2.1 dL_law_33 (by rw [hw22]; decide) (by rw [hw22]; decide) (by rw [hw22]; rfl) (by decide) ?_
      obtain ⟨r, hA, hB, e1, e2, e3, e4, hI2⟩ := hS.2.2.2.2.2.2.2.2.2.2.2.2.2.2.2.2.2.2.2.2.2.2.1
      dsimp only at e2 e4
      by_cases hz : (xs (x3 + 2).toNatClampNeg) = 0
      · rw [if_pos hz] at e2 e4
        exact law_c22t C hX hbl hbA hi1 hi2 hi3 hi4 hi5 X hl hcl hsl hz e1 e2 e3 e4 (fun H1 locs1 X1 => kk hB H1 locs1 hI2 X1)
      · rw [if_neg hz] at e2 e4
        exact law_c22f C hX hbl hbA hi1 hi2 hi3 hi4 hi5 X hl hcl hsl hz e1 e2 e3 e4 (fun H1 locs1 X1 => kk hB H1 locs1 hI2 X1)
    by_cases hw23 : w = 23
    · refine lv_tableIn (tgt := 915) C.1 C.2.1 dL_law_33 (by rw [hw23]; decide) (by rw [hw23]; decide) (by rw [hw23]; rfl) (by decide) ?_
      obtain ⟨r, hA, hB, e1, e2, e3, e4, hI2⟩ := hS.2.2.2.2.2.2.2.2.2.2.2.2.2.2.2.2.2.2.2.2.2.2.2.1
      dsimp only at e2 e4
      by_cases hz : (xs (x3 + 2).toNatClampNeg) = 0
      · rw [if_pos hz] at e2 e4
        exact law_c23t C hX hbl hbA hi1 hi2 hi3 hi4 hi5 X hl hcl hsl hz e1 e2 e3 e4 (fun H1 locs1 X1 => kk hB H1 locs1 hI2 X1)
      · rw [if_neg hz] at e2 e4
        exact law_c23f C hX hbl hbA hi1 hi2 hi3 hi4 hi5 X hl hcl hsl hz e1 e2 e3 e4 (fun H1 locs1 X1 => kk hB H1 locs1 hI2 X1)
    by_cases hw24 : w = 24
    · refine lv_tableIn (tgt := 964) C.1 C.2.1 dL_law_33 (by rw [hw24]; decide) (by rw [hw24]; decide) (by rw [hw24]; rfl) (by decide) ?_
      obtain ⟨r, hA, hB, e1, e2, e3, e4, hI2⟩ := hS.2.2.2.2.2.2.2.2.2.2.2.2.2.2.2.2.2.2.2.2.2.2.2.2.1
      exact law_c24 C hX hbl hbA hi1 hi2 hi3 hi4 hi5 X hl hcl hsl e1 e2 e3 e4 (fun H1 locs1 X1 => kk hB H1 locs1 hI2 X1)
    by_cases hw25 : w = 25
    · refine lv_tableIn (tgt := 997) C.1 C.2.1 dL_law_33 (by rw [hw25]; decide) (by rw [hw25]; decide) (by rw [hw25]; rfl) (by decide) ?_
      obtain ⟨r, hA, hB, e1, e2, e3, e4, hI2⟩ := hS.2.2.2.2.2.2.2.2.2.2.2.2.2.2.2.2.2.2.2.2.2.2.2.2.2.1
      exact law_c25 C hX hbl hbA hi1 hi2 hi3 hi4 hi5 X hl hcl hsl e1 e2 e3 e4 (fun H1 locs1 X1 => kk hB H1 locs1 hI2 X1)
    by_cases hw26 : w = 26
    · refine lv_tableIn (tgt := 1030) C.1 C.2.1 dL_law_33 (by rw [hw26]; decide) (by rw [hw26]; decide) (by rw [hw26]; rfl) (by decide) ?_
      obtain ⟨r, hA, hB, e1, e2, e3, e4, hI2⟩ := hS.2.2.2.2.2.2.2.2.2.2.2.2.2.2.2.2.2.2.2.2.2.2.2.2.2.2.1
      exact law_c26 C hX hbl hbA hi1 hi2 hi3 hi4 hi5 X hl hcl hsl e1 e2 e3 e4 (fun H1 locs1 X1 => kk hB H1 locs1 hI2 X1)
    by_cases hw27 : w = 27
    · refine lv_tableIn (tgt := 1053) C.1 C.2.1 dL_law_33 (by rw [hw27]; decide) (by rw [hw27]; decide) (by rw [hw27]; rfl) (by decide) ?_
      obtain ⟨r, hA, hB, e1, e2, e3, e4, hI2⟩ := hS.2.2.2.2.2.2.2.2.2.2.2.2.2.2.2.2.2.2.2.2.2.2.2.2.2.2.2
      exact law_c27 C hX hbl hbA hi1 hi2 hi3 hi4 hi5 X hl hcl hsl e1 e2 e3 e4 (fun H1 locs1 X1 => kk hB H1 locs1 hI2 X1)
    refine lv_tableOut (tgt := 1066) C.1 C.2.1 dL_law_33 (jq_swo (fun k h1 h2 hk => by
      rcases (show k = 0 ∨ k = 1 ∨ k = 2 ∨ k = 3 ∨ k = 4 ∨ k = 5 ∨ k = 6 ∨ k = 7 ∨ k = 8 ∨ k = 9 ∨ k = 10 ∨ k = 11 ∨ k = 12 ∨ k = 13 ∨ k = 14 ∨ k = 15 ∨ k = 16 ∨ k = 17 ∨ k = 18 ∨ k = 19 ∨ k = 20 ∨ k = 21 ∨ k = 22 ∨ k = 23 ∨ k = 24 ∨ k = 25 ∨ k = 26 ∨ k = 27 by omega) with rfl | rfl | rfl | rfl | rfl | rfl | rfl | rfl | rfl | rfl | rfl | rfl | rfl | rfl | rfl | rfl | rfl | rfl | rfl | rfl | rfl | rfl | rfl | rfl | rfl | rfl | rfl | rfl
      · exact lv_neT hw0 (by decide) hk
      · exact lv_neT hw1 (by decide) hk
      · exact lv_neT hw2 (by decide) hk
      · exact lv_neT hw3 (by decide) hk
      · exact lv_neT hw4 (by decide) hk
      · exact lv_neT hw5 (by decide) hk
      · exact lv_neT hw6 (by decide) hk
      · exact lv_neT hw7 (by decide) hk
      · exact lv_neT hw8 (by decide) hk
      · exact lv_neT hw9 (by decide) hk
      · exact lv_neT hw10 (by decide) hk
      · exact lv_neT hw11 (by decide) hk
      · exact lv_neT hw12 (by decide) hk
      · exact lv_neT hw13 (by decide) hk
      · exact lv_neT hw14 (by decide) hk
      · exact lv_neT hw15 (by decide) hk
      · exact lv_neT hw16 (by decide) hk
      · exact lv_neT hw17 (by decide) hk
      · exact lv_neT hw18 (by decide) hk
      · exact lv_neT hw19 (by decide) hk
      · exact lv_neT hw20 (by decide) hk
      · exact lv_neT hw21 (by decide) hk
      · exact lv_neT hw22 (by decide) hk
      · exact lv_neT hw23 (by decide) hk
      · exact lv_neT hw24 (by decide) hk
      · exact lv_neT hw25 (by decide) hk
      · exact lv_neT hw26 (by decide) hk
      · exact lv_neT hw27 (by decide) hk)) (by decide) ?_
    refine W.widen (Nat.le_add_right _ 15) (Nat.le_add_right _ 2481) ?_
    exact kk h H locs hI X
