/-! ===== again ===== -/
theorem n_one : ∀ k, k < 8 → (1 : Int32) <<< (nI k &&& 31) = nI (2 ^ k) := by decide +kernel
theorem n_dec (i : Nat) : nI (i + 1) + (-1) = nI i := by
  rw [← na1 i, Int32.add_assoc]
  have : (1 : Int32) + (-1) = 0 := by decide
  rw [this, Int32.add_zero]
theorem tb_div (m k : Nat) : (m / 2 ^ k % 2 = 1) = (m.testBit k = true) := by
  rw [Nat.testBit_eq_decide_div_mod_eq, decide_eq_true_eq]
theorem n_tst {m k : Nat} (hm : m < 256) (hk : k < 8) : (((nI m >>> (nI k &&& 31)) &&& 1) = 1) = (m.testBit k = true) := by
  rw [n_bit (by omega) (by omega), ← tb_div]
  exact propext (nI_eq (b := 1) (by omega) (by decide))
theorem n_isIn {m k : Nat} (hm : m < 256) (hk : k < 8) : pf_isIn (nI m) (nI k) = if m.testBit k = true then 1 else 0 := by
  unfold pf_isIn
  simp only [n_tst hm hk]
theorem tb_or2 {m a i : Nat} (h : i ≠ a) : (m ||| 2 ^ a).testBit i = m.testBit i := by
  rw [Nat.testBit_or, Nat.testBit_two_pow_of_ne (Ne.symm h), Bool.or_false]
theorem tb_or1 {m a : Nat} : (m ||| 2 ^ a).testBit a = true := by
  rw [Nat.testBit_or, Nat.testBit_two_pow_self, Bool.or_true]
theorem tb_mono {m x i : Nat} (h : m.testBit i = true) : (m ||| x).testBit i = true := by
  rw [Nat.testBit_or, h, Bool.true_or]
section AGAIN
variable {n ax c : Nat} {ev : Int32} {M W R0 : ob_S} {rf : Nat → Option Nat} {g : Nat}
theorem CI.asks {h : jq_H} {G : Nat → gd} {R : ob_S} {i : Nat} (n : Nat) (H : CI h ax c ev M W G rf R0) (Q : ∀ g, g < c → RGq R g (G g)) (hi : i < c) : V_asks n h (g_ga (G i)) = some ((if g_kd (G i) = 7 then gk_asks (g_a (G i)) (g_b (G i)) else 0), h) := by
  have hk := (Q i hi).1
  have h8 := hk.1
  have k1 := H.go hi
  have hci : jq_ci h (g_ga (G i)) = gk_ci (g_kd (G i)) := rdC k1
  unfold V_asks
  rw [hci]
  generalize g_kd (G i) = kd at *
  unfold GO at k1
  rcases (show kd = 0 ∨ kd = 1 ∨ kd = 2 ∨ kd = 3 ∨ kd = 4 ∨ kd = 5 ∨ kd = 6 ∨ kd = 7 by omega) with rfl | rfl | rfl | rfl | rfl | rfl | rfl | rfl
  · rfl
  · rfl
  · rfl
  · rfl
  · rfl
  · rfl
  · rfl
  · show X0_asks n h (g_ga (G i)) = _
    unfold X0_asks
    rw [rdI (x := gk_asks (g_a (G i)) (g_b (G i))) k1 (by decide) rfl, Option.bind_some, if_pos rfl]
theorem asks_N {a b : Nat} (ha : a < 8) (hb : b < 8) : gk_asks a b = nI (2 ^ a ||| 2 ^ b) := by
  unfold gk_asks
  rw [n_one a ha, n_one b hb, n_or]
theorem grp_loop {h : jq_H} {G : Nat → gd} {R : ob_S} (H : CI h ax c ev M W G rf R0) (Q : ∀ g, g < c → RGq R g (G g)) {KC : Int32 → jq_H → Option (Int32 × jq_H)} {K : Int32 → Int32 → ob_S → Option (Int32 × ob_S)} :
    ∀ (k j m : Nat), j ≤ c → j < k → m < 256 → ∃ m', X10_groupOf_l6 n KC k ax (nI m) (nI j + (-1)) h = KC (nI m') h ∧ rX11_again_l16 n K k (nI g) (nI m) (nI j + (-1)) R = K (nI g) (nI m') R ∧ m' < 256 ∧ (∀ i, j ≤ i → m'.testBit i = m.testBit i) ∧ (∀ i, m.testBit i = true → m'.testBit i = true) ∧ (∀ i, i < j → m'.testBit i = true → g_kd (G i) = 7 → m'.testBit (g_a (G i)) = true ∧ m'.testBit (g_b (G i)) = true) := by
  have h8 := H.c8
  intro k
  induction k with
  | zero => intro j m h1 h2; exfalso; omega
  | succ k ih =>
    intro j m h1 h2 h3
    cases j with
    | zero =>
      have hlt : nI 0 + (-1) < (0 : Int32) := by decide
      refine ⟨m, ?_, ?_, h3, fun _ _ => rfl, fun _ q => q, fun i hi => by omega⟩
      · show X10_groupOf_b6 n (X10_groupOf_l6 n KC k) KC ax _ _ _ = _
        unfold X10_groupOf_b6
        rw [if_pos hlt]
      · show rX11_again_b16 n (rX11_again_l16 n K k) K _ _ _ _ = _
        unfold rX11_again_b16
        rw [if_pos hlt]
    | succ i =>
      rw [n_dec]
      have hi : i < c := by omega
      have hlt : ¬ nI i < (0 : Int32) := nI_pos (by omega)
      have qi := Q i hi
      have c1 : (nI i).toNatClampNeg = i := n_cl (by omega)
      have i1 : ∀ {β : Type} (x : Option β), (if jq_in (nI i) 8 then x else none) = x := fun x => n_ifin (by omega) (by decide)
      have q7 : (nI (g_kd (G i)) = 7) = (g_kd (G i) = 7) := propext (nI_eq (b := 7) (by have := qi.1.1; omega) (by decide))
      have t1 := n_tst (m := m) (k := i) h3 (by omega)
      have t2 := n_isIn (m := m) (k := i) h3 (by omega)
      have o0 : ∀ x : Int32, x ||| 0 = x := fun x => Int32.or_zero
      by_cases hb : m.testBit i = true
      · rw [if_pos hb] at t2
        by_cases h7 : g_kd (G i) = 7
        · have hab := qi.2.2.1 h7
          have s14 := qi.2.1.2.1 (by omega)
          have s15 := qi.2.1.2.2.1 (by omega)
          have ea : gk_asks (g_a (G i)) (g_b (G i)) = nI (2 ^ g_a (G i) ||| 2 ^ g_b (G i)) := asks_N (by omega) (by omega)
          have ea2 : ((1 : Int32) <<< (nI (g_a (G i)) &&& 31)) ||| ((1 : Int32) <<< (nI (g_b (G i)) &&& 31)) = nI (2 ^ g_a (G i) ||| 2 ^ g_b (G i)) := ea
          have hlt2 : m ||| (2 ^ g_a (G i) ||| 2 ^ g_b (G i)) < 256 := by
            have p1 : 2 ^ g_a (G i) < 2 ^ 8 := Nat.pow_lt_pow_right (by decide) (by omega)
            have p2 : 2 ^ g_b (G i) < 2 ^ 8 := Nat.pow_lt_pow_right (by decide) (by omega)
            exact Nat.or_lt_two_pow (n := 8) h3 (Nat.or_lt_two_pow p1 p2)
          obtain ⟨m', z1, z2, z3, z4, z5, z6⟩ := ih i (m ||| (2 ^ g_a (G i) ||| 2 ^ g_b (G i))) (by omega) (by omega) hlt2
          have mo : ∀ i', i ≤ i' → (m ||| (2 ^ g_a (G i) ||| 2 ^ g_b (G i))).testBit i' = m.testBit i' := by
            intro i' hi'
            rw [← Nat.or_assoc, tb_or2 (by omega), tb_or2 (by omega)]
          refine ⟨m', ?_, ?_, z3, fun i' hi' => by rw [z4 i' (by omega), mo i' (by omega)], fun i' q => z5 i' (tb_mono q), fun i' hi' q1 q2 => ?_⟩
          · rw [← z1]
            show X10_groupOf_b6 n (X10_groupOf_l6 n KC k) KC ax _ _ _ = _
            unfold X10_groupOf_b6 X10_groupOf_b30
            simp only [if_neg hlt, p_isIn, t2, Option.bind_some, one0, if_false, H.gg, H.ld hi, H.asks n Q hi, if_pos h7, jq_l, ea, n_or]
          · rw [← z2]
            show rX11_again_b16 n (rX11_again_l16 n K k) K _ _ _ _ = _
            unfold rX11_again_b16 rX11_again_b45 rX11_again_b74
            simp only [if_neg hlt, t1, hb, if_true, i1, c1, jq_l, qi.2.1.1, q7, if_pos h7, one0, if_false, s14, s15, ea2, n_or]
          · by_cases e : i' = i
            · subst e
              refine ⟨z5 _ ?_, z5 _ ?_⟩
              · rw [Nat.or_comm (2 ^ g_a (G i')), ← Nat.or_assoc]
                exact tb_or1
              · rw [← Nat.or_assoc]
                exact tb_or1
            · exact z6 i' (by omega) q1 q2
        · obtain ⟨m', z1, z2, z3, z4, z5, z6⟩ := ih i m (by omega) (by omega) h3
          refine ⟨m', ?_, ?_, z3, fun i' hi' => z4 i' (by omega), z5, fun i' hi' q1 q2 => ?_⟩
          · rw [← z1]
            show X10_groupOf_b6 n (X10_groupOf_l6 n KC k) KC ax _ _ _ = _
            unfold X10_groupOf_b6 X10_groupOf_b30
            simp only [if_neg hlt, p_isIn, t2, Option.bind_some, one0, if_false, H.gg, H.ld hi, H.asks n Q hi, if_neg h7, jq_l, o0]
          · rw [← z2]
            show rX11_again_b16 n (rX11_again_l16 n K k) K _ _ _ _ = _
            unfold rX11_again_b16 rX11_again_b44 rX11_again_b45 rX11_again_b74
            simp only [if_neg hlt, t1, hb, if_true, i1, c1, jq_l, qi.2.1.1, q7, if_neg h7, o0]
          · by_cases e : i' = i
            · subst e
              exact absurd q2 h7
            · exact z6 i' (by omega) q1 q2
      · rw [if_neg hb] at t2
        obtain ⟨m', z1, z2, z3, z4, z5, z6⟩ := ih i m (by omega) (by omega) h3
        refine ⟨m', ?_, ?_, z3, fun i' hi' => z4 i' (by omega), z5, fun i' hi' q1 q2 => ?_⟩
        · rw [← z1]
          show X10_groupOf_b6 n (X10_groupOf_l6 n KC k) KC ax _ _ _ = _
          unfold X10_groupOf_b6 X10_groupOf_b30
          simp only [if_neg hlt, p_isIn, t2, Option.bind_some, if_true, jq_l]
        · rw [← z2]
          show rX11_again_b16 n (rX11_again_l16 n K k) K _ _ _ _ = _
          unfold rX11_again_b16 rX11_again_b44 rX11_again_b45 rX11_again_b74
          simp only [if_neg hlt, t1, if_neg hb, jq_l, if_true, o0]
        · by_cases e : i' = i
          · subst e
            exact absurd (by rw [← z4 i' (Nat.le_refl _)]; exact q1) hb
          · exact z6 i' (by omega) q1 q2
/-- those of the group forget -/
theorem forget_loop (hn : 812 < n) (hg : g < c) {m : Nat} (hm : m < 256) {KC : Nat → Int32 → Int32 → jq_H → Option (Int32 × jq_H)} {K : Int32 → Int32 → ob_S → Option (Int32 × ob_S)} :
    ∀ (k j : Nat) (h : jq_H) (G : Nat → gd) (R : ob_S), CI h ax c ev M W G rf R0 → (∀ g, g < c → RGq R g (G g)) → j ≤ g + 1 → g + 1 < j + k →
      ∃ h' G' R', X10_again_l18 n KC k ax (nI g) (nI m) (nI j) h = KC ax (nI g) (nI m) h' ∧ rX11_again_l84 n K k (nI g) (nI m) (nI j) R = K (nI g) (nI m) R' ∧ CI h' ax c ev M W G' rf R0 ∧ (∀ g, g < c → RGq R' g (G' g)) ∧ (∀ i, (G' i).1 = (G i).1) ∧ (∀ k, k ≠ 18 → R' k = R k) := by
  intro k
  induction k with
  | zero => intro j h G R _ _ h1 h2; exfalso; omega
  | succ k ih =>
    intro j h G R H Q h1 h2
    have h8 := H.c8
    by_cases hj : g < j
    · have hle : nI g < nI j := (nI_ltI (by omega) (by omega)).mpr hj
      refine ⟨h, G, R, ?_, ?_, H, Q, fun _ => rfl, fun _ _ => rfl⟩
      · show X10_again_b18 n (X10_again_l18 n KC k) KC ax _ _ _ _ = _
        unfold X10_again_b18
        rw [if_pos hle]
      · show rX11_again_b84 n (rX11_again_l84 n K k) K _ _ _ _ = _
        unfold rX11_again_b84
        rw [if_pos hle]
    · have hle : ¬ nI g < nI j := fun q => hj ((nI_ltI (by omega) (by omega)).mp q)
      have hjc : j < c := by omega
      have t1 := n_tst (m := m) (k := j) hm (by omega)
      have t2 := n_isIn (m := m) (k := j) hm (by omega)
      by_cases hb : m.testBit j = true
      · rw [if_pos hb] at t2
        obtain ⟨h', x', m1, m2, m3, m4, m5⟩ := forget1 hn hjc H Q
        obtain ⟨h2', G2, R2, z1, z2, z3, z4, z5, z6⟩ := ih (j + 1) h' _ _ m3 m5 (by omega) (by omega)
        refine ⟨h2', G2, R2, ?_, ?_, z3, z4, fun i => by rw [z5 i]; exact gup_1 m2, fun k q1 => by rw [z6 k q1]; exact bset_ne q1⟩
        · rw [← z1]
          show X10_again_b18 n (X10_again_l18 n KC k) KC ax _ _ _ _ = _
          unfold X10_again_b18 X10_again_b40
          simp only [if_neg hle, p_isIn, t2, Option.bind_some, one0, if_false, H.gg, H.ld hjc, m1, jq_l, na1]
        · rw [← z2]
          show rX11_again_b84 n (rX11_again_l84 n K k) K _ _ _ _ = _
          unfold rX11_again_b84 rX11_again_b103
          simp only [if_neg hle, t1, hb, if_true, m4, Option.bind_some, jq_l, na1]
      · rw [if_neg hb] at t2
        obtain ⟨h2', G2, R2, z1, z2, z3, z4, z5, z6⟩ := ih (j + 1) h G R H Q (by omega) (by omega)
        refine ⟨h2', G2, R2, ?_, ?_, z3, z4, z5, z6⟩
        · rw [← z1]
          show X10_again_b18 n (X10_again_l18 n KC k) KC ax _ _ _ _ = _
          unfold X10_again_b18 X10_again_b40
          simp only [if_neg hle, p_isIn, t2, Option.bind_some, if_true, jq_l, na1]
        · rw [← z2]
          show rX11_again_b84 n (rX11_again_l84 n K k) K _ _ _ _ = _
          unfold rX11_again_b84 rX11_again_b103
          simp only [if_neg hle, t1, if_neg hb, jq_l, na1]
/-- those of the group meet one branch of the row -/
theorem group_loop (hn : 100 < n) (hg : g < c) {m i0 p w : Nat} (hm : m < 256) (hi0 : i0 < 3000) (hp : p < 64) (hw : w < 2) {KC : Nat → Int32 → Int32 → Int32 → jq_H → Option (Int32 × jq_H)} {K : Int32 → Int32 → Int32 → ob_S → Option (Int32 × ob_S)} :
    ∀ (k j : Nat) (h : jq_H) (G : Nat → gd) (R : ob_S), CI h ax c ev M W G rf R0 → M 3 = R 3 → R 10 i0 = nI p → R 11 i0 = nI w → (∀ g, g < c → RGq R g (G g)) → (∀ i, i < c → m.testBit i = true → g_kd (G i) = 7 → m.testBit (g_a (G i)) = true ∧ m.testBit (g_b (G i)) = true) → (∀ i, i < j → m.testBit i = true → g_sd (G i) = R 21 i) → j ≤ g + 1 → g + 1 < j + k →
      ∃ h' G' R', X10_again_l82 n KC k ax (nI g) (nI m) (nI i0) (nI p) (nI w) (nI j) h = KC ax (nI g) (nI m) (nI i0) h' ∧ rX11_again_l122 n K k (nI g) (nI m) (nI i0) (nI j) R = K (nI g) (nI m) (nI i0) R' ∧ CI h' ax c ev M W G' rf R0 ∧ (∀ g, g < c → RGq R' g (G' g)) ∧ (∀ i, (G' i).1 = (G i).1) ∧ (∀ k, k ≠ 18 → k ≠ 21 → R' k = R k) := by
  intro k
  induction k with
  | zero => intro j h G R _ _ _ _ _ _ _ h1 h2; exfalso; omega
  | succ k ih =>
    intro j h G R H h3 h10 h11 Q hcl hs h1 h2
    have h8 := H.c8
    by_cases hj : g < j
    · have hle : nI g < nI j := (nI_ltI (by omega) (by omega)).mpr hj
      refine ⟨h, G, R, ?_, ?_, H, Q, fun _ => rfl, fun _ _ _ => rfl⟩
      · show X10_again_b82 n (X10_again_l82 n KC k) KC ax _ _ _ _ _ _ _ = _
        unfold X10_again_b82
        rw [if_pos hle]
      · show rX11_again_b122 n (rX11_again_l122 n K k) K _ _ _ _ _ = _
        unfold rX11_again_b122
        rw [if_pos hle]
    · have hle : ¬ nI g < nI j := fun q => hj ((nI_ltI (by omega) (by omega)).mp q)
      have hjc : j < c := by omega
      have t1 := n_tst (m := m) (k := j) hm (by omega)
      have t2 := n_isIn (m := m) (k := j) hm (by omega)
      have c1 : (nI i0).toNatClampNeg = i0 := n_cl (by omega)
      have i1 : ∀ {β : Type} (x : Option β), (if jq_in (nI i0) 3000 then x else none) = x := fun x => n_ifin hi0 (by decide)
      by_cases hb : m.testBit j = true
      · rw [if_pos hb] at t2
        obtain ⟨h', x', R', m1, m2, m3, m4, m5, m6, m7, m8⟩ := meet1 hn hp hw hjc H h3 Q (fun q => by
          have q1 := (Q j hjc).2.2.1 q
          have q2 := hcl j hjc hb q
          exact ⟨hs _ q1.1 q2.1, hs _ q1.2 q2.2⟩)
        have hcl' : ∀ i, i < c → m.testBit i = true → g_kd (gup G j x' i) = 7 → m.testBit (g_a (gup G j x' i)) = true ∧ m.testBit (g_b (gup G j x' i)) = true := by
          intro i hi
          show _ → (gup G j x' i).1.2.1 = 7 → m.testBit (gup G j x' i).1.2.2.1 = true ∧ m.testBit (gup G j x' i).1.2.2.2.1 = true
          rw [gup_1 m2]
          exact hcl i hi
        obtain ⟨h2', G2, R2, z1, z2, z3, z4, z5, z6⟩ := ih (j + 1) h' _ R' m3 (by rw [m8 3 (by decide) (by decide)]; exact h3) (by rw [m8 10 (by decide) (by decide)]; exact h10) (by rw [m8 11 (by decide) (by decide)]; exact h11) m5 hcl' (fun i hi q => by
          by_cases e : i = j
          · subst e
            rw [gup_at]
            exact m6
          · rw [gup_ne e, m7 i e]
            exact hs i (by omega) q) (by omega) (by omega)
        refine ⟨h2', G2, R2, ?_, ?_, z3, z4, fun i => by rw [z5 i]; exact gup_1 m2, fun k q1 q2 => by rw [z6 k q1 q2]; exact m8 k q1 q2⟩
        · rw [← z1]
          show X10_again_b82 n (X10_again_l82 n KC k) KC ax _ _ _ _ _ _ _ = _
          unfold X10_again_b82 X10_again_b111
          simp only [if_neg hle, p_isIn, t2, Option.bind_some, one0, if_false, H.gg, H.ld hjc, m1, jq_l, na1]
        · rw [← z2]
          show rX11_again_b122 n (rX11_again_l122 n K k) K _ _ _ _ _ = _
          unfold rX11_again_b122 rX11_again_b156
          simp only [if_neg hle, t1, hb, if_true, i1, c1, h10, h11, m4, Option.bind_some, jq_l, na1]
      · rw [if_neg hb] at t2
        obtain ⟨h2', G2, R2, z1, z2, z3, z4, z5, z6⟩ := ih (j + 1) h G R H h3 h10 h11 Q hcl (fun i hi q => by
          by_cases e : i = j
          · subst e
            exact absurd q hb
          · exact hs i (by omega) q) (by omega) (by omega)
        refine ⟨h2', G2, R2, ?_, ?_, z3, z4, z5, z6⟩
        · rw [← z1]
          show X10_again_b82 n (X10_again_l82 n KC k) KC ax _ _ _ _ _ _ _ = _
          unfold X10_again_b82 X10_again_b111
          simp only [if_neg hle, p_isIn, t2, Option.bind_some, if_true, jq_l, na1]
        · rw [← z2]
          show rX11_again_b122 n (rX11_again_l122 n K k) K _ _ _ _ _ = _
          unfold rX11_again_b122 rX11_again_b156
          simp only [if_neg hle, t1, if_neg hb, jq_l, na1]
/-- the whole row -/
theorem rows_loop (hn : 100 < n) (hg : g < c) {m mm : Nat} {pl wy : Nat → Nat} (hm : m < 256) {KC : Nat → Int32 → jq_H → Option (Int32 × jq_H)} {K : Int32 → ob_S → Option (Int32 × ob_S)} :
    ∀ (k j : Nat) (h : jq_H) (G : Nat → gd) (R : ob_S), CI h ax c ev M W G rf R0 → M 3 = R 3 → RWq mm pl wy W R → (∀ g, g < c → RGq R g (G g)) → (∀ i, i < c → m.testBit i = true → g_kd (G i) = 7 → m.testBit (g_a (G i)) = true ∧ m.testBit (g_b (G i)) = true) → j ≤ mm → mm < j + k →
      ∃ h' G' R', X10_again_l48 n KC k ax (nI g) (nI m) (nI j) h = KC ax (nI g) h' ∧ rX11_again_l111 n K k (nI g) (nI m) (nI j) R = K (nI g) R' ∧ CI h' ax c ev M W G' rf R0 ∧ (∀ g, g < c → RGq R' g (G' g)) ∧ (∀ k, k ≠ 18 → k ≠ 21 → R' k = R k) := by
  intro k
  induction k with
  | zero => intro j h G R _ _ _ _ _ h1 h2; exfalso; omega
  | succ k ih =>
    intro j h G R H h3 qw Q hcl h1 h2
    have h8 := H.c8
    have hmm := qw.1
    have r9 := qw.2.1
    by_cases hj : mm ≤ j
    · have hle : nI mm ≤ nI j := (nI_leI (by omega) (by omega)).mpr hj
      refine ⟨h, G, R, ?_, ?_, H, Q, fun _ _ _ => rfl⟩
      · show X10_again_b48 n (X10_again_l48 n KC k) KC ax _ _ _ _ = _
        unfold X10_again_b48
        rw [H.gw, Option.bind_some, H.size qw, Option.bind_some, if_pos hle]
      · show rX11_again_b111 n (rX11_again_l111 n K k) K _ _ _ _ = _
        unfold rX11_again_b111
        simp only [jq_l, r9]
        rw [if_pos hle]
    · have hle : ¬ nI mm ≤ nI j := fun q => hj ((nI_leI (by omega) (by omega)).mp q)
      obtain ⟨b1, b2, b3, b4, b5⟩ := qw.2.2.2.1 j (by omega)
      obtain ⟨h', G', R', m1, m2, m3, m4, m5, m6⟩ := group_loop (n := n) (KC := fun w0 w1 w2 w3 hh => X10_again_b117 n (X10_again_l48 n KC k) KC w0 w1 w2 w3 hh) (K := fun w1 w2 w3 SS => rX11_again_b162 n (rX11_again_l111 n K k) K w1 w2 w3 SS) hn hg hm (show j < 3000 by omega) b1 b2 n 0 h G R H h3 b3 b4 Q hcl (fun i hi => by omega) (by omega) (by omega)
      have hcl' : ∀ i, i < c → m.testBit i = true → g_kd (G' i) = 7 → m.testBit (g_a (G' i)) = true ∧ m.testBit (g_b (G' i)) = true := by
        intro i hi
        show _ → (G' i).1.2.1 = 7 → m.testBit (G' i).1.2.2.1 = true ∧ m.testBit (G' i).1.2.2.2.1 = true
        rw [m5 i]
        exact hcl i hi
      obtain ⟨h2', G2, R2, z1, z2, z3, z4, z5⟩ := ih (j + 1) h' G' R' m3 (by rw [m6 3 (by decide) (by decide)]; exact h3) (qw.of (fun k q1 q2 => m6 k (by omega) (by omega))) m4 hcl' (by omega) (by omega)
      refine ⟨h2', G2, R2, ?_, ?_, z3, z4, fun k q1 q2 => by rw [z5 k q1 q2]; exact m6 k q1 q2⟩
      · rw [← z1]
        show X10_again_b48 n (X10_again_l48 n KC k) KC ax _ _ _ _ = _
        unfold X10_again_b48
        simp only [H.gw, Option.bind_some, H.size qw, if_neg hle, H.place n qw (show j < mm by omega), H.way n qw (show j < mm by omega), jq_l]
        refine m1.trans ?_
        simp only [X10_again_b117, jq_l, na1]
      · rw [← z2]
        show rX11_again_b111 n (rX11_again_l111 n K k) K _ _ _ _ = _
        unfold rX11_again_b111
        simp only [jq_l, r9, if_neg hle]
        refine m2.trans ?_
        simp only [rX11_again_b162, jq_l, na1]
theorem S_again {h : jq_H} {G : Nat → gd} {R : ob_S} {a1 : Int32} (hn : 3000 < n) (H : CI h ax c ev M W G rf R) (Q : REL c ev M W G R) : SIMq ax (fun h a => X10_again n h a a1) (fun S => rX11_again n S a1) h R := by
  have h8 := H.c8
  rcases pf_g (x := a1) H.c8 with ⟨h1, -⟩ | ⟨h1, g, hg, rfl⟩
  · exact SIMq.same H Q (r := -1) (by simp only [X10_again, H.isG', Option.bind_some, h1, if_true]) (by simp only [rX11_again, Q.isG, Option.bind_some, h1, if_true])
  obtain ⟨mm, pl, wy, qw⟩ := Q.2.1
  have hmm := qw.1
  have e1 : (1 : Int32) <<< (nI g &&& 31) = nI (2 ^ g) := n_one g (by omega)
  have p8 : 2 ^ g < 256 := (Nat.pow_lt_pow_right (by decide) (by omega) : 2 ^ g < 2 ^ 8)
  obtain ⟨m, y1, y2, y3, y4, y5, y6⟩ := grp_loop (n := n) (g := g) (G := G) (R := R) H Q.2.2.1 (KC := fun w2 hh => X10_groupOf_b36 n w2 hh) (K := fun w1 w2 SS => rX11_again_b82 n w1 w2 SS) n (g + 1) (2 ^ g) (by omega) (by omega) p8
  rw [n_dec] at y1 y2
  obtain ⟨h2, G2, R2, x1, x2, x3, x4, x5, x6⟩ := forget_loop (n := n) (m := m) (KC := fun w0 w1 w2 hh => X10_again_b46 n w0 w1 w2 hh) (K := fun w1 w2 SS => rX11_again_b109 n w1 w2 SS) (by omega) hg y3 n 0 h G R H Q.2.2.1 (by omega) (by omega)
  have hcl : ∀ i, i < c → m.testBit i = true → g_kd (G2 i) = 7 → m.testBit (g_a (G2 i)) = true ∧ m.testBit (g_b (G2 i)) = true := by
    intro i hi
    show _ → (G2 i).1.2.1 = 7 → m.testBit (G2 i).1.2.2.1 = true ∧ m.testBit (G2 i).1.2.2.2.1 = true
    rw [x5 i]
    intro q1 q2
    by_cases hig : i < g + 1
    · exact y6 i hig q1 q2
    · rw [y4 i (by omega), Nat.testBit_two_pow_of_ne (by omega)] at q1
      exact absurd q1 (by decide)
  obtain ⟨h', G', R', z1, z2, z3, z4, z5⟩ := rows_loop (n := n) (m := m) (KC := fun w0 w1 hh => X10_again_b123 n w0 w1 hh) (K := fun w1 SS => rX11_again_b168 n w1 SS) (by omega) hg y3 n 0 h2 G2 R2 x3 (by rw [x6 3 (by decide)]; exact Q.1.1 3 (by decide)) (qw.of (fun k q1 q2 => x6 k (by omega))) x4 hcl (by omega) (by omega)
  refine ⟨bx_sum (fun p => nbS R' g (448 + p)) 64, h', c, ev, M, W, G', rf, R', ?_, z3, ?_, Q.other z4 (fun k q => by rw [z5 k (by omega) (by omega), x6 k (by omega)])⟩
  · have e7 : jq_gI [3] 7 h' (g_ga (G' g) + 9) = some (bx_sum (fun p => nbS R' g (448 + p)) 64) := by
      rw [ob_gI (z3.ob hg) (k := 7) rfl (by decide), (z4 g hg).2.2.2.2.1.2.2.2.2.2.2.2.1]
    have y1' : X10_groupOf n h ax (nI g) = some (nI m, h) := by
      unfold X10_groupOf
      simp only [jq_l, e1]
      exact y1
    simp only [X10_again, H.isG', Option.bind_some, h1, one0, if_false, if_pos H.ci, y1', jq_l]
    refine x1.trans ?_
    simp only [X10_again_b46]
    refine z1.trans ?_
    simp only [X10_again_b123, z3.gg, z3.ld hg, z3.now hg, e7, Option.bind_some]
  · simp only [rX11_again, Q.isG, Option.bind_some, h1, one0, if_false, jq_l, e1]
    refine y2.trans ?_
    simp only [rX11_again_b82]
    refine x2.trans ?_
    simp only [rX11_again_b109]
    refine z2.trans ?_
    simp only [rX11_again_b168, L_missesOf (S := R') (show 64 < n by omega) (show g < 8 by omega), Option.bind_some]
end AGAIN
