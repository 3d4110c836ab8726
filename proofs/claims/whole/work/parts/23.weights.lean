section WEIGHTS
variable {n ga a b c mc oa ob p w : Nat} {h : jq_H} {said : Int32} {S : ob_S} {nb : Nat → Int32}
theorem bit256 {H k : Nat} (hk : k < 8) : H % 256 / 2 ^ k % 2 = H / 2 ^ k % 2 := by
  rcases (show k = 0 ∨ k = 1 ∨ k = 2 ∨ k = 3 ∨ k = 4 ∨ k = 5 ∨ k = 6 ∨ k = 7 by omega) with rfl | rfl | rfl | rfl | rfl | rfl | rfl | rfl <;> simp only [Nat.reducePow] <;> omega
theorem bit_9 {j : Nat} (hj : j ≤ 8) (G : GO h ga 5 a b c mc oa ob said) (O : OB h (ga + 9) 3 (sh_L (gk_nc 5 a b c) (gk_ns 5 a c)) S) (h5 : S 5 0 = nI ((nb 808).toNatClampNeg % 256)) :
    X9_bitOf n h ga (nI j) = some (nI (sp_wb (nb 808).toNatClampNeg j), h) := by
  have o5 := ob_gI (cs := [3]) O (k := 5) rfl (by decide)
  rw [h5] at o5
  unfold X9_bitOf X9_bitOf_b21 sp_wb
  by_cases hj0 : j = 0
  · rw [if_pos ((nI_z (by omega)).mpr hj0), if_pos hj0]
    rfl
  · rw [if_neg (fun q => hj0 ((nI_z (by omega)).mp q)), if_neg hj0]
    have hjj : nI j - 1 = nI (j - 1) := by
      obtain ⟨j', rfl⟩ : ∃ j', j = j' + 1 := ⟨j - 1, by omega⟩
      exact nI_pred j'
    rw [rdR (q := ga + 9) G (by decide) rfl, Option.bind_some, o5, Option.bind_some, hjj, n_bit (by omega) (by omega), bit256 (by omega)]
    rfl
theorem wb_lt (H j : Nat) : sp_wb H j < 2 := by
  unfold sp_wb sp_bit
  split
  · omega
  · exact Nat.mod_lt _ (by decide)
theorem ix5 {r j : Nat} (hj : j ≤ b) : gk_ix 5 a b (r * (b + 1) + j) = 9 * r + j := by
  unfold gk_ix
  rw [if_neg (by decide), if_pos rfl, Nat.mul_comm r, Nat.mul_add_div (by omega), Nat.div_eq_of_lt (by omega), Nat.mul_add_mod, Nat.mod_eq_of_lt (by omega), Nat.add_zero]
theorem r_lt (hk : gkOK 5 a b c) : p % 2 ^ a < 2 ^ a ∧ p % 2 ^ a < 16 := by
  have ha := hk.2.2.2.2.2.2.1 rfl
  have h1 := Nat.mod_lt p (Nat.two_pow_pos a)
  have h2 : 2 ^ a ≤ 16 := (Nat.pow_le_pow_right (by decide) ha.1 : 2 ^ a ≤ 2 ^ 4)
  exact ⟨h1, by omega⟩
theorem nc5 {r j : Nat} (hr : r < 2 ^ a) (hj : j ≤ b) : r * (b + 1) + j < gk_nc 5 a b c := by
  show _ < 2 ^ a * (b + 1)
  have : (r + 1) * (b + 1) ≤ 2 ^ a * (b + 1) := Nat.mul_le_mul_right _ hr
  rw [Nat.succ_mul] at this
  omega
/-- the class's sum on its way -/
def sm9 (nb : Nat → Int32) (r H : Nat) : Nat → Int32
  | 0 => 0
  | j + 1 => sp_sum nb r H j
theorem sm9_succ {r H j : Nat} : sm9 nb r H j + (if sp_wb H j = 1 then nb (9 * r + j) else -(nb (9 * r + j))) = sm9 nb r H (j + 1) := by
  cases j with
  | zero =>
    show 0 + _ = nb (9 * r)
    rw [if_pos (show sp_wb H 0 = 1 from rfl), Int32.zero_add, Nat.add_zero]
  | succ j =>
    show sp_sum nb r H j + _ = sp_sum nb r H j + _
    congr 1
    have hw : sp_wb H (j + 1) = sp_bit H j := by unfold sp_wb; rw [if_neg (by omega), Nat.add_sub_cancel]
    rw [hw, show 9 * r + (j + 1) = 9 * r + 1 + j by omega]
theorem sum_9l {K : Int32 → jq_H → Option (Int32 × jq_H)} {r : Nat} (hr : r < 2 ^ a) (hk : gkOK 5 a b c) (G : GO h ga 5 a b c mc oa ob said) (O : OB h (ga + 9) 3 (sh_L (gk_nc 5 a b c) (gk_ns 5 a c)) S) (R : LR 5 a b c nb S) :
    ∀ (k j : Nat), j ≤ b + 1 → b + 1 < j + k → X9_sumAt_l16 n K k ga (nI (r * (b + 1))) (sm9 nb r (nb 808).toNatClampNeg j) (nI j) h = K (sm9 nb r (nb 808).toNatClampNeg (b + 1)) h := by
  have ha := hk.2.2.2.2.2.2.1 rfl
  have hnc := nc_lt hk
  have r5 : jq_gI [8] 5 h ga = some (nI (b + 1)) := rdI G (by decide) rfl
  have r3 : jq_gR [8] 3 h ga = some (ga + 9) := rdR G (by decide) rfl
  have o0 := ob_gR (cs := [3]) O (k := 0) rfl (by decide)
  intro k
  induction k with
  | zero => intro j h1 h2; exfalso; omega
  | succ k ih =>
    intro j h1 h2
    show X9_sumAt_b16 n (X9_sumAt_l16 n K k) K _ _ _ _ _ = _
    unfold X9_sumAt_b16
    rw [r5, Option.bind_some]
    by_cases hj : b + 1 ≤ j
    · rw [if_pos ((nI_leI (by omega) (by omega)).mpr hj)]
      have : j = b + 1 := by omega
      rw [this]
    · rw [if_neg (fun q => hj ((nI_leI (by omega) (by omega)).mp q))]
      have hb := bit_9 (n := n) (j := j) (nb := nb) (by omega) G O R.2.2.2.2.2.1
      have hl := nc5 (c := c) hr (show j ≤ b by omega)
      have hv := R.1 _ hl
      rw [ix5 (by omega)] at hv
      have ld := ld_c O hl (by omega)
      rw [hv] at ld
      have ih' := ih (j + 1) (by omega) (by omega)
      rw [← sm9_succ] at ih'
      rw [if_pos (show jq_ci h ga = 8 from rdC G), hb, Option.bind_some]
      dsimp only
      unfold X9_sumAt_b64
      simp only [nI_add, jq_l, na1]
      have e1 : (nI (sp_wb (nb 808).toNatClampNeg j) = (1 : Int32)) ↔ sp_wb (nb 808).toNatClampNeg j = 1 := nI_w1 (wb_lt _ _)
      by_cases hq : sp_wb (nb 808).toNatClampNeg j = 1
      · rw [if_pos (e1.mpr hq), r3, Option.bind_some, o0, Option.bind_some, ld, Option.bind_some]
        rw [if_pos hq] at ih'
        exact ih'
      · rw [if_neg (fun q => hq (e1.mp q)), r3, Option.bind_some, o0, Option.bind_some, ld, Option.bind_some]
        rw [if_neg hq] at ih'
        exact ih'
theorem sum_9 (hn : 20 < n) (hk : gkOK 5 a b c) (G : GO h ga 5 a b c mc oa ob said) (O : OB h (ga + 9) 3 (sh_L (gk_nc 5 a b c) (gk_ns 5 a c)) S) (R : LR 5 a b c nb S) :
    X9_sumAt n h ga (nI p) = some (sp_sum nb (p % 2 ^ a) (nb 808).toNatClampNeg b, h) := by
  have ha := hk.2.2.2.2.2.2.1 rfl
  have hs : X9_slotOf n h ga (nI p) = some (nI (p % 2 ^ a), h) := slot_9 (n := n) (p := p) (nb := nb) G
  have hl := sum_9l (n := n) (K := fun w3 hh => X9_sumAt_b72 n w3 hh) (r_lt (p := p) hk).1 hk G O R n 0 (by omega) (by omega)
  unfold X9_sumAt
  rw [if_pos (show jq_ci h ga = 8 from rdC G), hs, Option.bind_some]
  dsimp only
  rw [rdI (x := nI (b + 1)) G (by decide) rfl, Option.bind_some]
  simp only [jq_l, pk_mul]
  exact hl
theorem own_5 (hn : 20 < n) (hk : gkOK 5 a b c) (G : GO h ga 5 a b c mc oa ob said) (O : OB h (ga + 9) 3 (sh_L (gk_nc 5 a b c) (gk_ns 5 a c)) S) (R : LR 5 a b c nb S) :
    X9_ownWay n h ga (nI p) = some ((if sp_sum nb (p % 2 ^ a) (nb 808).toNatClampNeg b < 0 then 0 else 1), h) := by
  unfold X9_ownWay X9_ownWay_b13
  rw [if_pos (show jq_ci h ga = 8 from rdC G), sum_9 hn hk G O R, Option.bind_some]
  dsimp only
  generalize sp_sum nb (p % 2 ^ a) (nb 808).toNatClampNeg b = sm
  by_cases hq : sm < 0
  · rw [if_pos hq, if_pos hq]
  · rw [if_neg hq, if_neg hq]
/-- limits: the least and the most -/
theorem lim_w {v d : Int32} (hv : -64 ≤ v ∧ v ≤ 63) (hd : d = 1 ∨ d = -1) : (if (-64 : Int32) < (if v + d < 63 then v + d else 63) then (if v + d < 63 then v + d else 63) else -64) = (if v + d ≤ 63 then (if -64 ≤ v + d then v + d else -64) else 63) := by
  have hi : (v + d).toInt = v.toInt + d.toInt := by
    have h1 := Int32.le_iff_toInt_le.mp hv.1
    have h2 := Int32.le_iff_toInt_le.mp hv.2
    have e1 : (-64 : Int32).toInt = -64 := by decide
    have e2 : (63 : Int32).toInt = 63 := by decide
    rw [Int32.toInt_add]
    rcases hd with rfl | rfl
    · have e3 : (1 : Int32).toInt = 1 := by decide
      rw [e3]
      apply Int.bmod_eq_of_le <;> omega
    · have e3 : (-1 : Int32).toInt = -1 := by decide
      rw [e3]
      apply Int.bmod_eq_of_le <;> omega
  generalize v + d = x at hi ⊢
  have e1 : (-64 : Int32).toInt = -64 := by decide
  have e2 : (63 : Int32).toInt = 63 := by decide
  have l1 : (x < 63) ↔ x.toInt < 63 := by rw [Int32.lt_iff_toInt_lt, e2]
  have l2 : (x ≤ 63) ↔ x.toInt ≤ 63 := by rw [Int32.le_iff_toInt_le, e2]
  have l3 : (-64 < x) ↔ -64 < x.toInt := by rw [Int32.lt_iff_toInt_lt, e1]
  have l4 : (-64 ≤ x) ↔ -64 ≤ x.toInt := by rw [Int32.le_iff_toInt_le, e1]
  have l5 : (-64 : Int32) < 63 := by decide
  by_cases h1 : x.toInt < 63
  · rw [if_pos (l1.mpr h1), if_pos (l2.mpr (by omega))]
    by_cases h2 : -64 < x.toInt
    · rw [if_pos (l3.mpr h2), if_pos (l4.mpr (by omega))]
    · rw [if_neg (fun q => h2 (l3.mp q))]
      by_cases h3 : -64 ≤ x.toInt
      · rw [if_pos (l4.mpr h3)]
        apply Int32.toInt_inj.mp
        rw [e1]
        omega
      · rw [if_neg (fun q => h3 (l4.mp q))]
  · rw [if_neg (fun q => h1 (l1.mp q)), if_pos l5]
    by_cases h2 : x.toInt ≤ 63
    · rw [if_pos (l2.mpr h2), if_pos (l4.mpr (by omega))]
      apply Int32.toInt_inj.mp
      rw [e2]
      omega
    · rw [if_neg (fun q => h2 (l2.mp q))]
theorem ix5_inj {r j i : Nat} (hj : j ≤ b) (h : gk_ix 5 a b i = 9 * r + j) (hb : b ≤ 8) : i = r * (b + 1) + j := by
  unfold gk_ix at h
  rw [if_neg (by decide), if_pos rfl] at h
  have h1 := Nat.mod_lt i (show 0 < b + 1 by omega)
  have h3 := Nat.div_add_mod i (b + 1)
  have h5 : i / (b + 1) = r := by omega
  have h6 : i % (b + 1) = j := by omega
  rw [← h3, h5, h6, Nat.mul_comm]
theorem learn_5l {K : jq_H → Option jq_H} {h0 : jq_H} {S0 : ob_S} {r : Nat} (hr : r < 2 ^ a) (hw : w < 2) (hk : gkOK 5 a b c) (B : cellOK 5 nb) (hh : hisOK nb) (G0 : GO h0 ga 5 a b c mc oa ob said) (h5 : S0 5 0 = nI ((nb 808).toNatClampNeg % 256)) :
    ∀ (k j : Nat) (h : jq_H) (S : ob_S), j ≤ b + 1 → b + 1 < j + k → OF (ga + 9) 6 3 (sh_L (gk_nc 5 a b c) (gk_ns 5 a c)) h0 S h → (∀ k, k ≠ 0 → S k = S0 k) → (∀ i, i < gk_nc 5 a b c → S 0 i = sp_wrow nb r (nb 808).toNatClampNeg w j (gk_ix 5 a b i)) →
      ∃ h' S', X9_learn_l67 n K k ga (nI w) (nI (r * (b + 1))) (nI j) h = K h' ∧ OF (ga + 9) 6 3 (sh_L (gk_nc 5 a b c) (gk_ns 5 a c)) h0 S' h' ∧ (∀ k, k ≠ 0 → S' k = S0 k) ∧ (∀ i, i < gk_nc 5 a b c → S' 0 i = sp_wrow nb r (nb 808).toNatClampNeg w (b + 1) (gk_ix 5 a b i)) := by
  have ha := hk.2.2.2.2.2.2.1 rfl
  have hnc := nc_lt hk
  have hr16 : r < 16 := Nat.lt_of_lt_of_le hr (Nat.pow_le_pow_right (by decide) ha.1 : 2 ^ a ≤ 2 ^ 4)
  intro k
  induction k with
  | zero => intro j h S h1 h2; exfalso; omega
  | succ k ih =>
    intro j h S h1 h2 O hS hC
    have G := O.go G0
    have r5 : jq_gI [8] 5 h ga = some (nI (b + 1)) := rdI G (by decide) rfl
    have r3 : jq_gR [8] 3 h ga = some (ga + 9) := rdR G (by decide) rfl
    have o0 := ob_gR (cs := [3]) O.1 (k := 0) rfl (by decide)
    show ∃ h' S', X9_learn_b67 n (X9_learn_l67 n K k) K _ _ _ _ _ = K h' ∧ _
    unfold X9_learn_b67
    rw [r5, Option.bind_some]
    by_cases hj : b + 1 ≤ j
    · rw [if_pos ((nI_leI (by omega) (by omega)).mpr hj)]
      have : j = b + 1 := by omega
      subst this
      exact ⟨h, S, rfl, O, hS, hC⟩
    · rw [if_neg (fun q => hj ((nI_leI (by omega) (by omega)).mp q))]
      have hb := bit_9 (n := n) (j := j) (nb := nb) (by omega) G O.1 (by rw [hS 5 (by decide)]; exact h5)
      have hl := nc5 (c := c) hr (show j ≤ b by omega)
      have hv := hC _ hl
      rw [ix5 (by omega)] at hv
      have hv0 : sp_wrow nb r (nb 808).toNatClampNeg w j (9 * r + j) = nb (9 * r + j) := by rw [sp_wrow, if_neg (by omega)]
      rw [hv0] at hv
      have ld := ld_c O.1 hl (by omega)
      rw [hv] at ld
      have hrg := B.2.1 rfl (9 * r + j) (by omega)
      rw [r3, Option.bind_some, o0, Option.bind_some, nI_add, ld, Option.bind_some, if_pos (show jq_ci h ga = 8 from rdC G), hb, Option.bind_some]
      dsimp only
      have step : ∀ d : Int32, (d = 1 ∨ d = -1) → sp_wv (nb (9 * r + j)) (sp_wb (nb 808).toNatClampNeg j = w) = (if nb (9 * r + j) + d ≤ 63 then (if -64 ≤ nb (9 * r + j) + d then nb (9 * r + j) + d else -64) else 63) →
          ∃ h' S', X9_learn_b104 n (X9_learn_l67 n K k) K ga (nI w) (nI (r * (b + 1))) (nI j) (nb (9 * r + j)) d h = K h' ∧ OF (ga + 9) 6 3 (sh_L (gk_nc 5 a b c) (gk_ns 5 a c)) h0 S' h' ∧ (∀ k, k ≠ 0 → S' k = S0 k) ∧ (∀ i, i < gk_nc 5 a b c → S' 0 i = sp_wrow nb r (nb 808).toNatClampNeg w (b + 1) (gk_ix 5 a b i)) := by
        intro d hd hwv
        obtain ⟨h1', s1, O1⟩ := st_c (x := sp_wv (nb (9 * r + j)) (sp_wb (nb 808).toNatClampNeg j = w)) O hl (by omega)
        unfold X9_learn_b104
        simp only [jq_l, r3, o0, Option.bind_some, lim_w hrg hd, nI_add, na1]
        rw [← hwv, s1, Option.bind_some]
        refine ih (j + 1) h1' _ (by omega) (by omega) O1 (fun k hk => by rw [u2_ne hk]; exact hS k hk) (fun i hi => ?_)
        rw [u2_eq, ← wrow_succ]
        by_cases hi2 : i = r * (b + 1) + j
        · subst hi2
          rw [pk_us, ix5 (by omega), pk_us]
        · rw [pk_un hi2, pk_un (fun q => hi2 (ix5_inj (a := a) (by omega) q ha.2.2.1))]
          exact hC i hi
      have e1 : (nI (sp_wb (nb 808).toNatClampNeg j) = nI w) ↔ sp_wb (nb 808).toNatClampNeg j = w := nI_bit (wb_lt _ _) hw
      by_cases hq : sp_wb (nb 808).toNatClampNeg j = w
      · rw [if_pos (e1.mpr hq)]
        exact step 1 (Or.inl rfl) (wv_up hq)
      · rw [if_neg (fun q => hq (e1.mp q))]
        exact step (-1) (Or.inr rfl) (wv_dn hq)
theorem learn_5 (hn : 20 < n) (hw : w < 2) (hk : gkOK 5 a b c) (hh : hisOK nb) (G : GO h ga 5 a b c mc oa ob said) (O : OB h (ga + 9) 3 (sh_L (gk_nc 5 a b c) (gk_ns 5 a c)) S) (R : LR 5 a b c nb S) (B : cellOK 5 nb) :
    ∃ h', X9_learn n h ga (nI p) (nI w) = some h' ∧ LRN ga 5 a b c (sp_weigh a b c nb p w) S h h' := by
  have ha := hk.2.2.2.2.2.2.1 rfl
  have hs : X9_slotOf n h ga (nI p) = some (nI (p % 2 ^ a), h) := slot_9 (n := n) (p := p) (nb := nb) G
  have hci : jq_ci h ga = 8 := rdC G
  have r8 : jq_gI [8] 8 h ga = some (nI c) := rdI G (by decide) rfl
  have h0 : ∀ i, sp_wrow nb (p % 2 ^ a) (nb 808).toNatClampNeg w 0 i = nb i := fun i => by rw [sp_wrow, if_neg (by omega)]
  obtain ⟨h', S', e, O1, H1, H2⟩ := learn_5l (n := n) (K := fun hh => X9_learn_b138 n hh) (S0 := S) (r_lt (p := p) hk).1 hw hk B hh G R.2.2.2.2.2.1 n 0 h S (by omega) (by omega) O.f (fun _ _ => rfl) (fun i hi => by rw [h0]; exact R.1 i hi)
  have h52 : X9_learn_b52 n ga (nI p) (nI w) h = some h' := by
    unfold X9_learn_b52
    rw [if_pos hci, hs, Option.bind_some]
    dsimp only
    rw [rdI (x := nI (b + 1)) G (by decide) rfl, Option.bind_some]
    simp only [jq_l, pk_mul]
    exact e
  have L1 : LRN ga 5 a b c (sp_wrow nb (p % 2 ^ a) (nb 808).toNatClampNeg w (b + 1)) S h h' := ⟨S', O1, H1, H2⟩
  have L0 : LRN ga 5 a b c nb S h h := lrn_same O R
  unfold X9_learn sp_weigh
  rw [if_pos hci, sum_9 hn hk G O R, Option.bind_some]
  simp only [jq_l]
  unfold X9_learn_b15 X9_learn_b25 X9_learn_b33
  simp only [jq_l, h52, r8, Option.bind_some]
  generalize sp_sum nb (p % 2 ^ a) (nb 808).toNatClampNeg b = sm
  have hz : (0 : Int32) - sm = -sm := Int32.zero_sub sm
  rw [hz]
  have hw01 : w = 0 ∨ w = 1 := by omega
  have d10 : ¬ (1 : Int32) = 0 := by decide
  have d01 : ¬ (0 : Int32) = 1 := by decide
  by_cases h1 : sm < 0
  · have h2 : ¬ 0 ≤ sm := Int32.not_le.mpr h1
    rcases hw01 with rfl | rfl
    · simp only [h1, h2, tq_0_1, if_true, if_false, true_and, d10]
      by_cases h3 : -sm ≤ nI c
      · simp only [h3, if_true, not_true, if_false]
        exact ⟨h', rfl, L1⟩
      · simp only [h3, if_false, not_false_eq_true, if_true]
        exact ⟨h, rfl, L0⟩
    · simp only [h1, tq_1_1, if_true, d01, if_false]
      rw [if_neg (fun q => absurd q.1 (by decide))]
      exact ⟨h', rfl, L1⟩
  · have h2 : 0 ≤ sm := Int32.not_lt.mp h1
    rcases hw01 with rfl | rfl
    · simp only [h1, tq_0_1, if_false, d10, if_true]
      rw [if_neg (fun q => absurd q.1 (by decide))]
      exact ⟨h', rfl, L1⟩
    · simp only [h1, h2, tq_1_1, if_true, if_false, true_and, d10]
      by_cases h3 : sm ≤ nI c
      · simp only [h3, if_true, not_true, if_false]
        exact ⟨h', rfl, L1⟩
      · simp only [h3, if_false, not_false_eq_true, if_true]
        exact ⟨h, rfl, L0⟩
end WEIGHTS
