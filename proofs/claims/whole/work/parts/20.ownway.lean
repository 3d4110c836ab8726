section OWN
variable {n ga kd a b c mc oa ob p : Nat} {h : jq_H} {said : Int32} {S : ob_S} {nb : Nat → Int32}
theorem way_h {la nc ns i : Nat} (O : OB h la 3 (sh_L nc ns) S) (hi : i < nc) (hnc : nc < 2 ^ 31) (hv : isN (S 0 i) 4) : X4_counterWay n h la (nI i) = some ((if S 0 i ≤ 1 then 0 else 1), h) := by
  obtain ⟨z, e1, e2, O1⟩ := N_X4_counterWay (n := n) (O.f (w := 6)) (C_way (n := n) (ns := ns) hi hnc hv)
  have e3 := O1.eq O (cov_L nc ns)
  rw [e1]
  congr 1
  exact Prod.ext e2 e3
theorem teach_h {la nc ns i w : Nat} {h0 : jq_H} (O : OF la 6 3 (sh_L nc ns) h0 S h) (hi : i < nc) (hnc : nc < 2 ^ 31) (hw : w < 2) (hv : isN (S 0 i) 4) : ∃ h', X4_teachCounter n h la (nI i) (nI w) = some h' ∧ OF la 6 3 (sh_L nc ns) h0 (u2 S 0 i (sp_turn (S 0 i) w)) h' :=
  N_X4_teachCounter (n := n) O (C_teach (n := n) (ns := ns) hi hnc hw hv)
theorem two_lt {k : Nat} (h : k ≤ 8) : 2 ^ k ≤ 256 := (Nat.pow_le_pow_right (by decide) h : 2 ^ k ≤ 2 ^ 8)
theorem nc_lt (hk : gkOK kd a b c) : gk_nc kd a b c ≤ 384 := by
  obtain ⟨k8, -, k1, k2, k3, k4, k5, -, k7⟩ := hk
  unfold gk_nc gk_tb gk_wd
  rcases (show kd = 0 ∨ kd = 1 ∨ kd = 2 ∨ kd = 3 ∨ kd = 4 ∨ kd = 5 ∨ kd = 6 ∨ kd = 7 by omega) with rfl | rfl | rfl | rfl | rfl | rfl | rfl | rfl
  · simp
  · have := two_lt (k := a) (by omega); simp; omega
  · have := two_lt (k := a) (by omega); simp; omega
  · have := two_lt (k := a) (by omega); simp; omega
  · have : 2 ^ a ≤ 2 ^ 7 := Nat.pow_le_pow_right (by decide) (by omega); simp; omega
  · have h1 : 2 ^ a ≤ 2 ^ 4 := Nat.pow_le_pow_right (by decide) (by omega)
    have : 2 ^ a * (b + 1) ≤ 2 ^ 4 * 9 := Nat.mul_le_mul h1 (by omega)
    simp; omega
  · simp
  · have := two_lt (k := c) (by omega); simp; omega
/-- a counter's index is a cell of the class's -/
theorem ctr_nc (hk : gkOK kd a b c) (h : kd = 1 ∨ kd = 2 ∨ kd = 3 ∨ kd = 7) : sp_ctr kd a b c nb p 0 < gk_nc kd a b c := by
  unfold sp_ctr gk_nc gk_tb gk_wd
  rcases h with rfl | rfl | rfl | rfl <;> simp <;> exact Nat.mod_lt _ (Nat.two_pow_pos _)
theorem own_cnt (hp : p < 64) (hk : gkOK kd a b c) (h123 : kd = 1 ∨ kd = 2 ∨ kd = 3) (G : GO h ga kd a b c mc oa ob said) (O : OB h (ga + 9) 3 (sh_L (gk_nc kd a b c) (gk_ns kd a c)) S) (R : LR kd a b c nb S) (B : cellOK kd nb) :
    X1_ownWay n h ga (nI p) = some ((if nb (sp_ctr kd a b c nb p 0) ≤ 1 then 0 else 1), h) := by
  have hs := slot_cnt (n := n) hp hk h123 G O R
  have hl := ctr_nc (nb := nb) (p := p) hk (by omega)
  have hn := nc_lt hk
  have hi : gk_ix kd a b (sp_ctr kd a b c nb p 0) = sp_ctr kd a b c nb p 0 := by unfold gk_ix; rw [if_neg (by omega), if_neg (by omega)]
  have hv := R.1 _ hl
  rw [hi] at hv
  have hb := B.1 (by omega) (sp_ctr kd a b c nb p 0) (by omega)
  have hci : gk_ci kd = 1 := by rcases h123 with rfl | rfl | rfl <;> rfl
  have hw := way_h (n := n) O hl (by omega) (by rw [hv]; exact hb)
  rw [hv] at hw
  unfold X1_ownWay
  rw [rdR (q := ga + 9) G (by rw [hci]; decide) rfl, Option.bind_some, if_pos ((rdC G).trans hci), hs, Option.bind_some]
  dsimp only
  rw [if_pos O.ci, hw, Option.bind_some]
theorem own_7 {oA oB : Int32} (hp : p < 64) (hk : gkOK 7 a b c) (G : GO h ga 7 a b c mc oa ob said) (O : OB h (ga + 9) 3 (sh_L (gk_nc 7 a b c) (gk_ns 7 a c)) S) (R : LR 7 a b c nb S) (B : cellOK 7 nb) (hA : jq_gI gcs 6 h oa = some oA) (hB : jq_gI gcs 6 h ob = some oB) :
    X0_ownWay n h ga (nI p) = some ((if nb (sp_ctr 7 a b c nb p 0) ≤ 1 then oA else oB), h) := by
  have hs := slot_0 (n := n) (p := p) (nb := nb) G
  have hl := ctr_nc (nb := nb) (p := p) hk (by decide)
  have hn := nc_lt hk
  have hv := R.1 _ hl
  rw [show gk_ix 7 a b (sp_ctr 7 a b c nb p 0) = sp_ctr 7 a b c nb p 0 from rfl] at hv
  have hb := B.1 (by decide) (sp_ctr 7 a b c nb p 0) (by omega)
  have hw := way_h (n := n) O hl (by omega) (by rw [hv]; exact hb)
  rw [hv] at hw
  unfold X0_ownWay X0_ownWay_b33
  rw [rdR (q := ga + 9) G (by decide) rfl, Option.bind_some, if_pos (show jq_ci h ga = 0 from rdC G), hs, Option.bind_some]
  dsimp only
  rw [if_pos O.ci, hw, Option.bind_some]
  dsimp only
  by_cases hq : nb (sp_ctr 7 a b c nb p 0) ≤ 1
  · rw [if_pos hq, if_neg (by decide), if_pos hq, rdR (q := oa) G (by decide) rfl, Option.bind_some, hA, Option.bind_some]
  · rw [if_neg hq, if_pos rfl, if_neg hq, rdR (q := ob) G (by decide) rfl, Option.bind_some, hB, Option.bind_some]
theorem own_0 {M : ob_S} (hp : p < 64) (hk : gkOK 0 a b c) (G : GO h ga 0 a b c mc oa ob said) (OM : OB h mc 5 sh_M M) :
    X2_ownWay n h ga (nI p) = some ((if a < 2 then nI a else if M 3 p ≤ nI p then 1 else 0), h) := by
  have ha := hk.2.1 rfl
  have o3 := ob_gR (cs := [5]) OM (k := 3) rfl (by decide)
  have ol : jq_ldI 0 h (mc + 4) (nI p) = some (M 3 p) := by
    have := ob_ld OM (k := 3) rfl (jq_inN' hp (by decide))
    rw [n_cl (by omega)] at this
    exact this
  have r8 : jq_gI [2] 8 h ga = some (nI a) := rdI G (by decide) rfl
  unfold X2_ownWay X2_ownWay_b31
  rw [r8, Option.bind_some]
  have e2 : (nI a = (2 : Int32)) ↔ a = 2 := nI_eq (b := 2) (by omega) (by decide)
  by_cases h2 : a < 2
  · rw [if_neg (fun q => absurd (e2.mp q) (by omega)), if_pos h2, Option.bind_some]
  · rw [if_pos (e2.mpr (by omega)), if_neg h2, rdR (q := mc) G (by decide) rfl, Option.bind_some, o3, Option.bind_some, ol, Option.bind_some]
    by_cases h3 : M 3 p ≤ nI p
    · rw [if_neg (Int32.not_lt.mpr h3), if_pos h3]
    · rw [if_pos (Int32.not_le.mp h3), if_neg h3]
theorem nm3r (x : Nat) : nI x * 3 = nI (3 * x) := by
  rw [show (3 : Int32) = nI 3 from rfl, pk_mul, Nat.mul_comm]
theorem ld_c {la nc ns i : Nat} (O : OB h la 3 (sh_L nc ns) S) (hi : i < nc) (hnc : nc < 2 ^ 31) : jq_ldI 0 h (la + 4) (nI i) = some (S 0 i) := by
  have := ob_ld O (k := 0) rfl (jq_inN' hi hnc)
  rw [n_cl (by omega)] at this
  exact this
theorem own_6 (hp : p < 64) (hk : gkOK 6 a b c) (G : GO h ga 6 a b c mc oa ob said) (O : OB h (ga + 9) 3 (sh_L (gk_nc 6 a b c) (gk_ns 6 a c)) S) (R : LR 6 a b c nb S) :
    X5_ownWay n h ga (nI p) = some ((if nb (3 * p + 2) < nI a then 1 else if nb (3 * p) = nb (3 * p + 1) then 0 else 1), h) := by
  have r3 : jq_gR [4] 3 h ga = some (ga + 9) := rdR G (by decide) rfl
  have r7 : jq_gI [4] 7 h ga = some (nI a) := rdI G (by decide) rfl
  have o0 := ob_gR (cs := [3]) O (k := 0) rfl (by decide)
  have hnc : gk_nc 6 a b c = 192 := rfl
  have l0 := ld_c O (i := 3 * p) (by omega) (by omega)
  have l1 := ld_c O (i := 3 * p + 1) (by omega) (by omega)
  have l2 := ld_c O (i := 3 * p + 2) (by omega) (by omega)
  rw [R.1 (3 * p) (by omega)] at l0
  rw [R.1 (3 * p + 1) (by omega)] at l1
  rw [R.1 (3 * p + 2) (by omega)] at l2
  have l0 : jq_ldI 0 h (ga + 9 + 4) (nI (3 * p)) = some (nb (3 * p)) := l0
  have l1 : jq_ldI 0 h (ga + 9 + 4) (nI (3 * p + 1)) = some (nb (3 * p + 1)) := l1
  have l2 : jq_ldI 0 h (ga + 9 + 4) (nI (3 * p + 2)) = some (nb (3 * p + 2)) := l2
  have z0 : nI (3 * p) + 0 = nI (3 * p) := nI_add (3 * p) 0
  unfold X5_ownWay X5_ownWay_b27 X5_ownWay_b61 X5_ownWay_b62
  simp only [jq_l, nm3r, na2, na1, z0, r3, Option.bind_some, o0, l2, r7, l0, l1]
  by_cases hq : nb (3 * p + 2) < nI a
  · rw [if_pos hq, if_pos hq, if_pos trivial]
  · rw [if_neg hq, if_neg hq, if_neg (by decide)]
    by_cases h2 : nb (3 * p) = nb (3 * p + 1)
    · rw [if_pos h2, if_pos h2]
    · rw [if_neg h2, if_neg h2]
end OWN
