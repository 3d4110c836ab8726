/-! ===== votes and weights ===== -/
section VOTES
variable {n ga a b c mc oa ob p w : Nat} {h : jq_H} {said : Int32} {S : ob_S} {nb : Nat → Int32}
/-- a vote's cell in its table -/
def vt_r (a b : Nat) (nb : Nat → Int32) (p t : Nat) : Nat := ((5 * p) ^^^ ((nb 808).toNatClampNeg % 2 ^ (t * b))) % 2 ^ a
theorem vt_ctr {t : Nat} : sp_ctr 4 a b c nb p t = 128 * t + vt_r a b nb p t := rfl
theorem vt_lt {t : Nat} : vt_r a b nb p t < 2 ^ a := Nat.mod_lt _ (Nat.two_pow_pos a)
theorem vt_ix {t : Nat} : gk_ix 4 a b (t * 2 ^ a + vt_r a b nb p t) = sp_ctr 4 a b c nb p t := by
  have h := vt_lt (a := a) (b := b) (nb := nb) (p := p) (t := t)
  rw [vt_ctr]
  unfold gk_ix
  rw [if_pos rfl, Nat.mul_comm t, Nat.mul_add_div (Nat.two_pow_pos a), Nat.div_eq_of_lt h, Nat.mul_add_mod, Nat.mod_eq_of_lt h, Nat.add_zero]
theorem vt_nc {t : Nat} (ht : t < 3) : t * 2 ^ a + vt_r a b nb p t < gk_nc 4 a b c := by
  have h := vt_lt (a := a) (b := b) (nb := nb) (p := p) (t := t)
  show _ < 3 * 2 ^ a
  have h3 : t * 2 ^ a + 2 ^ a ≤ 3 * 2 ^ a := by
    rw [← Nat.succ_mul]
    exact Nat.mul_le_mul_right _ (by omega)
  omega
theorem cell_8 {t : Nat} (hp : p < 64) (ht : t < 3) (hk : gkOK 4 a b c) (G : GO h ga 4 a b c mc oa ob said) (O : OB h (ga + 9) 3 (sh_L (gk_nc 4 a b c) (gk_ns 4 a c)) S) (h5 : S 5 0 = nI ((nb 808).toNatClampNeg % 256)) :
    X8_cellOf n h ga (nI t) (nI p) = some (nI (t * 2 ^ a + vt_r a b nb p t), h) := by
  have k4 := hk.2.2.2.2.2.1 rfl
  have o5 := ob_gI (cs := [3]) O (k := 5) rfl (by decide)
  rw [h5] at o5
  have htb : t * b ≤ 8 := Nat.le_trans (Nat.mul_le_mul (by omega : t ≤ 2) k4.2.2.2) (by decide)
  unfold X8_cellOf
  rw [rdR (q := ga + 9) G (by decide) rfl, Option.bind_some, o5, Option.bind_some, rdI (x := nI b) G (by decide) rfl, Option.bind_some, pk_mul, p_lowBits, Option.bind_some]
  simp only [jq_l]
  rw [rdI (x := nI (2 ^ a)) G (by decide) rfl, Option.bind_some, rdI (x := nI (2 ^ a - 1)) G (by decide) rfl, Option.bind_some, n_lb _ (by omega), n_mask, mod256 htb, nm5, n_xor, n_mask, pk_mul, nI_add]
  rfl
theorem vote_v {t : Nat} (B : cellOK 4 nb) (hk : gkOK 4 a b c) (ht : t < 3) : isN (nb (sp_ctr 4 a b c nb p t)) 4 := B.1 (by decide) _ (ctr_lt hk (by decide) (by decide) ht)
theorem own_4l {K : Int32 → jq_H → Option (Int32 × jq_H)} (hp : p < 64) (hk : gkOK 4 a b c) (G : GO h ga 4 a b c mc oa ob said) (O : OB h (ga + 9) 3 (sh_L (gk_nc 4 a b c) (gk_ns 4 a c)) S) (R : LR 4 a b c nb S) (B : cellOK 4 nb) (v : Nat → Nat) (hv : ∀ t, t < 3 → v (t + 1) = v t + sp_vote nb (sp_ctr 4 a b c nb p t)) :
    ∀ (k t : Nat), t ≤ 3 → 3 < t + k → X8_ownWay_l4 n K k ga (nI p) (nI (v t)) (nI t) h = K (nI (v 3)) h := by
  have hnc := nc_lt hk
  intro k
  induction k with
  | zero => intro t h1 h2; exfalso; omega
  | succ k ih =>
    intro t h1 h2
    show X8_ownWay_b4 n (X8_ownWay_l4 n K k) K _ _ _ _ _ = _
    unfold X8_ownWay_b4
    by_cases ht : 3 ≤ t
    · rw [if_pos (show (3 : Int32) ≤ nI t from (nI_leI (by decide) (by omega)).mpr ht)]
      have : t = 3 := by omega
      rw [this]
    · rw [if_neg (show ¬ (3 : Int32) ≤ nI t from fun q => ht ((nI_leI (by decide) (by omega)).mp q))]
      have hc := cell_8 (n := n) (t := t) hp (by omega) hk G O R.2.2.2.2.2.1
      have hl := vt_nc (a := a) (b := b) (c := c) (nb := nb) (p := p) (t := t) (by omega)
      have hvv := R.1 _ hl
      rw [vt_ix (c := c)] at hvv
      have hw := way_h (n := n) O hl (by omega) (by rw [hvv]; exact vote_v B hk (by omega))
      rw [hvv] at hw
      have hvt := hv t (by omega)
      have ih' := ih (t + 1) (by omega) (by omega)
      rw [rdR (q := ga + 9) G (by decide) rfl, Option.bind_some, if_pos (show jq_ci h ga = 7 from rdC G), hc, Option.bind_some]
      dsimp only
      rw [if_pos O.ci, hw, Option.bind_some]
      simp only [jq_l, na1]
      have hvn : (if nb (sp_ctr 4 a b c nb p t) ≤ 1 then (0 : Int32) else 1) = nI (sp_vote nb (sp_ctr 4 a b c nb p t)) := by
        unfold sp_vote
        by_cases hq : nb (sp_ctr 4 a b c nb p t) ≤ 1
        · rw [if_pos hq, if_pos hq]; rfl
        · rw [if_neg hq, if_neg hq]; rfl
      rw [hvn, nI_add, ← hvt]
      exact ih'
theorem own_4 (hn : 20 < n) (hp : p < 64) (hk : gkOK 4 a b c) (G : GO h ga 4 a b c mc oa ob said) (O : OB h (ga + 9) 3 (sh_L (gk_nc 4 a b c) (gk_ns 4 a c)) S) (R : LR 4 a b c nb S) (B : cellOK 4 nb) :
    X8_ownWay n h ga (nI p) = some ((if sp_vote nb (sp_ctr 4 a b c nb p 0) + sp_vote nb (sp_ctr 4 a b c nb p 1) + sp_vote nb (sp_ctr 4 a b c nb p 2) ≤ 1 then 0 else 1), h) := by
  have hl := own_4l (n := n) (K := fun w2 hh => X8_ownWay_b31 n w2 hh) hp hk G O R B (fun t => if t = 0 then 0 else if t = 1 then sp_vote nb (sp_ctr 4 a b c nb p 0) else if t = 2 then sp_vote nb (sp_ctr 4 a b c nb p 0) + sp_vote nb (sp_ctr 4 a b c nb p 1) else sp_vote nb (sp_ctr 4 a b c nb p 0) + sp_vote nb (sp_ctr 4 a b c nb p 1) + sp_vote nb (sp_ctr 4 a b c nb p 2)) (by
    intro t ht
    rcases (show t = 0 ∨ t = 1 ∨ t = 2 by omega) with rfl | rfl | rfl <;> simp) n 0 (by omega) (by omega)
  unfold X8_ownWay
  refine Eq.trans hl ?_
  show X8_ownWay_b31 n (nI (sp_vote nb (sp_ctr 4 a b c nb p 0) + sp_vote nb (sp_ctr 4 a b c nb p 1) + sp_vote nb (sp_ctr 4 a b c nb p 2))) _ = some ((if sp_vote nb (sp_ctr 4 a b c nb p 0) + sp_vote nb (sp_ctr 4 a b c nb p 1) + sp_vote nb (sp_ctr 4 a b c nb p 2) ≤ 1 then 0 else 1), h)
  have hv : ∀ i, sp_vote nb i ≤ 1 := fun i => by unfold sp_vote; split <;> omega
  have hv0 := hv (sp_ctr 4 a b c nb p 0)
  have hv1 := hv (sp_ctr 4 a b c nb p 1)
  have hv2 := hv (sp_ctr 4 a b c nb p 2)
  have hv3 : sp_vote nb (sp_ctr 4 a b c nb p 0) + sp_vote nb (sp_ctr 4 a b c nb p 1) + sp_vote nb (sp_ctr 4 a b c nb p 2) ≤ 3 := by omega
  clear hl
  generalize sp_vote nb (sp_ctr 4 a b c nb p 0) + sp_vote nb (sp_ctr 4 a b c nb p 1) + sp_vote nb (sp_ctr 4 a b c nb p 2) = v at hv3 ⊢
  unfold X8_ownWay_b31 X8_ownWay_b41
  have e1 : (nI v < (2 : Int32)) ↔ v < 2 := nI_ltI (b := 2) (by omega) (by decide)
  by_cases h1 : v ≤ 1
  · rw [if_pos (e1.mpr (by omega)), if_pos h1]
  · rw [if_neg (fun q => absurd (e1.mp q) (by omega)), if_neg h1]
/-- the votes' blocks as they are taught -/
def vt_b (a b c : Nat) (nb : Nat → Int32) (p w : Nat) : Nat → (Nat → Int32)
  | 0 => nb
  | t + 1 => sp_tn (vt_b a b c nb p w t) (sp_ctr 4 a b c nb p t) w
theorem vt_far (hk : gkOK 4 a b c) : ∀ t, t ≤ 3 → ∀ i, 384 ≤ i → vt_b a b c nb p w t i = nb i
  | 0, _, i, _ => rfl
  | t + 1, ht, i, hi => by
    have hl := ctr_lt (nb := nb) (p := p) (t := t) hk (by decide) (by decide) (by omega)
    show sp_tn (vt_b a b c nb p w t) (sp_ctr 4 a b c nb p t) w i = nb i
    rw [sp_tn, pk_un (by omega)]
    exact vt_far hk t (by omega) i hi
theorem vt_rng (hk : gkOK 4 a b c) (hw : w < 2) (hB : ∀ j, j < 384 → isN (nb j) 4) : ∀ t, t ≤ 3 → ∀ j, j < 384 → isN (vt_b a b c nb p w t j) 4
  | 0, _, j, hj => hB j hj
  | t + 1, ht, j, hj => by
    have hl := ctr_lt (nb := nb) (p := p) (t := t) hk (by decide) (by decide) (by omega)
    show isN (sp_tn (vt_b a b c nb p w t) (sp_ctr 4 a b c nb p t) w j) 4
    unfold sp_tn
    by_cases hq : j = sp_ctr 4 a b c nb p t
    · rw [hq, pk_us]
      obtain ⟨k, hk2, e⟩ := vt_rng hk hw hB t (by omega) (sp_ctr 4 a b c nb p t) hl
      rw [e, sp_turn_N hk2 hw]
      refine ⟨_, ?_, rfl⟩
      split
      · split <;> omega
      · omega
    · rw [pk_un hq]
      exact vt_rng hk hw hB t (by omega) j hj
theorem ix4_inj {i j : Nat} (hi : i < 3 * 2 ^ a) (hj : j < 3 * 2 ^ a) (ha : a ≤ 7) (h : gk_ix 4 a b i = gk_ix 4 a b j) : i = j := by
  unfold gk_ix at h
  rw [if_pos rfl, if_pos rfl] at h
  have hp : 2 ^ a ≤ 128 := (Nat.pow_le_pow_right (by decide) ha : 2 ^ a ≤ 2 ^ 7)
  have h1 := Nat.mod_lt i (Nat.two_pow_pos a)
  have h2 := Nat.mod_lt j (Nat.two_pow_pos a)
  have h3 := Nat.div_add_mod i (2 ^ a)
  have h4 := Nat.div_add_mod j (2 ^ a)
  have h5 : i / 2 ^ a = j / 2 ^ a := by omega
  have h6 : i % 2 ^ a = j % 2 ^ a := by omega
  rw [← h3, ← h4, h5, h6]
theorem learn_4l {K : jq_H → Option jq_H} {h0 : jq_H} {S0 : ob_S} (hp : p < 64) (hw : w < 2) (hk : gkOK 4 a b c) (B : cellOK 4 nb) (G0 : GO h0 ga 4 a b c mc oa ob said) (h5 : S0 5 0 = nI ((nb 808).toNatClampNeg % 256)) :
    ∀ (k t : Nat) (h : jq_H) (S : ob_S), t ≤ 3 → 3 < t + k → OF (ga + 9) 6 3 (sh_L (gk_nc 4 a b c) (gk_ns 4 a c)) h0 S h → (∀ k, k ≠ 0 → S k = S0 k) → (∀ j, j < gk_nc 4 a b c → S 0 j = vt_b a b c nb p w t (gk_ix 4 a b j)) →
      ∃ h' S', X8_learn_l2 n K k ga (nI p) (nI w) (nI t) h = K h' ∧ OF (ga + 9) 6 3 (sh_L (gk_nc 4 a b c) (gk_ns 4 a c)) h0 S' h' ∧ (∀ k, k ≠ 0 → S' k = S0 k) ∧ (∀ j, j < gk_nc 4 a b c → S' 0 j = vt_b a b c nb p w 3 (gk_ix 4 a b j)) := by
  have hnc := nc_lt hk
  have k4 := hk.2.2.2.2.2.1 rfl
  intro k
  induction k with
  | zero => intro t h S h1 h2; exfalso; omega
  | succ k ih =>
    intro t h S h1 h2 O hS hC
    show ∃ h' S', X8_learn_b2 n (X8_learn_l2 n K k) K _ _ _ _ _ = K h' ∧ _
    unfold X8_learn_b2
    by_cases ht : 3 ≤ t
    · have ht3 : t = 3 := by omega
      rw [if_pos (show (3 : Int32) ≤ nI t from (nI_leI (by decide) (by omega)).mpr ht)]
      subst ht3
      exact ⟨h, S, rfl, O, hS, hC⟩
    · rw [if_neg (show ¬ (3 : Int32) ≤ nI t from fun q => ht ((nI_leI (by decide) (by omega)).mp q))]
      have G := O.go G0
      have hc := cell_8 (n := n) (nb := nb) (t := t) hp (by omega) hk G O.1 (by rw [hS 5 (by decide)]; exact h5)
      have hl := vt_nc (a := a) (b := b) (c := c) (nb := nb) (p := p) (t := t) (by omega)
      have hvv := hC _ hl
      rw [vt_ix (c := c)] at hvv
      have hcl := ctr_lt (nb := nb) (p := p) (t := t) hk (by decide) (by decide) (by omega)
      have hr := vt_rng (p := p) hk hw (B.1 (by decide)) t (by omega) _ hcl
      obtain ⟨h1', s1, O1⟩ := teach_h (n := n) O hl (by omega) hw (by rw [hvv]; exact hr)
      rw [rdR (q := ga + 9) G (by decide) rfl, Option.bind_some, if_pos (show jq_ci h ga = 7 from rdC G), hc, Option.bind_some]
      dsimp only
      rw [if_pos O.1.ci, s1, Option.bind_some]
      simp only [jq_l, na1]
      refine ih (t + 1) h1' _ (by omega) (by omega) O1 (fun k hk => by rw [u2_ne hk]; exact hS k hk) (fun j hj => ?_)
      rw [u2_eq]
      show _ = sp_tn (vt_b a b c nb p w t) (sp_ctr 4 a b c nb p t) w (gk_ix 4 a b j)
      unfold sp_tn
      by_cases hj2 : j = t * 2 ^ a + vt_r a b nb p t
      · subst hj2
        rw [pk_us, vt_ix (c := c), pk_us, hvv]
      · rw [pk_un hj2, pk_un (fun q => hj2 (ix4_inj (b := b) hj hl k4.2.1 (by rw [q, vt_ix (c := c)])))]
        exact hC j hj
theorem learn_4 (hn : 20 < n) (hp : p < 64) (hw : w < 2) (hk : gkOK 4 a b c) (G : GO h ga 4 a b c mc oa ob said) (O : OB h (ga + 9) 3 (sh_L (gk_nc 4 a b c) (gk_ns 4 a c)) S) (R : LR 4 a b c nb S) (B : cellOK 4 nb) :
    ∃ h', X8_learn n h ga (nI p) (nI w) = some h' ∧ LRN ga 4 a b c (sp_tn (sp_tn (sp_tn nb (sp_ctr 4 a b c nb p 0) w) (sp_ctr 4 a b c nb p 1) w) (sp_ctr 4 a b c nb p 2) w) S h h' := by
  obtain ⟨h', S', e, O1, H1, H2⟩ := learn_4l (n := n) (K := fun hh => X8_learn_b27 n hh) (S0 := S) hp hw hk B G R.2.2.2.2.2.1 n 0 h S (by omega) (by omega) O.f (fun _ _ => rfl) R.1
  refine ⟨h', ?_, S', O1, H1, H2⟩
  unfold X8_learn
  exact e
end VOTES
