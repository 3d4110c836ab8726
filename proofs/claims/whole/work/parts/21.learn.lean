/-! ===== learning, kind by kind: only the cells change ===== -/
/-- what learning leaves behind -/
def LRN (ga kd a b c : Nat) (nb' : Nat → Int32) (S : ob_S) (h h' : jq_H) : Prop := ∃ S', OF (ga + 9) 6 3 (sh_L (gk_nc kd a b c) (gk_ns kd a c)) h S' h' ∧ (∀ k, k ≠ 0 → S' k = S k) ∧ ∀ j, j < gk_nc kd a b c → S' 0 j = nb' (gk_ix kd a b j)
section LEARN
variable {n ga kd a b c mc oa ob p w : Nat} {h : jq_H} {said : Int32} {S : ob_S} {nb : Nat → Int32}
theorem lrn_same (O : OB h (ga + 9) 3 (sh_L (gk_nc kd a b c) (gk_ns kd a c)) S) (R : LR kd a b c nb S) : LRN ga kd a b c nb S h h := ⟨S, O.f, fun _ _ => rfl, R.1⟩
theorem lrn_tn (hk : gkOK kd a b c) (h45 : kd ≠ 4 ∧ kd ≠ 5) (hc : kd ≠ 0 ∧ kd ≠ 6) (hw : w < 2) {r : Nat} (hr : r < gk_nc kd a b c) (O : OB h (ga + 9) 3 (sh_L (gk_nc kd a b c) (gk_ns kd a c)) S) (R : LR kd a b c nb S) (B : cellOK kd nb) :
    ∃ h', X4_teachCounter n h (ga + 9) (nI r) (nI w) = some h' ∧ LRN ga kd a b c (sp_tn nb r w) S h h' := by
  have hn := nc_lt hk
  have hix : ∀ j, gk_ix kd a b j = j := fun j => by unfold gk_ix; rw [if_neg h45.1, if_neg h45.2]
  have hv := R.1 r hr
  rw [hix] at hv
  have hb := B.1 ⟨hc.1, h45.2, hc.2⟩ r (by omega)
  obtain ⟨h', e1, O1⟩ := teach_h (n := n) O.f hr (by omega) hw (by rw [hv]; exact hb)
  refine ⟨h', e1, _, O1, fun k hk => u2_ne hk, fun j hj => ?_⟩
  rw [hix, u2_eq]
  unfold sp_tn
  by_cases hjr : j = r
  · subst hjr
    rw [pk_us, pk_us, hv]
  · rw [pk_un hjr, pk_un hjr, R.1 j hj, hix]
theorem learn_cnt (hp : p < 64) (hw : w < 2) (hk : gkOK kd a b c) (h123 : kd = 1 ∨ kd = 2 ∨ kd = 3) (G : GO h ga kd a b c mc oa ob said) (O : OB h (ga + 9) 3 (sh_L (gk_nc kd a b c) (gk_ns kd a c)) S) (R : LR kd a b c nb S) (B : cellOK kd nb) :
    ∃ h', X1_learn n h ga (nI p) (nI w) = some h' ∧ LRN ga kd a b c (sp_tn nb (sp_ctr kd a b c nb p 0) w) S h h' := by
  have hs := slot_cnt (n := n) hp hk h123 G O R
  have hl := ctr_nc (nb := nb) (p := p) hk (by omega)
  have hci : gk_ci kd = 1 := by rcases h123 with rfl | rfl | rfl <;> rfl
  obtain ⟨h', e1, L⟩ := lrn_tn (n := n) hk (by omega) (by omega) hw hl O R B
  refine ⟨h', ?_, L⟩
  unfold X1_learn
  rw [rdR (q := ga + 9) G (by rw [hci]; decide) rfl, Option.bind_some, if_pos ((rdC G).trans hci), hs, Option.bind_some]
  dsimp only
  rw [if_pos O.ci, e1, Option.bind_some]
theorem learn_7 {oA oB : Int32} (hp : p < 64) (hw : w < 2) (hk : gkOK 7 a b c) (G : GO h ga 7 a b c mc oa ob said) (O : OB h (ga + 9) 3 (sh_L (gk_nc 7 a b c) (gk_ns 7 a c)) S) (R : LR 7 a b c nb S) (B : cellOK 7 nb) (hA : jq_gI gcs 6 h oa = some oA) (hB : jq_gI gcs 6 h ob = some oB) :
    ∃ h', X0_learn n h ga (nI p) (nI w) = some h' ∧ LRN ga 7 a b c (sp_cells 7 a b c nb p w oA oB) S h h' := by
  have hs := slot_0 (n := n) (p := p) (nb := nb) G
  have hl := ctr_nc (nb := nb) (p := p) hk (by decide)
  have r7 : jq_gR [0] 7 h ga = some oa := rdR G (by decide) rfl
  have r8 : jq_gR [0] 8 h ga = some ob := rdR G (by decide) rfl
  have r3 : jq_gR [0] 3 h ga = some (ga + 9) := rdR G (by decide) rfl
  have hci : jq_ci h ga = 0 := rdC G
  have hsp : sp_cells 7 a b c nb p w oA oB = if oA = oB then nb else sp_tn nb (sp_ctr 7 a b c nb p 0) (if oB = nI w then 1 else 0) := rfl
  rw [hsp]
  unfold X0_learn X0_learn_b42 X0_learn_b45
  rw [r7, Option.bind_some, hA, Option.bind_some, r8, Option.bind_some, hB, Option.bind_some]
  by_cases ho : oA = oB
  · rw [if_pos ho, if_pos ho]
    exact ⟨h, rfl, lrn_same O R⟩
  · rw [if_neg ho, if_neg ho, r3, Option.bind_some, if_pos hci, hs, Option.bind_some]
    dsimp only
    rw [r8, Option.bind_some, hB, Option.bind_some]
    by_cases hb2 : oB = nI w
    · rw [if_pos hb2, if_pos hb2]
      obtain ⟨h', e1, L⟩ := lrn_tn (n := n) (w := 1) hk (by decide) (by decide) (by decide) hl O R B
      refine ⟨h', ?_, L⟩
      have e1 : X4_teachCounter n h (ga + 9) (nI (sp_ctr 7 a b c nb p 0)) 1 = some h' := e1
      rw [if_pos O.ci, e1, Option.bind_some]
    · rw [if_neg hb2, if_neg hb2]
      obtain ⟨h', e1, L⟩ := lrn_tn (n := n) (w := 0) hk (by decide) (by decide) (by decide) hl O R B
      refine ⟨h', ?_, L⟩
      have e1 : X4_teachCounter n h (ga + 9) (nI (sp_ctr 7 a b c nb p 0)) 0 = some h' := e1
      rw [if_pos O.ci, e1, Option.bind_some]
/-- a guesser's object behind a change of its Learnt -/
theorem GO.of {h' : jq_H} (G : GO h ga kd a b c mc oa ob said) (hk : h'.2 ga = h.2 ga) : GO h' ga kd a b c mc oa ob said := hk.trans G
theorem OF.go {ga w' ci : Nat} {sh : ob_Sh} {h0 h' : jq_H} {S' : ob_S} {kd a b c mc oa ob : Nat} {said : Int32} (O : OF (ga + 9) w' ci sh h0 S' h') (G : GO h0 ga kd a b c mc oa ob said) : GO h' ga kd a b c mc oa ob said := G.of (O.2.2 ga (Or.inl (by omega)))
theorem st_c {la nc ns i : Nat} {h0 : jq_H} {x : Int32} (O : OF la 6 3 (sh_L nc ns) h0 S h) (hi : i < nc) (hnc : nc < 2 ^ 31) : ∃ h', jq_stI h (la + 4) (nI i) x = some h' ∧ OF la 6 3 (sh_L nc ns) h0 (u2 S 0 i x) h' := by
  obtain ⟨h', e1, O1⟩ := ob_st (k := 0) (x := x) O (ok_L nc ns) rfl (jq_inN' hi hnc)
  rw [n_cl (by omega)] at O1
  exact ⟨h', e1, O1⟩
theorem lim255 {k : Nat} (hk : k < 256) : (if 255 < nI k + 1 then (255 : Int32) else nI k + 1) = (if 255 ≤ nI k then 255 else nI k + 1) := by
  rw [na1]
  have e1 : ((255 : Int32) < nI (k + 1)) ↔ 255 < k + 1 := nI_ltI (a := 255) (by decide) (by omega)
  have e2 : ((255 : Int32) ≤ nI k) ↔ 255 ≤ k := nI_leI (a := 255) (by decide) (by omega)
  by_cases h : 255 ≤ k
  · rw [if_pos (e1.mpr (by omega)), if_pos (e2.mpr h)]
  · rw [if_neg (fun q => absurd (e1.mp q) (by omega)), if_neg (fun q => h (e2.mp q))]
theorem lim3 {k : Nat} (hk : k < 4) : (if 3 < nI k + 1 then (3 : Int32) else nI k + 1) = (if 3 ≤ nI k then 3 else nI k + 1) := by
  rcases (show k = 0 ∨ k = 1 ∨ k = 2 ∨ k = 3 by omega) with rfl | rfl | rfl | rfl <;> decide
theorem learn_6 (hp : p < 64) (hw : w < 2) (hk : gkOK 6 a b c) (G : GO h ga 6 a b c mc oa ob said) (O : OB h (ga + 9) 3 (sh_L (gk_nc 6 a b c) (gk_ns 6 a c)) S) (R : LR 6 a b c nb S) (B : cellOK 6 nb) :
    ∃ h', X5_learn n h ga (nI p) (nI w) = some h' ∧ LRN ga 6 a b c (sp_loop nb p w) S h h' := by
  have r3 : ∀ {h' : jq_H}, GO h' ga 6 a b c mc oa ob said → jq_gR [4] 3 h' ga = some (ga + 9) := fun G => rdR G (by decide) rfl
  have o0 : ∀ {h' : jq_H} {S' : ob_S}, OB h' (ga + 9) 3 (sh_L (gk_nc 6 a b c) (gk_ns 6 a c)) S' → jq_gR [3] 0 h' (ga + 9) = some (ga + 9 + 4) := fun O => ob_gR (cs := [3]) O (k := 0) rfl (by decide)
  have hnc : gk_nc 6 a b c = 192 := rfl
  have e0 : S 0 (3 * p) = nb (3 * p) := R.1 (3 * p) (by omega)
  have e1 : S 0 (3 * p + 1) = nb (3 * p + 1) := R.1 (3 * p + 1) (by omega)
  have e2 : S 0 (3 * p + 2) = nb (3 * p + 2) := R.1 (3 * p + 2) (by omega)
  have l0 := ld_c O (i := 3 * p) (by omega) (by omega)
  have l1 := ld_c O (i := 3 * p + 1) (by omega) (by omega)
  have l2 := ld_c O (i := 3 * p + 2) (by omega) (by omega)
  rw [e0] at l0
  rw [e1] at l1
  rw [e2] at l2
  have z0 : nI (3 * p) + 0 = nI (3 * p) := nI_add (3 * p) 0
  obtain ⟨⟨k0, hk0, ek0⟩, ⟨k2, hk2, ek2⟩⟩ := B.2.2 rfl p hp
  have m0 : (if 255 < nb (3 * p) + 1 then (255 : Int32) else nb (3 * p) + 1) = (if 255 ≤ nb (3 * p) then 255 else nb (3 * p) + 1) := by rw [ek0]; exact lim255 hk0
  have m2 : (if 3 < nb (3 * p + 2) + 1 then (3 : Int32) else nb (3 * p + 2) + 1) = (if 3 ≤ nb (3 * p + 2) then 3 else nb (3 * p + 2) + 1) := by rw [ek2]; exact lim3 hk2
  unfold X5_learn X5_learn_b65 X5_learn_b103 sp_loop
  simp only [jq_l, nm3r, na2, na1, z0, r3 G, Option.bind_some, o0 O, l0, l1, l2, m0, m2, nI_w1 hw]
  by_cases hw1 : w = 1
  · rw [if_pos hw1, if_pos hw1]
    obtain ⟨h', s1, O1⟩ := st_c (x := if 255 ≤ nb (3 * p) then 255 else nb (3 * p) + 1) (O.f (w := 6)) (i := 3 * p) (by omega) (by omega)
    rw [s1, Option.bind_some]
    refine ⟨h', rfl, _, O1, fun k hk => u2_ne hk, fun j hj => ?_⟩
    rw [u2_eq]
    show upd (S 0) (3 * p) _ j = upd nb (3 * p) _ j
    by_cases hj2 : j = 3 * p
    · subst hj2
      rw [pk_us, pk_us]
    · rw [pk_un hj2, pk_un hj2]
      exact R.1 j hj
  · rw [if_neg hw1, if_neg hw1]
    have fin : ∀ (x y : Int32), y = nb (3 * p) → ∃ h', ((jq_stI h (ga + 9 + 4) (nI (3 * p + 2)) x).bind fun h1 => (jq_gR [4] 3 h1 ga).bind fun q2 => (jq_gR [3] 0 h1 q2).bind fun q3 => (jq_stI h1 q3 (nI (3 * p + 1)) y).bind fun h4 => (jq_gR [4] 3 h4 ga).bind fun q5 => (jq_gR [3] 0 h4 q5).bind fun q6 => (jq_stI h4 q6 (nI (3 * p)) 0).bind fun h7 => some h7) = some h' ∧ LRN ga 6 a b c (upd (upd (upd nb (3 * p + 2) x) (3 * p + 1) y) (3 * p) 0) S h h' := by
      intro x y hy
      obtain ⟨h1, s1, O1⟩ := st_c (x := x) (O.f (w := 6)) (i := 3 * p + 2) (by omega) (by omega)
      obtain ⟨h2, s2, O2⟩ := st_c (x := y) O1 (i := 3 * p + 1) (by omega) (by omega)
      obtain ⟨h3, s3, O3⟩ := st_c (x := 0) O2 (i := 3 * p) (by omega) (by omega)
      refine ⟨h3, ?_, _, O3, fun k hk => by rw [u2_ne hk, u2_ne hk, u2_ne hk], fun j hj => ?_⟩
      · rw [s1, Option.bind_some, r3 (O1.go G), Option.bind_some, o0 O1.1, Option.bind_some, s2, Option.bind_some, r3 (O2.go G), Option.bind_some, o0 O2.1, Option.bind_some, s3, Option.bind_some]
      · rw [u2_eq, u2_eq, u2_eq]
        show upd (upd (upd (S 0) _ _) _ _) _ _ j = upd (upd (upd nb _ _) _ _) _ _ j
        by_cases hj0 : j = 3 * p
        · subst hj0
          rw [pk_us, pk_us]
        · rw [pk_un hj0, pk_un hj0]
          by_cases hj1 : j = 3 * p + 1
          · subst hj1
            rw [pk_us, pk_us]
          · rw [pk_un hj1, pk_un hj1]
            by_cases hj2 : j = 3 * p + 2
            · subst hj2
              rw [pk_us, pk_us]
            · rw [pk_un hj2, pk_un hj2]
              exact R.1 j hj
    by_cases hq : nb (3 * p) = nb (3 * p + 1)
    · rw [if_pos hq, if_pos hq, if_neg (by decide)]
      obtain ⟨h', f1, L⟩ := fin (if 3 ≤ nb (3 * p + 2) then 3 else nb (3 * p + 2) + 1) (nb (3 * p)) rfl
      refine ⟨h', f1, ?_⟩
      obtain ⟨S', L1, L2, L3⟩ := L
      refine ⟨S', L1, L2, fun j hj => (L3 j hj).trans ?_⟩
      show upd (upd (upd nb _ _) _ _) _ _ j = upd (upd nb _ _) _ _ j
      by_cases hj0 : j = 3 * p
      · subst hj0
        rw [pk_us, pk_us]
      · rw [pk_un hj0, pk_un hj0]
        by_cases hj1 : j = 3 * p + 1
        · subst hj1
          rw [pk_us, pk_un (by omega)]
          exact hq
        · rw [pk_un hj1]
    · rw [if_neg hq, if_neg hq, if_pos trivial]
      exact fin 0 (nb (3 * p)) rfl
end LEARN
