/-! ===== the class's whole state on the heap ===== -/
abbrev gd : Type := (Nat × Nat × Nat × Nat × Nat) × (Nat → Int32) × Int32 × ob_S × ob_S × (Nat → Option Nat) × (Nat → ob_S)
abbrev g_ga (x : gd) : Nat := x.1.1
abbrev g_kd (x : gd) : Nat := x.1.2.1
abbrev g_a (x : gd) : Nat := x.1.2.2.1
abbrev g_b (x : gd) : Nat := x.1.2.2.2.1
abbrev g_c (x : gd) : Nat := x.1.2.2.2.2
abbrev g_hf (x : gd) : Nat → Int32 := x.2.1
abbrev g_sd (x : gd) : Int32 := x.2.2.1
abbrev g_L (x : gd) : ob_S := x.2.2.2.1
abbrev g_F (x : gd) : ob_S := x.2.2.2.2.1
abbrev g_ka (x : gd) : Nat → Option Nat := x.2.2.2.2.2.1
abbrev g_K (x : gd) : Nat → ob_S := x.2.2.2.2.2.2
abbrev g_sh (x : gd) : ob_Sh := sh_L (gk_nc (g_kd x) (g_a x) (g_b x) (g_c x)) (gk_ns (g_kd x) (g_a x) (g_c x))
/-- where a guesser lies -/
def fpt (x : gd) (y : Nat) : Prop := (g_ga x ≤ y ∧ y < g_ga x + 15) ∨ ∃ k q, k < 2 ∧ g_ka x k = some q ∧ q ≤ y ∧ y < q + 6
def GHp (h : jq_H) (mc oa ob : Nat) (x : gd) : Prop := GO h (g_ga x) (g_kd x) (g_a x) (g_b x) (g_c x) mc oa ob (g_sd x) ∧ h.2 (g_ga x + 1) = some (.inl (0, 64, .inl (g_hf x))) ∧ h.2 (g_ga x + 2) = some (.inl (3, 2, .inr (.inr (.inr (.inr (g_ka x)))))) ∧ OB h (g_ga x + 3) 3 (g_sh x) (g_F x) ∧ OB h (g_ga x + 9) 3 (g_sh x) (g_L x) ∧ (∀ k q, k < 2 → g_ka x k = some q → OB h q 3 (g_sh x) (g_K x k))
def DJ (x : gd) : Prop := ∀ k q, k < 2 → g_ka x k = some q → (q + 6 ≤ g_ga x ∨ g_ga x + 15 ≤ q) ∧ ∀ k' q', k' < 2 → k' ≠ k → g_ka x k' = some q' → (q + 6 ≤ q' ∨ q' + 6 ≤ q)
theorem GHp.kept {h h' : jq_H} {mc oa ob : Nat} {x : gd} (H : GHp h mc oa ob x) (hk : ∀ y, fpt x y → h'.2 y = h.2 y) : GHp h' mc oa ob x := by
  obtain ⟨h1, h2, h3, h4, h5, h6⟩ := H
  have hb : ∀ y, g_ga x ≤ y → y < g_ga x + 15 → h'.2 y = h.2 y := fun y q1 q2 => hk y (Or.inl ⟨q1, q2⟩)
  refine ⟨h1.of (hb _ (by omega) (by omega)), by rw [hb _ (by omega) (by omega)]; exact h2, by rw [hb _ (by omega) (by omega)]; exact h3, h4.kept (ok_L _ _) (by decide) (fun y q1 q2 => hb y (by omega) (by omega)), h5.kept (ok_L _ _) (by decide) (fun y q1 q2 => hb y (by omega) (by omega)), ?_⟩
  intro k q hk2 hq
  exact (h6 k q hk2 hq).kept (ok_L _ _) (by decide) (fun y q1 q2 => hk y (Or.inr ⟨k, q, hk2, hq, q1, q2⟩))
def gup (G : Nat → gd) (g : Nat) (x : gd) : Nat → gd := fun i => if i = g then x else G i
theorem gup_at {G : Nat → gd} {g : Nat} {x : gd} : gup G g x g = x := if_pos rfl
theorem gup_ne {G : Nat → gd} {g i : Nat} {x : gd} (h : i ≠ g) : gup G g x i = G i := if_neg h
theorem gup_1 {G : Nat → gd} {g i : Nat} {x : gd} (h : x.1 = (G g).1) : (gup G g x i).1 = (G i).1 := by
  by_cases hi : i = g
  · subst hi
    rw [gup_at, h]
  · rw [gup_ne hi]
def GSt (h : jq_H) (ax c : Nat) (G : Nat → gd) (rf : Nat → Option Nat) : Prop :=
  h.2 (ax + 14) = some (.inl (2, 8, .inr (.inr (.inr (.inr rf))))) ∧ (∀ g, g < c → rf g = some (g_ga (G g))) ∧ (∀ g, g < c → GHp h (ax + 1) (g_ga (G (g_a (G g)))) (g_ga (G (g_b (G g)))) (G g)) ∧
  (∀ g y, g < c → fpt (G g) y → ax + 36 ≤ y ∧ y < h.1) ∧ (∀ g g' y, g < c → g' < c → g ≠ g' → fpt (G g) y → ¬ fpt (G g') y) ∧ (∀ g, g < c → DJ (G g))
theorem GSt.kept {h h' : jq_H} {ax c : Nat} {G : Nat → gd} {rf : Nat → Option Nat} (H : GSt h ax c G rf) (h14 : h'.2 (ax + 14) = h.2 (ax + 14)) (hk : ∀ y, ax + 36 ≤ y → y < h.1 → h'.2 y = h.2 y) (hz : h.1 ≤ h'.1) : GSt h' ax c G rf := by
  obtain ⟨h1, h2, h3, h4, h5, h6⟩ := H
  refine ⟨by rw [h14]; exact h1, h2, fun g hg => (h3 g hg).kept (fun y hy => hk y (h4 g y hg hy).1 (h4 g y hg hy).2), fun g y hg hy => ⟨(h4 g y hg hy).1, Nat.lt_of_lt_of_le (h4 g y hg hy).2 hz⟩, h5, h6⟩
def CI (h : jq_H) (ax c : Nat) (ev : Int32) (M W : ob_S) (G : Nat → gd) (rf : Nat → Option Nat) (R : ob_S) : Prop :=
  h.2 ax = some (.inr (9, [.ref (ax + 1), .ref (ax + 8), .ref (ax + 14), .int (nI c), .int ev])) ∧ OB h (ax + 1) 5 sh_M M ∧ OB h (ax + 8) 6 sh_W W ∧ OB h (ax + 15) 10 sh_R R ∧ GSt h ax c G rf ∧ c ≤ 8 ∧ ax + 36 ≤ h.1
section CIS
variable {h h' : jq_H} {ax c : Nat} {ev : Int32} {M W R : ob_S} {G : Nat → gd} {rf : Nat → Option Nat}
theorem CI.ci (H : CI h ax c ev M W G rf R) : jq_ci h ax = 9 := rdC H.1
theorem CI.cr (H : CI h ax c ev M W G rf R) : jq_ci h (ax + 15) = 10 := H.2.2.2.1.ci
theorem CI.ref {R' : ob_S} (H : CI h ax c ev M W G rf R) (O : OF (ax + 15) 21 10 sh_R h R' h') : CI h' ax c ev M W G rf R' := by
  obtain ⟨h1, h2, h3, h4, h5, h6, h7⟩ := H
  have f : ∀ y, y < ax + 15 ∨ ax + 36 ≤ y → h'.2 y = h.2 y := fun y hy => O.2.2 y (by omega)
  refine ⟨by rw [f _ (by omega)]; exact h1, h2.kept ok_M (by decide) (fun y q1 q2 => f y (by omega)), h3.kept ok_W (by decide) (fun y q1 q2 => f y (by omega)), O.1, h5.kept (f _ (by omega)) (fun y q1 q2 => f y (by omega)) (by rw [O.2.1]; exact Nat.le_refl _), h6, by rw [O.2.1]; exact h7⟩
theorem CI.mach {M' : ob_S} (H : CI h ax c ev M W G rf R) (O : OF (ax + 1) 7 5 sh_M h M' h') : CI h' ax c ev M' W G rf R := by
  obtain ⟨h1, h2, h3, h4, h5, h6, h7⟩ := H
  have f : ∀ y, y < ax + 1 ∨ ax + 8 ≤ y → h'.2 y = h.2 y := fun y hy => O.2.2 y (by omega)
  refine ⟨by rw [f _ (by omega)]; exact h1, O.1, h3.kept ok_W (by decide) (fun y q1 q2 => f y (by omega)), h4.kept ok_R (by decide) (fun y q1 q2 => f y (by omega)), h5.kept (f _ (by omega)) (fun y q1 q2 => f y (by omega)) (by rw [O.2.1]; exact Nat.le_refl _), h6, by rw [O.2.1]; exact h7⟩
theorem CI.row {W' : ob_S} (H : CI h ax c ev M W G rf R) (O : OF (ax + 8) 6 6 sh_W h W' h') : CI h' ax c ev M W' G rf R := by
  obtain ⟨h1, h2, h3, h4, h5, h6, h7⟩ := H
  have f : ∀ y, y < ax + 8 ∨ ax + 14 ≤ y → h'.2 y = h.2 y := fun y hy => O.2.2 y (by omega)
  refine ⟨by rw [f _ (by omega)]; exact h1, h2.kept ok_M (by decide) (fun y q1 q2 => f y (by omega)), O.1, h4.kept ok_R (by decide) (fun y q1 q2 => f y (by omega)), h5.kept (f _ (by omega)) (fun y q1 q2 => f y (by omega)) (by rw [O.2.1]; exact Nat.le_refl _), h6, by rw [O.2.1]; exact h7⟩
theorem CI.evp (H : CI h ax c ev M W G rf R) (ev' : Int32) : ∃ h', jq_p [9] 4 h ax (.int ev') = some h' ∧ CI h' ax c ev' M W G rf R := by
  obtain ⟨h1, h2, h3, h4, h5, h6, h7⟩ := H
  refine ⟨(h.1, va_up h.2 ax (some (.inr (9, [.ref (ax + 1), .ref (ax + 8), .ref (ax + 14), .int (nI c), .int ev'])))), ?_, ?_⟩
  · unfold jq_p
    rw [h1]
    rfl
  · have f : ∀ y, y ≠ ax → va_up h.2 ax (some (.inr (9, [.ref (ax + 1), .ref (ax + 8), .ref (ax + 14), .int (nI c), .int ev']))) y = h.2 y := fun y hy => up_ne hy
    exact ⟨up_at, h2.kept ok_M (by decide) (fun y q1 q2 => f y (by omega)), h3.kept ok_W (by decide) (fun y q1 q2 => f y (by omega)), h4.kept ok_R (by decide) (fun y q1 q2 => f y (by omega)), h5.kept (f _ (by omega)) (fun y q1 q2 => f y (by omega)) (Nat.le_refl _), h6, h7⟩
/-- one guesser is changed, in its own cells and in new ones -/
theorem CI.gu {g : Nat} {x : gd} (H : CI h ax c ev M W G rf R) (hg : g < c) (h1 : x.1 = (G g).1) (hH : GHp h' (ax + 1) (g_ga (G (g_a (G g)))) (g_ga (G (g_b (G g)))) x) (hD : DJ x) (hz : h.1 ≤ h'.1) (hfp : ∀ y, fpt x y → fpt (G g) y ∨ (h.1 ≤ y ∧ y < h'.1)) (hk : ∀ y, y < h.1 → ¬ fpt (G g) y → h'.2 y = h.2 y) : CI h' ax c ev M W (gup G g x) rf R := by
  obtain ⟨i1, i2, i3, i4, ⟨j1, j2, j3, j4, j5, j6⟩, i6, i7⟩ := H
  have f : ∀ y, y < ax + 36 → h'.2 y = h.2 y := fun y hy => hk y (by omega) (fun q => by have := (j4 g y hg q).1; omega)
  have u1 : ∀ i, (gup G g x i).1 = (G i).1 := fun i => gup_1 h1
  refine ⟨by rw [f _ (by omega)]; exact i1, i2.kept ok_M (by decide) (fun y q1 q2 => f y (by omega)), i3.kept ok_W (by decide) (fun y q1 q2 => f y (by omega)), i4.kept ok_R (by decide) (fun y q1 q2 => f y (by omega)), ⟨by rw [f _ (by omega)]; exact j1, ?_, ?_, ?_, ?_, ?_⟩, i6, by omega⟩
  · intro g' hg'
    rw [j2 g' hg']
    show some (G g').1.1 = some (gup G g x g').1.1
    rw [u1]
  · intro g' hg'
    show GHp h' (ax + 1) (gup G g x ((gup G g x g').1.2.2.1)).1.1 (gup G g x ((gup G g x g').1.2.2.2.1)).1.1 (gup G g x g')
    rw [u1, u1, u1]
    by_cases hi : g' = g
    · subst hi
      rw [gup_at]
      exact hH
    · rw [gup_ne hi]
      exact (j3 g' hg').kept (fun y hy => hk y (j4 g' y hg' hy).2 (j5 g' g y hg' hg hi hy))
  · intro g' y hg' hy
    by_cases hi : g' = g
    · subst hi
      rw [gup_at] at hy
      rcases hfp y hy with q | q
      · have := j4 g' y hg' q
        omega
      · omega
    · rw [gup_ne hi] at hy
      have := j4 g' y hg' hy
      omega
  · intro g1 g2 y q1 q2 hne hy1 hy2
    by_cases e1 : g1 = g
    · subst e1
      rw [gup_at] at hy1
      rw [gup_ne (Ne.symm hne)] at hy2
      rcases hfp y hy1 with q | q
      · exact j5 g1 g2 y q1 q2 hne q hy2
      · have := (j4 g2 y q2 hy2).2
        omega
    · rw [gup_ne e1] at hy1
      by_cases e2 : g2 = g
      · subst e2
        rw [gup_at] at hy2
        rcases hfp y hy2 with q | q
        · exact j5 g1 g2 y q1 q2 hne hy1 q
        · have := (j4 g1 y q1 hy1).2
          omega
      · rw [gup_ne e2] at hy2
        exact j5 g1 g2 y q1 q2 hne hy1 hy2
  · intro g' hg'
    by_cases hi : g' = g
    · subst hi
      rw [gup_at]
      exact hD
    · rw [gup_ne hi]
      exact j6 g' hg'
/-- reading -/
theorem CI.gm (H : CI h ax c ev M W G rf R) : jq_gR [9] 0 h ax = some (ax + 1) := rdR H.1 (by decide) rfl
theorem CI.gw (H : CI h ax c ev M W G rf R) : jq_gR [9] 1 h ax = some (ax + 8) := rdR H.1 (by decide) rfl
theorem CI.gg (H : CI h ax c ev M W G rf R) : jq_gR [9] 2 h ax = some (ax + 14) := rdR H.1 (by decide) rfl
theorem CI.gc (H : CI h ax c ev M W G rf R) : jq_gI [9] 3 h ax = some (nI c) := rdI H.1 (by decide) rfl
theorem CI.ge (H : CI h ax c ev M W G rf R) : jq_gI [9] 4 h ax = some ev := rdI H.1 (by decide) rfl
theorem CI.ld {g : Nat} (H : CI h ax c ev M W G rf R) (hg : g < c) : jq_ldN 2 h (ax + 14) (nI g) = some (g_ga (G g)) := by
  have h8 := H.2.2.2.2.2.1
  unfold jq_ldN jq_ldR
  rw [H.2.2.2.2.1.1]
  simp only
  rw [if_pos ⟨trivial, jq_inN' (by omega) (by decide)⟩, n_cl (by omega), H.2.2.2.2.1.2.1 g hg]
theorem CI.gh {g : Nat} (H : CI h ax c ev M W G rf R) (hg : g < c) : GHp h (ax + 1) (g_ga (G (g_a (G g)))) (g_ga (G (g_b (G g)))) (G g) := H.2.2.2.2.1.2.2.1 g hg
theorem CI.isG (n : Nat) (H : CI h ax c ev M W G rf R) (x : Int32) : X10_isGuesser n h ax x = some (pf_in x 0 (nI c - 1), h) := by
  unfold X10_isGuesser
  rw [H.gc, Option.bind_some, p_within, Option.bind_some]
  exact jq_zin _ _ _ _
end CIS
/-- is it a number of a guesser -/
theorem pf_g {x : Int32} {c : Nat} (hc : c ≤ 8) : (pf_in x 0 (nI c - 1) = 0 ∧ ∀ g, g < c → x ≠ nI g) ∨ (pf_in x 0 (nI c - 1) = 1 ∧ ∃ g, g < c ∧ x = nI g) := by
  cases c with
  | zero =>
    left
    refine ⟨?_, fun g hg => by omega⟩
    unfold pf_in
    rw [if_neg]
    rintro ⟨q1, q2⟩
    have q3 : x < 0 := Int32.lt_of_le_of_lt q2 (by decide)
    exact Int32.lt_irrefl (Int32.lt_of_lt_of_le q3 q1)
  | succ c =>
    have e : nI (c + 1) - 1 = nI c := by
      rw [← na1 c]
      exact Int32.add_sub_cancel _ _
    rw [e]
    by_cases hz : pf_in x 0 (nI c) = 0
    · left
      refine ⟨hz, ?_⟩
      rintro g hg rfl
      rw [pf_in_yes (by omega) (by omega)] at hz
      exact absurd hz (by decide)
    · right
      obtain ⟨k, hk, rfl⟩ := pf_in_of (by omega) hz
      exact ⟨pf_in_ne hz, k, by omega, rfl⟩
