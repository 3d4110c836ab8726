/-! ===== a branch comes: one guesser, all guessers ===== -/
section MEETS
variable {n ax c : Nat} {ev : Int32} {M W R0 : ob_S} {rf : Nat → Option Nat} {g p w : Nat}
theorem gown_fpt {x : gd} {y : Nat} (h : gown (g_ga x) y) : fpt x y := by
  unfold gown at h
  exact Or.inl (by omega)
set_option maxHeartbeats 1000000 in
theorem meet1 {h : jq_H} {G : Nat → gd} {R : ob_S} (hn : 100 < n) (hp : p < 64) (hw : w < 2) (hg : g < c) (H : CI h ax c ev M W G rf R0) (h3 : M 3 = R 3) (Q : ∀ g, g < c → RGq R g (G g)) (h7 : g_kd (G g) = 7 → g_sd (G (g_a (G g))) = R 21 (g_a (G g)) ∧ g_sd (G (g_b (G g))) = R 21 (g_b (G g))) :
    ∃ h' x' R', V_meetBranch n h (g_ga (G g)) (nI p) (nI w) = some h' ∧ x'.1 = (G g).1 ∧ CI h' ax c ev M W (gup G g x') rf R0 ∧ rX11_asks n R (nI g) (nI p) (nI w) = some R' ∧ (∀ g', g' < c → RGq R' g' (gup G g x' g')) ∧ g_sd x' = R' 21 g ∧ (∀ g', g' ≠ g → R' 21 g' = R 21 g') ∧ (∀ k, k ≠ 18 → k ≠ 21 → R' k = R k) := by
  have h8 := H.c8
  obtain ⟨hk, hS, hab, hh, hL, hB, hF, hK⟩ := Q g hg
  obtain ⟨k1, k2, k3, k4, k5, k6⟩ := H.gh hg
  have hD := H.2.2.2.2.1.2.2.2.2.2 g hg
  have hdj := H.2.2.2.2.1.2.2.2.2.1
  obtain ⟨oA, hoA⟩ : ∃ y, y = if g_kd (G g) = 7 then R 21 (g_a (G g)) else 0 := ⟨_, rfl⟩
  obtain ⟨oB, hoB⟩ : ∃ y, y = if g_kd (G g) = 7 then R 21 (g_b (G g)) else 0 := ⟨_, rfl⟩
  obtain ⟨gu, hgu⟩ : ∃ y, y = sp_say (g_kd (G g)) (g_a (G g)) (g_b (G g)) (g_c (G g)) (nbS R g) (g_hf (G g) p) (R 3 p) p oA oB := ⟨_, rfl⟩
  have hnb : ∀ g', g' < c → g' ≠ g → ¬ gown (g_ga (G g)) (g_ga (G g')) := fun g' q1 q2 q3 => hdj g' g _ q1 hg q2 (Or.inl ⟨Nat.le_refl _, by omega⟩) (gown_fpt q3)
  have hsd : ∀ g', g' < c → jq_gI gcs 6 h (g_ga (G g')) = some (g_sd (G g')) := fun g' q => rdI (H.go q) (gk_in _) rfl
  obtain ⟨h', S', m1, m2, m3, m4, m5, m6, m7⟩ := X_meet (n := n) (w := w) (M := M) (opv := R 3 p) (oA := oA) (oB := oB) hn hp hw hk k1 k2 (hh p hp).2 k5 hL hB (fun _ => ⟨H.2.1, by rw [h3]⟩) (fun q => by
    have hq := hab q
    rw [hoA, hoB, if_pos q, if_pos q, ← (h7 q).1, ← (h7 q).2]
    exact ⟨⟨hnb _ (by omega) (by omega), hsd _ (by omega)⟩, ⟨hnb _ (by omega) (by omega), hsd _ (by omega)⟩⟩) hgu
  have hgu2 : gu = sp_say (g_kd (G g)) (g_a (G g)) (g_b (G g)) (g_c (G g)) (sp_c1 (g_kd (G g)) (g_a (G g)) (g_b (G g)) (g_c (G g)) (nbS R g) p) (R 17 (64 * g + p)) (R 3 p) p oA oB := by
    rw [hgu, (hh p hp).1]
    unfold sp_say
    rw [own_congr (nb' := sp_c1 (g_kd (G g)) (g_a (G g)) (g_b (G g)) (g_c (G g)) (nbS R g) p) (nb := nbS R g) hk hp (fun i hi => c1_far hk (by omega) hB.2.1) (c1_far hk (by omega) hB.2.1)]
  have la := L_asks (n := n) (g := g) (w := w) (S := R) (nb := nbS R g) hn (by omega) hp hw hk hS (fun q => by have := hab q; omega) hB.1 hB.2.1 hoA hoB hgu2
  rw [bset_id] at la
  have nbx : ∀ i, i < 812 → nbS (bset (u2 R 21 g gu) g (nb_next (g_kd (G g)) (g_a (G g)) (g_b (G g)) (g_c (G g)) (nbS R g) p w gu oA oB)) g i = nb_next (g_kd (G g)) (g_a (G g)) (g_b (G g)) (g_c (G g)) (nbS R g) p w gu oA oB i := fun i hi => bset_at hi
  refine ⟨h', ((G g).1, g_hf (G g), gu, S', (G g).2.2.2.2), bset (u2 R 21 g gu) g (nb_next (g_kd (G g)) (g_a (G g)) (g_b (G g)) (g_c (G g)) (nbS R g) p w gu oA oB), ?_, rfl, ?_, la, ?_, ?_, ?_, ?_⟩
  · rw [V_meetE hk k1]
    exact m1
  · have f : ∀ y, ¬ gown (g_ga (G g)) y → h'.2 y = h.2 y := m7
    refine H.gu hg rfl ⟨m2, ?_, ?_, k4.kept (ok_L _ _) (by decide) (fun y q1 q2 => f y (by unfold gown; omega)), m3, fun k q hk hq => (k6 k q hk hq).kept (ok_L _ _) (by decide) (fun y q1 q2 => f y (by have := (hD k q hk hq).1; unfold gown; omega))⟩ hD (by rw [m6]; exact Nat.le_refl _) (fun y hy => Or.inl hy) (fun y q1 q2 => f y (fun q => q2 (gown_fpt q)))
    · rw [← k2]
      exact f (g_ga (G g) + 1) (by unfold gown; omega)
    · rw [← k3]
      exact f (g_ga (G g) + 2) (by unfold gown; omega)
  · intro g' hg'
    by_cases e : g' = g
    · subst e
      rw [gup_at]
      refine ⟨hk, hS.bs _ (fun k hk => by rw [bset_ne (by omega), u2_ne (by omega)]), hab, fun q hq => by rw [bset_ne (by decide), u2_ne (by decide)]; exact hh q hq, m4.congr hk nbx, m5.congr nbx, hF, fun k hk2 => ?_⟩
      have y19 : kbS (bset (u2 R 21 g' gu) g' (nb_next (g_kd (G g')) (g_a (G g')) (g_b (G g')) (g_c (G g')) (nbS R g') p w gu oA oB)) g' k = kbS R g' k := by
        unfold kbS
        rw [bset_ne (by decide), u2_ne (by decide)]
      rw [bset_ne (by decide), u2_ne (by decide), y19]
      exact hK k hk2
    · rw [gup_ne e]
      refine (Q g' hg').of2 (fun k hk => by rw [bset_ne (by omega), u2_ne (by omega)]) (fun q hq => by rw [bset_ne (by decide), u2_ne (by decide)]) (fun i hi => by rw [bset_other e hi, u2_ne (by decide)]) (fun k i hk hi => by rw [bset_ne (by decide), u2_ne (by decide)]) (fun k hk => by rw [bset_ne (by decide), u2_ne (by decide)])
  · show gu = _
    rw [bset_ne (by decide), u2_at]
  · intro g' e
    rw [bset_ne (by decide), u2_eq, pk_un e]
  · intro k z1 z2
    rw [bset_ne z1, u2_ne z2]
/-- all guessers, one after the other -/
theorem meet_loop (hn : 100 < n) (hp : p < 64) (hw : w < 2) {KC : jq_H → Option jq_H} {K : Int32 → Int32 → ob_S → Option ob_S} (h3 : ∀ k, k < 8 → M k = M k) :
    ∀ (k j : Nat) (h : jq_H) (G : Nat → gd) (R : ob_S), CI h ax c ev M W G rf R0 → M 3 = R 3 → R 12 0 = nI c → (∀ g, g < c → RGq R g (G g)) → (∀ g, g < j → g_sd (G g) = R 21 g) → j ≤ c → c < j + k →
      ∃ h' G' R', X10_meet_l21 n KC k ax (nI p) (nI w) (nI j) h = KC h' ∧ rX11_comes_l2 n K k (nI p) (nI w) (nI j) R = K (nI p) (nI w) R' ∧ CI h' ax c ev M W G' rf R0 ∧ (∀ g, g < c → RGq R' g (G' g)) ∧ (∀ k, k ≠ 18 → k ≠ 21 → R' k = R k) := by
  intro k
  induction k with
  | zero => intro j h G R _ _ _ _ _ h1 h2; exfalso; omega
  | succ k ih =>
    intro j h G R H h3 h12 Q hs h1 h2
    have h8 := H.c8
    by_cases hj : c ≤ j
    · have hle : nI c ≤ nI j := (nI_leI (by omega) (by omega)).mpr hj
      refine ⟨h, G, R, ?_, ?_, H, Q, fun _ _ _ => rfl⟩
      · show X10_meet_b21 n (X10_meet_l21 n KC k) KC ax _ _ _ _ = _
        unfold X10_meet_b21
        rw [H.gc, Option.bind_some, if_pos hle]
      · show rX11_comes_b2 n (rX11_comes_l2 n K k) K _ _ _ _ = _
        unfold rX11_comes_b2
        simp only [jq_l, h12]
        rw [if_pos hle]
    · have hle : ¬ nI c ≤ nI j := fun q => hj ((nI_leI (by omega) (by omega)).mp q)
      have hg : j < c := by omega
      obtain ⟨h', x', R', m1, m2, m3, m4, m5, m6, m7, m8⟩ := meet1 hn hp hw hg H h3 Q (fun q => by
        have := (Q j hg).2.2.1 q
        exact ⟨hs _ this.1, hs _ this.2⟩)
      obtain ⟨h2', G2, R2, z1, z2, z3, z4, z5⟩ := ih (j + 1) h' _ R' m3 (by rw [m8 3 (by decide) (by decide)]; exact h3) (by rw [m8 12 (by decide) (by decide)]; exact h12) m5 (fun g hg2 => by
        by_cases e : g = j
        · subst e
          rw [gup_at]
          exact m6
        · rw [gup_ne e, m7 g e]
          exact hs g (by omega)) (by omega) (by omega)
      refine ⟨h2', G2, R2, ?_, ?_, z3, z4, fun k q1 q2 => by rw [z5 k q1 q2]; exact m8 k q1 q2⟩
      · rw [← z1]
        show X10_meet_b21 n (X10_meet_l21 n KC k) KC ax _ _ _ _ = _
        unfold X10_meet_b21
        rw [H.gc, Option.bind_some, if_neg hle, H.gg, Option.bind_some, H.ld hg, Option.bind_some, m1, Option.bind_some]
        simp only [jq_l, na1]
      · rw [← z2]
        show rX11_comes_b2 n (rX11_comes_l2 n K k) K _ _ _ _ = _
        unfold rX11_comes_b2
        simp only [jq_l, h12]
        rw [if_neg hle, m4, Option.bind_some, na1]
/-- all but the machine -/
abbrev RELn (c : Nat) (ev : Int32) (W : ob_S) (G : Nat → gd) (R : ob_S) : Prop := (∃ m pl wy, RWq m pl wy W R) ∧ (∀ g, g < c → RGq R g (G g)) ∧ R 8 0 = ev ∧ R 12 0 = nI c ∧ (∀ j, 2 * c ≤ j → j < 16 → R 20 j = 0)
/-- meet and comes -/
theorem meet_all2 {h : jq_H} {G : Nat → gd} {R : ob_S} (hn : 3000 < n) (hp : p < 64) (hw : w < 2) (H : CI h ax c ev M W G rf R0) (h3 : M 3 = R 3) (Q : RELn c ev W G R) :
    ∃ h' W' G' R', X10_meet n h ax (nI p) (nI w) = some h' ∧ rX11_comes n R (nI p) (nI w) = some R' ∧ CI h' ax c (ev + 1) M W' G' rf R0 ∧ RELn c (ev + 1) W' G' R' ∧ (∀ k, k < 8 → R' k = R k) := by
  have h8 := H.c8
  obtain ⟨⟨m, pl, wy, qw⟩, qg, q8, q12, q20⟩ := Q
  obtain ⟨h1, e1, H1⟩ := H.evp (ev + 1)
  obtain ⟨W', ew, hw2⟩ := row_add n qw hp hw
  obtain ⟨h2, e2, O2⟩ := N_X7_add (n := n) (H1.2.2.1.f (w := 6)) ew
  have H2 := H1.row O2
  obtain ⟨h3, G', R1, z1, z2, z3, z4, z5⟩ := meet_loop (n := n) (p := p) (w := w) (KC := fun hh => X10_meet_b46 n hh) (K := fun w1 w2 SS => rX11_comes_b23 n w1 w2 SS) (by omega) hp hw (fun _ _ => rfl) n 0 h2 G R H2 h3 q12 qg (fun g hg => by omega) (by omega) (by omega)
  obtain ⟨R', m', pl', wy', y1, y2, y3, y4⟩ := hw2 R1 (fun k k1 k2 => z5 k (by omega) (by omega))
  refine ⟨h3, W', G', R', ?_, ?_, z3, ⟨⟨m', pl', wy', y2⟩, fun g hg => (z4 g hg).of (fun k k1 k2 => y4 k (by omega) (by omega) (by omega) (by omega)), ?_, ?_, fun j k1 k2 => ?_⟩, fun k hk => ?_⟩
  · unfold X10_meet
    rw [H.ge, Option.bind_some, e1, Option.bind_some, H1.gw, Option.bind_some, if_pos H1.2.2.1.ci, e2, Option.bind_some]
    exact z1
  · unfold rX11_comes
    rw [← y1]
    exact z2
  · rw [y3, z5 8 (by decide) (by decide), q8]
  · rw [y4 12 (by decide) (by decide) (by decide) (by decide), z5 12 (by decide) (by decide)]
    exact q12
  · rw [y4 20 (by decide) (by decide) (by decide) (by decide), z5 20 (by decide) (by decide)]
    exact q20 j k1 k2
  · rw [y4 k (by omega) (by omega) (by omega) (by omega)]
    exact z5 k (by omega) (by omega)
theorem meet_all {h : jq_H} {G : Nat → gd} {R : ob_S} (hn : 3000 < n) (hp : p < 64) (hw : w < 2) (H : CI h ax c ev M W G rf R0) (Q : REL c ev M W G R) :
    ∃ h' W' G' R', X10_meet n h ax (nI p) (nI w) = some h' ∧ rX11_comes n R (nI p) (nI w) = some R' ∧ CI h' ax c (ev + 1) M W' G' rf R0 ∧ REL c (ev + 1) M W' G' R' ∧ (∀ k, k < 8 → R' k = R k) := by
  obtain ⟨h', W', G', R', z1, z2, z3, z4, z5⟩ := meet_all2 hn hp hw H (Q.1.1 3 (by decide)) Q.2
  exact ⟨h', W', G', R', z1, z2, z3, ⟨Q.1.of z5, z4⟩, z5⟩
theorem S_branch {h : jq_H} {G : Nat → gd} {R : ob_S} {a1 a2 : Int32} (hn : 3000 < n) (H : CI h ax c ev M W G rf R) (Q : REL c ev M W G R) : SIMq ax (fun h a => X10_branch n h a a1 a2) (fun S => rX11_branch n S a1 a2) h R := by
  rcases pf_63 a1 with h1 | ⟨h1, p, hp, rfl⟩
  · exact SIMq.same H Q (r := -1) (by simp only [X10_branch, p_isPlace, Option.bind_some, h1, if_true]) (by simp only [rX11_branch, jq_l, h1, if_true])
  have hwy : (pf_isWay a2 = 0 ∧ pf_in a2 0 1 = 0) ∨ (pf_isWay a2 = 1 ∧ pf_in a2 0 1 = 1 ∧ ∃ w, w < 2 ∧ a2 = nI w) := by
    rcases pf_1 a2 with q | ⟨q, w, hw, rfl⟩
    · refine Or.inl ⟨?_, q⟩
      unfold pf_isWay
      rw [if_neg]
      rintro (rfl | rfl)
      · exact absurd q (by decide)
      · exact absurd q (by decide)
    · refine Or.inr ⟨?_, q, w, by omega, rfl⟩
      rcases (show w = 0 ∨ w = 1 by omega) with rfl | rfl <;> decide
  rcases hwy with ⟨h2, h3⟩ | ⟨h2, h3, w, hw, rfl⟩
  · exact SIMq.same H Q (r := -2) (by simp only [X10_branch, p_isPlace, p_isWay, Option.bind_some, h1, one0, if_false, h2, if_true]) (by simp only [rX11_branch, jq_l, h1, one0, if_false, h3, if_true])
  · obtain ⟨h', W', G', R', z1, z2, z3, z4, z5⟩ := meet_all hn (show p < 64 by omega) hw H Q
    refine ⟨ev + 1, h', c, ev + 1, M, W', G', rf, R', ?_, z3, ?_, z4⟩
    · simp only [X10_branch, p_isPlace, p_isWay, Option.bind_some, h1, one0, if_false, h2, if_pos H.ci, z1, z3.ge]
    · simp only [rX11_branch, jq_l, h1, one0, if_false, h3, z2, Option.bind_some, z4.2.2.2.1]
end MEETS
