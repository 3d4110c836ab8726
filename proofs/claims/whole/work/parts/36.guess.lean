/-! ===== guess ===== -/
section GUESS
variable {n ax c : Nat} {ev : Int32} {M W R0 : ob_S} {rf : Nat → Option Nat} {g p : Nat}
theorem would1 {R : ob_S} {KB : Int32 → Int32 → Int32 → ob_S → Option (Int32 × ob_S)} {K : Int32 → ob_S → Option (Int32 × ob_S)} {j kd a b c : Nat} {oA oB v : Int32} (hn : 20 < n) (hj : j < 8) (hp : p < 64) (hk : gkOK kd a b c) (hS : gkS R j kd a b c) (hab : kd = 7 → a < 8 ∧ b < 8) (hh : hisOK (nbS R j)) (hoA : oA = if kd = 7 then R 22 a else 0) (hoB : oB = if kd = 7 then R 22 b else 0) (hv : v = sp_say kd a b c (nbS R j) (R 17 (64 * j + p)) (R 3 p) p oA oB) (hle : ¬ nI g < nI j) :
    rX11_guess_b19 n KB K (nI g) (nI p) (nI j) R = KB (nI g) (nI p) (nI (j + 1)) (u2 R 22 j v) := by
  have k8 := hk.1
  have lo : rX11_own n R (nI j) (nI p) oA oB = some (sp_own kd a b c (nbS R j) (R 3 p) p oA oB, R) := by
    have := L_own (n := n) (S := R) (nb := nbS R j) (oA := oA) (oB := oB) hn hj hp hk hS hh
    rw [bset_id] at this
    exact this
  have c1 : (nI j).toNatClampNeg = j := n_cl (by omega)
  have i1 : ∀ {β : Type} (x : Option β), (if jq_in (nI j) 8 then x else none) = x := fun x => n_ifin hj (by decide)
  have e64 : (64 * nI j) + nI p = nI (64 * j + p) := by rw [nm64, nI_add]
  have c2 : (nI (64 * j + p)).toNatClampNeg = 64 * j + p := n_cl (by omega)
  have i2 : ∀ {β : Type} (x : Option β), (if jq_in (nI (64 * j + p)) 512 then x else none) = x := fun x => n_ifin (by omega) (by decide)
  have q7 : (nI kd = 7) = (kd = 7) := propext (nI_eq (b := 7) (by omega) (by decide))
  unfold rX11_guess_b19
  rw [if_neg hle]
  unfold rX11_guess_b40 rX11_guess_b93 rX11_guess_b113 rX11_guess_b116
  simp only [jq_l, i1, c1, hS.1, e64, i2, c2, q7, one0, if_true, if_false, na1]
  unfold sp_say at hv
  by_cases h7 : kd = 7
  · rw [if_pos h7] at hoA hoB
    have s14 := hS.2.1 (by omega)
    have s15 := hS.2.2.1 (by omega)
    have hab2 := hab h7
    have ca : (nI a).toNatClampNeg = a := n_cl (by omega)
    have ia : ∀ {β : Type} (x : Option β), (if jq_in (nI a) 8 then x else none) = x := fun x => n_ifin hab2.1 (by decide)
    have cb : (nI b).toNatClampNeg = b := n_cl (by omega)
    have ib : ∀ {β : Type} (x : Option β), (if jq_in (nI b) 8 then x else none) = x := fun x => n_ifin hab2.2 (by decide)
    simp only [if_pos h7, s14, s15, ca, ia, cb, ib, ← hoA, ← hoB, lo, Option.bind_some]
    by_cases hq : R 17 (64 * j + p) < 0
    · rw [if_pos hq] at hv ⊢
      rw [hv]
    · rw [if_neg hq] at hv ⊢
      rw [hv]
  · rw [if_neg h7] at hoA hoB
    subst hoA
    subst hoB
    simp only [if_neg h7, lo, Option.bind_some]
    by_cases hq : R 17 (64 * j + p) < 0
    · rw [if_pos hq] at hv ⊢
      rw [hv]
    · rw [if_neg hq] at hv ⊢
      rw [hv]
theorem say1 {h : jq_H} {G : Nat → gd} {R : ob_S} {oA oB v : Int32} (hn : 20 < n) (hp : p < 64) (hg : g < c) (H : CI h ax c ev M W G rf R0) (h3 : M 3 = R 3) (Q : ∀ g, g < c → RGq R g (G g)) (h7 : g_kd (G g) = 7 → g_sd (G (g_a (G g))) = oA ∧ g_sd (G (g_b (G g))) = oB) (hv : v = sp_say (g_kd (G g)) (g_a (G g)) (g_b (G g)) (g_c (G g)) (nbS R g) (R 17 (64 * g + p)) (R 3 p) p oA oB) :
    ∃ h', V_say n h (g_ga (G g)) (nI p) = some h' ∧ CI h' ax c ev M W (gup G g ((G g).1, g_hf (G g), v, (G g).2.2.2)) rf R0 := by
  obtain ⟨hk, hS, hab, hh, hL, hB, hF, hK⟩ := Q g hg
  obtain ⟨k1, k2, k3, k4, k5, k6⟩ := H.gh hg
  have hD := H.2.2.2.2.1.2.2.2.2.2 g hg
  have hsd : ∀ g', g' < c → jq_gI gcs 6 h (g_ga (G g')) = some (g_sd (G g')) := fun g' q => rdI (H.go q) (gk_in _) rfl
  obtain ⟨h', m1, m2, m3, m4⟩ := X_say (n := n) (M := M) (opv := R 3 p) (oA := oA) (oB := oB) hn hp hk k1 k2 (hh p hp).2 k5 hL hB.2.2.2 (fun _ => ⟨H.2.1, by rw [h3]⟩) (fun q => by
    have hq := hab q
    rw [← (h7 q).1, ← (h7 q).2]
    exact ⟨hsd _ (by omega), hsd _ (by omega)⟩)
  rw [(hh p hp).1, ← hv] at m2
  refine ⟨h', by rw [V_sayE hk k1]; exact m1, ?_⟩
  refine H.gu hg rfl ⟨m2, ?_, ?_, k4.kept (ok_L _ _) (by decide) (fun y q1 q2 => m4 y (by omega)), k5.kept (ok_L _ _) (by decide) (fun y q1 q2 => m4 y (by omega)), fun k q hk hq => (k6 k q hk hq).kept (ok_L _ _) (by decide) (fun y q1 q2 => m4 y (by have := (hD k q hk hq).1; omega))⟩ hD (by rw [m3]; exact Nat.le_refl _) (fun y hy => Or.inl hy) (fun y q1 q2 => m4 y (fun q => q2 (Or.inl (by omega))))
  · rw [← k2]
    exact m4 (g_ga (G g) + 1) (by omega)
  · rw [← k3]
    exact m4 (g_ga (G g) + 2) (by omega)
theorem guess_loop (hn : 20 < n) (hp : p < 64) (hg : g < c) {KC : Nat → Int32 → jq_H → Option (Int32 × jq_H)} {K : Int32 → ob_S → Option (Int32 × ob_S)} :
    ∀ (k j : Nat) (h : jq_H) (G : Nat → gd) (R : ob_S), CI h ax c ev M W G rf R0 → M 3 = R 3 → (∀ g, g < c → RGq R g (G g)) → (∀ i, i < j → g_sd (G i) = R 22 i) → j ≤ g + 1 → g + 1 < j + k →
      ∃ h' G' R', X10_guess_l19 n KC k ax (nI g) (nI p) (nI j) h = KC ax (nI g) h' ∧ rX11_guess_l19 n K k (nI g) (nI p) (nI j) R = K (nI g) R' ∧ CI h' ax c ev M W G' rf R0 ∧ (∀ g, g < c → RGq R' g (G' g)) ∧ g_sd (G' g) = R' 22 g ∧ (∀ k, k ≠ 22 → R' k = R k) := by
  intro k
  induction k with
  | zero => intro j h G R _ _ _ _ h1 h2; exfalso; omega
  | succ k ih =>
    intro j h G R H h3 Q hs h1 h2
    have h8 := H.c8
    by_cases hj : g < j
    · have hle : nI g < nI j := (nI_ltI (by omega) (by omega)).mpr hj
      refine ⟨h, G, R, ?_, ?_, H, Q, hs g hj, fun _ _ => rfl⟩
      · show X10_guess_b19 n (X10_guess_l19 n KC k) KC ax _ _ _ _ = _
        unfold X10_guess_b19
        rw [if_pos hle]
      · show rX11_guess_b19 n (rX11_guess_l19 n K k) K _ _ _ _ = _
        unfold rX11_guess_b19
        rw [if_pos hle]
    · have hle : ¬ nI g < nI j := fun q => hj ((nI_ltI (by omega) (by omega)).mp q)
      have hjc : j < c := by omega
      have qj := Q j hjc
      obtain ⟨oA, hoA⟩ : ∃ y, y = if g_kd (G j) = 7 then R 22 (g_a (G j)) else 0 := ⟨_, rfl⟩
      obtain ⟨oB, hoB⟩ : ∃ y, y = if g_kd (G j) = 7 then R 22 (g_b (G j)) else 0 := ⟨_, rfl⟩
      obtain ⟨v, hv⟩ : ∃ y, y = sp_say (g_kd (G j)) (g_a (G j)) (g_b (G j)) (g_c (G j)) (nbS R j) (R 17 (64 * j + p)) (R 3 p) p oA oB := ⟨_, rfl⟩
      obtain ⟨h', m1, m2⟩ := say1 (n := n) hn hp hjc H h3 Q (fun q => by
        have := qj.2.2.1 q
        rw [hoA, hoB, if_pos q, if_pos q]
        exact ⟨hs _ this.1, hs _ this.2⟩) hv
      have w1 := would1 (n := n) (g := g) (KB := rX11_guess_l19 n K k) (K := K) hn (show j < 8 by omega) hp qj.1 qj.2.1 (fun q => by have := qj.2.2.1 q; omega) qj.2.2.2.2.2.1.1 hoA hoB hv hle
      have Q' : ∀ g', g' < c → RGq (u2 R 22 j v) g' (gup G j ((G j).1, g_hf (G j), v, (G j).2.2.2) g') := by
        intro g' hg'
        refine RGq.of ?_ (fun k q1 q2 => u2_ne (by omega))
        by_cases e : g' = j
        · subst e
          rw [gup_at]
          exact Q g' hg'
        · rw [gup_ne e]
          exact Q g' hg'
      obtain ⟨h2', G2, R2, z1, z2, z3, z4, z5, z6⟩ := ih (j + 1) h' _ _ m2 (by rw [u2_ne (by decide)]; exact h3) Q' (fun i hi => by
        by_cases e : i = j
        · subst e
          rw [gup_at, u2_at]
        · rw [gup_ne e, u2_eq, pk_un e]
          exact hs i (by omega)) (by omega) (by omega)
      refine ⟨h2', G2, R2, ?_, ?_, z3, z4, z5, fun k q1 => by rw [z6 k q1]; exact u2_ne q1⟩
      · rw [← z1]
        show X10_guess_b19 n (X10_guess_l19 n KC k) KC ax _ _ _ _ = _
        unfold X10_guess_b19
        rw [if_neg hle, H.gg, Option.bind_some, H.ld hjc, Option.bind_some, m1, Option.bind_some]
        simp only [jq_l, na1]
      · rw [← z2]
        exact w1
theorem REL.other {c : Nat} {ev : Int32} {M W R R' : ob_S} {G G' : Nat → gd} (Q : REL c ev M W G R) (hg : ∀ g, g < c → RGq R' g (G' g)) (hk : ∀ k, k ≤ 12 ∨ k = 20 → R' k = R k) : REL c ev M W G' R' := by
  obtain ⟨q1, ⟨m, pl, wy, qw⟩, qg, q8, q12, q20⟩ := Q
  exact ⟨q1.of (fun k q => hk k (by omega)), ⟨m, pl, wy, qw.of (fun k _ q => hk k (by omega))⟩, hg, by rw [hk 8 (by omega)]; exact q8, by rw [hk 12 (by omega)]; exact q12, fun j z1 z2 => by rw [hk 20 (by omega)]; exact q20 j z1 z2⟩
theorem S_guess {h : jq_H} {G : Nat → gd} {R : ob_S} {a1 a2 : Int32} (hn : 20 < n) (H : CI h ax c ev M W G rf R) (Q : REL c ev M W G R) : SIMq ax (fun h a => X10_guess n h a a1 a2) (fun S => rX11_guess n S a1 a2) h R := by
  have h8 := H.c8
  rcases pf_g (x := a1) H.c8 with ⟨h1, -⟩ | ⟨h1, g, hg, rfl⟩
  · exact SIMq.same H Q (r := -1) (by simp only [X10_guess, X10_guess_b15, H.isG', Option.bind_some, h1, if_true]) (by simp only [rX11_guess, rX11_guess_b15, Q.isG, Option.bind_some, h1, if_true])
  rcases pf_63 a2 with h2 | ⟨h2, p, hp, rfl⟩
  · exact SIMq.same H Q (r := -1) (by simp only [X10_guess, X10_guess_b15, H.isG', Option.bind_some, h1, one0, if_false, p_isPlace, h2, if_true]) (by simp only [rX11_guess, rX11_guess_b15, Q.isG, Option.bind_some, h1, one0, if_false, jq_l, h2, if_true])
  obtain ⟨h', G', R', z1, z2, z3, z4, z5, z6⟩ := guess_loop (n := n) (p := p) (KC := fun w0 w1 hh => X10_guess_b40 n w0 w1 hh) (K := fun w1 SS => rX11_guess_b123 n w1 SS) hn (show p < 64 by omega) hg n 0 h G R H (Q.1.1 3 (by decide)) Q.2.2.1 (fun i hi => by omega) (by omega) (by omega)
  refine ⟨R' 22 g, h', c, ev, M, W, G', rf, R', ?_, z3, ?_, Q.other z4 (fun k q => z6 k (by omega))⟩
  · simp only [X10_guess, H.isG', Option.bind_some, h1, one0, if_false, p_isPlace, h2]
    refine z1.trans ?_
    have e6 : jq_gI [0, 1, 2, 4, 7, 8] 6 h' (g_ga (G' g)) = some (R' 22 g) := by
      rw [← z5]
      exact rdI (z3.go hg) (gk_in _) rfl
    simp only [X10_guess_b40, z3.gg, z3.ld hg, Option.bind_some, e6]
  · simp only [rX11_guess, Q.isG, Option.bind_some, h1, one0, if_false, jq_l, h2]
    refine z2.trans ?_
    have c1 : (nI g).toNatClampNeg = g := n_cl (by omega)
    have i1 : ∀ {β : Type} (x : Option β), (if jq_in (nI g) 8 then x else none) = x := fun x => n_ifin (by omega) (by decide)
    simp only [rX11_guess_b123, jq_l, c1, i1]
end GUESS
