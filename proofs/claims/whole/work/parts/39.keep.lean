/-! ===== new objects; keep ===== -/
/-- an object with its arrays behind it, so far -/
def AB (hb h : jq_H) (a ci : Nat) (fs : List Value) (L : List (Nat × Nat)) : Prop :=
  h.1 = a + 1 + L.length ∧ h.2 a = some (.inr (ci, fs)) ∧ (∀ (i : Nat) (p : Nat × Nat), L[i]? = some p → h.2 (a + 1 + i) = some (.inl (p.1, p.2, .inl (fun _ => 0)))) ∧ ∀ y, y < a → h.2 y = hb.2 y
theorem AB.new {ci : Nat} {fs : List Value} {h : jq_H} : AB h (jq_newO ci fs h).2 (jq_newO ci fs h).1 ci fs [] := by
  refine ⟨rfl, up_at, fun i p hp => ?_, fun y hy => up_ne (show y ≠ h.1 from Nat.ne_of_lt hy)⟩
  simp at hp
theorem AB.step {β : Type} {Post : β → Prop} {hb h : jq_H} {a ci : Nat} {fs : List Value} {L : List (Nat × Nat)} {t B k : Nat} {x : Int32} {cs : List Nat} {K : jq_H → Option β} (A : AB hb h a ci fs L) (m : Nat) (hx : x = nI m) (hm : m ≤ B) (hm2 : m < 2 ^ 31) (hc : ci ∈ cs) (hk : k < fs.length)
    (kk : ∀ h2, AB hb h2 a ci (fs.set k (.ref (a + 1 + L.length))) (L ++ [(t, m)]) → ∃ z, K h2 = some z ∧ Post z) : ∃ z, (Option.bind (jq_newI t B h x) fun z1 => Option.bind (jq_p cs k z1.2 a (.ref z1.1)) fun h2 => K h2) = some z ∧ Post z := by
  obtain ⟨a1, a2, a3, a4⟩ := A
  subst hx
  have e1 : jq_newI t B h (nI m) = some (h.1, (h.1 + 1, va_up h.2 h.1 (some (.inl (t, m, .inl (fun _ => 0)))))) := by
    unfold jq_newI
    rw [n_cl hm2, if_neg (by rintro (q | q); exact nI_pos hm2 q; omega)]
  rw [e1, Option.bind_some]
  have e2 : va_up h.2 h.1 (some (.inl (t, m, .inl (fun _ => 0)))) a = some (.inr (ci, fs)) := by
    rw [up_ne (by omega)]
    exact a2
  have e3 : jq_p cs k (h.1 + 1, va_up h.2 h.1 (some (.inl (t, m, .inl (fun _ => 0))))) a (.ref h.1) = some (h.1 + 1, va_up (va_up h.2 h.1 (some (.inl (t, m, .inl (fun _ => 0))))) a (some (.inr (ci, fs.set k (.ref h.1))))) := by
    unfold jq_p
    simp only
    rw [e2]
    simp only
    rw [if_pos ⟨hc, hk⟩]
  show ∃ z, (Option.bind (jq_p cs k (h.1 + 1, va_up h.2 h.1 (some (.inl (t, m, .inl (fun _ => 0))))) a (.ref h.1)) fun h2 => K h2) = some z ∧ Post z
  rw [e3, Option.bind_some]
  apply kk
  refine ⟨?_, ?_, fun i p hp => ?_, fun y hy => ?_⟩
  · show h.1 + 1 = _
    rw [a1, List.length_append]
    rfl
  · show va_up _ a _ a = _
    rw [up_at, a1]
  · show va_up _ a _ (a + 1 + i) = _
    rw [up_ne (by omega)]
    by_cases hi : i < L.length
    · rw [up_ne (by omega)]
      rw [List.getElem?_append_left hi] at hp
      exact a3 i p hp
    · rw [List.getElem?_append_right (by omega)] at hp
      have hi2 : i - L.length = 0 := by
        rcases Nat.eq_zero_or_pos (i - L.length) with q | q
        · exact q
        · rw [List.getElem?_eq_none (by simp; omega)] at hp
          cases hp
      rw [hi2] at hp
      cases hp
      have : a + 1 + i = h.1 := by omega
      rw [this, up_at]
  · show va_up _ a _ y = _
    rw [up_ne (by omega), up_ne (by omega)]
    exact a4 y hy
theorem OB_L {h : jq_H} {q nc ns : Nat} {S : ob_S} (h0 : h.2 q = some (.inr (3, ob_fs q S (sh_L nc ns)))) (a0 : h.2 (q + 4) = some (.inl (0, nc, .inl (S 0)))) (a1 : h.2 (q + 5) = some (.inl (0, ns, .inl (S 1)))) (a2 : h.2 (q + 1) = some (.inl (0, 64, .inl (S 2)))) (a3 : h.2 (q + 2) = some (.inl (0, 64, .inl (S 3)))) (a4 : h.2 (q + 3) = some (.inl (0, 40, .inl (S 4)))) : OB h q 3 (sh_L nc ns) S := by
  refine ⟨h0, fun k t o n hk => ?_⟩
  have hlt : k < 10 := (List.getElem?_eq_some_iff.mp hk).1
  rcases (show k = 0 ∨ k = 1 ∨ k = 2 ∨ k = 3 ∨ k = 4 ∨ k = 5 ∨ k = 6 ∨ k = 7 ∨ k = 8 ∨ k = 9 by omega) with rfl | rfl | rfl | rfl | rfl | rfl | rfl | rfl | rfl | rfl
  · have e : ((1, 4, nc) : Nat × Nat × Nat) = (t + 1, o, n) := Option.some.inj hk
    simp only [Prod.mk.injEq] at e
    obtain ⟨e1, rfl, rfl⟩ := e
    have : t = 0 := by omega
    subst this
    exact a0
  · have e : ((1, 5, ns) : Nat × Nat × Nat) = (t + 1, o, n) := Option.some.inj hk
    simp only [Prod.mk.injEq] at e
    obtain ⟨e1, rfl, rfl⟩ := e
    have : t = 0 := by omega
    subst this
    exact a1
  · have e : ((1, 1, 64) : Nat × Nat × Nat) = (t + 1, o, n) := Option.some.inj hk
    simp only [Prod.mk.injEq] at e
    obtain ⟨e1, rfl, rfl⟩ := e
    have : t = 0 := by omega
    subst this
    exact a2
  · have e : ((1, 2, 64) : Nat × Nat × Nat) = (t + 1, o, n) := Option.some.inj hk
    simp only [Prod.mk.injEq] at e
    obtain ⟨e1, rfl, rfl⟩ := e
    have : t = 0 := by omega
    subst this
    exact a3
  · have e : ((1, 3, 40) : Nat × Nat × Nat) = (t + 1, o, n) := Option.some.inj hk
    simp only [Prod.mk.injEq] at e
    obtain ⟨e1, rfl, rfl⟩ := e
    have : t = 0 := by omega
    subst this
    exact a4
  all_goals (have e : ((0, 0, 0) : Nat × Nat × Nat) = (t + 1, o, n) := Option.some.inj hk
             simp only [Prod.mk.injEq] at e
             omega)
def S00 : ob_S := fun _ _ => 0
theorem X_newL {n q nc ns : Nat} {hb h : jq_H} (hn : 512 < n) (hnc : nc ≤ 512) (hns : ns ≤ 512) (A : AB hb h q 3 [.null, .null, .null, .null, .null, .int 0, .int 0, .int 0, .int 0, .int 0] []) :
    ∃ h', X4_init n h q (nI nc) (nI ns) = some h' ∧ (h'.1 = q + 6 ∧ OB h' q 3 (sh_L nc ns) (ob_fill S00 1 ns (-6)) ∧ ∀ y, y < q → h'.2 y = hb.2 y) := by
  unfold X4_init
  refine A.step 64 rfl (by decide) (by decide) (by decide) (Nat.le_of_ble_eq_true rfl) (fun h A => ?_)
  refine A.step 64 rfl (by decide) (by decide) (by decide) (Nat.le_of_ble_eq_true rfl) (fun h A => ?_)
  refine A.step 40 rfl (by decide) (by decide) (by decide) (Nat.le_of_ble_eq_true rfl) (fun h A => ?_)
  refine A.step nc rfl hnc (by omega) (by decide) (Nat.le_of_ble_eq_true rfl) (fun h A => ?_)
  refine A.step ns rfl hns (by omega) (by decide) (Nat.le_of_ble_eq_true rfl) (fun h A => ?_)
  obtain ⟨a1, a2, a3, a4⟩ := A
  have O : OB h q 3 (sh_L nc ns) S00 := OB_L a2 (a3 3 (0, nc) rfl) (a3 4 (0, ns) rfl) (a3 0 (0, 64) rfl) (a3 1 (0, 64) rfl) (a3 2 (0, 40) rfl)
  rw [ob_gR (t := 0) O (k := 1) (cs := [3]) rfl (by decide), Option.bind_some]
  obtain ⟨h', e1, e2⟩ := p_fill (n := n) (x := -6) (O.f (w := 6)) (ok_L _ _) (k := 1) rfl (by omega) (by omega)
  rw [e1, Option.bind_some]
  refine ⟨h', rfl, ?_, e2.1, fun y hy => ?_⟩
  · rw [e2.2.1, a1]
    rfl
  · rw [e2.2.2 y (by omega)]
    exact a4 y hy
theorem X_twin {n a nc ns : Nat} {h : jq_H} {T : ob_S} (hn : 512 < n) (hnc : nc ≤ 512) (hns : ns ≤ 512) (O : OB h a 3 (sh_L nc ns) T) (ha : a + 6 ≤ h.1) :
    ∃ h', X4_twin n h a = some (h.1, h') ∧ h'.1 = h.1 + 6 ∧ OB h' h.1 3 (sh_L nc ns) (ob_fill S00 1 ns (-6)) ∧ ∀ y, y < h.1 → h'.2 y = h.2 y := by
  have A := AB.new (ci := 3) (fs := [.null, .null, .null, .null, .null, .int 0, .int 0, .int 0, .int 0, .int 0]) (h := h)
  have O1 : OB (jq_newO 3 [.null, .null, .null, .null, .null, .int 0, .int 0, .int 0, .int 0, .int 0] h).2 a 3 (sh_L nc ns) T := O.kept (ok_L _ _) (by decide) (fun y q1 q2 => A.2.2.2 y (show y < h.1 by omega))
  obtain ⟨h', e1, e2, e3, e4⟩ := X_newL (n := n) hn hnc hns A
  refine ⟨h', ?_, e2, e3, e4⟩
  unfold X4_twin
  simp only [jq_l]
  rw [ob_gR (t := 0) O1 (k := 0) (cs := [3]) rfl (by decide), Option.bind_some, ob_len (t := 0) O1 (k := 0) rfl (by decide), Option.bind_some, ob_gR (t := 0) O1 (k := 1) (cs := [3]) rfl (by decide), Option.bind_some, ob_len (t := 0) O1 (k := 1) rfl (by decide), Option.bind_some]
  rw [show Int32.ofNat nc = nI nc from rfl, show Int32.ofNat ns = nI ns from rfl, e1, Option.bind_some]
  rfl
section KEEP
variable {n ax c : Nat} {ev : Int32} {M W R0 : ob_S} {rf : Nat → Option Nat} {g : Nat}
theorem keep_ref {k0 : Nat} (hg : g < 8) (hk0 : k0 < 2) {K : Int32 → Int32 → ob_S → Option (Int32 × ob_S)} : ∀ (k j : Nat) (R : ob_S), j ≤ 812 → 812 < j + k → (∀ i, i < j → R 19 (812 * (2 * g + k0) + i) = R 18 (812 * g + i)) →
    ∃ R', rX11_keep_l21 n K k (nI g) (nI k0) (nI j) R = K (nI g) (nI k0) R' ∧ (∀ i, i < 812 → R' 19 (812 * (2 * g + k0) + i) = R 18 (812 * g + i)) ∧ (∀ x, ¬ (812 * (2 * g + k0) ≤ x ∧ x < 812 * (2 * g + k0) + 812) → R' 19 x = R 19 x) ∧ ∀ k, k ≠ 19 → R' k = R k := by
  intro k
  induction k with
  | zero => intro j R h1 h2; exfalso; omega
  | succ k ih =>
    intro j R h1 h2 hR
    by_cases hj : 812 ≤ j
    · refine ⟨R, ?_, fun i hi => hR i (by omega), fun _ _ => rfl, fun _ _ => rfl⟩
      show rX11_keep_b21 n (rX11_keep_l21 n K k) K _ _ _ _ = _
      unfold rX11_keep_b21
      rw [if_pos (show (812 : Int32) ≤ nI j from (nI_leI (a := 812) (by decide) (by omega)).mpr hj)]
    · have e1 : (812 * ((2 * nI g) + nI k0)) + nI j = nI (812 * (2 * g + k0) + j) := by rw [nm2, nI_add, nm812, nI_add]
      have e2 : (812 * nI g) + nI j = nI (812 * g + j) := by rw [nm812, nI_add]
      have c1 : (nI (812 * (2 * g + k0) + j)).toNatClampNeg = 812 * (2 * g + k0) + j := n_cl (by omega)
      have i1 : ∀ {β : Type} (x : Option β), (if jq_in (nI (812 * (2 * g + k0) + j)) 12992 then x else none) = x := fun x => n_ifin (by omega) (by decide)
      have c2 : (nI (812 * g + j)).toNatClampNeg = 812 * g + j := n_cl (by omega)
      have i2 : ∀ {β : Type} (x : Option β), (if jq_in (nI (812 * g + j)) 6496 then x else none) = x := fun x => n_ifin (by omega) (by decide)
      have r18 : u2 R 19 (812 * (2 * g + k0) + j) (R 18 (812 * g + j)) 18 = R 18 := u2_ne (by decide)
      obtain ⟨R', z1, z2, z3, z4⟩ := ih (j + 1) (u2 R 19 (812 * (2 * g + k0) + j) (R 18 (812 * g + j))) (by omega) (by omega) (fun i hi => by
        rw [r18, u2_eq]
        by_cases e : i = j
        · subst e
          rw [pk_us]
        · rw [pk_un (by omega)]
          exact hR i (by omega))
      refine ⟨R', ?_, fun i hi => by rw [z2 i hi, r18], fun x hx => ?_, fun k hk => by rw [z4 k hk]; exact u2_ne hk⟩
      · rw [← z1]
        show rX11_keep_b21 n (rX11_keep_l21 n K k) K _ _ _ _ = _
        unfold rX11_keep_b21
        rw [if_neg (show ¬ (812 : Int32) ≤ nI j from fun q => hj ((nI_leI (a := 812) (by decide) (by omega)).mp q))]
        simp only [jq_l, e1, e2, i1, c1, i2, c2, na1]
      · rw [z3 x hx, u2_eq, pk_un (by omega)]
def kup (K : Nat → ob_S) (k : Nat) (S : ob_S) : Nat → ob_S := fun i => if i = k then S else K i
theorem keep_rel {R R' : ob_S} {G : Nat → gd} {k q : Nat} {S' : ob_S} {ka' : Nat → Option Nat} (Q : REL c ev M W G R) (h8 : c ≤ 8) (hg : g < c) (hk : k < 2) (hka : ka' k = some q) (hka2 : ∀ k', k' < 2 → k' ≠ k → ka' k' = g_ka (G g) k') (z2 : ∀ i, i < 812 → R' 19 (812 * (2 * g + k) + i) = R 18 (812 * g + i)) (z3 : ∀ x, ¬ (812 * (2 * g + k) ≤ x ∧ x < 812 * (2 * g + k) + 812) → R' 19 x = R 19 x) (z4 : ∀ k, k ≠ 19 → R' k = R k) (L : LR (g_kd (G g)) (g_a (G g)) (g_b (G g)) (g_c (G g)) (nbS R g) S') :
    REL c ev M W (gup G g ((G g).1, g_hf (G g), g_sd (G g), g_L (G g), g_F (G g), ka', kup (g_K (G g)) k S')) (u2 R' 20 (2 * g + k) 1) := by
  have f : ∀ j, j ≠ 19 → j ≠ 20 → u2 R' 20 (2 * g + k) 1 j = R j := fun j q1 q2 => by rw [u2_ne q2, z4 j q1]
  have f19 : u2 R' 20 (2 * g + k) 1 19 = R' 19 := u2_ne (by decide)
  have f20 : ∀ x, x ≠ 2 * g + k → u2 R' 20 (2 * g + k) 1 20 x = R 20 x := fun x hx => by rw [u2_eq, pk_un hx, z4 20 (by decide)]
  obtain ⟨q1, ⟨m, pl, wy, qw⟩, qg, q8, q12, q20⟩ := Q
  refine ⟨q1.of (fun j q => f j (by omega) (by omega)), ⟨m, pl, wy, qw.of (fun j _ q => f j (by omega) (by omega))⟩, fun g' hg' => ?_, by rw [f 8 (by decide) (by decide)]; exact q8, by rw [f 12 (by decide) (by decide)]; exact q12, fun j w1 w2 => by rw [f20 j (by omega)]; exact q20 j w1 w2⟩
  by_cases e : g' = g
  · subst e
    rw [gup_at]
    obtain ⟨hk0, hS, hab, hh, hL, hB, hF, hK⟩ := qg g' hg'
    have nbx : ∀ i, i < 812 → nbS (u2 R' 20 (2 * g' + k) 1) g' i = nbS R g' i := fun i hi => by
      unfold nbS
      rw [f 18 (by decide) (by decide)]
    refine ⟨hk0, hS.bs _ (fun j hj => f j (by omega) (by omega)), hab, fun p hp => by rw [f 17 (by decide) (by decide)]; exact hh p hp, hL.congr hk0 nbx, hB.congr nbx, hF, fun k' hk' => ?_⟩
    by_cases ek : k' = k
    · subst ek
      right
      have kbx : ∀ i, i < 812 → kbS (u2 R' 20 (2 * g' + k') 1) g' k' i = nbS R g' i := fun i hi => by
        unfold kbS nbS
        rw [f19]
        exact z2 i hi
      refine ⟨q, hka, u2_at, ?_, hB.congr kbx⟩
      show LR _ _ _ _ _ (kup (g_K (G g')) k' S' k')
      have : kup (g_K (G g')) k' S' k' = S' := if_pos rfl
      rw [this]
      exact L.congr hk0 kbx
    · have kbx : ∀ i, i < 812 → kbS (u2 R' 20 (2 * g' + k) 1) g' k' i = kbS R g' k' i := fun i hi => by
        unfold kbS
        rw [f19]
        exact z3 _ (by omega)
      have ek2 : kup (g_K (G g')) k S' k' = g_K (G g') k' := if_neg ek
      rcases hK k' hk' with ⟨w1, w2⟩ | ⟨q', w1, w2, w3, w4⟩
      · exact Or.inl ⟨(hka2 k' hk' ek).trans w1, by rw [f20 _ (by omega)]; exact w2⟩
      · refine Or.inr ⟨q', (hka2 k' hk' ek).trans w1, by rw [f20 _ (by omega)]; exact w2, ?_, w4.congr kbx⟩
        show LR _ _ _ _ _ (kup (g_K (G g')) k S' k')
        rw [ek2]
        exact w3.congr hk0 kbx
  · rw [gup_ne e]
    refine (qg g' hg').of2 (fun j hj => by rw [f j (by omega) (by omega)]) (fun p hp => by rw [f 17 (by decide) (by decide)]) (fun i hi => by rw [f 18 (by decide) (by decide)]) (fun k' i hk' hi => by rw [f19]; exact z3 _ (by omega)) (fun k' hk' => f20 _ (by omega))
theorem CI.setK {h h' : jq_H} {G : Nat → gd} {k q : Nat} {S' : ob_S} (H : CI h ax c ev M W G rf R0) (hg : g < c) (hk : k < 2) (hq : g_ka (G g) k = some q) (O : OF q 6 3 (g_sh (G g)) h S' h') : CI h' ax c ev M W (gup G g ((G g).1, g_hf (G g), g_sd (G g), g_L (G g), g_F (G g), g_ka (G g), kup (g_K (G g)) k S')) rf R0 := by
  obtain ⟨k1, k2, k3, k4, k5, k6⟩ := H.gh hg
  have hD := H.2.2.2.2.1.2.2.2.2.2 g hg
  have hd := hD k q hk hq
  have f : ∀ y, (y < q ∨ q + 6 ≤ y) → h'.2 y = h.2 y := fun y hy => O.2.2 y hy
  refine H.gu hg rfl ⟨k1.of (f _ (by omega)), ?_, ?_, k4.kept (ok_L _ _) (by decide) (fun y q1 q2 => f y (by omega)), k5.kept (ok_L _ _) (by decide) (fun y q1 q2 => f y (by omega)), fun k' q' hk' hq' => ?_⟩ hD (by rw [O.2.1]; exact Nat.le_refl _) (fun y hy => Or.inl hy) (fun y q1 q2 => ?_)
  · rw [← k2]
    exact f (g_ga (G g) + 1) (by omega)
  · rw [← k3]
    exact f (g_ga (G g) + 2) (by omega)
  · by_cases e : k' = k
    · subst e
      have e2 : q' = q := Option.some.inj (hq'.symm.trans hq)
      subst e2
      show OB h' q' 3 _ (kup (g_K (G g)) k' S' k')
      have : kup (g_K (G g)) k' S' k' = S' := if_pos rfl
      rw [this]
      exact O.1
    · show OB h' q' 3 _ (kup (g_K (G g)) k S' k')
      have : kup (g_K (G g)) k S' k' = g_K (G g) k' := if_neg e
      rw [this]
      have hd2 := hd.2 k' q' hk' e hq'
      exact (k6 k' q' hk' hq').kept (ok_L _ _) (by decide) (fun y q1 q2 => f y (by omega))
  · apply f
    by_cases z : y < q ∨ q + 6 ≤ y
    · exact z
    · exact absurd (Or.inr ⟨k, q, hk, hq, by omega, by omega⟩) q2
theorem S_keep {h : jq_H} {G : Nat → gd} {R : ob_S} {a1 a2 : Int32} (hn : 812 < n) (H : CI h ax c ev M W G rf R) (Q : REL c ev M W G R) : SIMq ax (fun h a => X10_keep n h a a1 a2) (fun S => rX11_keep n S a1 a2) h R := by
  have h8 := H.c8
  rcases pf_g (x := a1) H.c8 with ⟨h1, -⟩ | ⟨h1, g, hg, rfl⟩
  · exact SIMq.same H Q (r := -1) (by simp only [X10_keep, X10_keep_b17, H.isG', Option.bind_some, h1, if_true]) (by simp only [rX11_keep, rX11_keep_b17, Q.isG, Option.bind_some, h1, if_true])
  rcases pf_1 a2 with h2 | ⟨h2, k, hk, rfl⟩
  · exact SIMq.same H Q (r := -1) (by simp only [X10_keep, X10_keep_b17, H.isG', Option.bind_some, h1, one0, if_false, p_within, h2, if_true]) (by simp only [rX11_keep, rX11_keep_b17, Q.isG, Option.bind_some, h1, one0, if_false, jq_l, h2, if_true])
  have hk2 : k < 2 := by omega
  have hq := Q.gq hg
  have hnc := nc_lt hq.1
  have hns := gk_ns_le hq.1
  have c20 : (nI (2 * g + k)).toNatClampNeg = 2 * g + k := n_cl (by omega)
  have e20 : (2 * nI g) + nI k = nI (2 * g + k) := by rw [nm2, nI_add]
  have i20 : ∀ {β : Type} (x : Option β), (if jq_in (nI (2 * g + k)) 16 then x else none) = x := fun x => n_ifin (by omega) (by decide)
  have e1 : jq_gR [0, 1, 2, 4, 7, 8] 1 h (g_ga (G g)) = some (g_ga (G g) + 2) := rdR (H.go hg) (gk_in _) rfl
  have e2 := H.ldK hg hk2
  obtain ⟨k1, k2, k3, k4, k5, k6⟩ := H.gh hg
  have hD := H.2.2.2.2.1.2.2.2.2.2 g hg
  have hfp := H.2.2.2.2.1.2.2.2.1 g
  obtain ⟨R', r1, r2, r3, r4⟩ := keep_ref (n := n) (g := g) (k0 := k) (K := fun w1 w2 SS => rX11_keep_b62 n w1 w2 SS) (by omega) hk2 n 0 R (by omega) (by omega) (fun i hi => by omega)
  have er : rX11_keep n R (nI g) (nI k) = some (1, u2 R' 20 (2 * g + k) 1) := by
    simp only [rX11_keep, Q.isG, Option.bind_some, h1, one0, if_false, jq_l, h2]
    refine r1.trans ?_
    simp only [rX11_keep_b62, jq_l, e20, c20, i20]
  rcases hq.2.2.2.2.2.2.2 k hk2 with ⟨q1, q2⟩ | ⟨q, q1, q2, q3, q4⟩
  · rw [q1] at e2
    have h14 := (hfp (g_ga (G g) + 14) hg (Or.inl ⟨by omega, by omega⟩)).2
    obtain ⟨h3, t1, t2, t3, t4⟩ := X_twin (n := n) (by omega) (by omega) (by omega) k5 (by omega)
    obtain ⟨h4, hh4⟩ : ∃ x, x = (h3.1, va_up h3.2 (g_ga (G g) + 2) (some (.inl (3, 2, .inr (.inr (.inr (.inr (va_up (g_ka (G g)) k (some h.1))))))))) := ⟨_, rfl⟩
    have s1 : jq_stR 3 [3] h3 (g_ga (G g) + 2) (nI k) h.1 = some h4 := by
      unfold jq_stR
      rw [t4 _ (by omega), k3, t3.1]
      simp only
      rw [if_pos ⟨trivial, jq_inN' (by omega) (by decide), by decide⟩, n_cl (by omega), hh4]
    have f4 : ∀ y, y ≠ g_ga (G g) + 2 → h4.2 y = h3.2 y := fun y hy => by rw [hh4]; exact up_ne hy
    have g4 : h4.2 (g_ga (G g) + 2) = some (.inl (3, 2, .inr (.inr (.inr (.inr (va_up (g_ka (G g)) k (some h.1))))))) := by rw [hh4]; exact up_at
    have z4 : h4.1 = h.1 + 6 := by rw [hh4]; exact t2
    have O4 : OB h4 h.1 3 (g_sh (G g)) (ob_fill S00 1 (gk_ns (g_kd (G g)) (g_a (G g)) (g_c (G g))) (-6)) := t3.kept (ok_L _ _) (by decide) (fun y q1 q2 => f4 y (by omega))
    have N4 : OB h4 (g_ga (G g) + 9) 3 (g_sh (G g)) (g_L (G g)) := k5.kept (ok_L _ _) (by decide) (fun y q1 q2 => by rw [f4 y (by omega), t4 y (by omega)])
    obtain ⟨h', S', x1, x2, x3⟩ := X_take (n := n) hq.1 O4 N4 (Or.inr (by omega)) hq.2.2.2.2.1
    have f5 : ∀ y, y < h.1 → y ≠ g_ga (G g) + 2 → h'.2 y = h.2 y := fun y q1 q2 => by rw [x2.2.2 y (by omega), f4 y q2, t4 y q1]
    have g5 : h'.2 (g_ga (G g) + 2) = some (.inl (3, 2, .inr (.inr (.inr (.inr (va_up (g_ka (G g)) k (some h.1))))))) := by rw [x2.2.2 _ (by omega)]; exact g4
    have go4 : GO h4 (g_ga (G g)) (g_kd (G g)) (g_a (G g)) (g_b (G g)) (g_c (G g)) (ax + 1) (g_ga (G (g_a (G g)))) (g_ga (G (g_b (G g)))) (g_sd (G g)) := k1.of (by rw [f4 _ (by omega), t4 _ (by omega)])
    have hlt : ∀ k' q', k' < 2 → g_ka (G g) k' = some q' → q' + 6 ≤ h.1 := fun k' q' w1 w2 => by
      have := (hfp (q' + 5) hg (Or.inr ⟨k', q', w1, w2, by omega, by omega⟩)).2
      omega
    have vk : va_up (g_ka (G g)) k (some h.1) k = some h.1 := if_pos rfl
    have vk2 : ∀ k', k' ≠ k → va_up (g_ka (G g)) k (some h.1) k' = g_ka (G g) k' := fun k' q => if_neg q
    have H' : CI h' ax c ev M W (gup G g ((G g).1, g_hf (G g), g_sd (G g), g_L (G g), g_F (G g), va_up (g_ka (G g)) k (some h.1), kup (g_K (G g)) k S')) rf R := by
      refine H.gu hg rfl ⟨k1.of (f5 _ (by omega) (by omega)), ?_, g5, k4.kept (ok_L _ _) (by decide) (fun y q1 q2 => f5 y (by omega) (by omega)), k5.kept (ok_L _ _) (by decide) (fun y q1 q2 => f5 y (by omega) (by omega)), fun k' q' hk' hq' => ?_⟩ ?_ (by rw [x2.2.1, z4]; omega) (fun y hy => ?_) (fun y w1 w2 => f5 y w1 ?_)
      · rw [← k2]
        exact f5 (g_ga (G g) + 1) (by omega) (by omega)
      · by_cases e : k' = k
        · subst e
          have hq'' : va_up (g_ka (G g)) k' (some h.1) k' = some q' := hq'
          rw [vk] at hq''
          cases hq''
          show OB h' h.1 3 _ (kup (g_K (G g)) k' S' k')
          have : kup (g_K (G g)) k' S' k' = S' := if_pos rfl
          rw [this]
          exact x2.1
        · have hq'' : va_up (g_ka (G g)) k (some h.1) k' = some q' := hq'
          rw [vk2 k' e] at hq''
          show OB h' q' 3 _ (kup (g_K (G g)) k S' k')
          have : kup (g_K (G g)) k S' k' = g_K (G g) k' := if_neg e
          rw [this]
          have w1 := hlt k' q' hk' hq''
          have w2 := (hD k' q' hk' hq'').1
          exact (k6 k' q' hk' hq'').kept (ok_L _ _) (by decide) (fun y q1 q2 => f5 y (by omega) (by omega))
      · intro k' q' hk' hq'
        show (q' + 6 ≤ g_ga (G g) ∨ g_ga (G g) + 15 ≤ q') ∧ ∀ k'' q'', k'' < 2 → k'' ≠ k' → va_up (g_ka (G g)) k (some h.1) k'' = some q'' → (q' + 6 ≤ q'' ∨ q'' + 6 ≤ q')
        have hq'' : va_up (g_ka (G g)) k (some h.1) k' = some q' := hq'
        by_cases e : k' = k
        · subst e
          rw [vk] at hq''
          cases hq''
          refine ⟨by omega, fun k'' q'' w1 w2 w3 => ?_⟩
          rw [vk2 k'' w2] at w3
          exact Or.inr (hlt k'' q'' w1 w3)
        · rw [vk2 k' e] at hq''
          refine ⟨(hD k' q' hk' hq'').1, fun k'' q'' w1 w2 w3 => ?_⟩
          by_cases e2 : k'' = k
          · subst e2
            rw [vk] at w3
            cases w3
            exact Or.inl (hlt k' q' hk' hq'')
          · rw [vk2 k'' e2] at w3
            exact (hD k' q' hk' hq'').2 k'' q'' w1 w2 w3
      · rcases hy with hy | ⟨k', q', w1, w2, w3, w4⟩
        · exact Or.inl (Or.inl hy)
        · have hq'' : va_up (g_ka (G g)) k (some h.1) k' = some q' := w2
          by_cases e : k' = k
          · subst e
            rw [vk] at hq''
            cases hq''
            exact Or.inr ⟨w3, by rw [x2.2.1, z4]; exact w4⟩
          · rw [vk2 k' e] at hq''
            exact Or.inl (Or.inr ⟨k', q', w1, hq'', w3, w4⟩)
      · intro e
        exact w2 (Or.inl (by omega))
    refine ⟨1, h', c, ev, M, W, _, rf, _, ?_, H', er, keep_rel Q h8 hg hk2 vk (fun k' _ w => vk2 k' w) r2 r3 r4 x3⟩
    have h4a : h4.2 ax = h.2 ax := by
      have := (hfp (g_ga (G g)) hg (Or.inl ⟨Nat.le_refl _, by omega⟩)).1
      rw [f4 _ (by omega), t4 _ (by omega)]
    have h4b : h4.2 (ax + 14) = h.2 (ax + 14) := by
      have := (hfp (g_ga (G g)) hg (Or.inl ⟨Nat.le_refl _, by omega⟩)).1
      rw [f4 _ (by omega), t4 _ (by omega)]
    have gg4 : jq_gR [9] 2 h4 ax = some (ax + 14) := by
      have := H.gg
      unfold jq_gR jq_f at this ⊢
      rw [h4a]
      exact this
    have ld4 : jq_ldN 2 h4 (ax + 14) (nI g) = some (g_ga (G g)) := by
      have := H.ld hg
      unfold jq_ldN jq_ldR at this ⊢
      rw [h4b]
      exact this
    have ldk : jq_ldN 3 h4 (g_ga (G g) + 2) (nI k) = some h.1 := by
      unfold jq_ldN jq_ldR
      rw [g4]
      simp only
      rw [if_pos ⟨trivial, jq_inN' (by omega) (by decide)⟩, n_cl (by omega), vk]
    have now4 : jq_gR [0, 1, 2, 4, 7, 8] 3 h4 (g_ga (G g)) = some (g_ga (G g) + 9) := rdR go4 (gk_in _) rfl
    simp only [X10_keep, H.isG', Option.bind_some, h1, one0, if_false, p_within, h2, H.gg, H.ld hg, e1, e2, jq_o, H.now hg, if_pos (H.ob hg).ci, t1, s1, X10_keep_b50, ldk, gg4, ld4, now4, if_pos O4.ci, x1]
  · rw [q1] at e2
    have hd := (hD k q hk2 q1).1
    have e3 : jq_ldN 3 h (g_ga (G g) + 2) (nI k) = some q := by
      unfold jq_ldN
      rw [e2]
    obtain ⟨h', S', z1, z2, z3⟩ := X_take (n := n) hq.1 (k6 k q hk2 q1) k5 (by omega) hq.2.2.2.2.1
    refine ⟨1, h', c, ev, M, W, _, rf, _, ?_, H.setK hg hk2 q1 z2, er, keep_rel Q h8 hg hk2 q1 (fun _ _ _ => rfl) r2 r3 r4 z3⟩
    simp only [X10_keep, H.isG', Option.bind_some, h1, one0, if_false, p_within, h2, H.gg, H.ld hg, e1, e2, jq_o, X10_keep_b50, e3, H.now hg, if_pos (k6 k q hk2 q1).ci, z1]
end KEEP
