/-! ===== guesser ===== -/
theorem gk_ext_o {kd a b c mc oa ob oa' ob' : Nat} (h : kd = 7 → oa = oa' ∧ ob = ob') : gk_ext kd a b c mc oa ob = gk_ext kd a b c mc oa' ob' := by
  by_cases h7 : kd = 7
  · rw [(h h7).1, (h h7).2]
  · unfold gk_ext
    simp only [if_neg h7]
theorem GHp.oth {h : jq_H} {mc oa ob oa' ob' : Nat} {x : gd} (H : GHp h mc oa ob x) (ho : g_kd x = 7 → oa = oa' ∧ ob = ob') : GHp h mc oa' ob' x := by
  obtain ⟨h1, h2⟩ := H
  refine ⟨?_, h2⟩
  unfold GO at h1 ⊢
  rw [h1, gk_ext_o ho]
section GUESSER
variable {n ax c : Nat} {ev : Int32} {M W R0 : ob_S} {G : Nat → gd} {rf : Nat → Option Nat} {h : jq_H} {kd a b cc : Nat}
theorem X_made {p2 p3 : Int32} (hn : 512 < n) (H : CI h ax c ev M W G rf R0) (hk : gkOK kd a b cc) (h7 : kd = 7 → a < c ∧ b < c) (hb : kd = 2 ∨ kd = 3 ∨ kd = 4 ∨ kd = 5 ∨ kd = 7 → p2 = nI b) (hc : kd = 3 ∨ kd = 5 ∨ kd = 7 → p3 = nI cc) :
    ∃ h' F L, X10_made n h ax (nI kd) (nI a) p2 p3 = some (h.1, h') ∧ BS h h' h.1 (gk_ci kd) (f7 (nI (gk_tb kd a)) (nI (gk_wd kd a b cc)) h.1 (gk_ext kd a b cc (ax + 1) (g_ga (G a)) (g_ga (G b)))) kd a b cc (nb0 kd) F L := by
  have h8 := hk.1
  have h36 := H.2.2.2.2.2.2
  rcases (show kd = 0 ∨ kd = 1 ∨ kd = 2 ∨ kd = 3 ∨ kd = 4 ∨ kd = 5 ∨ kd = 6 ∨ kd = 7 by omega) with rfl | rfl | rfl | rfl | rfl | rfl | rfl | rfl
  · obtain ⟨h', F, L, e, B⟩ := mk_0 (n := n) (h := h) (mc := ax + 1) (oa := g_ga (G a)) (ob := g_ga (G b)) hn hk
    refine ⟨h', F, L, ?_, B⟩
    have r0 : jq_gR [9] 0 (jq_newO 2 [.null, .null, .null, .null, .int 0, .int 0, .int 0, .null, .int 0] h).2 ax = some (ax + 1) := by
      refine rdR (h := (jq_newO 2 [.null, .null, .null, .null, .int 0, .int 0, .int 0, .null, .int 0] h).2) (fs := [.ref (ax + 1), .ref (ax + 8), .ref (ax + 14), .int (nI c), .int ev]) ?_ (show 9 ∈ [9] by decide) rfl
      rw [← H.1]
      exact up_ne (by omega)
    unfold X10_made
    simp only [tq_0_1, tq_0_2, tq_0_3, tq_0_4, tq_0_5, tq_0_6, tq_0_7, if_false]
    rw [jq_lE, r0, Option.bind_some, e, Option.bind_some]
    rfl
  · obtain ⟨h', F, L, e, B⟩ := mk_1 (n := n) (h := h) (kd := 1) (B := 0) (pt := 1) (ow := 0) (mc := ax + 1) (oa := g_ga (G a)) (ob := g_ga (G b)) hn hk (by decide) rfl rfl rfl
    refine ⟨h', F, L, ?_, B⟩
    have e' : X1_init n (jq_newO 1 [.null, .null, .null, .null, .int 0, .int 0, .int 0, .int 0, .int 0, .int 0, .int 0] h).2 (jq_newO 1 [.null, .null, .null, .null, .int 0, .int 0, .int 0, .int 0, .int 0, .int 0, .int 0] h).1 (nI a) 0 0 1 = some h' := e
    unfold X10_made
    simp only [tq_1_1, if_true]
    rw [jq_lE, e', Option.bind_some]
    rfl
  · obtain ⟨h', F, L, e, B⟩ := mk_1 (n := n) (h := h) (kd := 2) (B := b) (pt := 1) (ow := 0) (mc := ax + 1) (oa := g_ga (G a)) (ob := g_ga (G b)) hn hk (by decide) rfl rfl rfl
    refine ⟨h', F, L, ?_, B⟩
    have e' : X1_init n (jq_newO 1 [.null, .null, .null, .null, .int 0, .int 0, .int 0, .int 0, .int 0, .int 0, .int 0] h).2 (jq_newO 1 [.null, .null, .null, .null, .int 0, .int 0, .int 0, .int 0, .int 0, .int 0, .int 0] h).1 (nI a) (nI b) 0 1 = some h' := e
    unfold X10_made
    simp only [tq_2_1, tq_2_2, if_true, if_false]
    rw [jq_lE, hb (by decide), e', Option.bind_some]
    rfl
  · obtain ⟨h', F, L, e, B⟩ := mk_1 (n := n) (h := h) (kd := 3) (B := b) (pt := cc) (ow := 1) (mc := ax + 1) (oa := g_ga (G a)) (ob := g_ga (G b)) hn hk (by decide) rfl rfl rfl
    refine ⟨h', F, L, ?_, B⟩
    unfold X10_made
    simp only [tq_3_1, tq_3_2, tq_3_3, if_true, if_false]
    rw [jq_lE, hb (by decide), hc (by decide), e, Option.bind_some]
    rfl
  · obtain ⟨h', F, L, e, B⟩ := mk_4 (n := n) (h := h) (mc := ax + 1) (oa := g_ga (G a)) (ob := g_ga (G b)) hn hk
    refine ⟨h', F, L, ?_, B⟩
    unfold X10_made
    simp only [tq_4_1, tq_4_2, tq_4_3, tq_4_4, if_true, if_false]
    rw [jq_lE, hb (by decide), e, Option.bind_some]
    rfl
  · obtain ⟨h', F, L, e, B⟩ := mk_5 (n := n) (h := h) (mc := ax + 1) (oa := g_ga (G a)) (ob := g_ga (G b)) hn hk
    refine ⟨h', F, L, ?_, B⟩
    unfold X10_made
    simp only [tq_5_1, tq_5_2, tq_5_3, tq_5_4, tq_5_5, if_true, if_false]
    rw [jq_lE, hb (by decide), hc (by decide), e, Option.bind_some]
    rfl
  · obtain ⟨h', F, L, e, B⟩ := mk_6 (n := n) (h := h) (mc := ax + 1) (oa := g_ga (G a)) (ob := g_ga (G b)) hn hk
    refine ⟨h', F, L, ?_, B⟩
    unfold X10_made
    simp only [tq_6_1, tq_6_2, tq_6_3, tq_6_4, tq_6_5, tq_6_6, if_true, if_false]
    rw [jq_lE, e, Option.bind_some]
    rfl
  · have hab := h7 rfl
    have hc8 := H.c8
    obtain ⟨h', F, L, e, B⟩ := mk_7 (n := n) (h := h) (mc := ax + 1) (oa := g_ga (G a)) (ob := g_ga (G b)) (asks := gk_asks a b) hn hk rfl
    refine ⟨h', F, L, ?_, B⟩
    have r2 : jq_gR [9] 2 (jq_newO 0 [.null, .null, .null, .null, .int 0, .int 0, .int 0, .null, .null, .int 0, .int 0] h).2 ax = some (ax + 14) := by
      refine rdR (h := (jq_newO 0 [.null, .null, .null, .null, .int 0, .int 0, .int 0, .null, .null, .int 0, .int 0] h).2) (fs := [.ref (ax + 1), .ref (ax + 8), .ref (ax + 14), .int (nI c), .int ev]) ?_ (show 9 ∈ [9] by decide) rfl
      rw [← H.1]
      exact up_ne (by omega)
    have h14 : (jq_newO 0 [.null, .null, .null, .null, .int 0, .int 0, .int 0, .null, .null, .int 0, .int 0] h).2.2 (ax + 14) = h.2 (ax + 14) := up_ne (by omega)
    have ld : ∀ i, i < c → jq_ldN 2 (jq_newO 0 [.null, .null, .null, .null, .int 0, .int 0, .int 0, .null, .null, .int 0, .int 0] h).2 (ax + 14) (nI i) = some (g_ga (G i)) := by
      intro i hi
      have := H.ld hi
      unfold jq_ldN jq_ldR at this ⊢
      rw [h14]
      exact this
    unfold X10_made
    simp only [tq_7_1, tq_7_2, tq_7_3, tq_7_4, tq_7_5, tq_7_6, tq_7_7, if_true, if_false]
    rw [jq_lE, hb (by decide), hc (by decide), r2, Option.bind_some, ld a hab.1, Option.bind_some, Option.bind_some, ld b hab.2, Option.bind_some]
    have e' : X0_init n (jq_newO 0 [.null, .null, .null, .null, .int 0, .int 0, .int 0, .null, .null, .int 0, .int 0] h).2 (jq_newO 0 [.null, .null, .null, .null, .int 0, .int 0, .int 0, .null, .null, .int 0, .int 0] h).1 (g_ga (G a)) (g_ga (G b)) ((1 <<< (nI a &&& 31)) ||| (1 <<< (nI b &&& 31))) (nI cc) = some h' := e
    rw [e', Option.bind_some]
    rfl
/-- one more guesser -/
theorem CI.ext {h' h2 : jq_H} {F L : ob_S} (H : CI h ax c ev M W G rf R0) (hc8 : c < 8) (hab : ∀ g, g < c → g_kd (G g) = 7 → g_a (G g) < c ∧ g_b (G g) < c) (h7 : kd = 7 → a < c ∧ b < c) (B : BS h h' h.1 (gk_ci kd) (f7 (nI (gk_tb kd a)) (nI (gk_wd kd a b cc)) h.1 (gk_ext kd a b cc (ax + 1) (g_ga (G a)) (g_ga (G b)))) kd a b cc (nb0 kd) F L) (z : h2.1 = h'.1) (zx : h2.2 ax = some (.inr (9, [.ref (ax + 1), .ref (ax + 8), .ref (ax + 14), .int (nI (c + 1)), .int ev]))) (zr : h2.2 (ax + 14) = some (.inl (2, 8, .inr (.inr (.inr (.inr (va_up rf c (some h.1)))))))) (zf : ∀ y, y ≠ ax → y ≠ ax + 14 → h2.2 y = h'.2 y) :
    CI h2 ax (c + 1) ev M W (gup G c ((h.1, kd, a, b, cc), hm1, 0, L, F, (fun _ => none), (fun _ => F))) (va_up rf c (some h.1)) R0 := by
  obtain ⟨i1, i2, i3, i4, ⟨j1, j2, j3, j4, j5, j6⟩, i6, i7⟩ := H
  obtain ⟨b1, b2, b3, b4, b5, b6, b7, b8, b9⟩ := B
  have f : ∀ y, y < h.1 → y ≠ ax → y ≠ ax + 14 → h2.2 y = h.2 y := fun y q1 q2 q3 => by rw [zf y q2 q3, b9 y q1]
  have gn : ∀ i, i < c → gup G c ((h.1, kd, a, b, cc), hm1, 0, L, F, (fun _ => none), (fun _ => F)) i = G i := fun i hi => gup_ne (by omega)
  have ffx : ∀ y, fpt ((h.1, kd, a, b, cc), hm1, 0, L, F, (fun _ => none), (fun _ => F)) y → h.1 ≤ y ∧ y < h.1 + 15 := by
    rintro y (q | ⟨k, q, z1, z2, -⟩)
    · exact q
    · cases z2
  refine ⟨zx, i2.kept ok_M (by decide) (fun y q1 q2 => f y (by omega) (by omega) (by omega)), i3.kept ok_W (by decide) (fun y q1 q2 => f y (by omega) (by omega) (by omega)), i4.kept ok_R (by decide) (fun y q1 q2 => f y (by omega) (by omega) (by omega)), ⟨zr, ?_, ?_, ?_, ?_, ?_⟩, by omega, by omega⟩
  · intro g hg
    by_cases e : g = c
    · subst e
      rw [gup_at]
      exact if_pos rfl
    · rw [gn g (by omega), ← j2 g (by omega)]
      exact if_neg e
  · intro g hg
    by_cases e : g = c
    · subst e
      rw [gup_at]
      have key : GHp h2 (ax + 1) (g_ga (G a)) (g_ga (G b)) ((h.1, kd, a, b, cc), hm1, 0, L, F, (fun _ => none), (fun _ => F)) := by
        have f2 : ∀ y, h.1 ≤ y → h2.2 y = h'.2 y := fun y hy => zf y (by omega) (by omega)
        refine ⟨?_, ?_, ?_, b5.kept (ok_L _ _) (by decide) (fun y q1 q2 => f2 y (by omega)), b6.kept (ok_L _ _) (by decide) (fun y q1 q2 => f2 y (by omega)), fun k q _ hq => by cases hq⟩
        · show h2.2 h.1 = _
          rw [f2 _ (Nat.le_refl _)]
          exact b2
        · show h2.2 (h.1 + 1) = _
          rw [f2 _ (by omega)]
          exact b3
        · show h2.2 (h.1 + 2) = _
          rw [f2 _ (by omega)]
          exact b4
      refine key.oth (fun q => ?_)
      have hq := h7 q
      show g_ga (G a) = g_ga (gup G g _ a) ∧ g_ga (G b) = g_ga (gup G g _ b)
      rw [gup_ne (by omega), gup_ne (by omega)]
      exact ⟨rfl, rfl⟩
    · rw [gn g (by omega)]
      have key := (j3 g (by omega)).kept (h' := h2) (fun y hy => by
        have := j4 g y (by omega) hy
        exact f y (by omega) (by omega) (by omega))
      refine key.oth (fun q => ?_)
      have hq := hab g (by omega) q
      rw [gn _ hq.1, gn _ hq.2]
      exact ⟨rfl, rfl⟩
  · intro g y hg hy
    by_cases e : g = c
    · subst e
      rw [gup_at] at hy
      have := ffx y hy
      omega
    · rw [gn g (by omega)] at hy
      have := j4 g y (by omega) hy
      omega
  · intro g1 g2 y q1 q2 hne hy1 hy2
    by_cases e1 : g1 = c
    · subst e1
      rw [gup_at] at hy1
      rw [gn g2 (by omega)] at hy2
      have w1 := ffx y hy1
      have w2 := j4 g2 y (by omega) hy2
      omega
    · rw [gn g1 (by omega)] at hy1
      have w1 := j4 g1 y (by omega) hy1
      by_cases e2 : g2 = c
      · subst e2
        rw [gup_at] at hy2
        have w2 := ffx y hy2
        omega
      · rw [gn g2 (by omega)] at hy2
        exact j5 g1 g2 y (by omega) (by omega) hne hy1 hy2
  · intro g hg
    by_cases e : g = c
    · subst e
      rw [gup_at]
      intro k q _ hq
      cases hq
    · rw [gn g (by omega)]
      exact j6 g (by omega)
/-- the reference -/
theorem hint_loop {K : ob_S → Option (Int32 × ob_S)} (hc : c < 8) : ∀ (k j : Nat) (R : ob_S), R 12 0 = nI c → j ≤ 64 → 64 < j + k → (∀ p, p < j → R 17 (64 * c + p) = -1) →
    ∃ R', rX11_guesser_l94 n K k (nI j) R = K R' ∧ (∀ p, p < 64 → R' 17 (64 * c + p) = -1) ∧ (∀ i, i < 64 * c → R' 17 i = R 17 i) ∧ ∀ k, k ≠ 17 → R' k = R k := by
  intro k
  induction k with
  | zero => intro j R _ h1 h2; exfalso; omega
  | succ k ih =>
    intro j R h12 h1 h2 hR
    by_cases hj : 64 ≤ j
    · refine ⟨R, ?_, fun p hp => hR p (by omega), fun _ _ => rfl, fun _ _ => rfl⟩
      show rX11_guesser_b94 n (rX11_guesser_l94 n K k) K _ _ = _
      unfold rX11_guesser_b94
      rw [if_pos (show (64 : Int32) ≤ nI j from (nI_leI (a := 64) (by decide) (by omega)).mpr hj)]
    · have e1 : (64 * nI c) + nI j = nI (64 * c + j) := by rw [nm64, nI_add]
      have c1 : (nI (64 * c + j)).toNatClampNeg = 64 * c + j := n_cl (by omega)
      obtain ⟨R', z1, z2, z3, z4⟩ := ih (j + 1) (u2 R 17 (64 * c + j) (-1)) (by rw [u2_ne (by decide)]; exact h12) (by omega) (by omega) (fun p hp => by
        rw [u2_eq]
        by_cases e : p = j
        · rw [e, pk_us]
        · rw [pk_un (by omega)]
          exact hR p (by omega))
      refine ⟨R', ?_, z2, fun i hi => by rw [z3 i hi, u2_eq, pk_un (by omega)], fun k hk => by rw [z4 k hk, u2_ne hk]⟩
      rw [← z1]
      show rX11_guesser_b94 n (rX11_guesser_l94 n K k) K _ _ = _
      unfold rX11_guesser_b94
      rw [if_neg (show ¬ (64 : Int32) ≤ nI j from fun q => hj ((nI_leI (a := 64) (by decide) (by omega)).mp q)), jq_lE, h12, e1, n_ifin (by omega) (by decide), c1, jq_lE, jq_lE, na1]
theorem L_mk {R : ob_S} {v2 v3 v4 : Int32} (hn : 812 < n) (hc : c < 8) (hkd : kd < 8) (h12 : R 12 0 = nI c) (hf : ¬ pf_fits (nI kd) v2 v3 v4 = 0) :
    ∃ R', rX11_guesser_b24 n (nI kd) v2 v3 v4 R = some (nI c, R') ∧ R' 13 = upd (R 13) c (nI kd) ∧ R' 14 = upd (R 14) c v2 ∧ R' 15 = upd (R 15) c v3 ∧ R' 16 = upd (R 16) c v4 ∧ (∀ p, p < 64 → R' 17 (64 * c + p) = -1) ∧ (∀ i, i < 64 * c → R' 17 i = R 17 i) ∧ (∀ i, i < 812 → R' 18 (812 * c + i) = nb0 kd i) ∧ (∀ g i, g ≠ c → i < 812 → R' 18 (812 * g + i) = R 18 (812 * g + i)) ∧ R' 12 0 = nI (c + 1) ∧ ∀ k, k < 12 ∨ 18 < k → R' k = R k := by
  have c1 : (nI c).toNatClampNeg = c := n_cl (by omega)
  have i1 : ∀ {β : Type} (x : Option β), (if jq_in (nI c) 8 then x else none) = x := fun x => n_ifin hc (by decide)
  have n8 : ¬ nI c = 8 := fun q => by
    have := (nI_eq (b := 8) (by omega) (by decide)).mp q
    omega
  obtain ⟨S, hS⟩ : ∃ S, S = u2 (u2 (u2 (u2 R 13 c (nI kd)) 14 c v2) 15 c v3) 16 c v4 := ⟨_, rfl⟩
  have s12 : S 12 0 = nI c := by rw [hS, u2_ne (by decide), u2_ne (by decide), u2_ne (by decide), u2_ne (by decide)]; exact h12
  have s13 : S 13 = upd (R 13) c (nI kd) := by rw [hS, u2_ne (by decide), u2_ne (by decide), u2_ne (by decide), u2_eq]
  have s14 : S 14 = upd (R 14) c v2 := by rw [hS, u2_ne (by decide), u2_ne (by decide), u2_eq, u2_ne (by decide)]
  have s15 : S 15 = upd (R 15) c v3 := by rw [hS, u2_ne (by decide), u2_eq, u2_ne (by decide), u2_ne (by decide)]
  have s16 : S 16 = upd (R 16) c v4 := by rw [hS, u2_eq, u2_ne (by decide), u2_ne (by decide), u2_ne (by decide)]
  have so : ∀ k, k ≠ 13 → k ≠ 14 → k ≠ 15 → k ≠ 16 → S k = R k := fun k q1 q2 q3 q4 => by rw [hS, u2_ne q4, u2_ne q3, u2_ne q2, u2_ne q1]
  obtain ⟨T, t1, t2, t3, t4⟩ := hint_loop (n := n) (K := fun SS => rX11_guesser_b123 n SS) hc n 0 S s12 (by omega) (by omega) (fun p hp => by omega)
  have bg := L_begin (n := n) (S := T) (g := c) (kd := kd) hn hc hkd (by rw [t4 13 (by decide), s13, pk_us])
  refine ⟨u2 (bset T c (nb0 kd)) 12 0 (nI (c + 1)), ?_, ?_, ?_, ?_, ?_, fun p hp => ?_, fun i hi => ?_, fun i hi => ?_, fun g i hg hi => ?_, u2_at, fun k hk => ?_⟩
  · unfold rX11_guesser_b24
    have a13 : u2 R 13 c (nI kd) 12 0 = nI c := by rw [u2_ne (by decide)]; exact h12
    have a14 : u2 (u2 R 13 c (nI kd)) 14 c v2 12 0 = nI c := by rw [u2_ne (by decide)]; exact a13
    have a15 : u2 (u2 (u2 R 13 c (nI kd)) 14 c v2) 15 c v3 12 0 = nI c := by rw [u2_ne (by decide)]; exact a14
    rw [jq_lE, if_neg hf, jq_lE, h12, if_neg n8, jq_lE, i1, c1, jq_lE, jq_lE, a13, i1, c1, jq_lE, jq_lE, a14, i1, c1, jq_lE, jq_lE, a15, i1, c1, jq_lE, ← hS]
    refine t1.trans ?_
    show rX11_guesser_b123 n T = _
    unfold rX11_guesser_b123
    have t12 : T 12 0 = nI c := by rw [t4 12 (by decide)]; exact s12
    have b12 : bset T c (nb0 kd) 12 0 = nI c := by rw [bset_ne (by decide)]; exact t12
    rw [jq_lE, t12, bg, Option.bind_some, jq_lE, b12, na1, jq_lE, jq_lE, u2_at, nI_pred]
  · rw [u2_ne (by decide), bset_ne (by decide), t4 13 (by decide), s13]
  · rw [u2_ne (by decide), bset_ne (by decide), t4 14 (by decide), s14]
  · rw [u2_ne (by decide), bset_ne (by decide), t4 15 (by decide), s15]
  · rw [u2_ne (by decide), bset_ne (by decide), t4 16 (by decide), s16]
  · rw [u2_ne (by decide), bset_ne (by decide)]
    exact t2 p hp
  · rw [u2_ne (by decide), bset_ne (by decide), t3 i hi, so 17 (by decide) (by decide) (by decide) (by decide)]
  · rw [u2_ne (by decide)]
    exact bset_at hi
  · rw [u2_ne (by decide), bset_other hg hi, t4 18 (by decide), so 18 (by decide) (by decide) (by decide) (by decide)]
  · rw [u2_ne (by omega), bset_ne (by omega), t4 k (by omega), so k (by omega) (by omega) (by omega) (by omega)]
theorem mk_rel {R R' : ob_S} {v2 v3 v4 : Int32} {F L : ob_S} {ga : Nat} (Q : REL c ev M W G R) (hc : c < 8) (hk : gkOK kd a b cc) (h7 : kd = 7 → a < c ∧ b < c) (ha : v2 = nI a) (hb : kd = 2 ∨ kd = 3 ∨ kd = 4 ∨ kd = 5 ∨ kd = 7 → v3 = nI b) (hcc : kd = 3 ∨ kd = 5 ∨ kd = 7 → v4 = nI cc) (LF : LR kd a b cc (nb0 kd) F) (LL : LR kd a b cc (nb0 kd) L)
    (r13 : R' 13 = upd (R 13) c (nI kd)) (r14 : R' 14 = upd (R 14) c v2) (r15 : R' 15 = upd (R 15) c v3) (r16 : R' 16 = upd (R 16) c v4) (r17 : ∀ p, p < 64 → R' 17 (64 * c + p) = -1) (r17b : ∀ i, i < 64 * c → R' 17 i = R 17 i) (r18 : ∀ i, i < 812 → R' 18 (812 * c + i) = nb0 kd i) (r18b : ∀ g i, g ≠ c → i < 812 → R' 18 (812 * g + i) = R 18 (812 * g + i)) (r12 : R' 12 0 = nI (c + 1)) (rk : ∀ k, k < 12 ∨ 18 < k → R' k = R k) :
    REL (c + 1) ev M W (gup G c ((ga, kd, a, b, cc), hm1, 0, L, F, (fun _ => none), (fun _ => F))) R' := by
  obtain ⟨q1, ⟨m, pl, wy, qw⟩, qg, q8, q12, q20⟩ := Q
  refine ⟨q1.of (fun j q => rk j (by omega)), ⟨m, pl, wy, qw.of (fun j _ q => rk j (by omega))⟩, fun g hg => ?_, by rw [rk 8 (by decide)]; exact q8, r12, fun j w1 w2 => by rw [rk 20 (by decide)]; exact q20 j (by omega) w2⟩
  by_cases e : g = c
  · subst e
    rw [gup_at]
    refine ⟨hk, ⟨by rw [r13, pk_us], fun _ => by rw [r14, pk_us]; exact ha, fun q => by rw [r15, pk_us]; exact hb q, fun q => by rw [r16, pk_us]; exact hcc q⟩, h7, fun p hp => ⟨?_, Or.inl ?_⟩, LL.congr hk r18, BW0.congr r18, LF, fun k hk2 => Or.inl ⟨rfl, ?_⟩⟩
    · rw [r17 p hp]
      exact if_pos hp
    · exact if_pos hp
    · rw [rk 20 (by decide)]
      exact q20 _ (by omega) (by omega)
  · rw [gup_ne e]
    refine (qg g (by omega)).of2 (fun k hk2 => ?_) (fun p hp => r17b _ (by omega)) (fun i hi => r18b g i e hi) (fun k i _ _ => by rw [rk 19 (by decide)]) (fun k _ => by rw [rk 20 (by decide)])
    rcases hk2 with rfl | rfl | rfl | rfl
    · rw [r13, pk_un e]
    · rw [r14, pk_un e]
    · rw [r15, pk_un e]
    · rw [r16, pk_un e]
/-- both sides make it -/
theorem guesser_mk {R : ob_S} {v2 v3 v4 : Int32} (hn : 812 < n) (H : CI h ax c ev M W G rf R) (Q : REL c ev M W G R) (hk : gkOK kd a b cc) (h7 : kd = 7 → a < c ∧ b < c) (ha : v2 = nI a) (hb : kd = 2 ∨ kd = 3 ∨ kd = 4 ∨ kd = 5 ∨ kd = 7 → v3 = nI b) (hcc : kd = 3 ∨ kd = 5 ∨ kd = 7 → v4 = nI cc) (hf : ¬ pf_fits (nI kd) v2 v3 v4 = 0) :
    SIMq ax (fun h a => X10_guesser_b24 n a (nI kd) v2 v3 v4 h) (fun S => rX11_guesser_b24 n (nI kd) v2 v3 v4 S) h R := by
  have h8 := H.c8
  have h36 := H.2.2.2.2.2.2
  by_cases hc8 : c = 8
  · have e8 : nI c = 8 := by rw [hc8]; rfl
    have l8 : ¬ nI c < 8 := by rw [e8]; decide
    refine SIMq.same H Q (r := -4) ?_ ?_
    · show X10_guesser_b24 n ax (nI kd) v2 v3 v4 h = _
      unfold X10_guesser_b24
      rw [p_fits, Option.bind_some]
      dsimp only
      rw [if_neg hf, H.gc, Option.bind_some, if_neg l8]
    · show rX11_guesser_b24 n (nI kd) v2 v3 v4 R = _
      unfold rX11_guesser_b24
      rw [jq_lE, if_neg hf, jq_lE, Q.2.2.2.2.1, if_pos e8]
  · have hc : c < 8 := by omega
    have l8 : nI c < 8 := (nI_ltI (b := 8) (by omega) (by decide)).mpr hc
    obtain ⟨h', F, L, e1, B⟩ := X_made (n := n) (p2 := v3) (p3 := v4) (by omega) H hk h7 hb hcc
    obtain ⟨R', r0, r13, r14, r15, r16, r17, r17b, r18, r18b, r12, rk⟩ := L_mk (n := n) (v2 := v2) (v3 := v3) (v4 := v4) hn hc hk.1 Q.2.2.2.2.1 hf
    have hB := B
    obtain ⟨b1, b2, b3, b4, b5, b6, b7, b8, b9⟩ := hB
    have x14 : h'.2 (ax + 14) = some (.inl (2, 8, .inr (.inr (.inr (.inr rf))))) := by rw [b9 _ (by omega)]; exact H.2.2.2.2.1.1
    have xax : h'.2 ax = some (.inr (9, [.ref (ax + 1), .ref (ax + 8), .ref (ax + 14), .int (nI c), .int ev])) := by rw [b9 _ (by omega)]; exact H.1
    obtain ⟨h3, hh3⟩ : ∃ x, x = ((h'.1, va_up h'.2 (ax + 14) (some (.inl (2, 8, .inr (.inr (.inr (.inr (va_up rf c (some h.1))))))))) : jq_H) := ⟨_, rfl⟩
    have e2 : jq_stR 2 gcs h' (ax + 14) (nI c) h.1 = some h3 := by
      unfold jq_stR
      rw [x14, b2]
      simp only
      rw [if_pos ⟨trivial, jq_inN' hc (by decide), gk_in kd⟩, n_cl (by omega), hh3]
    have x3 : h3.2 ax = some (.inr (9, [.ref (ax + 1), .ref (ax + 8), .ref (ax + 14), .int (nI c), .int ev])) := by
      rw [hh3]
      show va_up _ _ _ ax = _
      rw [up_ne (by omega)]
      exact xax
    obtain ⟨h4, e3, s4, n4, f4⟩ := pt_v (h := h3) (k := 3) (cs := [9]) (v := .int (nI (c + 1))) x3 (by decide) (Nat.le_of_ble_eq_true rfl)
    have r3 : jq_gI [9] 3 h3 ax = some (nI c) := rdI x3 (by decide) rfl
    have r4 : jq_gI [9] 3 h4 ax = some (nI (c + 1)) := rdI n4 (by decide) rfl
    have C4 := H.ext (h' := h') (h2 := h4) hc (fun g hg q => by have := (Q.gq hg).2.2.1 q; omega) h7 B (by rw [s4, hh3]) n4 (by
      rw [f4 _ (by omega), hh3]
      exact up_at) (fun y q1 q2 => by
      rw [f4 y q1, hh3]
      exact up_ne q2)
    refine ⟨nI c, h4, c + 1, ev, M, W, _, va_up rf c (some h.1), R', ?_, C4, r0, mk_rel Q hc hk h7 ha hb hcc b7 b8 r13 r14 r15 r16 r17 r17b r18 r18b r12 rk⟩
    show X10_guesser_b24 n ax (nI kd) v2 v3 v4 h = _
    unfold X10_guesser_b24
    rw [p_fits, Option.bind_some]
    dsimp only
    rw [if_neg hf, H.gc, Option.bind_some, if_pos l8, H.gg, Option.bind_some, Option.bind_some, if_pos H.ci, ha, e1, Option.bind_some]
    dsimp only
    rw [e2, Option.bind_some, r3, Option.bind_some, na1, e3, Option.bind_some, r4, Option.bind_some, nI_pred]
theorem fits_k {k x y z : Int32} (h : ¬ pf_fits k x y z = 0) : ∃ kd, kd < 8 ∧ k = nI kd := by
  by_cases h0 : k = 0
  · exact ⟨0, by decide, h0⟩
  by_cases h1 : k = 1
  · exact ⟨1, by decide, h1⟩
  by_cases h2 : k = 2
  · exact ⟨2, by decide, h2⟩
  by_cases h3 : k = 3
  · exact ⟨3, by decide, h3⟩
  by_cases h4 : k = 4
  · exact ⟨4, by decide, h4⟩
  by_cases h5 : k = 5
  · exact ⟨5, by decide, h5⟩
  by_cases h6 : k = 6
  · exact ⟨6, by decide, h6⟩
  by_cases h7 : k = 7
  · exact ⟨7, by decide, h7⟩
  · unfold pf_fits at h
    simp only [h0, h1, h2, h3, h4, h5, h6, h7, if_false, not_true_eq_false] at h
theorem pf_lo {v : Int32} {l m : Nat} (hl : l < 2 ^ 31) (hm : m < 2 ^ 31) (h : ¬ pf_in v (nI l) (nI m) = 0) : ∃ k, l ≤ k ∧ k ≤ m ∧ v = nI k := by
  unfold pf_in at h
  split at h
  · rename_i hh
    have h0 : ¬ v < 0 := Int32.not_lt.mpr (Int32.le_trans (nI_pos' hl) hh.1)
    obtain ⟨k, hk, rfl⟩ := nI_of (x := v) h0
    exact ⟨k, (nI_leI hl hk).mp hh.1, (nI_leI hk hm).mp hh.2, rfl⟩
  · exact absurd rfl h
theorem pf_and {x y : Int32} (h : ¬ (if x = 0 then 0 else y) = (0 : Int32)) : ¬ x = 0 ∧ ¬ y = 0 := by
  by_cases q : x = 0
  · rw [if_pos q] at h
    exact absurd rfl h
  · rw [if_neg q] at h
    exact ⟨q, h⟩
theorem fits_of {x y z : Int32} (hkd : kd < 8) (h7 : kd ≠ 7) (h : ¬ pf_fits (nI kd) x y z = 0) : ∃ a b cc, gkOK kd a b cc ∧ x = nI a ∧ (kd = 2 ∨ kd = 3 ∨ kd = 4 ∨ kd = 5 ∨ kd = 7 → y = nI b) ∧ (kd = 3 ∨ kd = 5 ∨ kd = 7 → z = nI cc) := by
  unfold pf_fits at h
  rcases (show kd = 0 ∨ kd = 1 ∨ kd = 2 ∨ kd = 3 ∨ kd = 4 ∨ kd = 5 ∨ kd = 6 by omega) with rfl | rfl | rfl | rfl | rfl | rfl | rfl
  · simp only [tq_0_0, if_true] at h
    obtain ⟨a, ha1, ha2, rfl⟩ := pf_lo (l := 0) (m := 2) (by decide) (by decide) h
    exact ⟨a, 0, 0, ⟨by omega, by omega, by omega, by omega, by omega, by omega, by omega, by omega, by omega⟩, rfl, fun q => by omega, fun q => by omega⟩
  · simp only [tq_1_0, tq_1_1, if_true, if_false] at h
    obtain ⟨a, ha1, ha2, rfl⟩ := pf_lo (l := 0) (m := 6) (by decide) (by decide) h
    exact ⟨a, 0, 0, ⟨by omega, by omega, by omega, by omega, by omega, by omega, by omega, by omega, by omega⟩, rfl, fun q => by omega, fun q => by omega⟩
  · simp only [tq_2_0, tq_2_1, tq_2_2, if_true, if_false] at h
    obtain ⟨g1, g2⟩ := pf_and h
    obtain ⟨a, ha1, ha2, rfl⟩ := pf_lo (l := 0) (m := 8) (by decide) (by decide) g1
    obtain ⟨b, hb1, hb2, rfl⟩ := pf_lo (l := 0) (m := 8) (by decide) (by decide) g2
    exact ⟨a, b, 0, ⟨by omega, by omega, by omega, by omega, by omega, by omega, by omega, by omega, by omega⟩, rfl, fun _ => rfl, fun q => by omega⟩
  · simp only [tq_3_0, tq_3_1, tq_3_2, tq_3_3, if_true, if_false] at h
    obtain ⟨g1, g2⟩ := pf_and h
    obtain ⟨g2, g3⟩ := pf_and g2
    obtain ⟨a, ha1, ha2, rfl⟩ := pf_lo (l := 0) (m := 8) (by decide) (by decide) g1
    obtain ⟨b, hb1, hb2, rfl⟩ := pf_lo (l := 0) (m := 8) (by decide) (by decide) g2
    obtain ⟨cc, hc1, hc2, rfl⟩ := pf_lo (l := 0) (m := 1) (by decide) (by decide) g3
    exact ⟨a, b, cc, ⟨by omega, by omega, by omega, by omega, by omega, by omega, by omega, by omega, by omega⟩, rfl, fun _ => rfl, fun _ => rfl⟩
  · simp only [tq_4_0, tq_4_1, tq_4_2, tq_4_3, tq_4_4, if_true, if_false] at h
    obtain ⟨g1, g2⟩ := pf_and h
    obtain ⟨a, ha1, ha2, rfl⟩ := pf_lo (l := 1) (m := 7) (by decide) (by decide) g1
    obtain ⟨b, hb1, hb2, rfl⟩ := pf_lo (l := 1) (m := 4) (by decide) (by decide) g2
    exact ⟨a, b, 0, ⟨by omega, by omega, by omega, by omega, by omega, by omega, by omega, by omega, by omega⟩, rfl, fun _ => rfl, fun q => by omega⟩
  · simp only [tq_5_0, tq_5_1, tq_5_2, tq_5_3, tq_5_4, tq_5_5, if_true, if_false] at h
    obtain ⟨g1, g2⟩ := pf_and h
    obtain ⟨g2, g3⟩ := pf_and g2
    obtain ⟨a, ha1, ha2, rfl⟩ := pf_lo (l := 0) (m := 4) (by decide) (by decide) g1
    obtain ⟨b, hb1, hb2, rfl⟩ := pf_lo (l := 1) (m := 8) (by decide) (by decide) g2
    obtain ⟨cc, hc1, hc2, rfl⟩ := pf_lo (l := 0) (m := 50) (by decide) (by decide) g3
    exact ⟨a, b, cc, ⟨by omega, by omega, by omega, by omega, by omega, by omega, by omega, by omega, by omega⟩, rfl, fun _ => rfl, fun _ => rfl⟩
  · simp only [tq_6_0, tq_6_1, tq_6_2, tq_6_3, tq_6_4, tq_6_5, tq_6_6, if_true, if_false] at h
    obtain ⟨a, ha1, ha2, rfl⟩ := pf_lo (l := 1) (m := 3) (by decide) (by decide) h
    exact ⟨a, 0, 0, ⟨by omega, by omega, by omega, by omega, by omega, by omega, by omega, by omega, by omega⟩, rfl, fun q => by omega, fun q => by omega⟩
theorem guesser_b24 {R : ob_S} {a1 a2 a3 a4 : Int32} (hn : 812 < n) (H : CI h ax c ev M W G rf R) (Q : REL c ev M W G R) (h7 : a1 = 7 → (∃ i, i < c ∧ a2 = nI i) ∧ ∃ i, i < c ∧ a3 = nI i) :
    SIMq ax (fun h a => X10_guesser_b24 n a a1 a2 a3 a4 h) (fun S => rX11_guesser_b24 n a1 a2 a3 a4 S) h R := by
  by_cases hf : pf_fits a1 a2 a3 a4 = 0
  · refine SIMq.same H Q (r := -2) ?_ ?_
    · show X10_guesser_b24 n ax a1 a2 a3 a4 h = _
      unfold X10_guesser_b24
      rw [p_fits, Option.bind_some]
      dsimp only
      rw [if_pos hf]
    · show rX11_guesser_b24 n a1 a2 a3 a4 R = _
      unfold rX11_guesser_b24
      rw [jq_lE, if_pos hf]
  · obtain ⟨kd, hkd, rfl⟩ := fits_k hf
    by_cases hk7 : kd = 7
    · subst hk7
      obtain ⟨⟨a, ha, rfl⟩, ⟨b, hb, rfl⟩⟩ := h7 rfl
      have hf2 := hf
      unfold pf_fits at hf2
      simp only [tq_7_0, tq_7_1, tq_7_2, tq_7_3, tq_7_4, tq_7_5, tq_7_6, tq_7_7, if_true, if_false] at hf2
      obtain ⟨cc, hc1, hc2, rfl⟩ := pf_lo (l := 0) (m := 6) (by decide) (by decide) hf2
      exact guesser_mk hn H Q ⟨by omega, by omega, by omega, by omega, by omega, by omega, by omega, by omega, by omega⟩ (fun _ => ⟨ha, hb⟩) rfl (fun _ => rfl) (fun _ => rfl) hf
    · obtain ⟨a, b, cc, g1, g2, g3, g4⟩ := fits_of hkd hk7 hf
      exact guesser_mk hn H Q g1 (fun q => absurd q hk7) g2 g3 g4 hf
theorem S_guesser {R : ob_S} {a1 a2 a3 a4 : Int32} (hn : 812 < n) (H : CI h ax c ev M W G rf R) (Q : REL c ev M W G R) : SIMq ax (fun h a => X10_guesser n h a a1 a2 a3 a4) (fun S => rX11_guesser n S a1 a2 a3 a4) h R := by
  by_cases h7 : a1 = 7
  · rcases pf_g (x := a2) H.c8 with ⟨h1, -⟩ | ⟨h1, g1, hg1, e1⟩
    · exact SIMq.same H Q (r := -1) (by simp only [X10_guesser, X10_guesser_b22, if_pos h7, H.isG', Option.bind_some, h1, if_true]) (by simp only [rX11_guesser, rX11_guesser_b22, if_pos h7, Q.isG, Option.bind_some, h1, if_true])
    rcases pf_g (x := a3) H.c8 with ⟨h2, -⟩ | ⟨h2, g2, hg2, e2⟩
    · exact SIMq.same H Q (r := -1) (by simp only [X10_guesser, X10_guesser_b22, if_pos h7, H.isG', Option.bind_some, h1, one0, if_false, h2, if_true]) (by simp only [rX11_guesser, rX11_guesser_b22, if_pos h7, Q.isG, Option.bind_some, h1, one0, if_false, h2, if_true])
    obtain ⟨r, h', c', ev', M', W', G', rf', R', x1, x2, x3, x4⟩ := guesser_b24 (n := n) (a1 := a1) (a2 := a2) (a3 := a3) (a4 := a4) hn H Q (fun _ => ⟨⟨g1, hg1, e1⟩, ⟨g2, hg2, e2⟩⟩)
    refine ⟨r, h', c', ev', M', W', G', rf', R', ?_, x2, ?_, x4⟩
    · rw [← x1]
      simp only [X10_guesser, if_pos h7, H.isG', Option.bind_some, h1, one0, if_false, h2]
    · rw [← x3]
      simp only [rX11_guesser, if_pos h7, Q.isG, Option.bind_some, h1, one0, if_false, h2]
  · obtain ⟨r, h', c', ev', M', W', G', rf', R', x1, x2, x3, x4⟩ := guesser_b24 (n := n) (a1 := a1) (a2 := a2) (a3 := a3) (a4 := a4) hn H Q (fun q => absurd q h7)
    refine ⟨r, h', c', ev', M', W', G', rf', R', ?_, x2, ?_, x4⟩
    · rw [← x1]
      simp only [X10_guesser, if_neg h7]
    · rw [← x3]
      simp only [rX11_guesser, if_neg h7]
end GUESSER
