/-! ===== run ===== -/
theorem RM.next {M R M' R' : ob_S} (H : RM M R) (h1 : ∀ k, k < 8 → M' k = R' k) (h2 : ∀ k, k < 4 → R' k = R k) (h6 : isN (R' 6 0) 64) : RM M' R' := by
  refine ⟨h1, h6, fun p hp => ?_⟩
  rw [h2 0 (by decide), h2 1 (by decide), h2 2 (by decide), h2 3 (by decide)]
  exact H.2.2 p hp
theorem RELn.of {c : Nat} {ev : Int32} {W R R' : ob_S} {G : Nat → gd} (Q : RELn c ev W G R) (h : ∀ k, 8 ≤ k → R' k = R k) : RELn c ev W G R' := by
  obtain ⟨⟨m, pl, wy, qw⟩, qg, q8, q12, q20⟩ := Q
  exact ⟨⟨m, pl, wy, qw.of (fun k k1 k2 => h k (by omega))⟩, fun g hg => (qg g hg).of (fun k k1 k2 => h k (by omega)), by rw [h 8 (by decide)]; exact q8, by rw [h 12 (by decide)]; exact q12, fun j k1 k2 => by rw [h 20 (by decide)]; exact q20 j k1 k2⟩
theorem n_63 (x : Nat) : nI x &&& 63 = nI (x % 64) := n_mask x 6
section RUN
variable {n ax c : Nat} {R0 : ob_S} {rf : Nat → Option Nat}
set_option maxHeartbeats 1000000 in
theorem run_loop (hn : 3000 < n) {N : Nat} (hN : N ≤ 2000) : ∀ (k j : Nat) (h : jq_H) (ev : Int32) (M W : ob_S) (G : Nat → gd) (R : ob_S), CI h ax c ev M W G rf R0 → REL c ev M W G R → j ≤ N → N < j + k →
    ∃ v h' ev' M' W' G' R', X10_run_l16 n (fun w2 hh => X10_run_b44 n w2 hh) (fun w1 hh => X10_run_b65 n w1 hh) k ax (nI N) (nI j) h = some (v, h') ∧ rX11_run_l16 n (fun w2 SS => rX11_run_b43 n w2 SS) k (nI N) (nI j) R = some (v, R') ∧ CI h' ax c ev' M' W' G' rf R0 ∧ REL c ev' M' W' G' R' := by
  intro k
  induction k with
  | zero => intro j h ev M W G R _ _ h1 h2; exfalso; omega
  | succ k ih =>
    intro j h ev M W G R H Q hj1 hj2
    have ec : ∀ (K44 K65 : Int32 → jq_H → Option (Int32 × jq_H)), X10_run_l16 n K44 K65 (k + 1) ax (nI N) (nI j) h = X10_run_b16 n (X10_run_l16 n K44 K65 k) K44 K65 ax (nI N) (nI j) h := fun _ _ => rfl
    have er : ∀ (K43 : Int32 → ob_S → Option (Int32 × ob_S)), rX11_run_l16 n K43 (k + 1) (nI N) (nI j) R = rX11_run_b16 n (rX11_run_l16 n K43 k) K43 (nI N) (nI j) R := fun _ => rfl
    rw [ec, er]
    unfold X10_run_b16 rX11_run_b16
    by_cases hj : N ≤ j
    · have hle : nI N ≤ nI j := (nI_leI (by omega) (by omega)).mpr hj
      have hjN : j = N := by omega
      subst hjN
      refine ⟨nI j, h, ev, M, W, G, R, ?_, ?_, H, Q⟩
      · rw [if_pos hle]
        rfl
      · rw [if_pos hle]
        rfl
    have hle : ¬ nI N ≤ nI j := fun q => hj ((nI_leI (by omega) (by omega)).mp q)
    obtain ⟨qm, qn⟩ := Q
    obtain ⟨q1, ⟨p, hp, e6⟩, qr⟩ := qm
    obtain ⟨⟨kk, hkk, e0⟩, ⟨r, hr, e1⟩, ⟨s, hs, e2⟩, e3⟩ := qr p hp
    have m6 : M 6 0 = nI p := by rw [q1 6 (by decide)]; exact e6
    have m0 : M 0 p = nI kk := by rw [q1 0 (by decide)]; exact e0
    have m1 : M 1 p = nI r := by rw [q1 1 (by decide)]; exact e1
    have m2 : M 2 p = nI s := by rw [q1 2 (by decide)]; exact e2
    have m3 : M 3 p = R 3 p := by rw [q1 3 (by decide)]
    have m4 : M 4 = R 4 := q1 4 (by decide)
    have m5 : M 5 = R 5 := q1 5 (by decide)
    have m7 : M 7 = R 7 := q1 7 (by decide)
    have c1 : (nI p).toNatClampNeg = p := n_cl (by omega)
    have i1 : ∀ {β : Type} (x : Option β), (if jq_in (nI p) 64 then x else none) = x := fun x => n_ifin hp (by decide)
    have g6 : jq_gI [5] 6 h (ax + 1) = some (nI p) := by
      rw [ob_gI H.2.1 (k := 6) rfl (by decide), m6]
    rw [if_neg hle, if_neg hle, H.gm, Option.bind_some, g6, Option.bind_some, Option.bind_some, if_pos H.2.1.ci]
    simp only [jq_l, e6, i1, c1, e0]
    -- what a step leaves
    have go : ∀ (h1 : jq_H) (ev1 : Int32) (M1 W1 : ob_S) (G1 : Nat → gd) (R1 : ob_S), CI h1 ax c ev1 M1 W1 G1 rf R0 → REL c ev1 M1 W1 G1 R1 → ∃ v h' ev' M' W' G' R', X10_run_b59 n (X10_run_l16 n (fun w2 hh => X10_run_b44 n w2 hh) (fun w1 hh => X10_run_b65 n w1 hh) k) (fun w2 hh => X10_run_b44 n w2 hh) (fun w1 hh => X10_run_b65 n w1 hh) ax (nI N) (nI j) h1 = some (v, h') ∧ rX11_run_l16 n (fun w2 SS => rX11_run_b43 n w2 SS) k (nI N) (nI j + 1) R1 = some (v, R') ∧ CI h' ax c ev' M' W' G' rf R0 ∧ REL c ev' M' W' G' R' := by
      intro h1 ev1 M1 W1 G1 R1 H1 Q1
      obtain ⟨v, h', ev', M', W', G', R', z1, z2, z3, z4⟩ := ih (j + 1) h1 ev1 M1 W1 G1 R1 H1 Q1 (by omega) (by omega)
      refine ⟨v, h', ev', M', W', G', R', ?_, ?_, z3, z4⟩
      · unfold X10_run_b59
        simp only [jq_l, na1]
        exact z1
      · rw [na1]
        exact z2
    by_cases k0 : kk = 0
    · subst k0
      obtain ⟨z, z1, z2, z3⟩ := N_X6_step (n := n) (H.2.1.f (w := 7)) (C_step0 (n := n) hp m6 m0)
      have zz : z.1 = -1 := z2
      refine ⟨nI j, z.2, ev, M, W, G, R, ?_, ?_, H.mach z3, ⟨⟨q1, ⟨p, hp, e6⟩, qr⟩, qn⟩⟩
      · rw [z1, Option.bind_some, if_pos zz]
        rfl
      · rw [if_pos (show nI 0 = 0 from rfl)]
        rfl
    have nk0 : ¬ nI kk = 0 := nI_ne0 (by omega) (by omega)
    by_cases k8 : kk ≤ 8
    · obtain ⟨z, z1, z2, z3⟩ := N_X6_step (n := n) (H.2.1.f (w := 7)) (C_stepA (n := n) hp m6 ⟨by omega, k8⟩ m0 m1 hr m2 hs)
      have zz : z.1 = 2 := z2
      have hl := L_stepA (n := n) hp e6 ⟨by omega, k8⟩ e0 e1 hr e2 hs
      have hsl := rk_slot (S := R) (k := kk) (r := r) (s := s) (v := R 3 p)
      have erk : rku (M2 M p) M kk r s (M 3 p) = u2 (u2 (u2 M 7 0 (R 7 0 + 1)) 6 0 ((nI p + 1) &&& 63)) (rk R kk r s (R 3 p)).1 (rk R kk r s (R 3 p)).2.1 (rk R kk r s (R 3 p)).2.2 := by
        unfold rku M2
        rw [m3, rk_congr (S := M) (T := R) m4 m5, m7]
      have erl : u2 (u2 (rku R R kk r s (R 3 p)) 6 0 ((nI p + 1) &&& 63)) 7 0 (R 7 0 + 1) = u2 (u2 (u2 R 7 0 (R 7 0 + 1)) 6 0 ((nI p + 1) &&& 63)) (rk R kk r s (R 3 p)).1 (rk R kk r s (R 3 p)).2.1 (rk R kk r s (R 3 p)).2.2 := by
        unfold rku
        rw [u2_comm (k := 6) (k' := 7) (by decide), u2_comm (k' := 7) (by omega), u2_comm (k' := 6) (by omega)]
      have Q1 : REL c ev (rku (M2 M p) M kk r s (M 3 p)) W G (u2 (u2 (rku R R kk r s (R 3 p)) 6 0 ((nI p + 1) &&& 63)) 7 0 (R 7 0 + 1)) := by
        rw [erk, erl]
        refine ⟨RM.next ⟨q1, ⟨p, hp, e6⟩, qr⟩ (u2_cg (u2_cg (u2_cg q1))) (fun j hj => ?_) ?_, RELn.of qn (fun j hj => ?_)⟩
        · rw [u2_ne (by omega), u2_ne (by omega), u2_ne (by omega)]
        · rw [u2_ne (by omega), u2_at, na1, n_63]
          exact ⟨_, by omega, rfl⟩
        · rw [u2_ne (by omega), u2_ne (by omega), u2_ne (by omega)]
      obtain ⟨v, h', ev', M', W', G', R', y1, y2, y3, y4⟩ := go z.2 ev _ W G _ (H.mach z3) Q1
      refine ⟨v, h', ev', M', W', G', R', ?_, ?_, y3, y4⟩
      · rw [z1, Option.bind_some, if_neg (by rw [zz]; decide), if_pos zz]
        exact y1
      · rw [if_neg nk0, hl, Option.bind_some]
        exact y2
    by_cases k12 : kk = 12
    · subst k12
      obtain ⟨z, z1, z2, z3⟩ := N_X6_step (n := n) (H.2.1.f (w := 7)) (C_stepJ (n := n) hp m6 m0)
      have zz : z.1 = 2 := z2
      have hl := L_stepJ (n := n) hp e6 e0 e1 hr e2 hs
      obtain ⟨v3, hv3, ev3⟩ := e3 (by rw [e0]; decide)
      have Q1 : REL c ev (u2 (M2 M p) 6 0 (M 3 p &&& 63)) W G (u2 (u2 R 6 0 (R 3 p)) 7 0 (R 7 0 + 1)) := by
        have ea : u2 (M2 M p) 6 0 (M 3 p &&& 63) = u2 (u2 M 7 0 (R 7 0 + 1)) 6 0 (R 3 p) := by
          funext a b
          rw [m3, ev3, n_63, Nat.mod_eq_of_lt hv3]
          unfold M2 u2
          rw [m7]
          by_cases q : a = 6 ∧ b = 0
          · rw [if_pos q, if_pos q]
          · rw [if_neg q, if_neg q, if_neg q]
        rw [ea, u2_comm (k := 6) (k' := 7) (by decide)]
        refine ⟨RM.next ⟨q1, ⟨p, hp, e6⟩, qr⟩ (u2_cg (u2_cg q1)) (fun j hj => ?_) ?_, RELn.of qn (fun j hj => ?_)⟩
        · rw [u2_ne (by omega), u2_ne (by omega)]
        · rw [u2_at]
          exact ⟨v3, hv3, ev3⟩
        · rw [u2_ne (by omega), u2_ne (by omega)]
      obtain ⟨v, h', ev', M', W', G', R', y1, y2, y3, y4⟩ := go z.2 ev _ W G _ (H.mach z3) Q1
      refine ⟨v, h', ev', M', W', G', R', ?_, ?_, y3, y4⟩
      · rw [z1, Option.bind_some, if_neg (by rw [zz]; decide), if_pos zz]
        exact y1
      · rw [if_neg nk0, hl, Option.bind_some]
        exact y2
    · have hk3 : kk = 9 ∨ kk = 10 ∨ kk = 11 := by omega
      obtain ⟨z, z1, z2, z3⟩ := N_X6_step (n := n) (H.2.1.f (w := 7)) (C_stepB (n := n) hp m6 hk3 m0 m1 hr m2 hs)
      obtain ⟨v3, hv3, ev3⟩ := e3 (by rw [e0]; exact (nI_leI (a := 9) (by decide) (by omega)).mpr (by omega))
      obtain ⟨go1, hgo⟩ : ∃ y, y = pf_holds (nI kk) (R 4 r) (R 4 s) := ⟨_, rfl⟩
      have hz2 : z.1 = go1 := by
        rw [hgo, ← m4]
        exact z2
      have hM1 : (if pf_holds (nI kk) (M 4 r) (M 4 s) = 0 then M2 M p else u2 (M2 M p) 6 0 (M 3 p &&& 63)) = u2 (u2 M 7 0 (R 7 0 + 1)) 6 0 (if go1 = 0 then ((nI p + 1) &&& 63) else R 3 p) := by
        rw [m4, ← hgo]
        by_cases q : go1 = 0
        · rw [if_pos q, if_pos q]
          unfold M2
          rw [m7]
        · rw [if_neg q, if_neg q]
          funext a b
          rw [m3, ev3, n_63, Nat.mod_eq_of_lt hv3]
          unfold M2 u2
          rw [m7]
          by_cases q : a = 6 ∧ b = 0
          · rw [if_pos q, if_pos q]
          · rw [if_neg q, if_neg q, if_neg q]
      have z3' : OF (ax + 1) 7 5 sh_M h (u2 (u2 M 7 0 (R 7 0 + 1)) 6 0 (if go1 = 0 then ((nI p + 1) &&& 63) else R 3 p)) z.2 := by
        rw [← hM1]
        exact z3
      obtain ⟨gw, hgw, egw⟩ : ∃ gw, gw < 2 ∧ go1 = nI gw := by
        rcases pf_h01 (nI kk) (R 4 r) (R 4 s) with q | q
        · exact ⟨0, by decide, by rw [hgo, q]; rfl⟩
        · exact ⟨1, by decide, by rw [hgo, q]; rfl⟩
      have H1 := H.mach z3'
      obtain ⟨h2, W', G', R1, y1, y2, y3, y4, y5⟩ := meet_all2 hn hp hgw H1 (by rw [u2_ne (by decide), u2_ne (by decide)]; exact q1 3 (by decide)) qn
      rw [← egw] at y1 y2
      have hl := L_stepB (n := n) hp e6 hk3 e0 e1 hr e2 hs hgo y2 y5
      have Q1 : REL c (ev + 1) (u2 (u2 M 7 0 (R 7 0 + 1)) 6 0 (if go1 = 0 then ((nI p + 1) &&& 63) else R 3 p)) W' G' (u2 (u2 R1 6 0 (if go1 = 0 then ((nI p + 1) &&& 63) else R 3 p)) 7 0 (R 7 0 + 1)) := by
        rw [u2_comm (k := 6) (k' := 7) (by decide)]
        refine ⟨RM.next ⟨q1, ⟨p, hp, e6⟩, qr⟩ (u2_cg (u2_cg (fun j hj => by rw [y5 j hj]; exact q1 j hj))) (fun j hj => ?_) ?_, RELn.of y4 (fun j hj => ?_)⟩
        · rw [u2_ne (by omega), u2_ne (by omega)]
          exact y5 j (by omega)
        · rw [u2_at]
          by_cases q : go1 = 0
          · rw [if_pos q, na1, n_63]
            exact ⟨_, by omega, rfl⟩
          · rw [if_neg q]
            exact ⟨v3, hv3, ev3⟩
        · rw [u2_ne (by omega), u2_ne (by omega)]
      obtain ⟨v, h', ev', M', W2, G2, R2, x1, x2, x3, x4⟩ := go h2 (ev + 1) _ W' G' _ y3 Q1
      refine ⟨v, h', ev', M', W2, G2, R2, ?_, ?_, x3, x4⟩
      · have n1 : ¬ go1 = -1 := by rw [egw]; exact nI_ne_m1 (by omega)
        have n2 : ¬ go1 = 2 := by
          rw [egw]
          intro q
          have := (nI_eq (b := 2) (by omega) (by decide)).mp q
          omega
        rw [z1, Option.bind_some, hz2, if_neg n1, if_neg n2, if_pos H1.ci, y1, Option.bind_some]
        exact x1
      · rw [if_neg nk0, hl, Option.bind_some]
        exact x2
theorem S_run {h : jq_H} {ev : Int32} {M W : ob_S} {G : Nat → gd} {R : ob_S} {a1 : Int32} (hn : 3000 < n) (H : CI h ax c ev M W G rf R) (Q : REL c ev M W G R) : SIMq ax (fun h a => X10_run n h a a1) (fun S => rX11_run n S a1) h R := by
  rcases pf_2000 a1 with h1 | ⟨h1, N, hN, rfl⟩
  · exact SIMq.same H Q (r := -2) (by simp only [X10_run, p_within, Option.bind_some, h1, if_true]) (by simp only [rX11_run, jq_l, h1, if_true])
  obtain ⟨v, h', ev', M', W', G', R', z1, z2, z3, z4⟩ := run_loop hn hN n 0 h ev M W G R H Q (by omega) (by omega)
  refine ⟨v, h', c, ev', M', W', G', rf, R', ?_, z3, ?_, z4⟩
  · simp only [X10_run, p_within, Option.bind_some, h1, one0, if_false]
    exact z1
  · simp only [rX11_run, jq_l, h1, one0, if_false]
    exact z2
end RUN
