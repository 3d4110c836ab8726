/-! ===== the row ===== -/
theorem pf_gm {x : Int32} {m : Nat} (hm : m ≤ 100000) : pf_in x 0 (nI m - 1) = 0 ∨ (pf_in x 0 (nI m - 1) = 1 ∧ ∃ i, i < m ∧ x = nI i) := by
  cases m with
  | zero =>
    rcases pf_g (x := x) (Nat.zero_le 8) with ⟨q, -⟩ | ⟨-, i, hi, -⟩
    · exact Or.inl q
    · omega
  | succ m =>
    rw [nI_pred]
    rcases pf_lim m (by omega) x with q | ⟨q, i, hi, e⟩
    · exact Or.inl q
    · exact Or.inr ⟨q, i, by omega, e⟩
theorem cnt_le {pl wy : Nat → Nat} {p w : Nat} : ∀ m, cnt pl wy p w m ≤ m
  | 0 => Nat.le_refl 0
  | m + 1 => by
    have := cnt_le (pl := pl) (wy := wy) (p := p) (w := w) m
    show cnt pl wy p w m + _ ≤ m + 1
    split <;> omega
theorem cnt2_le {pl wy : Nat → Nat} {p : Nat} : ∀ m, cnt pl wy p 0 m + cnt pl wy p 1 m ≤ m
  | 0 => Nat.le_refl 0
  | m + 1 => by
    have := cnt2_le (pl := pl) (wy := wy) (p := p) m
    show (cnt pl wy p 0 m + _) + (cnt pl wy p 1 m + _) ≤ m + 1
    split
    · rw [if_neg (by omega)]
      omega
    · split <;> omega
theorem cnt_congr {pl wy pl' wy' : Nat → Nat} {p w : Nat} : ∀ m, (∀ i, i < m → pl' i = pl i ∧ wy' i = wy i) → cnt pl' wy' p w m = cnt pl wy p w m
  | 0, _ => rfl
  | m + 1, h => by
    show cnt pl' wy' p w m + _ = cnt pl wy p w m + _
    rw [cnt_congr m (fun i hi => h i (by omega)), (h m (by omega)).1, (h m (by omega)).2]
section TIMES
variable {n m p : Nat} {pl wy : Nat → Nat} {W R : ob_S}
theorem times_loop {v2 : Int32} {K : Int32 → ob_S → Option (Int32 × ob_S)} (Q : RWq m pl wy W R) (hp : p < 64) (f : Nat → Nat) (hf : ∀ j, j < m → f (j + 1) = f j + (if pl j = p ∧ (v2 < 0 ∨ nI (wy j) = v2) then 1 else 0)) :
    ∀ (k j : Nat), j ≤ m → m < j + k → rX11_times_l5 n K k (nI p) v2 (nI (f j)) (nI j) R = K (nI (f m)) R := by
  obtain ⟨hm, r9, -, hr, -⟩ := Q
  intro k
  induction k with
  | zero => intro j h1 h2; exfalso; omega
  | succ k ih =>
    intro j h1 h2
    show rX11_times_b5 n (rX11_times_l5 n K k) K _ _ _ _ _ = _
    unfold rX11_times_b5
    simp only [jq_l, r9]
    by_cases hj : m ≤ j
    · have : j = m := by omega
      subst this
      rw [if_pos ((nI_leI (by omega) (by omega)).mpr hj)]
    · rw [if_neg (fun q => hj ((nI_leI (by omega) (by omega)).mp q))]
      obtain ⟨b1, b2, b3, b4, -⟩ := hr j (by omega)
      have c2 : (nI j).toNatClampNeg = j := n_cl (by omega)
      have i2 : ∀ {β : Type} (x : Option β), (if jq_in (nI j) 3000 then x else none) = x := fun x => n_ifin (by omega) (by decide)
      have hn := ih (j + 1) (by omega) (by omega)
      have f1 := hf j (by omega)
      have ep : (nI (pl j) = nI p) = (pl j = p) := propext (nI_eq (by omega) (by omega))
      simp only [i2, c2, b3, b4, ep, rX11_times_b41, rX11_times_b45, rX11_times_b46, jq_l, na1]
      by_cases q1 : pl j = p
      · rw [if_pos q1]
        by_cases q2 : v2 < 0
        · rw [if_pos ⟨q1, Or.inl q2⟩] at f1
          rw [if_pos q2, ← f1]
          exact hn
        · rw [if_neg q2]
          by_cases q3 : nI (wy j) = v2
          · rw [if_pos ⟨q1, Or.inr q3⟩] at f1
            rw [if_pos q3, ← f1]
            exact hn
          · rw [if_neg (fun q => q.2.elim q2 q3)] at f1
            have f2 : f (j + 1) = f j := f1
            rw [f2] at hn
            rw [if_neg q3, na0]
            exact hn
      · rw [if_neg (fun q => q1 q.1)] at f1
        have f2 : f (j + 1) = f j := f1
        rw [f2] at hn
        rw [if_neg q1, na0]
        exact hn
theorem L_times {w : Nat} (hn : 3000 < n) (Q : RWq m pl wy W R) (hp : p < 64) (hw : w < 2) : rX11_times n R (nI p) (nI w) = some (nI (cnt pl wy p w m), R) := by
  have hm := Q.1
  unfold rX11_times
  refine times_loop (n := n) (v2 := nI w) (K := fun w3 SS => rX11_times_b54 n w3 SS) Q hp (cnt pl wy p w) (fun j hj => ?_) n 0 (Nat.zero_le _) (by omega)
  show cnt pl wy p w j + _ = _
  congr 1
  have e1 : (nI w < 0) = False := eq_false (nI_pos (by omega))
  have e2 : (nI (wy j) = nI w) = (wy j = w) := propext (nI_eq (by have := (Q.2.2.2.1 j hj).2.1; omega) (by omega))
  simp only [e1, e2, false_or]
theorem L_timesA (hn : 3000 < n) (Q : RWq m pl wy W R) (hp : p < 64) : rX11_times n R (nI p) (-1) = some (nI (cnt pl wy p 0 m + cnt pl wy p 1 m), R) := by
  have hm := Q.1
  unfold rX11_times
  refine times_loop (n := n) (v2 := -1) (K := fun w3 SS => rX11_times_b54 n w3 SS) Q hp (fun j => cnt pl wy p 0 j + cnt pl wy p 1 j) (fun j hj => ?_) n 0 (Nat.zero_le _) (by omega)
  have hw := (Q.2.2.2.1 j hj).2.1
  show (cnt pl wy p 0 j + (if pl j = p ∧ wy j = 0 then 1 else 0)) + (cnt pl wy p 1 j + (if pl j = p ∧ wy j = 1 then 1 else 0)) = _
  have e1 : ((-1 : Int32) < 0) = True := eq_true (by decide)
  simp only [e1, true_or, and_true]
  by_cases q1 : pl j = p
  · rcases (show wy j = 0 ∨ wy j = 1 by omega) with q2 | q2
    · rw [if_pos ⟨q1, q2⟩, if_neg (fun q => by omega), if_pos q1]
      omega
    · rw [if_neg (fun q => by omega), if_pos ⟨q1, q2⟩, if_pos q1]
      omega
  · rw [if_neg (fun q => q1 q.1), if_neg (fun q => q1 q.1), if_neg q1]
    omega
end TIMES
section ROW
variable {n ax c : Nat} {ev : Int32} {M W R : ob_S} {G : Nat → gd} {rf : Nat → Option Nat} {h : jq_H} {a1 a2 a3 : Int32} {g m p : Nat} {pl wy : Nat → Nat}
theorem CI.place {R0 : ob_S} {i : Nat} (n : Nat) (H : CI h ax c ev M W G rf R0) (Q : RWq m pl wy W R) (hi : i < m) : (if jq_ci h (ax + 8) = 6 then X7_placeOf n h (ax + 8) (nI i) else none) = some (nI (pl i), h) := by
  obtain ⟨hm, -, -, hr, -⟩ := Q
  obtain ⟨b1, b2, -, -, b5⟩ := hr i hi
  have e0 : jq_gR [6] 0 h (ax + 8) = some (ax + 8 + 1) := ob_gR (t := 0) H.2.2.1 (k := 0) rfl (by decide)
  have e1 : jq_ldI 0 h (ax + 8 + 1) (nI i) = some (nI (2 * pl i + wy i)) := by
    have := ob_ld (t := 0) H.2.2.1 (k := 0) rfl (jq_inN' (n := 3000) (show i < 3000 by omega) (by decide))
    rw [n_cl (by omega), b5] at this
    exact this
  rw [if_pos H.2.2.1.ci]
  unfold X7_placeOf
  rw [e0, Option.bind_some, e1, Option.bind_some]
  have e2 : nI (2 * pl i + wy i) >>> ((1 : Int32) &&& 31) = nI ((2 * pl i + wy i) / 2 ^ 1) := n_shr (k := 1) (by omega) (by decide)
  rw [e2]
  have e3 : (2 * pl i + wy i) / 2 ^ 1 = pl i := by omega
  rw [e3]
theorem CI.way {R0 : ob_S} {i : Nat} (n : Nat) (H : CI h ax c ev M W G rf R0) (Q : RWq m pl wy W R) (hi : i < m) : (if jq_ci h (ax + 8) = 6 then X7_wayOf n h (ax + 8) (nI i) else none) = some (nI (wy i), h) := by
  obtain ⟨hm, -, -, hr, -⟩ := Q
  obtain ⟨b1, b2, -, -, b5⟩ := hr i hi
  have e0 : jq_gR [6] 0 h (ax + 8) = some (ax + 8 + 1) := ob_gR (t := 0) H.2.2.1 (k := 0) rfl (by decide)
  have e1 : jq_ldI 0 h (ax + 8 + 1) (nI i) = some (nI (2 * pl i + wy i)) := by
    have := ob_ld (t := 0) H.2.2.1 (k := 0) rfl (jq_inN' (n := 3000) (show i < 3000 by omega) (by decide))
    rw [n_cl (by omega), b5] at this
    exact this
  rw [if_pos H.2.2.1.ci]
  unfold X7_wayOf
  rw [e0, Option.bind_some, e1, Option.bind_some]
  have e2 : nI (2 * pl i + wy i) &&& 1 = nI ((2 * pl i + wy i) % 2 ^ 1) := n_mask _ 1
  rw [e2]
  have e3 : (2 * pl i + wy i) % 2 ^ 1 = wy i := by omega
  rw [e3]
theorem CI.size {R0 : ob_S} (H : CI h ax c ev M W G rf R0) (Q : RWq m pl wy W R) : jq_gI [6] 5 h (ax + 8) = some (nI m) := by
  rw [ob_gI H.2.2.1 (k := 5) rfl (by decide), Q.2.2.1]
theorem CI.count {R0 : ob_S} {w : Nat} (n : Nat) (H : CI h ax c ev M W G rf R0) (Q : RWq m pl wy W R) (hp : p < 64) (hw : w < 2) : (if jq_ci h (ax + 8) = 6 then X7_count n h (ax + 8) (nI p) (nI w) else none) = some (nI (cnt pl wy p w m), h) := by
  have e0 : jq_gR [6] 1 h (ax + 8) = some (ax + 8 + 2) := ob_gR (t := 0) H.2.2.1 (k := 1) rfl (by decide)
  have e1 : jq_ldI 0 h (ax + 8 + 2) (nI (2 * p + w)) = some (nI (cnt pl wy p w m)) := by
    have := ob_ld (t := 0) H.2.2.1 (k := 1) rfl (jq_inN' (n := 128) (show 2 * p + w < 128 by omega) (by decide))
    rw [n_cl (by omega), Q.2.2.2.2.1 p w hp hw] at this
    exact this
  rw [if_pos H.2.2.1.ci]
  unfold X7_count
  rw [e0, Option.bind_some, nm2, nI_add, e1, Option.bind_some]
theorem S_at (H : CI h ax c ev M W G rf R) (Q : REL c ev M W G R) : SIMq ax (fun h a => X10_at n h a a1 a2) (fun S => rX11_at n S a1 a2) h R := by
  obtain ⟨m, pl, wy, qw⟩ := Q.2.1
  have hm := qw.1
  rcases pf_gm (x := a1) (m := m) (by omega) with h1 | ⟨h1, i, hi, rfl⟩
  · exact SIMq.same H Q (r := -1) (by simp only [X10_at, H.gw, H.size qw, Option.bind_some, p_within, h1, if_true]) (by simp only [rX11_at, jq_l, qw.2.1, h1, if_true])
  obtain ⟨b1, b2, b3, b4, b5⟩ := qw.2.2.2.1 i hi
  have c2 : (nI i).toNatClampNeg = i := n_cl (by omega)
  have i2 : ∀ {β : Type} (x : Option β), (if jq_in (nI i) 3000 then x else none) = x := fun x => n_ifin (by omega) (by decide)
  by_cases h0 : a2 = 0
  · exact SIMq.same H Q (r := nI (pl i)) (by simp only [X10_at, H.gw, H.size qw, Option.bind_some, p_within, h1, one0, if_false, if_pos h0, H.place n qw hi]) (by simp only [rX11_at, rX11_at_b45, jq_l, qw.2.1, h1, one0, if_false, if_pos h0, i2, c2, b3])
  by_cases h2 : a2 = 1
  · exact SIMq.same H Q (r := nI (wy i)) (by simp only [X10_at, H.gw, H.size qw, Option.bind_some, p_within, h1, one0, if_false, if_neg h0, if_pos h2, H.way n qw hi]) (by simp only [rX11_at, rX11_at_b45, jq_l, qw.2.1, h1, one0, if_false, if_neg h0, if_pos h2, i2, c2, b4])
  · exact SIMq.same H Q (r := -2) (by simp only [X10_at, H.gw, H.size qw, Option.bind_some, p_within, h1, one0, if_false, if_neg h0, if_neg h2]) (by simp only [rX11_at, rX11_at_b45, jq_l, qw.2.1, h1, one0, if_false, if_neg h0, if_neg h2])
theorem S_often (hn : 3000 < n) (H : CI h ax c ev M W G rf R) (Q : REL c ev M W G R) : SIMq ax (fun h a => X10_often n h a a1 a2) (fun S => rX11_often n S a1 a2) h R := by
  obtain ⟨m, pl, wy, qw⟩ := Q.2.1
  rcases pf_63 a1 with h1 | ⟨h1, p, hp, rfl⟩
  · exact SIMq.same H Q (r := -1) (by simp only [X10_often, p_isPlace, Option.bind_some, h1, if_true]) (by simp only [rX11_often, jq_l, h1, if_true])
  rcases pf_m1 a2 with ⟨h3, h4, h5⟩ | ⟨rfl, h5⟩ | ⟨h3, h4, h5, w, hw, rfl⟩
  · exact SIMq.same H Q (r := -2) (by simp only [X10_often, X10_often_b55, p_isPlace, Option.bind_some, h1, one0, if_false, if_neg h3, p_isWay, h4, if_true]) (by simp only [rX11_often, rX11_often_b29, jq_l, h1, one0, if_false, h5, if_true])
  · have k0 : (if jq_ci h (ax + 8) = 6 then X7_count n h (ax + 8) (nI p) 0 else none) = some (nI (cnt pl wy p 0 m), h) := H.count n qw (w := 0) (by omega) (by decide)
    have k1 : (if jq_ci h (ax + 8) = 6 then X7_count n h (ax + 8) (nI p) 1 else none) = some (nI (cnt pl wy p 1 m), h) := H.count n qw (w := 1) (by omega) (by decide)
    exact SIMq.same H Q (r := nI (cnt pl wy p 0 m + cnt pl wy p 1 m)) (by simp only [X10_often, p_isPlace, Option.bind_some, h1, one0, if_false, if_true, H.gw, k0, k1, nI_add]) (by simp only [rX11_often, rX11_often_b29, jq_l, h1, one0, if_false, h5, L_timesA hn qw (show p < 64 by omega), Option.bind_some])
  · exact SIMq.same H Q (r := nI (cnt pl wy p w m)) (by simp only [X10_often, X10_often_b55, p_isPlace, Option.bind_some, h1, one0, if_false, if_neg h3, p_isWay, h4, H.gw, H.count n qw (show p < 64 by omega) hw]) (by simp only [rX11_often, rX11_often_b29, jq_l, h1, one0, if_false, h5, L_times hn qw (show p < 64 by omega) hw, Option.bind_some])
/-- the reference's numbers of the row alone are changed -/
theorem REL.row {W' R' : ob_S} (Q : REL c ev M W G R) (hW : ∃ m pl wy, RWq m pl wy W' R') (hk : ∀ k, k ≠ 9 → k ≠ 10 → k ≠ 11 → R' k = R k) : REL c ev M W' G R' := by
  obtain ⟨q1, -, qg, q8, q12, q20⟩ := Q
  exact ⟨q1.of (fun k hk2 => hk k (by omega) (by omega) (by omega)), hW, fun g hg => (qg g hg).of (fun k z1 z2 => hk k (by omega) (by omega) (by omega)), by rw [hk 8 (by decide) (by decide) (by decide)]; exact q8, by rw [hk 12 (by decide) (by decide) (by decide)]; exact q12, fun j z1 z2 => by rw [hk 20 (by decide) (by decide) (by decide)]; exact q20 j z1 z2⟩
theorem S_empty (hn : 3000 < n) (H : CI h ax c ev M W G rf R) (Q : REL c ev M W G R) : SIMq ax (fun h a => X10_empty n h a) (fun S => rX11_empty n S) h R := by
  obtain ⟨m, pl, wy, qw⟩ := Q.2.1
  have ec : rX7_clear n W = some (ob_fill (u2 W 5 0 0) 1 128 0) := by
    unfold rX7_clear
    simp only [jq_l]
    rw [if_pos (by omega)]
  obtain ⟨h', e, O⟩ := N_X7_clear (n := n) (H.2.2.1.f (w := 6)) ec
  refine ⟨nI m, h', c, ev, M, _, G, rf, u2 R 9 0 0, ?_, H.row O, ?_, Q.row ⟨0, pl, wy, ?_⟩ (fun k k1 k2 k3 => u2_ne k1)⟩
  · simp only [X10_empty, H.gw, H.size qw, Option.bind_some, if_pos H.2.2.1.ci, e]
  · simp only [rX11_empty, jq_l, qw.2.1]
  · refine ⟨by omega, by rw [u2_at]; rfl, ?_, fun i hi => by omega, fun p w hp hw => ?_, fun j hj => ?_⟩
    · unfold ob_fill
      rw [us_ne (by decide), u2_at]
      rfl
    · unfold ob_fill
      rw [us_eq, if_pos (by omega)]
      rfl
    · unfold ob_fill
      rw [us_ne (by decide), u2_ne (by decide)]
      exact qw.2.2.2.2.2 j hj
/-- one more in the row -/
theorem row_add {w : Nat} (n : Nat) (Q : RWq m pl wy W R) (hp : p < 64) (hw : w < 2) : ∃ W', rX7_add n W (nI p) (nI w) = some W' ∧ ∀ R1 : ob_S, (∀ k, 9 ≤ k → k ≤ 11 → R1 k = R k) → ∃ R' m' pl' wy', rX11_comes_b23 n (nI p) (nI w) R1 = some R' ∧ RWq m' pl' wy' W' R' ∧ R' 8 0 = R1 8 0 + 1 ∧ ∀ k, k ≠ 8 → k ≠ 9 → k ≠ 10 → k ≠ 11 → R' k = R1 k := by
  have Q0 := Q
  obtain ⟨hm, r9, w5, hr, hc, ht⟩ := Q
  have e2 : 2 * nI p + nI w = nI (2 * p + w) := by rw [nm2, nI_add]
  by_cases h3 : m < 3000
  · have c1 : (nI m).toNatClampNeg = m := n_cl (by omega)
    have i1 : ∀ {β : Type} (x : Option β), (if jq_in (nI m) 3000 then x else none) = x := fun x => n_ifin h3 (by decide)
    have c3 : (nI (2 * p + w)).toNatClampNeg = 2 * p + w := n_cl (by omega)
    have i3 : ∀ {β : Type} (x : Option β), (if jq_in (nI (2 * p + w)) 128 then x else none) = x := fun x => n_ifin (by omega) (by decide)
    have l1 : nI m < 3000 := (nI_ltI (b := 3000) (by omega) (by decide)).mpr h3
    have l2 : ¬ (3000 : Int32) ≤ nI m := fun q => by
      have := (nI_leI (a := 3000) (by decide) (by omega)).mp q
      omega
    refine ⟨u2 (u2 (u2 W 0 m (nI (2 * p + w))) 1 (2 * p + w) (W 1 (2 * p + w) + 1)) 5 0 (nI (m + 1)), ?_, fun R1 hR => ?_⟩
    · unfold rX7_add
      simp only [jq_l, w5, e2, i1, i3, c1, c3]
      rw [if_pos l1, u2_ne (show (1 : Nat) ≠ 0 by decide), u2_ne (show (5 : Nat) ≠ 1 by decide), u2_ne (show (5 : Nat) ≠ 0 by decide), w5, na1]
    · have R1q := Q0.of hR
      refine ⟨u2 (u2 (u2 (u2 R1 10 m (nI p)) 11 m (nI w)) 9 0 (nI (m + 1))) 8 0 (R1 8 0 + 1), m + 1, fun i => if i = m then p else pl i, fun i => if i = m then w else wy i, ?_, ⟨by omega, ?_, ?_, fun i hi => ?_, fun p' w' hp' hw' => ?_, fun j hj => ?_⟩, ?_, fun k k1 k2 k3 k4 => ?_⟩
      · have r9' : R1 9 0 = nI m := R1q.2.1
        have y1 : u2 R1 10 m (nI p) 9 0 = nI m := by rw [u2_ne (by decide)]; exact r9'
        have y2 : u2 (u2 R1 10 m (nI p)) 11 m (nI w) 9 0 = nI m := by rw [u2_ne (by decide)]; exact y1
        have y3 : u2 (u2 (u2 R1 10 m (nI p)) 11 m (nI w)) 9 0 (nI (m + 1)) 8 0 = R1 8 0 := by rw [u2_ne (by decide), u2_ne (by decide), u2_ne (by decide)]
        unfold rX11_comes_b23 rX11_comes_b63
        simp only [jq_l, r9', i1, c1, y1, y2, na1, y3]
        rw [if_neg l2]
      · rw [u2_ne (by decide), u2_at]
      · rw [u2_at]
      · rw [u2_ne (show (10 : Nat) ≠ 8 by decide), u2_ne (show (10 : Nat) ≠ 9 by decide), u2_ne (show (10 : Nat) ≠ 11 by decide), u2_eq, u2_ne (show (11 : Nat) ≠ 8 by decide), u2_ne (show (11 : Nat) ≠ 9 by decide), u2_eq, u2_ne (show (11 : Nat) ≠ 10 by decide), u2_ne (show (0 : Nat) ≠ 5 by decide), u2_ne (show (0 : Nat) ≠ 1 by decide), u2_eq]
        by_cases hi2 : i = m
        · subst hi2
          simp only [if_true, pk_us]
          exact ⟨hp, hw, trivial, trivial, trivial⟩
        · simp only [if_neg hi2]
          rw [pk_un hi2, pk_un hi2, pk_un hi2]
          obtain ⟨b1, b2, b3, b4, b5⟩ := R1q.2.2.2.1 i (by omega)
          exact ⟨b1, b2, b3, b4, b5⟩
      · rw [u2_ne (show (1 : Nat) ≠ 5 by decide), u2_eq, u2_ne (show (1 : Nat) ≠ 0 by decide)]
        have e : cnt (fun i => if i = m then p else pl i) (fun i => if i = m then w else wy i) p' w' (m + 1) = cnt pl wy p' w' m + (if p = p' ∧ w = w' then 1 else 0) := by
          show cnt _ _ p' w' m + (if (if m = m then p else pl m) = p' ∧ (if m = m then w else wy m) = w' then 1 else 0) = _
          rw [if_pos rfl, if_pos rfl, cnt_congr m (fun i hi => ⟨if_neg (by omega), if_neg (by omega)⟩)]
        rw [e]
        by_cases q : 2 * p' + w' = 2 * p + w
        · have hpp : p = p' ∧ w = w' := by omega
          rw [if_pos hpp, q, pk_us, ← hpp.1, ← hpp.2, hc p w hp hw, na1]
        · rw [if_neg (by omega), pk_un q, hc p' w' hp' hw', Nat.add_zero]
      · rw [u2_ne (show (2 : Nat) ≠ 5 by decide), u2_ne (show (2 : Nat) ≠ 1 by decide), u2_ne (show (2 : Nat) ≠ 0 by decide)]
        exact ht j hj
      · rw [u2_at]
      · rw [u2_ne k1, u2_ne k2, u2_ne k4, u2_ne k3]
  · have hm3 : m = 3000 := by omega
    refine ⟨W, ?_, fun R1 hR => ?_⟩
    · unfold rX7_add
      simp only [jq_l, w5]
      rw [if_neg (by subst hm3; decide)]
    · have R1q := Q0.of hR
      refine ⟨u2 R1 8 0 (R1 8 0 + 1), m, pl, wy, ?_, R1q.of (fun k k1 k2 => u2_ne (by omega)), ?_, fun k k1 _ _ _ => u2_ne k1⟩
      · have r9' : R1 9 0 = nI m := R1q.2.1
        unfold rX11_comes_b23 rX11_comes_b63
        simp only [jq_l, r9']
        rw [if_pos (by subst hm3; decide)]
      · rw [u2_at]
end ROW
