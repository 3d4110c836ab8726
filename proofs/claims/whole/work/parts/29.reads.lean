/-! ===== calls that look at a guesser ===== -/
theorem gk_ns_le {kd a b c : Nat} (hk : gkOK kd a b c) : gk_ns kd a c ≤ 256 := by
  obtain ⟨h8, -, k1, k2, k3, k4, k5, -, k7⟩ := hk
  unfold gk_ns
  by_cases hc : sp_cl kd = true
  · rw [if_pos hc]
    by_cases h7 : kd = 7
    · rw [if_pos h7]
      exact two_lt (by omega)
    · rw [if_neg h7]
      have : kd = 1 ∨ kd = 2 ∨ kd = 3 ∨ kd = 5 := by
        rcases (show kd = 0 ∨ kd = 1 ∨ kd = 2 ∨ kd = 3 ∨ kd = 4 ∨ kd = 5 ∨ kd = 6 ∨ kd = 7 by omega) with rfl | rfl | rfl | rfl | rfl | rfl | rfl | rfl
        all_goals first | omega | (exact absurd hc (by decide))
      exact two_lt (by omega)
  · rw [if_neg hc]
    omega
theorem LR.congr {kd a b c : Nat} {nb nb' : Nat → Int32} {S : ob_S} (hk : gkOK kd a b c) (h : ∀ i, i < 812 → nb' i = nb i) (R : LR kd a b c nb S) : LR kd a b c nb' S := by
  obtain ⟨r0, r1, r2, r3, r4, r5, r6, r7, r8, r9⟩ := R
  have hns := gk_ns_le hk
  refine ⟨fun j hj => ?_, fun s hs => ?_, fun p hp => ?_, fun p hp => ?_, fun i hi => ?_, ?_, ?_, ?_, ?_, ?_⟩
  · have := ix_lt hk hj
    rw [h _ (by omega)]; exact r0 j hj
  · rw [h _ (by omega)]; exact r1 s hs
  · rw [h _ (by omega)]; exact r2 p hp
  · rw [h _ (by omega)]; exact r3 p hp
  · rw [h _ (by omega)]; exact r4 i hi
  · rw [h _ (by omega)]; exact r5
  · rw [h _ (by omega)]; exact r6
  · rw [r7]; exact bx_congr (fun q hq => (h _ (by omega)).symm)
  · rw [h _ (by omega)]; exact r8
  · rw [h _ (by omega)]; exact r9
theorem BW.congr {kd : Nat} {nb nb' : Nat → Int32} (h : ∀ i, i < 812 → nb' i = nb i) (B : BW kd nb) : BW kd nb' := by
  obtain ⟨b1, b2, b3, b4, b5, b6⟩ := B
  refine ⟨b1.of (h _ (by omega)) (fun p hp => h _ (by omega)), by rw [h _ (by omega)]; exact b2, fun s hs => by rw [h _ (by omega)]; exact b3 s hs, fun q j hj => by rw [h _ (by omega)]; exact b4 q j hj, fun q j hj => by rw [h _ (by omega)]; exact b5 q j hj, fun q p hp => by rw [h _ (by omega), h _ (by omega)]; exact b6 q p hp⟩
theorem RGq.of2 {R R' : ob_S} {g : Nat} {x : gd} (H : RGq R g x) (hs : ∀ k, k = 13 ∨ k = 14 ∨ k = 15 ∨ k = 16 → R' k g = R k g) (h17 : ∀ p, p < 64 → R' 17 (64 * g + p) = R 17 (64 * g + p)) (h18 : ∀ i, i < 812 → R' 18 (812 * g + i) = R 18 (812 * g + i)) (h19 : ∀ k i, k < 2 → i < 812 → R' 19 (812 * (2 * g + k) + i) = R 19 (812 * (2 * g + k) + i)) (h20 : ∀ k, k < 2 → R' 20 (2 * g + k) = R 20 (2 * g + k)) : RGq R' g x := by
  obtain ⟨h1, ⟨s1, s2, s3, s4⟩, h3, h4, h5, h6, h7, h8⟩ := H
  refine ⟨h1, ⟨by rw [hs 13 (by decide)]; exact s1, by rw [hs 14 (by decide)]; exact s2, by rw [hs 15 (by decide)]; exact s3, by rw [hs 16 (by decide)]; exact s4⟩, h3, fun p hp => by rw [h17 p hp]; exact h4 p hp, h5.congr h1 h18, h6.congr h18, h7, fun k hk => ?_⟩
  rcases h8 k hk with ⟨q1, q2⟩ | ⟨q, q1, q2, q3, q4⟩
  · exact Or.inl ⟨q1, by rw [h20 k hk]; exact q2⟩
  · exact Or.inr ⟨q, q1, by rw [h20 k hk]; exact q2, q3.congr h1 (fun i hi => h19 k i hk hi), q4.congr (fun i hi => h19 k i hk hi)⟩
theorem L_isG {n c : Nat} {S : ob_S} {x : Int32} (h : S 12 0 = nI c) : rX11_isGuesser n S x = some (pf_in x 0 (nI c - 1), S) := by
  unfold rX11_isGuesser
  simp only [jq_l, h]
  rw [if_pos (pf_in01 _ _ _)]
theorem miss_loop {n g : Nat} {S : ob_S} {K : Int32 → ob_S → Option (Int32 × ob_S)} (hg : g < 8) :
    ∀ (k j : Nat), j ≤ 64 → 64 < j + k → rX11_missesOf_l4 n K k (nI g) (bx_sum (fun p => nbS S g (448 + p)) j) (nI j) S = K (bx_sum (fun p => nbS S g (448 + p)) 64) S := by
  intro k
  induction k with
  | zero => intro j h1 h2; exfalso; omega
  | succ k ih =>
    intro j h1 h2
    show rX11_missesOf_b4 n (rX11_missesOf_l4 n K k) K _ _ _ _ = _
    unfold rX11_missesOf_b4
    by_cases hj : j = 64
    · subst hj
      rw [if_pos (by decide)]
    · have hle : ¬ (64 : Int32) ≤ nI j := fun q => by
        have := (nI_leI (a := 64) (by decide) (by omega)).mp q
        omega
      rw [if_neg hle]
      have e : ((812 * nI g) + 448) + nI j = nI (812 * g + (448 + j)) := by
        rw [nm812, na448, nI_add, Nat.add_assoc]
      have c2 : (nI (812 * g + (448 + j))).toNatClampNeg = 812 * g + (448 + j) := n_cl (by omega)
      have i2 : ∀ {β : Type} (x : Option β), (if jq_in (nI (812 * g + (448 + j))) 6496 then x else none) = x := fun x => n_ifin (by omega) (by decide)
      simp only [jq_l, e, c2, i2, na1]
      exact ih (j + 1) (by omega) (by omega)
theorem L_missesOf {n g : Nat} {S : ob_S} (hn : 64 < n) (hg : g < 8) : rX11_missesOf n S (nI g) = some (bx_sum (fun p => nbS S g (448 + p)) 64, S) := by
  unfold rX11_missesOf
  exact miss_loop (n := n) (S := S) (K := fun w2 SS => rX11_missesOf_b35 n w2 SS) hg n 0 (by omega) (by omega)
section READS
variable {n ax c : Nat} {ev : Int32} {M W R : ob_S} {G : Nat → gd} {rf : Nat → Option Nat} {h : jq_H} {a1 a2 a3 : Int32} {g : Nat}
theorem CI.c8 (H : CI h ax c ev M W G rf R) : c ≤ 8 := H.2.2.2.2.2.1
theorem CI.isG' (n : Nat) (H : CI h ax c ev M W G rf R) (x : Int32) : (if jq_ci h ax = 9 then X10_isGuesser n h ax x else none) = some (pf_in x 0 (nI c - 1), h) := by
  rw [if_pos H.ci, H.isG]
theorem CI.go (H : CI h ax c ev M W G rf R) (hg : g < c) : GO h (g_ga (G g)) (g_kd (G g)) (g_a (G g)) (g_b (G g)) (g_c (G g)) (ax + 1) (g_ga (G (g_a (G g)))) (g_ga (G (g_b (G g)))) (g_sd (G g)) := (H.gh hg).1
theorem CI.now (H : CI h ax c ev M W G rf R) (hg : g < c) : jq_gR [0, 1, 2, 4, 7, 8] 3 h (g_ga (G g)) = some (g_ga (G g) + 9) := rdR (H.go hg) (gk_in _) rfl
theorem CI.ob (H : CI h ax c ev M W G rf R) (hg : g < c) : OB h (g_ga (G g) + 9) 3 (g_sh (G g)) (g_L (G g)) := (H.gh hg).2.2.2.2.1
theorem REL.gq (Q : REL c ev M W G R) (hg : g < c) : RGq R g (G g) := Q.2.2.1 g hg
theorem REL.isG (n : Nat) (Q : REL c ev M W G R) (x : Int32) : rX11_isGuesser n R x = some (pf_in x 0 (nI c - 1), R) := L_isG Q.2.2.2.2.1
theorem S_asked (H : CI h ax c ev M W G rf R) (Q : REL c ev M W G R) : SIMq ax (fun h a => X10_asked n h a a1) (fun S => rX11_asked n S a1) h R := by
  have h8 := H.c8
  rcases pf_g (x := a1) H.c8 with ⟨h1, -⟩ | ⟨h1, g, hg, rfl⟩
  · exact SIMq.same H Q (r := -1) (by simp only [X10_asked, X10_asked_b24, H.isG', Option.bind_some, h1, if_true]) (by simp only [rX11_asked, rX11_asked_b26, Q.isG, Option.bind_some, h1, if_true])
  · have e6 : jq_gI [3] 6 h (g_ga (G g) + 9) = some (R 18 (812 * g + 809)) := by
      rw [ob_gI (H.ob hg) (k := 6) rfl (by decide), (Q.gq hg).2.2.2.2.1.2.2.2.2.2.2.1]
      rfl
    refine SIMq.same H Q (r := R 18 (812 * g + 809)) ?_ ?_
    · simp only [X10_asked, X10_asked_b24, H.isG', Option.bind_some, h1, one0, if_false, H.gg, H.ld hg, H.now hg, e6]
    · have c2 : (nI (812 * g + 809)).toNatClampNeg = 812 * g + 809 := n_cl (by omega)
      have i2 : ∀ {β : Type} (x : Option β), (if jq_in (nI (812 * g + 809)) 6496 then x else none) = x := fun x => n_ifin (by omega) (by decide)
      simp only [rX11_asked, rX11_asked_b26, Q.isG, Option.bind_some, h1, one0, if_false, nm812, na809, c2, i2, jq_l]
theorem CI.miss (H : CI h ax c ev M W G rf R) (Q : REL c ev M W G R) (hg : g < c) : jq_gI [3] 7 h (g_ga (G g) + 9) = some (bx_sum (fun p => nbS R g (448 + p)) 64) := by
  rw [ob_gI (H.ob hg) (k := 7) rfl (by decide), (Q.gq hg).2.2.2.2.1.2.2.2.2.2.2.2.1]
theorem pf_m63 (x : Int32) : (¬ x = -1 ∧ pf_in x 0 63 = 0 ∧ pf_in x (-1) 63 = 0) ∨ (x = -1 ∧ pf_in x (-1) 63 = 1) ∨ (¬ x = -1 ∧ pf_in x 0 63 = 1 ∧ pf_in x (-1) 63 = 1 ∧ ∃ p, p < 64 ∧ x = nI p) := by
  rcases pf_63 x with h | ⟨h, p, hp, rfl⟩
  · by_cases hx : x = -1
    · subst hx
      exact Or.inr (Or.inl ⟨rfl, by decide⟩)
    · refine Or.inl ⟨hx, h, ?_⟩
      unfold pf_in at h ⊢
      split at h
      · exact absurd h (by decide)
      · rename_i hh
        rw [if_neg]
        rintro ⟨q1, q2⟩
        apply hh
        refine ⟨?_, q2⟩
        rw [Int32.le_iff_toInt_le] at q1 ⊢
        have hne : x.toInt ≠ (-1 : Int32).toInt := fun q => hx (Int32.toInt_inj.mp q)
        have t1 : (-1 : Int32).toInt = -1 := by decide
        have t0 : (0 : Int32).toInt = 0 := by decide
        omega
  · refine Or.inr (Or.inr ⟨nI_ne_m1 (by omega), h, ?_, p, by omega, rfl⟩)
    unfold pf_in
    have hm : (-1 : Int32) ≤ nI p := Int32.le_trans (by decide) (nI_pos' (by omega) : 0 ≤ nI p)
    rw [if_pos ⟨hm, nI_le (b := 63) hp (by decide)⟩]
theorem pf_m1 (x : Int32) : (¬ x = -1 ∧ pf_isWay x = 0 ∧ pf_in x (-1) 1 = 0) ∨ (x = -1 ∧ pf_in x (-1) 1 = 1) ∨ (¬ x = -1 ∧ pf_isWay x = 1 ∧ pf_in x (-1) 1 = 1 ∧ ∃ p, p < 2 ∧ x = nI p) := by
  by_cases hx : x = -1
  · subst hx
    exact Or.inr (Or.inl ⟨rfl, by decide⟩)
  by_cases h0 : x = 0
  · subst h0
    exact Or.inr (Or.inr ⟨by decide, by decide, by decide, 0, by decide, rfl⟩)
  by_cases h1 : x = 1
  · subst h1
    exact Or.inr (Or.inr ⟨by decide, by decide, by decide, 1, by decide, rfl⟩)
  refine Or.inl ⟨hx, ?_, ?_⟩
  · unfold pf_isWay
    rw [if_neg (fun q => q.elim h0 h1)]
  · unfold pf_in
    rw [if_neg]
    rintro ⟨q1, q2⟩
    rw [Int32.le_iff_toInt_le] at q1 q2
    have n1 : x.toInt ≠ (-1 : Int32).toInt := fun q => hx (Int32.toInt_inj.mp q)
    have n2 : x.toInt ≠ (0 : Int32).toInt := fun q => h0 (Int32.toInt_inj.mp q)
    have n3 : x.toInt ≠ (1 : Int32).toInt := fun q => h1 (Int32.toInt_inj.mp q)
    have t1 : (-1 : Int32).toInt = -1 := by decide
    have t0 : (0 : Int32).toInt = 0 := by decide
    have t2 : (1 : Int32).toInt = 1 := by decide
    omega
theorem m1_nle : (0 ≤ (-1 : Int32)) = False := eq_false (by decide)
theorem S_misses (hn : 100 < n) (H : CI h ax c ev M W G rf R) (Q : REL c ev M W G R) : SIMq ax (fun h a => X10_misses n h a a1 a2) (fun S => rX11_misses n S a1 a2) h R := by
  have h8 := H.c8
  rcases pf_g (x := a1) H.c8 with ⟨h1, -⟩ | ⟨h1, g, hg, rfl⟩
  · exact SIMq.same H Q (r := -1) (by simp only [X10_misses, H.isG', Option.bind_some, h1, if_true]) (by simp only [rX11_misses, rX11_misses_b18, Q.isG, Option.bind_some, h1, if_true])
  rcases pf_m63 a2 with ⟨h2, h3, h4⟩ | ⟨rfl, h4⟩ | ⟨h2, h3, h4, p, hp, rfl⟩
  · exact SIMq.same H Q (r := -1) (by simp only [X10_misses, X10_misses_b53, H.isG', Option.bind_some, h1, one0, if_false, if_neg h2, p_isPlace, h3, if_true]) (by simp only [rX11_misses, rX11_misses_b18, Q.isG, Option.bind_some, h1, one0, if_false, jq_l, h4, if_true])
  · refine SIMq.same H Q (r := bx_sum (fun p => nbS R g (448 + p)) 64) ?_ ?_
    · simp only [X10_misses, H.isG', Option.bind_some, h1, one0, if_false, if_true, H.gg, H.ld hg, H.now hg, H.miss Q hg]
    · simp only [rX11_misses, rX11_misses_b48, Q.isG, Option.bind_some, h1, one0, if_false, jq_l, h4, m1_nle, L_missesOf (S := R) (show 64 < n by omega) (show g < 8 by omega)]
  · have e3 : jq_gR [3] 3 h (g_ga (G g) + 9) = some (g_ga (G g) + 9 + 2) := ob_gR (t := 0) (H.ob hg) (k := 3) rfl (by decide)
    have e4 : jq_ldI 0 h (g_ga (G g) + 9 + 2) (nI p) = some (R 18 (812 * g + (448 + p))) := by
      have := ob_ld (t := 0) (H.ob hg) (k := 3) rfl (jq_inN' (n := 64) hp (by decide))
      rw [n_cl (by omega), (Q.gq hg).2.2.2.2.1.2.2.2.1 p hp] at this
      exact this
    refine SIMq.same H Q (r := R 18 (812 * g + (448 + p))) ?_ ?_
    · simp only [X10_misses, X10_misses_b53, H.isG', Option.bind_some, h1, one0, if_false, if_neg h2, p_isPlace, h3, H.gg, H.ld hg, H.now hg, e3, e4]
    · have e : ((812 * nI g) + 448) + nI p = nI (812 * g + (448 + p)) := by
        rw [nm812, na448, nI_add, Nat.add_assoc]
      have c2 : (nI (812 * g + (448 + p))).toNatClampNeg = 812 * g + (448 + p) := n_cl (by omega)
      have i2 : ∀ {β : Type} (x : Option β), (if jq_in (nI (812 * g + (448 + p))) 6496 then x else none) = x := fun x => n_ifin (by omega) (by decide)
      have z : (0 ≤ nI p) = True := eq_true (nI_pos' (by omega))
      simp only [rX11_misses, rX11_misses_b48, Q.isG, Option.bind_some, h1, one0, if_false, jq_l, h4, z, if_true, e, c2, i2]
theorem S_ticks (hn : 100 < n) (H : CI h ax c ev M W G rf R) (Q : REL c ev M W G R) : SIMq ax (fun h a => X10_ticks n h a a1 a2) (fun S => rX11_ticks n S a1 a2) h R := by
  have h8 := H.c8
  rcases pf_g (x := a1) H.c8 with ⟨h1, -⟩ | ⟨h1, g, hg, rfl⟩
  · exact SIMq.same H Q (r := -1) (by simp only [X10_ticks, H.isG', Option.bind_some, h1, if_true]) (by simp only [rX11_ticks, Q.isG, Option.bind_some, h1, if_true])
  rcases pf_in01 a2 0 100 with h2 | h2
  · exact SIMq.same H Q (r := -2) (by simp only [X10_ticks, H.isG', Option.bind_some, h1, one0, if_false, p_within, h2, if_true]) (by simp only [rX11_ticks, rX11_ticks_b37, Q.isG, Option.bind_some, h1, one0, if_false, jq_l, h2, if_true])
  · have e7 : jq_gI [5] 7 h (ax + 1) = some (R 7 0) := by
      rw [ob_gI H.2.1 (k := 7) rfl (by decide), Q.1.1 7 (by decide)]
    refine SIMq.same H Q (r := R 7 0 + a2 * bx_sum (fun p => nbS R g (448 + p)) 64) ?_ ?_
    · simp only [X10_ticks, H.isG', Option.bind_some, h1, one0, if_false, p_within, h2, H.gm, e7, H.gg, H.ld hg, H.now hg, H.miss Q hg]
    · simp only [rX11_ticks, rX11_ticks_b37, Q.isG, Option.bind_some, h1, one0, if_false, jq_l, h2, L_missesOf (S := R) (show 64 < n by omega) (show g < 8 by omega)]
theorem CI.clash (n : Nat) (H : CI h ax c ev M W G rf R) (Q : REL c ev M W G R) (hg : g < c) : V_canClash n h (g_ga (G g)) = some ((if sp_cl (g_kd (G g)) = true then 1 else 0), h) := by
  have hk := (Q.gq hg).1
  have h8 := hk.1
  have hci : jq_ci h (g_ga (G g)) = gk_ci (g_kd (G g)) := rdC (H.go hg)
  have hns := gk_ns_le hk
  have e1 : jq_gR [3] 1 h (g_ga (G g) + 9) = some (g_ga (G g) + 9 + 5) := ob_gR (t := 0) (H.ob hg) (k := 1) rfl (by decide)
  have e2 : jq_len h (g_ga (G g) + 9 + 5) = some (nI (gk_ns (g_kd (G g)) (g_a (G g)) (g_c (G g)))) := ob_len (t := 0) (H.ob hg) (k := 1) rfl (by decide)
  have key : X3_canClash n h (g_ga (G g)) = some ((if sp_cl (g_kd (G g)) = true then 1 else 0), h) := by
    unfold X3_canClash X3_canClash_b16
    rw [H.now hg, Option.bind_some, e1, Option.bind_some, e2, Option.bind_some]
    by_cases hc : sp_cl (g_kd (G g)) = true
    · have hp : 0 < gk_ns (g_kd (G g)) (g_a (G g)) (g_c (G g)) := by
        unfold gk_ns
        rw [if_pos hc]
        split <;> exact Nat.two_pow_pos _
      rw [if_neg (nI_nle hp (by omega)), if_pos hc]
      rfl
    · have hp : gk_ns (g_kd (G g)) (g_a (G g)) (g_c (G g)) = 0 := by
        unfold gk_ns
        rw [if_neg hc]
      rw [hp, if_pos (by decide), if_neg hc]
      rfl
  rw [← key]
  unfold V_canClash
  rw [hci]
  generalize g_kd (G g) = kd at h8
  rcases (show kd = 0 ∨ kd = 1 ∨ kd = 2 ∨ kd = 3 ∨ kd = 4 ∨ kd = 5 ∨ kd = 6 ∨ kd = 7 by omega) with rfl | rfl | rfl | rfl | rfl | rfl | rfl | rfl <;> rfl
theorem S_clashes (H : CI h ax c ev M W G rf R) (Q : REL c ev M W G R) : SIMq ax (fun h a => X10_clashes n h a a1) (fun S => rX11_clashes n S a1) h R := by
  have h8 := H.c8
  rcases pf_g (x := a1) H.c8 with ⟨h1, -⟩ | ⟨h1, g, hg, rfl⟩
  · exact SIMq.same H Q (r := -1) (by simp only [X10_clashes, H.isG', Option.bind_some, h1, if_true]) (by simp only [rX11_clashes, rX11_clashes_b39, Q.isG, Option.bind_some, h1, if_true])
  have hq := Q.gq hg
  have hc1 := L_clashes1 (n := n) (S := R) (kd := g_kd (G g)) (show g < 8 by omega) hq.1.1 hq.2.1.1
  by_cases hc : sp_cl (g_kd (G g)) = true
  · rw [if_pos hc] at hc1
    have hc2 := H.clash n Q hg
    rw [if_pos hc] at hc2
    have e6 : jq_gI [3] 8 h (g_ga (G g) + 9) = some (R 18 (812 * g + 810)) := by
      rw [ob_gI (H.ob hg) (k := 8) rfl (by decide), hq.2.2.2.2.1.2.2.2.2.2.2.2.2.1]
      rfl
    refine SIMq.same H Q (r := R 18 (812 * g + 810)) ?_ ?_
    · simp only [X10_clashes, X10_clashes_b39, H.isG', Option.bind_some, h1, one0, if_false, H.gg, H.ld hg, hc2, H.now hg, e6]
    · have c2 : (nI (812 * g + 810)).toNatClampNeg = 812 * g + 810 := n_cl (by omega)
      have i2 : ∀ {β : Type} (x : Option β), (if jq_in (nI (812 * g + 810)) 6496 then x else none) = x := fun x => n_ifin (by omega) (by decide)
      simp only [rX11_clashes, rX11_clashes_b39, Q.isG, Option.bind_some, h1, one0, if_false, hc1, nm812, na810, c2, i2, jq_l]
  · rw [if_neg hc] at hc1
    have hc2 := H.clash n Q hg
    rw [if_neg hc] at hc2
    exact SIMq.same H Q (r := -5) (by simp only [X10_clashes, X10_clashes_b39, H.isG', Option.bind_some, h1, one0, if_false, H.gg, H.ld hg, hc2, if_true]) (by simp only [rX11_clashes, rX11_clashes_b39, Q.isG, Option.bind_some, h1, one0, if_false, hc1, if_true])
theorem S_pair (H : CI h ax c ev M W G rf R) (Q : REL c ev M W G R) : SIMq ax (fun h a => X10_pair n h a a1 a2) (fun S => rX11_pair n S a1 a2) h R := by
  have h8 := H.c8
  rcases pf_g (x := a1) H.c8 with ⟨h1, -⟩ | ⟨h1, g, hg, rfl⟩
  · exact SIMq.same H Q (r := -1) (by simp only [X10_pair, H.isG', Option.bind_some, h1, if_true]) (by simp only [rX11_pair, Q.isG, Option.bind_some, h1, if_true])
  have hq := Q.gq hg
  have hc1 := L_clashes1 (n := n) (S := R) (kd := g_kd (G g)) (show g < 8 by omega) hq.1.1 hq.2.1.1
  by_cases hc : sp_cl (g_kd (G g)) = true
  · rw [if_pos hc] at hc1
    have hc2 := H.clash n Q hg
    rw [if_pos hc] at hc2
    obtain ⟨m, hm, em⟩ := hq.2.2.2.2.2.1.2.1
    have em' : R 18 (812 * g + 811) = nI m := em
    have e9 : jq_gI [3] 9 h (g_ga (G g) + 9) = some (nI m) := by
      rw [ob_gI (H.ob hg) (k := 9) rfl (by decide), hq.2.2.2.2.1.2.2.2.2.2.2.2.2.2, em]
    have c2 : (nI (812 * g + 811)).toNatClampNeg = 812 * g + 811 := n_cl (by omega)
    have i2 : ∀ {β : Type} (x : Option β), (if jq_in (nI (812 * g + 811)) 6496 then x else none) = x := fun x => n_ifin (by omega) (by decide)
    have hlim : pf_in a2 0 (nI m - 1) = 0 ∨ (pf_in a2 0 (nI m - 1) = 1 ∧ ∃ i, i < m ∧ a2 = nI i) := by
      cases m with
      | zero =>
        rcases pf_g (x := a2) (Nat.zero_le 8) with ⟨q, -⟩ | ⟨-, i, hi, -⟩
        · exact Or.inl q
        · omega
      | succ m =>
        rw [nI_pred]
        rcases pf_lim m (by omega) a2 with q | ⟨q, i, hi, e⟩
        · exact Or.inl q
        · exact Or.inr ⟨q, i, by omega, e⟩
    rcases hlim with h2 | ⟨h2, i, hi, rfl⟩
    · exact SIMq.same H Q (r := -6) (by simp only [X10_pair, X10_pair_b60, H.isG', Option.bind_some, h1, one0, if_false, H.gg, H.ld hg, hc2, H.now hg, e9, p_within, h2, if_true]) (by simp only [rX11_pair, rX11_pair_b66, Q.isG, Option.bind_some, h1, one0, if_false, hc1, nm812, na811, c2, i2, jq_l, em', h2, if_true])
    · have e4 : jq_gR [3] 4 h (g_ga (G g) + 9) = some (g_ga (G g) + 9 + 3) := ob_gR (t := 0) (H.ob hg) (k := 4) rfl (by decide)
      have e5 : jq_ldI 0 h (g_ga (G g) + 9 + 3) (nI i) = some (R 18 (812 * g + (768 + i))) := by
        have := ob_ld (t := 0) (H.ob hg) (k := 4) rfl (jq_inN' (n := 40) (show i < 40 by omega) (by decide))
        rw [n_cl (by omega), hq.2.2.2.2.1.2.2.2.2.1 i (by omega)] at this
        exact this
      have e : ((812 * nI g) + 768) + nI i = nI (812 * g + (768 + i)) := by
        rw [nm812, na768, nI_add, Nat.add_assoc]
      have e' : nI (812 * g) + 768 + nI i = nI (812 * g + (768 + i)) := by rw [na768, nI_add, Nat.add_assoc]
      have c3 : (nI (812 * g + (768 + i))).toNatClampNeg = 812 * g + (768 + i) := n_cl (by omega)
      have i3 : ∀ {β : Type} (x : Option β), (if jq_in (nI (812 * g + (768 + i))) 6496 then x else none) = x := fun x => n_ifin (by omega) (by decide)
      exact SIMq.same H Q (r := R 18 (812 * g + (768 + i))) (by simp only [X10_pair, X10_pair_b60, H.isG', Option.bind_some, h1, one0, if_false, H.gg, H.ld hg, hc2, H.now hg, e9, p_within, h2, e4, e5]) (by simp only [rX11_pair, rX11_pair_b66, Q.isG, Option.bind_some, h1, one0, if_false, hc1, nm812, na811, c2, i2, jq_l, em', h2, e', c3, i3])
  · rw [if_neg hc] at hc1
    have hc2 := H.clash n Q hg
    rw [if_neg hc] at hc2
    exact SIMq.same H Q (r := -5) (by simp only [X10_pair, H.isG', Option.bind_some, h1, one0, if_false, H.gg, H.ld hg, hc2, if_true]) (by simp only [rX11_pair, Q.isG, Option.bind_some, h1, one0, if_false, hc1, if_true])
theorem CI.hput {p : Nat} {v : Int32} (H : CI h ax c ev M W G rf R) (hg : g < c) (hp : p < 64) : ∃ h', jq_stI h (g_ga (G g) + 1) (nI p) v = some h' ∧ CI h' ax c ev M W (gup G g ((G g).1, upd (g_hf (G g)) p v, (G g).2.2)) rf R := by
  obtain ⟨k1, k2, k3, k4, k5, k6⟩ := H.gh hg
  have hD := H.2.2.2.2.1.2.2.2.2.2 g hg
  have ne : ∀ y, y ≠ g_ga (G g) + 1 → va_up h.2 (g_ga (G g) + 1) (some (.inl (0, 64, .inl (upd (g_hf (G g)) p v)))) y = h.2 y := fun y hy => up_ne hy
  refine ⟨(h.1, va_up h.2 (g_ga (G g) + 1) (some (.inl (0, 64, .inl (upd (g_hf (G g)) p v))))), ?_, H.gu hg rfl ⟨k1.of (ne (g_ga (G g)) (by omega)), up_at, (ne (g_ga (G g) + 2) (by omega)).trans k3, k4.kept (ok_L _ _) (by decide) (fun y q1 q2 => ne y (by omega)), k5.kept (ok_L _ _) (by decide) (fun y q1 q2 => ne y (by omega)), fun k q hk hq => (k6 k q hk hq).kept (ok_L _ _) (by decide) (fun y q1 q2 => ne y (by have := (hD k q hk hq).1; omega))⟩ hD (Nat.le_refl _) (fun y hy => Or.inl hy) (fun y q1 q2 => ne y (fun e => q2 (Or.inl ⟨by omega, by omega⟩)))⟩
  unfold jq_stI
  rw [k2]
  simp only
  rw [if_pos ⟨trivial, jq_inN' hp (by decide)⟩, n_cl (by omega)]
/-- one hint is changed alike on both sides -/
theorem REL.hput {p : Nat} {v : Int32} (Q : REL c ev M W G R) (hg : g < c) (hp : p < 64) (hv : hintOK v) : REL c ev M W (gup G g ((G g).1, upd (g_hf (G g)) p v, (G g).2.2)) (u2 R 17 (64 * g + p) v) := by
  obtain ⟨q1, ⟨m, pl, wy, qw⟩, qg, q8, q12, q20⟩ := Q
  refine ⟨q1.of (fun k hk => u2_ne (by omega)), ⟨m, pl, wy, qw.of (fun k z1 z2 => u2_ne (by omega))⟩, fun g' hg' => ?_, by rw [u2_ne (by decide)]; exact q8, by rw [u2_ne (by decide)]; exact q12, fun j z1 z2 => by rw [u2_ne (by decide)]; exact q20 j z1 z2⟩
  by_cases e : g' = g
  · subst e
    rw [gup_at]
    obtain ⟨h1, h2, h3, h4, h5, h6, h7, h8⟩ := qg g' hg'
    have y18 : nbS (u2 R 17 (64 * g' + p) v) g' = nbS R g' := by
      unfold nbS
      rw [u2_ne (by decide)]
    have y19 : ∀ k, kbS (u2 R 17 (64 * g' + p) v) g' k = kbS R g' k := by
      intro k
      unfold kbS
      rw [u2_ne (by decide)]
    refine ⟨h1, h2.bs _ (fun k hk => u2_ne (by omega)), h3, fun q hq => ?_, by rw [y18]; exact h5, by rw [y18]; exact h6, h7, fun k hk => by rw [u2_ne (by decide), y19]; exact h8 k hk⟩
    show upd (g_hf (G g')) p v q = _ ∧ hintOK (upd (g_hf (G g')) p v q)
    by_cases e : q = p
    · subst e
      rw [pk_us, u2_at]
      exact ⟨rfl, hv⟩
    · rw [pk_un e, u2_eq, pk_un (by omega)]
      exact h4 q hq
  · rw [gup_ne e]
    refine (qg g' hg').of2 (fun k hk => by rw [u2_ne (by omega)]) (fun q hq => ?_) (fun i hi => by rw [u2_ne (by decide)]) (fun k i hk hi => by rw [u2_ne (by decide)]) (fun k hk => by rw [u2_ne (by decide)])
    rw [u2_eq, pk_un (by omega)]
theorem S_hint (H : CI h ax c ev M W G rf R) (Q : REL c ev M W G R) : SIMq ax (fun h a => X10_hint n h a a1 a2 a3) (fun S => rX11_hint n S a1 a2 a3) h R := by
  have h8 := H.c8
  rcases pf_g (x := a1) H.c8 with ⟨h1, -⟩ | ⟨h1, g, hg, rfl⟩
  · exact SIMq.same H Q (r := -1) (by simp only [X10_hint, X10_hint_b15, H.isG', Option.bind_some, h1, if_true]) (by simp only [rX11_hint, rX11_hint_b15, Q.isG, Option.bind_some, h1, if_true])
  rcases pf_63 a2 with h2 | ⟨h2, p, hp, rfl⟩
  · exact SIMq.same H Q (r := -1) (by simp only [X10_hint, X10_hint_b15, H.isG', Option.bind_some, h1, one0, if_false, p_isPlace, h2, if_true]) (by simp only [rX11_hint, rX11_hint_b15, Q.isG, Option.bind_some, h1, one0, if_false, jq_l, h2, if_true])
  have fin : ∀ {v : Int32}, hintOK v → pf_in v (-1) 1 = 1 → SIMq ax (fun h a => X10_hint_b32 n a (nI g) (nI p) v h) (fun S => rX11_hint n S (nI g) (nI p) v) h R := by
    intro v hv hv2
    obtain ⟨h', e, H'⟩ := H.hput (v := v) hg (show p < 64 by omega)
    have e0 : jq_gR [0, 1, 2, 4, 7, 8] 0 h (g_ga (G g)) = some (g_ga (G g) + 1) := rdR (H.go hg) (gk_in _) rfl
    have e1 : jq_ldI 0 h (g_ga (G g) + 1) (nI p) = some (R 17 (64 * g + p)) := by
      rw [rdL (H.gh hg).2.1 (by omega) (by decide), ((Q.gq hg).2.2.2.1 p (by omega)).1]
    refine ⟨R 17 (64 * g + p), h', c, ev, M, W, _, rf, u2 R 17 (64 * g + p) v, ?_, H', ?_, Q.hput hg (by omega) hv⟩
    · simp only [X10_hint_b32, H.gg, H.ld hg, Option.bind_some, e0, e1, e]
    · have c2 : (nI (64 * g + p)).toNatClampNeg = 64 * g + p := n_cl (by omega)
      have i2 : ∀ {β : Type} (x : Option β), (if jq_in (nI (64 * g + p)) 512 then x else none) = x := fun x => n_ifin (by omega) (by decide)
      simp only [rX11_hint, Q.isG, Option.bind_some, h1, one0, if_false, jq_l, h2, hv2, nm64, nI_add, c2, i2]
  rcases pf_m1 a3 with ⟨h3, h4, h5⟩ | ⟨rfl, h5⟩ | ⟨h3, h4, h5, w, hw, rfl⟩
  · exact SIMq.same H Q (r := -2) (by simp only [X10_hint, H.isG', Option.bind_some, h1, one0, if_false, p_isPlace, h2, if_neg h3, p_isWay, h4, if_true]) (by simp only [rX11_hint, Q.isG, Option.bind_some, h1, one0, if_false, jq_l, h2, h5, if_true])
  · obtain ⟨r', h', c', ev', M', W', G', rf', R', e1, C1, e2, Q1⟩ := fin (v := -1) (Or.inl rfl) h5
    refine ⟨r', h', c', ev', M', W', G', rf', R', ?_, C1, e2, Q1⟩
    simp only [X10_hint, H.isG', Option.bind_some, h1, one0, if_false, p_isPlace, h2, if_true]
    exact e1
  · obtain ⟨r', h', c', ev', M', W', G', rf', R', e1, C1, e2, Q1⟩ := fin (v := nI w) (Or.inr ⟨w, hw, rfl⟩) h5
    refine ⟨r', h', c', ev', M', W', G', rf', R', ?_, C1, e2, Q1⟩
    simp only [X10_hint, H.isG', Option.bind_some, h1, one0, if_false, p_isPlace, h2, if_neg h3, p_isWay, h4]
    exact e1
end READS
