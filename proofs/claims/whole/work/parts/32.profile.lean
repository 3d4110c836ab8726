/-! ===== profile ===== -/
def uw (z o : Nat) : Int32 := if z + o = 0 then -1 else if o < z then 0 else 1
theorem uw_ok (z o : Nat) : hintOK (uw z o) := by
  unfold uw
  by_cases h0 : z + o = 0
  · rw [if_pos h0]
    exact Or.inl rfl
  · rw [if_neg h0]
    by_cases h1 : o < z
    · rw [if_pos h1]
      exact Or.inr ⟨0, by decide, rfl⟩
    · rw [if_neg h1]
      exact Or.inr ⟨1, by decide, rfl⟩
theorem uw_m1 {z o : Nat} : (uw z o = -1) = (z + o = 0) := by
  unfold uw
  by_cases h0 : z + o = 0
  · rw [if_pos h0]
    exact propext ⟨fun _ => h0, fun _ => rfl⟩
  · rw [if_neg h0]
    refine propext ⟨fun q => ?_, fun q => absurd q h0⟩
    by_cases h1 : o < z
    · rw [if_pos h1] at q
      exact absurd q (by decide)
    · rw [if_neg h1] at q
      exact absurd q (by decide)
section PROF
variable {n ax c : Nat} {ev : Int32} {M W R0 : ob_S} {rf : Nat → Option Nat} {a1 : Int32} {g : Nat}
theorem CI.usual {h : jq_H} {R : ob_S} {G : Nat → gd} {m p : Nat} {pl wy : Nat → Nat} (n : Nat) (H : CI h ax c ev M W G rf R0) (Q : RWq m pl wy W R) (hp : p < 64) : (if jq_ci h (ax + 8) = 6 then X7_usualWay n h (ax + 8) (nI p) else none) = some (uw (cnt pl wy p 0 m) (cnt pl wy p 1 m), h) := by
  have k0 : (if jq_ci h (ax + 8) = 6 then X7_count n h (ax + 8) (nI p) 0 else none) = some (nI (cnt pl wy p 0 m), h) := H.count n Q (w := 0) hp (by decide)
  have k1 : (if jq_ci h (ax + 8) = 6 then X7_count n h (ax + 8) (nI p) 1 else none) = some (nI (cnt pl wy p 1 m), h) := H.count n Q (w := 1) hp (by decide)
  have hm := Q.1
  have l2 := cnt2_le (pl := pl) (wy := wy) (p := p) m
  have e0 : (nI (cnt pl wy p 0 m + cnt pl wy p 1 m) = 0) = (cnt pl wy p 0 m + cnt pl wy p 1 m = 0) := propext (nI_eq (b := 0) (by omega) (by decide))
  have e1 : (nI (cnt pl wy p 1 m) < nI (cnt pl wy p 0 m)) = (cnt pl wy p 1 m < cnt pl wy p 0 m) := propext (nI_ltI (by omega) (by omega))
  rw [if_pos H.2.2.1.ci]
  unfold X7_usualWay X7_usualWay_b32 uw
  simp only [k0, k1, Option.bind_some, jq_l, nI_add, e0, e1]
  by_cases h0 : cnt pl wy p 0 m + cnt pl wy p 1 m = 0
  · rw [if_pos h0, if_pos h0]
  · rw [if_neg h0, if_neg h0]
    by_cases h1 : cnt pl wy p 1 m < cnt pl wy p 0 m
    · rw [if_pos h1, if_pos h1]
    · rw [if_neg h1, if_neg h1]
theorem prof_loop (hn : 3000 < n) (hg : g < c) (h8 : c ≤ 8) {K K' : Int32 → ob_S → Option (Int32 × ob_S)} {KC : Int32 → jq_H → Option (Int32 × jq_H)} {x0 : Nat × Nat × Nat × Nat × Nat} :
    ∀ (k j : Nat) (v : Int32) (h : jq_H) (G : Nat → gd) (R : ob_S), CI h ax c ev M W G rf R0 → REL c ev M W G R → (G g).1 = x0 → j ≤ 64 → 64 < j + k →
      ∃ h' G' R' v', X10_profile_l25 n KC k ax (x0.1 + 1) v (nI j) h = KC v' h' ∧ rX11_profile_l14 n K' k (nI g) v (nI j) R = K' v' R' ∧ CI h' ax c ev M W G' rf R0 ∧ REL c ev M W G' R' := by
  intro k
  induction k with
  | zero => intro j v h G R _ _ _ h1 h2; exfalso; omega
  | succ k ih =>
    intro j v h G R H Q hx h1 h2
    by_cases hj : j = 64
    · subst hj
      refine ⟨h, G, R, v, ?_, ?_, H, Q⟩
      · show X10_profile_b25 n (X10_profile_l25 n KC k) KC ax _ _ _ _ = _
        unfold X10_profile_b25
        rw [if_pos (by decide)]
      · show rX11_profile_b14 n (rX11_profile_l14 n K' k) K' _ _ _ _ = _
        unfold rX11_profile_b14
        rw [if_pos (by decide)]
    · have hle : ¬ (64 : Int32) ≤ nI j := fun q => by
        have := (nI_leI (a := 64) (by decide) (by omega)).mp q
        omega
      obtain ⟨m, pl, wy, qw⟩ := Q.2.1
      have hm := qw.1
      have l2 := cnt2_le (pl := pl) (wy := wy) (p := j) m
      obtain ⟨v0, hv0⟩ : ∃ y, y = uw (cnt pl wy j 0 m) (cnt pl wy j 1 m) := ⟨_, rfl⟩
      have hu := H.usual n qw (show j < 64 by omega)
      rw [← hv0] at hu
      have hv1 : hintOK v0 := by rw [hv0]; exact uw_ok _ _
      obtain ⟨h5, e5, H5⟩ := H.hput (v := v0) hg (show j < 64 by omega)
      have Q5 := Q.hput (v := v0) hg (show j < 64 by omega) hv1
      have hx5 : (gup G g ((G g).1, upd (g_hf (G g)) j v0, (G g).2.2) g).1 = x0 := by rw [gup_at]; exact hx
      have e5' : jq_stI h (x0.1 + 1) (nI j) v0 = some h5 := by rw [← hx]; exact e5
      have l5 : jq_ldI 0 h5 (x0.1 + 1) (nI j) = some v0 := by
        have q := rdL (H5.gh hg).2.1 (show j < 64 by omega) (by decide)
        rw [gup_at] at q
        have q2 : jq_ldI 0 h5 (g_ga (G g) + 1) (nI j) = some (upd (g_hf (G g)) j v0 j) := q
        rw [pk_us] at q2
        rw [← hx]
        exact q2
      have em : (v0 = -1) = (cnt pl wy j 0 m + cnt pl wy j 1 m = 0) := by rw [hv0]; exact uw_m1
      have t1 : rX11_times n R (nI j) 1 = some (nI (cnt pl wy j 1 m), R) := L_times (w := 1) hn qw (by omega) (by decide)
      have t0 : rX11_times n R (nI j) 0 = some (nI (cnt pl wy j 0 m), R) := L_times (w := 0) hn qw (by omega) (by decide)
      have e0 : (nI (cnt pl wy j 1 m + cnt pl wy j 0 m) = 0) = (cnt pl wy j 0 m + cnt pl wy j 1 m = 0) := propext ((nI_eq (b := 0) (by omega) (by decide)).trans (by omega))
      have e1 : (nI (cnt pl wy j 1 m) < nI (cnt pl wy j 0 m)) = (cnt pl wy j 1 m < cnt pl wy j 0 m) := propext (nI_ltI (by omega) (by omega))
      have e2 : (nI (cnt pl wy j 1 m + cnt pl wy j 0 m) ≤ 0) = (cnt pl wy j 0 m + cnt pl wy j 1 m = 0) := propext ((nI_leI (b := 0) (by omega) (by decide)).trans (by omega))
      have c2 : (nI (64 * g + j)).toNatClampNeg = 64 * g + j := n_cl (by omega)
      have i2 : ∀ {β : Type} (x : Option β), (if jq_in (nI (64 * g + j)) 512 then x else none) = x := fun x => n_ifin (by omega) (by decide)
      obtain ⟨v1, hv1⟩ : ∃ y, y = if cnt pl wy j 0 m + cnt pl wy j 1 m = 0 then v else v + 1 := ⟨_, rfl⟩
      obtain ⟨h', G', R', v', z1, z2, z3, z4⟩ := ih (j + 1) v1 h5 _ (u2 R 17 (64 * g + j) v0) H5 Q5 hx5 (by omega) (by omega)
      refine ⟨h', G', R', v', ?_, ?_, z3, z4⟩
      · rw [← z1]
        show X10_profile_b25 n (X10_profile_l25 n KC k) KC ax _ _ _ _ = _
        unfold X10_profile_b25 X10_profile_b56
        rw [if_neg hle, H.gw, Option.bind_some, hu, Option.bind_some]
        simp only [e5', l5, Option.bind_some, jq_l, na1, em]
        rw [hv1]
        by_cases q : cnt pl wy j 0 m + cnt pl wy j 1 m = 0
        · rw [if_pos q, if_pos q]
        · rw [if_neg q, if_neg q]
      · rw [← z2]
        show rX11_profile_b14 n (rX11_profile_l14 n K' k) K' _ _ _ _ = _
        unfold rX11_profile_b14 rX11_profile_b70 rX11_profile_b85
        rw [if_neg hle, t1, Option.bind_some]
        simp only [t0, Option.bind_some, jq_l, nI_add, e0, e1, nm64, i2, c2, e2, na1]
        rw [hv1, hv0]
        unfold uw
        by_cases q : cnt pl wy j 0 m + cnt pl wy j 1 m = 0
        · rw [if_pos q, if_pos q, if_pos q, if_pos q, Int32.add_zero]
        · rw [if_neg q, if_neg q, if_neg q]
          by_cases q2 : cnt pl wy j 1 m < cnt pl wy j 0 m
          · rw [if_pos q2, if_pos q2, if_neg q, if_neg q]
          · rw [if_neg q2, if_neg q2, if_neg q, if_neg q]
theorem S_profile {h : jq_H} {R : ob_S} {G : Nat → gd} (hn : 3000 < n) (H : CI h ax c ev M W G rf R) (Q : REL c ev M W G R) : SIMq ax (fun h a => X10_profile n h a a1) (fun S => rX11_profile n S a1) h R := by
  have h8 := H.c8
  rcases pf_g (x := a1) H.c8 with ⟨h1, -⟩ | ⟨h1, g, hg, rfl⟩
  · exact SIMq.same H Q (r := -1) (by simp only [X10_profile, H.isG', Option.bind_some, h1, if_true]) (by simp only [rX11_profile, Q.isG, Option.bind_some, h1, if_true])
  obtain ⟨h', G', R', v', z1, z2, z3, z4⟩ := prof_loop (n := n) (K := fun _ _ => none) (K' := fun w2 SS => rX11_profile_b93 n w2 SS) (KC := fun w3 hh => X10_profile_b62 n w3 hh) hn hg h8 n 0 0 h G R H Q rfl (by omega) (by omega)
  have e0 : jq_gR [0, 1, 2, 4, 7, 8] 0 h (g_ga (G g)) = some (g_ga (G g) + 1) := rdR (H.go hg) (gk_in _) rfl
  refine ⟨v', h', c, ev, M, W, G', rf, R', ?_, z3, ?_, z4⟩
  · simp only [X10_profile, H.isG', Option.bind_some, h1, one0, if_false, H.gg, H.ld hg, e0]
    exact z1
  · simp only [rX11_profile, Q.isG, Option.bind_some, h1, one0, if_false]
    exact z2
end PROF
