set_option maxRecDepth 100000 in
set_option maxHeartbeats 4000000 in
theorem NX11_profile_b70 {n a : Nat} {h0 : jq_H} {zs : Int32 × ob_S} {KB : Int32 → Int32 → Int32 → ob_S → Option (Int32 × ob_S)} {KBh : Nat → Int32 → Int32 → Int32 → jq_H → Option (Int32 × jq_H)} {K93 : Int32 → ob_S → Option (Int32 × ob_S)} {K93h : Int32 → jq_H → Option (Int32 × jq_H)} (hKB : ∀ (u1 : Int32) (u2 : Int32) (u3 : Int32) (S : ob_S) (h : jq_H), OF a 21 10 sh_R h0 S h → KB u1 u2 u3 S = some zs → ∃ z, KBh a u1 u2 u3 h = some z ∧ (z.1 = zs.1 ∧ OF a 21 10 sh_R h0 zs.2 z.2)) (hK93 : ∀ (u2 : Int32) (S : ob_S) (h : jq_H), OF a 21 10 sh_R h0 S h → K93 u2 S = some zs → ∃ z, K93h u2 h = some z ∧ (z.1 = zs.1 ∧ OF a 21 10 sh_R h0 zs.2 z.2)) {v1 : Int32} {v2 : Int32} {v3 : Int32} {v4 : Int32} {v5 : Int32} {s1 : Int32} {s2 : Int32} {S : ob_S} {h : jq_H} (O : OF a 21 10 sh_R h0 S h) (he : rX11_profile_b70 n KB K93 v1 v2 v3 v4 v5 s1 s2 S = some zs) : ∃ z, X11_profile_b70 n KBh K93h a v1 v2 v3 v4 v5 (a + 13) s1 s2 h = some z ∧ (z.1 = zs.1 ∧ OF a 21 10 sh_R h0 zs.2 z.2) := by
  unfold rX11_profile_b70 at he
  unfold X11_profile_b70
  obtain ⟨hg4, he⟩ := jq_ite he
  obtain ⟨S3, hS3, he⟩ := jq_ln he
  obtain ⟨h, e1, O⟩ := ob_st (k := 17) (x := s2) O ok_R rfl hg4
  rw [← hS3] at O
  refine s_b e1 ?_
  by_cases hc5 : (v4 + v5) ≤ 0
  · have he := jq_t hc5 he
    refine s_t hc5 ?_
    exact NX11_profile_b85 (n := n) hKB hK93 O he
  have he := jq_n hc5 he
  refine s_n hc5 ?_
  exact NX11_profile_b85 (n := n) hKB hK93 O he
set_option maxRecDepth 100000 in
set_option maxHeartbeats 4000000 in
theorem NX11_profile_b14 {n a : Nat} {h0 : jq_H} {zs : Int32 × ob_S} {KB : Int32 → Int32 → Int32 → ob_S → Option (Int32 × ob_S)} {KBh : Nat → Int32 → Int32 → Int32 → jq_H → Option (Int32 × jq_H)} {K93 : Int32 → ob_S → Option (Int32 × ob_S)} {K93h : Int32 → jq_H → Option (Int32 × jq_H)} (hKB : ∀ (u1 : Int32) (u2 : Int32) (u3 : Int32) (S : ob_S) (h : jq_H), OF a 21 10 sh_R h0 S h → KB u1 u2 u3 S = some zs → ∃ z, KBh a u1 u2 u3 h = some z ∧ (z.1 = zs.1 ∧ OF a 21 10 sh_R h0 zs.2 z.2)) (hK93 : ∀ (u2 : Int32) (S : ob_S) (h : jq_H), OF a 21 10 sh_R h0 S h → K93 u2 S = some zs → ∃ z, K93h u2 h = some z ∧ (z.1 = zs.1 ∧ OF a 21 10 sh_R h0 zs.2 z.2)) {v1 : Int32} {v2 : Int32} {v3 : Int32} {S : ob_S} {h : jq_H} (O : OF a 21 10 sh_R h0 S h) (he : rX11_profile_b14 n KB K93 v1 v2 v3 S = some zs) : ∃ z, X11_profile_b14 n KBh K93h a v1 v2 v3 h = some z ∧ (z.1 = zs.1 ∧ OF a 21 10 sh_R h0 zs.2 z.2) := by
  unfold rX11_profile_b14 at he
  unfold X11_profile_b14
  by_cases hc6 : 64 ≤ v3
  · have he := jq_t hc6 he
    refine s_t hc6 ?_
    exact hK93 _ _ _ O he
  have he := jq_n hc6 he
  refine s_n hc6 ?_
  obtain ⟨z7, hz7, he⟩ := jq_b he
  have hOz7 := O.1.ci
  obtain ⟨⟨rz7, h⟩, e1, e2, O⟩ := N_X11_times O hz7
  dsimp only at e2 O
  subst e2
  refine s_b ((if_pos hOz7).trans e1) ?_
  obtain ⟨x8, hx8, he⟩ := jq_ln he
  refine s_l hx8 ?_
  obtain ⟨z9, hz9, he⟩ := jq_b he
  have hOz9 := O.1.ci
  obtain ⟨⟨rz9, h⟩, e1, e2, O⟩ := N_X11_times O hz9
  dsimp only at e2 O
  subst e2
  refine s_b ((if_pos hOz9).trans e1) ?_
  obtain ⟨x10, hx10, he⟩ := jq_ln he
  refine s_l hx10 ?_
  refine s_b (ob_gR O.1 (k := 17) rfl (by decide)) ?_
  by_cases hc11 : (x8 + x10) = 0
  · have he := jq_t hc11 he
    refine s_t hc11 ?_
    exact NX11_profile_b70 (n := n) hKB hK93 O he
  have he := jq_n hc11 he
  refine s_n hc11 ?_
  by_cases hc12 : x8 < x10
  · have he := jq_t hc12 he
    refine s_t hc12 ?_
    exact NX11_profile_b70 (n := n) hKB hK93 O he
  have he := jq_n hc12 he
  refine s_n hc12 ?_
  exact NX11_profile_b70 (n := n) hKB hK93 O he
set_option maxRecDepth 100000 in
set_option maxHeartbeats 4000000 in
theorem NX11_profile_l14 {n a : Nat} {h0 : jq_H} {zs : Int32 × ob_S} {K93 : Int32 → ob_S → Option (Int32 × ob_S)} {K93h : Int32 → jq_H → Option (Int32 × jq_H)} (hK93 : ∀ (u2 : Int32) (S : ob_S) (h : jq_H), OF a 21 10 sh_R h0 S h → K93 u2 S = some zs → ∃ z, K93h u2 h = some z ∧ (z.1 = zs.1 ∧ OF a 21 10 sh_R h0 zs.2 z.2)) :
    ∀ (k : Nat) (v1 : Int32) (v2 : Int32) (v3 : Int32) (S : ob_S) (h : jq_H), OF a 21 10 sh_R h0 S h → rX11_profile_l14 n K93 k v1 v2 v3 S = some zs → ∃ z, X11_profile_l14 n K93h k a v1 v2 v3 h = some z ∧ (z.1 = zs.1 ∧ OF a 21 10 sh_R h0 zs.2 z.2) := by
  intro k
  induction k with
  | zero => intro v1 v2 v3 S h O he; cases (show (none : Option (Int32 × ob_S)) = some zs from he)
  | succ k ih =>
    intro v1 v2 v3 S h O he
    exact NX11_profile_b14 (n := n) (KB := rX11_profile_l14 n K93 k) (KBh := X11_profile_l14 n K93h k) ih hK93 O he
set_option maxRecDepth 100000 in
set_option maxHeartbeats 4000000 in
theorem N_X11_profile {n a : Nat} {h0 : jq_H} {zs : Int32 × ob_S} {p0 : Int32} {S : ob_S} {h : jq_H} (O : OF a 21 10 sh_R h0 S h) (he : rX11_profile n S p0 = some zs) : ∃ z, X11_profile n h a p0 = some z ∧ (z.1 = zs.1 ∧ OF a 21 10 sh_R h0 zs.2 z.2) := by
  unfold rX11_profile at he
  unfold X11_profile
  obtain ⟨z13, hz13, he⟩ := jq_b he
  have hOz13 := O.1.ci
  obtain ⟨⟨rz13, h⟩, e1, e2, O⟩ := N_X11_isGuesser O hz13
  dsimp only at e2 O
  subst e2
  refine s_b ((if_pos hOz13).trans e1) ?_
  by_cases hc14 : z13.1 = 0
  · have he := jq_t hc14 he
    refine s_t hc14 ?_
    cases he
    exact ⟨_, rfl, rfl, O⟩
  have he := jq_n hc14 he
  refine s_n hc14 ?_
  exact NX11_profile_l14 (n := n) (fun w2 SS hh O he => by
    exact NX11_profile_b93 (n := n) O he) n _ _ _ _ _ O he
set_option maxRecDepth 100000 in
set_option maxHeartbeats 4000000 in
theorem N_X11_register {n a : Nat} {h0 : jq_H} {zs : Int32 × ob_S} {p0 : Int32} {p1 : Int32} {S : ob_S} {h : jq_H} (O : OF a 21 10 sh_R h0 S h) (he : rX11_register n S p0 p1 = some zs) : ∃ z, X11_register n h a p0 p1 = some z ∧ (z.1 = zs.1 ∧ OF a 21 10 sh_R h0 zs.2 z.2) := by
  unfold rX11_register at he
  unfold X11_register
  obtain ⟨x1, hx1, he⟩ := jq_ln he
  refine s_b (p_in _ _ _ _ _) ?_
  rw [← hx1]
  by_cases hc2 : x1 = 0
  · have he := jq_t hc2 he
    refine s_t hc2 ?_
    cases he
    exact ⟨_, rfl, rfl, O⟩
  have he := jq_n hc2 he
  refine s_n hc2 ?_
  refine s_b (ob_gR O.1 (k := 4) rfl (by decide)) ?_
  obtain ⟨hg4, he⟩ := jq_ite he
  obtain ⟨S3, hS3, he⟩ := jq_ln he
  obtain ⟨h, e1, O⟩ := ob_st (k := 4) (x := p1) O ok_R rfl hg4
  rw [← hS3] at O
  refine s_b e1 ?_
  cases he
  exact ⟨_, rfl, rfl, O⟩
set_option maxRecDepth 100000 in
set_option maxHeartbeats 4000000 in
theorem NX11_step_b326 {n a : Nat} {h0 : jq_H} {zs : ob_S} {s1 : Int32} {S : ob_S} {h : jq_H} (O : OF a 21 10 sh_R h0 S h) (he : rX11_step_b326 n s1 S = some zs) : ∃ z, X11_step_b326 n a a s1 h = some z ∧ (OF a 21 10 sh_R h0 zs z) := by
  unfold rX11_step_b326 at he
  unfold X11_step_b326
  obtain ⟨S1, hS1, he⟩ := jq_ln he
  obtain ⟨h, e1, O⟩ := ob_pI (k := 6) (cs := [10]) (x := s1) O ok_R (by decide) rfl (by decide)
  rw [← hS1] at O
  refine s_b e1 ?_
  obtain ⟨x2, hx2, he⟩ := jq_ln he
  refine s_b ((ob_gI O.1 (k := 7) rfl (by decide)).trans (congrArg some hx2.symm)) ?_
  obtain ⟨S3, hS3, he⟩ := jq_ln he
  obtain ⟨h, e1, O⟩ := ob_pI (k := 7) (cs := [10]) (x := (x2 + 1)) O ok_R (by decide) rfl (by decide)
  rw [← hS3] at O
  refine s_b e1 ?_
  cases he
  exact ⟨_, rfl, O⟩
set_option maxRecDepth 100000 in
set_option maxHeartbeats 4000000 in
theorem NX11_step_b305 {n a : Nat} {h0 : jq_H} {zs : ob_S} {v1 : Int32} {v6 : Int32} {S : ob_S} {h : jq_H} (O : OF a 21 10 sh_R h0 S h) (he : rX11_step_b305 n v1 v6 S = some zs) : ∃ z, X11_step_b305 n a v1 v6 h = some z ∧ (OF a 21 10 sh_R h0 zs z) := by
  unfold rX11_step_b305 at he
  unfold X11_step_b305
  by_cases hc4 : v6 = 0
  · have he := jq_t hc4 he
    refine s_t hc4 ?_
    exact NX11_step_b326 (n := n) O he
  have he := jq_n hc4 he
  refine s_n hc4 ?_
  refine s_b (ob_gR O.1 (k := 3) rfl (by decide)) ?_
  obtain ⟨hg6, he⟩ := jq_ite he
  obtain ⟨x5, hx5, he⟩ := jq_ln he
  refine s_b ((ob_ld O.1 (k := 3) rfl hg6).trans (congrArg some hx5.symm)) ?_
  exact NX11_step_b326 (n := n) O he
set_option maxRecDepth 100000 in
set_option maxHeartbeats 4000000 in
theorem NX11_step_b302 {n a : Nat} {h0 : jq_H} {zs : ob_S} {v1 : Int32} {v6 : Int32} {s1 : Int32} {s2 : Int32} {S : ob_S} {h : jq_H} (O : OF a 21 10 sh_R h0 S h) (he : rX11_step_b302 n v1 v6 s1 s2 S = some zs) : ∃ z, X11_step_b302 n a v1 v6 a s1 s2 h = some z ∧ (OF a 21 10 sh_R h0 zs z) := by
  unfold rX11_step_b302 at he
  unfold X11_step_b302
  obtain ⟨z7, hz7, he⟩ := jq_b he
  have hOz7 := O.1.ci
  obtain ⟨h, e1, O⟩ := N_X11_comes O hz7
  refine s_b ((if_pos hOz7).trans e1) ?_
  exact NX11_step_b305 (n := n) O he
set_option maxRecDepth 100000 in
set_option maxHeartbeats 4000000 in
theorem NX11_step_b274 {n a : Nat} {h0 : jq_H} {zs : ob_S} {v1 : Int32} {v6 : Int32} {S : ob_S} {h : jq_H} (O : OF a 21 10 sh_R h0 S h) (he : rX11_step_b274 n v1 v6 S = some zs) : ∃ z, X11_step_b274 n a v1 v6 h = some z ∧ (OF a 21 10 sh_R h0 zs z) := by
  unfold rX11_step_b274 at he
  unfold X11_step_b274
  refine s_b (ob_gR O.1 (k := 0) rfl (by decide)) ?_
  obtain ⟨hg9, he⟩ := jq_ite he
  obtain ⟨x8, hx8, he⟩ := jq_ln he
  refine s_b ((ob_ld O.1 (k := 0) rfl hg9).trans (congrArg some hx8.symm)) ?_
  obtain ⟨x10, hx10, he⟩ := jq_ln he
  refine s_b (p_in _ _ _ _ _) ?_
  rw [← hx10]
  by_cases hc11 : x10 = 0
  · have he := jq_t hc11 he
    refine s_t hc11 ?_
    exact NX11_step_b305 (n := n) O he
  have he := jq_n hc11 he
  refine s_n hc11 ?_
  by_cases hc12 : v6 = 0
  · have he := jq_t hc12 he
    refine s_t hc12 ?_
    exact NX11_step_b302 (n := n) O he
  have he := jq_n hc12 he
  refine s_n hc12 ?_
  exact NX11_step_b302 (n := n) O he
set_option maxRecDepth 100000 in
set_option maxHeartbeats 4000000 in
theorem NX11_step_b266 {n a : Nat} {h0 : jq_H} {zs : ob_S} {v1 : Int32} {s0 : Int32} {S : ob_S} {h : jq_H} (O : OF a 21 10 sh_R h0 S h) (he : rX11_step_b266 n v1 s0 S = some zs) : ∃ z, X11_step_b266 n a v1 s0 h = some z ∧ (OF a 21 10 sh_R h0 zs z) := by
  unfold rX11_step_b266 at he
  unfold X11_step_b266
  exact NX11_step_b274 (n := n) O he
set_option maxRecDepth 100000 in
set_option maxHeartbeats 4000000 in
theorem NX11_step_b251 {n a : Nat} {h0 : jq_H} {zs : ob_S} {v1 : Int32} {s0 : Int32} {S : ob_S} {h : jq_H} (O : OF a 21 10 sh_R h0 S h) (he : rX11_step_b251 n v1 s0 S = some zs) : ∃ z, X11_step_b251 n a v1 s0 h = some z ∧ (OF a 21 10 sh_R h0 zs z) := by
  unfold rX11_step_b251 at he
  unfold X11_step_b251
  exact NX11_step_b274 (n := n) O he
set_option maxRecDepth 100000 in
set_option maxHeartbeats 4000000 in
theorem NX11_step_b234 {n a : Nat} {h0 : jq_H} {zs : ob_S} {v1 : Int32} {s0 : Int32} {S : ob_S} {h : jq_H} (O : OF a 21 10 sh_R h0 S h) (he : rX11_step_b234 n v1 s0 S = some zs) : ∃ z, X11_step_b234 n a v1 s0 h = some z ∧ (OF a 21 10 sh_R h0 zs z) := by
  unfold rX11_step_b234 at he
  unfold X11_step_b234
  exact NX11_step_b274 (n := n) O he
set_option maxRecDepth 100000 in
set_option maxHeartbeats 4000000 in
theorem N_X11_step {n a : Nat} {h0 : jq_H} {zs : ob_S} {S : ob_S} {h : jq_H} (O : OF a 21 10 sh_R h0 S h) (he : rX11_step n S = some zs) : ∃ z, X11_step n h a = some z ∧ (OF a 21 10 sh_R h0 zs z) := by
  unfold rX11_step at he
  unfold X11_step
  obtain ⟨x13, hx13, he⟩ := jq_ln he
  refine s_b ((ob_gI O.1 (k := 6) rfl (by decide)).trans (congrArg some hx13.symm)) ?_
  refine s_b (ob_gR O.1 (k := 1) rfl (by decide)) ?_
  obtain ⟨hg15, he⟩ := jq_ite he
  obtain ⟨x14, hx14, he⟩ := jq_ln he
  refine s_b ((ob_ld O.1 (k := 1) rfl hg15).trans (congrArg some hx14.symm)) ?_
  refine s_b (ob_gR O.1 (k := 2) rfl (by decide)) ?_
  obtain ⟨hg17, he⟩ := jq_ite he
  obtain ⟨x16, hx16, he⟩ := jq_ln he
  refine s_b ((ob_ld O.1 (k := 2) rfl hg17).trans (congrArg some hx16.symm)) ?_
  refine s_b (ob_gR O.1 (k := 4) rfl (by decide)) ?_
  obtain ⟨hg19, he⟩ := jq_ite he
  obtain ⟨x18, hx18, he⟩ := jq_ln he
  refine s_b ((ob_ld O.1 (k := 4) rfl hg19).trans (congrArg some hx18.symm)) ?_
  refine s_b (ob_gR O.1 (k := 4) rfl (by decide)) ?_
  obtain ⟨hg21, he⟩ := jq_ite he
  obtain ⟨x20, hx20, he⟩ := jq_ln he
  refine s_b ((ob_ld O.1 (k := 4) rfl hg21).trans (congrArg some hx20.symm)) ?_
  refine s_b (ob_gR O.1 (k := 0) rfl (by decide)) ?_
  obtain ⟨hg23, he⟩ := jq_ite he
  obtain ⟨x22, hx22, he⟩ := jq_ln he
  refine s_b ((ob_ld O.1 (k := 0) rfl hg23).trans (congrArg some hx22.symm)) ?_
  by_cases hc28 : x22 = 1
  · have he := jq_t hc28 he
    refine s_t hc28 ?_
    refine s_b (ob_gR O.1 (k := 4) rfl (by decide)) ?_
    refine s_b (ob_gR O.1 (k := 3) rfl (by decide)) ?_
    obtain ⟨hg25, he⟩ := jq_ite he
    obtain ⟨x24, hx24, he⟩ := jq_ln he
    refine s_b ((ob_ld O.1 (k := 3) rfl hg25).trans (congrArg some hx24.symm)) ?_
    obtain ⟨hg27, he⟩ := jq_ite he
    obtain ⟨S26, hS26, he⟩ := jq_ln he
    obtain ⟨h, e1, O⟩ := ob_st (k := 4) (x := x24) O ok_R rfl hg27
    rw [← hS26] at O
    refine s_b e1 ?_
    exact NX11_step_b274 (n := n) O he
  have he := jq_n hc28 he
  refine s_n hc28 ?_
  by_cases hc31 : x22 = 2
  · have he := jq_t hc31 he
    refine s_t hc31 ?_
    refine s_b (ob_gR O.1 (k := 4) rfl (by decide)) ?_
    obtain ⟨hg30, he⟩ := jq_ite he
    obtain ⟨S29, hS29, he⟩ := jq_ln he
    obtain ⟨h, e1, O⟩ := ob_st (k := 4) (x := (x18 + x20)) O ok_R rfl hg30
    rw [← hS29] at O
    refine s_b e1 ?_
    exact NX11_step_b274 (n := n) O he
  have he := jq_n hc31 he
  refine s_n hc31 ?_
  by_cases hc34 : x22 = 3
  · have he := jq_t hc34 he
    refine s_t hc34 ?_
    refine s_b (ob_gR O.1 (k := 4) rfl (by decide)) ?_
    obtain ⟨hg33, he⟩ := jq_ite he
    obtain ⟨S32, hS32, he⟩ := jq_ln he
    obtain ⟨h, e1, O⟩ := ob_st (k := 4) (x := (x18 - x20)) O ok_R rfl hg33
    rw [← hS32] at O
    refine s_b e1 ?_
    exact NX11_step_b274 (n := n) O he
  have he := jq_n hc34 he
  refine s_n hc34 ?_
  by_cases hc37 : x22 = 4
  · have he := jq_t hc37 he
    refine s_t hc37 ?_
    refine s_b (ob_gR O.1 (k := 4) rfl (by decide)) ?_
    obtain ⟨hg36, he⟩ := jq_ite he
    obtain ⟨S35, hS35, he⟩ := jq_ln he
    obtain ⟨h, e1, O⟩ := ob_st (k := 4) (x := (x18 * x20)) O ok_R rfl hg36
    rw [← hS35] at O
    refine s_b e1 ?_
    exact NX11_step_b274 (n := n) O he
  have he := jq_n hc37 he
  refine s_n hc37 ?_
  by_cases hc40 : x22 = 5
  · have he := jq_t hc40 he
    refine s_t hc40 ?_
    refine s_b (ob_gR O.1 (k := 4) rfl (by decide)) ?_
    obtain ⟨hg39, he⟩ := jq_ite he
    obtain ⟨S38, hS38, he⟩ := jq_ln he
    obtain ⟨h, e1, O⟩ := ob_st (k := 4) (x := (x18 &&& x20)) O ok_R rfl hg39
    rw [← hS38] at O
    refine s_b e1 ?_
    exact NX11_step_b274 (n := n) O he
  have he := jq_n hc40 he
  refine s_n hc40 ?_
  by_cases hc43 : x22 = 6
  · have he := jq_t hc43 he
    refine s_t hc43 ?_
    refine s_b (ob_gR O.1 (k := 4) rfl (by decide)) ?_
    obtain ⟨hg42, he⟩ := jq_ite he
    obtain ⟨S41, hS41, he⟩ := jq_ln he
    obtain ⟨h, e1, O⟩ := ob_st (k := 4) (x := ((x18.toUInt32 >>> (Int32.toUInt32 1 &&& Int32.toUInt32 31)).toInt32)) O ok_R rfl hg42
    rw [← hS41] at O
    refine s_b e1 ?_
    exact NX11_step_b274 (n := n) O he
  have he := jq_n hc43 he
  refine s_n hc43 ?_
  by_cases hc48 : x22 = 7
  · have he := jq_t hc48 he
    refine s_t hc48 ?_
    refine s_b (ob_gR O.1 (k := 4) rfl (by decide)) ?_
    refine s_b (ob_gR O.1 (k := 5) rfl (by decide)) ?_
    obtain ⟨hg45, he⟩ := jq_ite he
    obtain ⟨x44, hx44, he⟩ := jq_ln he
    refine s_b ((ob_ld O.1 (k := 5) rfl hg45).trans (congrArg some hx44.symm)) ?_
    obtain ⟨hg47, he⟩ := jq_ite he
    obtain ⟨S46, hS46, he⟩ := jq_ln he
    obtain ⟨h, e1, O⟩ := ob_st (k := 4) (x := x44) O ok_R rfl hg47
    rw [← hS46] at O
    refine s_b e1 ?_
    exact NX11_step_b274 (n := n) O he
  have he := jq_n hc48 he
  refine s_n hc48 ?_
  by_cases hc51 : x22 = 8
  · have he := jq_t hc51 he
    refine s_t hc51 ?_
    refine s_b (ob_gR O.1 (k := 5) rfl (by decide)) ?_
    obtain ⟨hg50, he⟩ := jq_ite he
    obtain ⟨S49, hS49, he⟩ := jq_ln he
    obtain ⟨h, e1, O⟩ := ob_st (k := 5) (x := x18) O ok_R rfl hg50
    rw [← hS49] at O
    refine s_b e1 ?_
    exact NX11_step_b274 (n := n) O he
  have he := jq_n hc51 he
  refine s_n hc51 ?_
  by_cases hc53 : x22 = 9
  · have he := jq_t hc53 he
    refine s_t hc53 ?_
    by_cases hc52 : x20 ≤ x18
    · have he := jq_t hc52 he
      refine s_t hc52 ?_
      exact NX11_step_b234 (n := n) O he
    have he := jq_n hc52 he
    refine s_n hc52 ?_
    exact NX11_step_b234 (n := n) O he
  have he := jq_n hc53 he
  refine s_n hc53 ?_
  by_cases hc55 : x22 = 10
  · have he := jq_t hc55 he
    refine s_t hc55 ?_
    by_cases hc54 : x18 = x20
    · have he := jq_t hc54 he
      refine s_t hc54 ?_
      exact NX11_step_b251 (n := n) O he
    have he := jq_n hc54 he
    refine s_n hc54 ?_
    exact NX11_step_b251 (n := n) O he
  have he := jq_n hc55 he
  refine s_n hc55 ?_
  by_cases hc57 : x22 = 11
  · have he := jq_t hc57 he
    refine s_t hc57 ?_
    by_cases hc56 : x18 = 0
    · have he := jq_t hc56 he
      refine s_t hc56 ?_
      exact NX11_step_b266 (n := n) O he
    have he := jq_n hc56 he
    refine s_n hc56 ?_
    exact NX11_step_b266 (n := n) O he
  have he := jq_n hc57 he
  refine s_n hc57 ?_
  exact NX11_step_b274 (n := n) O he
set_option maxRecDepth 100000 in
set_option maxHeartbeats 4000000 in
theorem NX11_run_b43 {n a : Nat} {h0 : jq_H} {zs : Int32 × ob_S} {v2 : Int32} {S : ob_S} {h : jq_H} (O : OF a 21 10 sh_R h0 S h) (he : rX11_run_b43 n v2 S = some zs) : ∃ z, X11_run_b43 n v2 h = some z ∧ (z.1 = zs.1 ∧ OF a 21 10 sh_R h0 zs.2 z.2) := by
  unfold rX11_run_b43 at he
  unfold X11_run_b43
  cases he
  exact ⟨_, rfl, rfl, O⟩
set_option maxRecDepth 100000 in
set_option maxHeartbeats 4000000 in
theorem NX11_run_b16 {n a : Nat} {h0 : jq_H} {zs : Int32 × ob_S} {KB : Int32 → Int32 → ob_S → Option (Int32 × ob_S)} {KBh : Nat → Int32 → Int32 → jq_H → Option (Int32 × jq_H)} {K43 : Int32 → ob_S → Option (Int32 × ob_S)} {K43h : Int32 → jq_H → Option (Int32 × jq_H)} (hKB : ∀ (u1 : Int32) (u2 : Int32) (S : ob_S) (h : jq_H), OF a 21 10 sh_R h0 S h → KB u1 u2 S = some zs → ∃ z, KBh a u1 u2 h = some z ∧ (z.1 = zs.1 ∧ OF a 21 10 sh_R h0 zs.2 z.2)) (hK43 : ∀ (u2 : Int32) (S : ob_S) (h : jq_H), OF a 21 10 sh_R h0 S h → K43 u2 S = some zs → ∃ z, K43h u2 h = some z ∧ (z.1 = zs.1 ∧ OF a 21 10 sh_R h0 zs.2 z.2)) {v1 : Int32} {v2 : Int32} {S : ob_S} {h : jq_H} (O : OF a 21 10 sh_R h0 S h) (he : rX11_run_b16 n KB K43 v1 v2 S = some zs) : ∃ z, X11_run_b16 n KBh K43h a v1 v2 h = some z ∧ (z.1 = zs.1 ∧ OF a 21 10 sh_R h0 zs.2 z.2) := by
  unfold rX11_run_b16 at he
  unfold X11_run_b16
  by_cases hc1 : v1 ≤ v2
  · have he := jq_t hc1 he
    refine s_t hc1 ?_
    exact hK43 _ _ _ O he
  have he := jq_n hc1 he
  refine s_n hc1 ?_
  refine s_b (ob_gR O.1 (k := 0) rfl (by decide)) ?_
  obtain ⟨x2, hx2, he⟩ := jq_ln he
  refine s_b ((ob_gI O.1 (k := 6) rfl (by decide)).trans (congrArg some hx2.symm)) ?_
  obtain ⟨hg4, he⟩ := jq_ite he
  obtain ⟨x3, hx3, he⟩ := jq_ln he
  refine s_b ((ob_ld O.1 (k := 0) rfl hg4).trans (congrArg some hx3.symm)) ?_
  by_cases hc5 : x3 = 0
  · have he := jq_t hc5 he
    refine s_t hc5 ?_
    exact hK43 _ _ _ O he
  have he := jq_n hc5 he
  refine s_n hc5 ?_
  obtain ⟨z6, hz6, he⟩ := jq_b he
  have hOz6 := O.1.ci
  obtain ⟨h, e1, O⟩ := N_X11_step O hz6
  refine s_b ((if_pos hOz6).trans e1) ?_
  obtain ⟨x7, hx7, he⟩ := jq_ln he
  refine s_l hx7 ?_
  exact hKB _ _ _ _ O he
set_option maxRecDepth 100000 in
set_option maxHeartbeats 4000000 in
theorem NX11_run_l16 {n a : Nat} {h0 : jq_H} {zs : Int32 × ob_S} {K43 : Int32 → ob_S → Option (Int32 × ob_S)} {K43h : Int32 → jq_H → Option (Int32 × jq_H)} (hK43 : ∀ (u2 : Int32) (S : ob_S) (h : jq_H), OF a 21 10 sh_R h0 S h → K43 u2 S = some zs → ∃ z, K43h u2 h = some z ∧ (z.1 = zs.1 ∧ OF a 21 10 sh_R h0 zs.2 z.2)) :
    ∀ (k : Nat) (v1 : Int32) (v2 : Int32) (S : ob_S) (h : jq_H), OF a 21 10 sh_R h0 S h → rX11_run_l16 n K43 k v1 v2 S = some zs → ∃ z, X11_run_l16 n K43h k a v1 v2 h = some z ∧ (z.1 = zs.1 ∧ OF a 21 10 sh_R h0 zs.2 z.2) := by
  intro k
  induction k with
  | zero => intro v1 v2 S h O he; cases (show (none : Option (Int32 × ob_S)) = some zs from he)
  | succ k ih =>
    intro v1 v2 S h O he
    exact NX11_run_b16 (n := n) (KB := rX11_run_l16 n K43 k) (KBh := X11_run_l16 n K43h k) ih hK43 O he
set_option maxRecDepth 100000 in
set_option maxHeartbeats 4000000 in
theorem N_X11_run {n a : Nat} {h0 : jq_H} {zs : Int32 × ob_S} {p0 : Int32} {S : ob_S} {h : jq_H} (O : OF a 21 10 sh_R h0 S h) (he : rX11_run n S p0 = some zs) : ∃ z, X11_run n h a p0 = some z ∧ (z.1 = zs.1 ∧ OF a 21 10 sh_R h0 zs.2 z.2) := by
  unfold rX11_run at he
  unfold X11_run
  obtain ⟨x8, hx8, he⟩ := jq_ln he
  refine s_b (p_in _ _ _ _ _) ?_
  rw [← hx8]
  by_cases hc9 : x8 = 0
  · have he := jq_t hc9 he
    refine s_t hc9 ?_
    cases he
    exact ⟨_, rfl, rfl, O⟩
  have he := jq_n hc9 he
  refine s_n hc9 ?_
  exact NX11_run_l16 (n := n) (fun w2 SS hh O he => by
    exact NX11_run_b43 (n := n) O he) n _ _ _ _ O he
set_option maxRecDepth 100000 in
set_option maxHeartbeats 4000000 in
theorem NX11_seen_b65 {n a : Nat} {h0 : jq_H} {zs : Int32 × ob_S} {v3 : Int32} {S : ob_S} {h : jq_H} (O : OF a 21 10 sh_R h0 S h) (he : rX11_seen_b65 n v3 S = some zs) : ∃ z, X11_seen_b65 n v3 h = some z ∧ (z.1 = zs.1 ∧ OF a 21 10 sh_R h0 zs.2 z.2) := by
  unfold rX11_seen_b65 at he
  unfold X11_seen_b65
  cases he
  exact ⟨_, rfl, rfl, O⟩
set_option maxRecDepth 100000 in
set_option maxHeartbeats 4000000 in
theorem NX11_seen_b57 {n a : Nat} {h0 : jq_H} {zs : Int32 × ob_S} {KB : Int32 → Int32 → ob_S → Option (Int32 × ob_S)} {KBh : Nat → Int32 → Int32 → jq_H → Option (Int32 × jq_H)} {K65 : Int32 → ob_S → Option (Int32 × ob_S)} {K65h : Int32 → jq_H → Option (Int32 × jq_H)} (hKB : ∀ (u3 : Int32) (u4 : Int32) (S : ob_S) (h : jq_H), OF a 21 10 sh_R h0 S h → KB u3 u4 S = some zs → ∃ z, KBh a u3 u4 h = some z ∧ (z.1 = zs.1 ∧ OF a 21 10 sh_R h0 zs.2 z.2)) (hK65 : ∀ (u3 : Int32) (S : ob_S) (h : jq_H), OF a 21 10 sh_R h0 S h → K65 u3 S = some zs → ∃ z, K65h u3 h = some z ∧ (z.1 = zs.1 ∧ OF a 21 10 sh_R h0 zs.2 z.2)) {v4 : Int32} {s0 : Int32} {s1 : Int32} {S : ob_S} {h : jq_H} (O : OF a 21 10 sh_R h0 S h) (he : rX11_seen_b57 n KB K65 v4 s0 s1 S = some zs) : ∃ z, X11_seen_b57 n KBh K65h a v4 s0 s1 h = some z ∧ (z.1 = zs.1 ∧ OF a 21 10 sh_R h0 zs.2 z.2) := by
  unfold rX11_seen_b57 at he
  unfold X11_seen_b57
  obtain ⟨x1, hx1, he⟩ := jq_ln he
  refine s_l hx1 ?_
  obtain ⟨x2, hx2, he⟩ := jq_ln he
  refine s_l hx2 ?_
  exact hKB _ _ _ _ O he
set_option maxRecDepth 100000 in
set_option maxHeartbeats 4000000 in
theorem NX11_seen_b24 {n a : Nat} {h0 : jq_H} {zs : Int32 × ob_S} {KB : Int32 → Int32 → ob_S → Option (Int32 × ob_S)} {KBh : Nat → Int32 → Int32 → jq_H → Option (Int32 × jq_H)} {K65 : Int32 → ob_S → Option (Int32 × ob_S)} {K65h : Int32 → jq_H → Option (Int32 × jq_H)} (hKB : ∀ (u3 : Int32) (u4 : Int32) (S : ob_S) (h : jq_H), OF a 21 10 sh_R h0 S h → KB u3 u4 S = some zs → ∃ z, KBh a u3 u4 h = some z ∧ (z.1 = zs.1 ∧ OF a 21 10 sh_R h0 zs.2 z.2)) (hK65 : ∀ (u3 : Int32) (S : ob_S) (h : jq_H), OF a 21 10 sh_R h0 S h → K65 u3 S = some zs → ∃ z, K65h u3 h = some z ∧ (z.1 = zs.1 ∧ OF a 21 10 sh_R h0 zs.2 z.2)) {v3 : Int32} {v4 : Int32} {S : ob_S} {h : jq_H} (O : OF a 21 10 sh_R h0 S h) (he : rX11_seen_b24 n KB K65 v3 v4 S = some zs) : ∃ z, X11_seen_b24 n KBh K65h a v3 v4 h = some z ∧ (z.1 = zs.1 ∧ OF a 21 10 sh_R h0 zs.2 z.2) := by
  unfold rX11_seen_b24 at he
  unfold X11_seen_b24
  by_cases hc3 : 32768 ≤ v4
  · have he := jq_t hc3 he
    refine s_t hc3 ?_
    exact hK65 _ _ _ O he
  have he := jq_n hc3 he
  refine s_n hc3 ?_
  refine s_b (ob_gR O.1 (k := 23) rfl (by decide)) ?_
  obtain ⟨hg5, he⟩ := jq_ite he
  obtain ⟨x4, hx4, he⟩ := jq_ln he
  refine s_b ((ob_ld O.1 (k := 23) rfl hg5).trans (congrArg some hx4.symm)) ?_
  refine s_b (ob_gR O.1 (k := 23) rfl (by decide)) ?_
  obtain ⟨hg7, he⟩ := jq_ite he
  obtain ⟨x6, hx6, he⟩ := jq_ln he
  refine s_b ((ob_ld O.1 (k := 23) rfl hg7).trans (congrArg some hx6.symm)) ?_
  by_cases hc8 : (x4 + x6) ≤ 0
  · have he := jq_t hc8 he
    refine s_t hc8 ?_
    exact NX11_seen_b57 (n := n) hKB hK65 O he
  have he := jq_n hc8 he
  refine s_n hc8 ?_
  exact NX11_seen_b57 (n := n) hKB hK65 O he
set_option maxRecDepth 100000 in
set_option maxHeartbeats 4000000 in
theorem NX11_seen_l24 {n a : Nat} {h0 : jq_H} {zs : Int32 × ob_S} {K65 : Int32 → ob_S → Option (Int32 × ob_S)} {K65h : Int32 → jq_H → Option (Int32 × jq_H)} (hK65 : ∀ (u3 : Int32) (S : ob_S) (h : jq_H), OF a 21 10 sh_R h0 S h → K65 u3 S = some zs → ∃ z, K65h u3 h = some z ∧ (z.1 = zs.1 ∧ OF a 21 10 sh_R h0 zs.2 z.2)) :
    ∀ (k : Nat) (v3 : Int32) (v4 : Int32) (S : ob_S) (h : jq_H), OF a 21 10 sh_R h0 S h → rX11_seen_l24 n K65 k v3 v4 S = some zs → ∃ z, X11_seen_l24 n K65h k a v3 v4 h = some z ∧ (z.1 = zs.1 ∧ OF a 21 10 sh_R h0 zs.2 z.2) := by
  intro k
  induction k with
  | zero => intro v3 v4 S h O he; cases (show (none : Option (Int32 × ob_S)) = some zs from he)
  | succ k ih =>
    intro v3 v4 S h O he
    exact NX11_seen_b24 (n := n) (KB := rX11_seen_l24 n K65 k) (KBh := X11_seen_l24 n K65h k) ih hK65 O he
set_option maxRecDepth 100000 in
set_option maxHeartbeats 4000000 in
theorem N_X11_seen {n a : Nat} {h0 : jq_H} {zs : Int32 × ob_S} {p0 : Int32} {p1 : Int32} {S : ob_S} {h : jq_H} (O : OF a 21 10 sh_R h0 S h) (he : rX11_seen n S p0 p1 = some zs) : ∃ z, X11_seen n h a p0 p1 = some z ∧ (z.1 = zs.1 ∧ OF a 21 10 sh_R h0 zs.2 z.2) := by
  unfold rX11_seen at he
  unfold X11_seen
  obtain ⟨x9, hx9, he⟩ := jq_ln he
  refine s_b (p_in _ _ _ _ _) ?_
  rw [← hx9]
  by_cases hc10 : x9 = 0
  · have he := jq_t hc10 he
    refine s_t hc10 ?_
    cases he
    exact ⟨_, rfl, rfl, O⟩
  have he := jq_n hc10 he
  refine s_n hc10 ?_
  obtain ⟨z11, hz11, he⟩ := jq_b he
  have hOz11 := O.1.ci
  obtain ⟨h, e1, O⟩ := N_X11_countAll O hz11
  refine s_b ((if_pos hOz11).trans e1) ?_
  exact NX11_seen_l24 (n := n) (fun w3 SS hh O he => by
    exact NX11_seen_b65 (n := n) O he) n _ _ _ _ O he
set_option maxRecDepth 100000 in
set_option maxHeartbeats 4000000 in
theorem N_X11_stand {n a : Nat} {h0 : jq_H} {zs : Int32 × ob_S} {p0 : Int32} {S : ob_S} {h : jq_H} (O : OF a 21 10 sh_R h0 S h) (he : rX11_stand n S p0 = some zs) : ∃ z, X11_stand n h a p0 = some z ∧ (z.1 = zs.1 ∧ OF a 21 10 sh_R h0 zs.2 z.2) := by
  unfold rX11_stand at he
  unfold X11_stand
  obtain ⟨x1, hx1, he⟩ := jq_ln he
  refine s_b (p_isPlaceR _ _ _) ?_
  rw [← hx1]
  by_cases hc2 : x1 = 0
  · have he := jq_t hc2 he
    refine s_t hc2 ?_
    cases he
    exact ⟨_, rfl, rfl, O⟩
  have he := jq_n hc2 he
  refine s_n hc2 ?_
  obtain ⟨x3, hx3, he⟩ := jq_ln he
  refine s_b ((ob_gI O.1 (k := 6) rfl (by decide)).trans (congrArg some hx3.symm)) ?_
  obtain ⟨S4, hS4, he⟩ := jq_ln he
  obtain ⟨h, e1, O⟩ := ob_pI (k := 6) (cs := [10]) (x := p0) O ok_R (by decide) rfl (by decide)
  rw [← hS4] at O
  refine s_b e1 ?_
  cases he
  exact ⟨_, rfl, rfl, O⟩
set_option maxRecDepth 100000 in
set_option maxHeartbeats 4000000 in
theorem NX11_stored_b20 {n a : Nat} {h0 : jq_H} {zs : Int32 × ob_S} {s0 : Int32} {S : ob_S} {h : jq_H} (O : OF a 21 10 sh_R h0 S h) (he : rX11_stored_b20 n s0 S = some zs) : ∃ z, X11_stored_b20 n s0 h = some z ∧ (z.1 = zs.1 ∧ OF a 21 10 sh_R h0 zs.2 z.2) := by
  unfold rX11_stored_b20 at he
  unfold X11_stored_b20
  cases he
  exact ⟨_, rfl, rfl, O⟩
set_option maxRecDepth 100000 in
set_option maxHeartbeats 4000000 in
theorem N_X11_stored {n a : Nat} {h0 : jq_H} {zs : Int32 × ob_S} {p0 : Int32} {S : ob_S} {h : jq_H} (O : OF a 21 10 sh_R h0 S h) (he : rX11_stored n S p0 = some zs) : ∃ z, X11_stored n h a p0 = some z ∧ (z.1 = zs.1 ∧ OF a 21 10 sh_R h0 zs.2 z.2) := by
  unfold rX11_stored at he
  unfold X11_stored
  obtain ⟨x1, hx1, he⟩ := jq_ln he
  refine s_b (p_in _ _ _ _ _) ?_
  rw [← hx1]
  by_cases hc2 : x1 = 0
  · have he := jq_t hc2 he
    refine s_t hc2 ?_
    exact NX11_stored_b20 (n := n) O he
  have he := jq_n hc2 he
  refine s_n hc2 ?_
  refine s_b (ob_gR O.1 (k := 5) rfl (by decide)) ?_
  obtain ⟨hg4, he⟩ := jq_ite he
  obtain ⟨x3, hx3, he⟩ := jq_ln he
  refine s_b ((ob_ld O.1 (k := 5) rfl hg4).trans (congrArg some hx3.symm)) ?_
  exact NX11_stored_b20 (n := n) O he
set_option maxRecDepth 100000 in
set_option maxHeartbeats 4000000 in
theorem NX11_ticks_b37 {n a : Nat} {h0 : jq_H} {zs : Int32 × ob_S} {s0 : Int32} {S : ob_S} {h : jq_H} (O : OF a 21 10 sh_R h0 S h) (he : rX11_ticks_b37 n s0 S = some zs) : ∃ z, X11_ticks_b37 n s0 h = some z ∧ (z.1 = zs.1 ∧ OF a 21 10 sh_R h0 zs.2 z.2) := by
  unfold rX11_ticks_b37 at he
  unfold X11_ticks_b37
  cases he
  exact ⟨_, rfl, rfl, O⟩
set_option maxRecDepth 100000 in
set_option maxHeartbeats 4000000 in
theorem N_X11_ticks {n a : Nat} {h0 : jq_H} {zs : Int32 × ob_S} {p0 : Int32} {p1 : Int32} {S : ob_S} {h : jq_H} (O : OF a 21 10 sh_R h0 S h) (he : rX11_ticks n S p0 p1 = some zs) : ∃ z, X11_ticks n h a p0 p1 = some z ∧ (z.1 = zs.1 ∧ OF a 21 10 sh_R h0 zs.2 z.2) := by
  unfold rX11_ticks at he
  unfold X11_ticks
  obtain ⟨z1, hz1, he⟩ := jq_b he
  have hOz1 := O.1.ci
  obtain ⟨⟨rz1, h⟩, e1, e2, O⟩ := N_X11_isGuesser O hz1
  dsimp only at e2 O
  subst e2
  refine s_b ((if_pos hOz1).trans e1) ?_
  by_cases hc2 : z1.1 = 0
  · have he := jq_t hc2 he
    refine s_t hc2 ?_
    cases he
    exact ⟨_, rfl, rfl, O⟩
  have he := jq_n hc2 he
  refine s_n hc2 ?_
  obtain ⟨x3, hx3, he⟩ := jq_ln he
  refine s_b (p_in _ _ _ _ _) ?_
  rw [← hx3]
  by_cases hc4 : x3 = 0
  · have he := jq_t hc4 he
    refine s_t hc4 ?_
    exact NX11_ticks_b37 (n := n) O he
  have he := jq_n hc4 he
  refine s_n hc4 ?_
  obtain ⟨x5, hx5, he⟩ := jq_ln he
  refine s_b ((ob_gI O.1 (k := 7) rfl (by decide)).trans (congrArg some hx5.symm)) ?_
  obtain ⟨z6, hz6, he⟩ := jq_b he
  have hOz6 := O.1.ci
  obtain ⟨⟨rz6, h⟩, e1, e2, O⟩ := N_X11_missesOf O hz6
  dsimp only at e2 O
  subst e2
  refine s_b ((if_pos hOz6).trans e1) ?_
  exact NX11_ticks_b37 (n := n) O he
set_option maxRecDepth 100000 in
set_option maxHeartbeats 4000000 in
theorem N_X11_told {n a : Nat} {h0 : jq_H} {zs : Int32 × ob_S} {p0 : Int32} {S : ob_S} {h : jq_H} (O : OF a 21 10 sh_R h0 S h) (he : rX11_told n S p0 = some zs) : ∃ z, X11_told n h a p0 = some z ∧ (z.1 = zs.1 ∧ OF a 21 10 sh_R h0 zs.2 z.2) := by
  unfold rX11_told at he
  unfold X11_told
  by_cases hc2 : p0 = 0
  · have he := jq_t hc2 he
    refine s_t hc2 ?_
    obtain ⟨x1, hx1, he⟩ := jq_ln he
    refine s_b ((ob_gI O.1 (k := 6) rfl (by decide)).trans (congrArg some hx1.symm)) ?_
    cases he
    exact ⟨_, rfl, rfl, O⟩
  have he := jq_n hc2 he
  refine s_n hc2 ?_
  by_cases hc4 : p0 = 1
  · have he := jq_t hc4 he
    refine s_t hc4 ?_
    obtain ⟨x3, hx3, he⟩ := jq_ln he
    refine s_b ((ob_gI O.1 (k := 7) rfl (by decide)).trans (congrArg some hx3.symm)) ?_
    cases he
    exact ⟨_, rfl, rfl, O⟩
  have he := jq_n hc4 he
  refine s_n hc4 ?_
  by_cases hc6 : p0 = 2
  · have he := jq_t hc6 he
    refine s_t hc6 ?_
    obtain ⟨x5, hx5, he⟩ := jq_ln he
    refine s_b ((ob_gI O.1 (k := 8) rfl (by decide)).trans (congrArg some hx5.symm)) ?_
    cases he
    exact ⟨_, rfl, rfl, O⟩
  have he := jq_n hc6 he
  refine s_n hc6 ?_
  by_cases hc8 : p0 = 3
  · have he := jq_t hc8 he
    refine s_t hc8 ?_
    obtain ⟨x7, hx7, he⟩ := jq_ln he
    refine s_b ((ob_gI O.1 (k := 9) rfl (by decide)).trans (congrArg some hx7.symm)) ?_
    cases he
    exact ⟨_, rfl, rfl, O⟩
  have he := jq_n hc8 he
  refine s_n hc8 ?_
  by_cases hc10 : p0 = 4
  · have he := jq_t hc10 he
    refine s_t hc10 ?_
    obtain ⟨x9, hx9, he⟩ := jq_ln he
    refine s_b ((ob_gI O.1 (k := 12) rfl (by decide)).trans (congrArg some hx9.symm)) ?_
    cases he
    exact ⟨_, rfl, rfl, O⟩
  have he := jq_n hc10 he
  refine s_n hc10 ?_
  cases he
  exact ⟨_, rfl, rfl, O⟩
set_option maxRecDepth 100000 in
set_option maxHeartbeats 4000000 in
theorem NX11_value_b20 {n a : Nat} {h0 : jq_H} {zs : Int32 × ob_S} {s0 : Int32} {S : ob_S} {h : jq_H} (O : OF a 21 10 sh_R h0 S h) (he : rX11_value_b20 n s0 S = some zs) : ∃ z, X11_value_b20 n s0 h = some z ∧ (z.1 = zs.1 ∧ OF a 21 10 sh_R h0 zs.2 z.2) := by
  unfold rX11_value_b20 at he
  unfold X11_value_b20
  cases he
  exact ⟨_, rfl, rfl, O⟩
set_option maxRecDepth 100000 in
set_option maxHeartbeats 4000000 in
theorem N_X11_value {n a : Nat} {h0 : jq_H} {zs : Int32 × ob_S} {p0 : Int32} {S : ob_S} {h : jq_H} (O : OF a 21 10 sh_R h0 S h) (he : rX11_value n S p0 = some zs) : ∃ z, X11_value n h a p0 = some z ∧ (z.1 = zs.1 ∧ OF a 21 10 sh_R h0 zs.2 z.2) := by
  unfold rX11_value at he
  unfold X11_value
  obtain ⟨x1, hx1, he⟩ := jq_ln he
  refine s_b (p_in _ _ _ _ _) ?_
  rw [← hx1]
  by_cases hc2 : x1 = 0
  · have he := jq_t hc2 he
    refine s_t hc2 ?_
    exact NX11_value_b20 (n := n) O he
  have he := jq_n hc2 he
  refine s_n hc2 ?_
  refine s_b (ob_gR O.1 (k := 4) rfl (by decide)) ?_
  obtain ⟨hg4, he⟩ := jq_ite he
  obtain ⟨x3, hx3, he⟩ := jq_ln he
  refine s_b ((ob_ld O.1 (k := 4) rfl hg4).trans (congrArg some hx3.symm)) ?_
  exact NX11_value_b20 (n := n) O he
