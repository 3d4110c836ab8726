set_option maxRecDepth 100000 in
set_option maxHeartbeats 4000000 in
theorem N_X7_placeOf {n a : Nat} {h0 : jq_H} {zs : Int32 × ob_S} {p0 : Int32} {S : ob_S} {h : jq_H} (O : OF a 6 6 sh_W h0 S h) (he : rX7_placeOf n S p0 = some zs) : ∃ z, X7_placeOf n h a p0 = some z ∧ (z.1 = zs.1 ∧ OF a 6 6 sh_W h0 zs.2 z.2) := by
  unfold rX7_placeOf at he
  unfold X7_placeOf
  refine s_b (ob_gR O.1 (k := 0) rfl (by decide)) ?_
  obtain ⟨hg2, he⟩ := jq_ite he
  obtain ⟨x1, hx1, he⟩ := jq_ln he
  refine s_b ((ob_ld O.1 (k := 0) rfl hg2).trans (congrArg some hx1.symm)) ?_
  cases he
  exact ⟨_, rfl, rfl, O⟩
set_option maxRecDepth 100000 in
set_option maxHeartbeats 4000000 in
theorem N_X7_wayOf {n a : Nat} {h0 : jq_H} {zs : Int32 × ob_S} {p0 : Int32} {S : ob_S} {h : jq_H} (O : OF a 6 6 sh_W h0 S h) (he : rX7_wayOf n S p0 = some zs) : ∃ z, X7_wayOf n h a p0 = some z ∧ (z.1 = zs.1 ∧ OF a 6 6 sh_W h0 zs.2 z.2) := by
  unfold rX7_wayOf at he
  unfold X7_wayOf
  refine s_b (ob_gR O.1 (k := 0) rfl (by decide)) ?_
  obtain ⟨hg2, he⟩ := jq_ite he
  obtain ⟨x1, hx1, he⟩ := jq_ln he
  refine s_b ((ob_ld O.1 (k := 0) rfl hg2).trans (congrArg some hx1.symm)) ?_
  cases he
  exact ⟨_, rfl, rfl, O⟩
set_option maxRecDepth 100000 in
set_option maxHeartbeats 4000000 in
theorem NX4_counterWay_b15 {nc ns : Nat} {n a : Nat} {h0 : jq_H} {zs : Int32 × ob_S} {s0 : Int32} {S : ob_S} {h : jq_H} (O : OF a 6 3 (sh_L nc ns) h0 S h) (he : rX4_counterWay_b15 nc ns n s0 S = some zs) : ∃ z, X4_counterWay_b15 n s0 h = some z ∧ (z.1 = zs.1 ∧ OF a 6 3 (sh_L nc ns) h0 zs.2 z.2) := by
  unfold rX4_counterWay_b15 at he
  unfold X4_counterWay_b15
  cases he
  exact ⟨_, rfl, rfl, O⟩
set_option maxRecDepth 100000 in
set_option maxHeartbeats 4000000 in
theorem N_X4_counterWay {nc ns : Nat} {n a : Nat} {h0 : jq_H} {zs : Int32 × ob_S} {p0 : Int32} {S : ob_S} {h : jq_H} (O : OF a 6 3 (sh_L nc ns) h0 S h) (he : rX4_counterWay nc ns n S p0 = some zs) : ∃ z, X4_counterWay n h a p0 = some z ∧ (z.1 = zs.1 ∧ OF a 6 3 (sh_L nc ns) h0 zs.2 z.2) := by
  unfold rX4_counterWay at he
  unfold X4_counterWay
  refine s_b (ob_gR O.1 (k := 0) rfl (by decide)) ?_
  obtain ⟨hg2, he⟩ := jq_ite he
  obtain ⟨x1, hx1, he⟩ := jq_ln he
  refine s_b ((ob_ld O.1 (k := 0) rfl hg2).trans (congrArg some hx1.symm)) ?_
  by_cases hc3 : x1 < 2
  · have he := jq_t hc3 he
    refine s_t hc3 ?_
    exact NX4_counterWay_b15 (n := n) O he
  have he := jq_n hc3 he
  refine s_n hc3 ?_
  exact NX4_counterWay_b15 (n := n) O he
set_option maxRecDepth 100000 in
set_option maxHeartbeats 4000000 in
theorem N_X4_countAsked {nc ns : Nat} {n a : Nat} {h0 : jq_H} {zs : ob_S} {p0 : Int32} {p1 : Int32} {S : ob_S} {h : jq_H} (O : OF a 6 3 (sh_L nc ns) h0 S h) (he : rX4_countAsked nc ns n S p0 p1 = some zs) : ∃ z, X4_countAsked n h a p0 p1 = some z ∧ (OF a 6 3 (sh_L nc ns) h0 zs z) := by
  unfold rX4_countAsked at he
  unfold X4_countAsked
  obtain ⟨x1, hx1, he⟩ := jq_ln he
  refine s_b ((ob_gI O.1 (k := 6) rfl (by decide)).trans (congrArg some hx1.symm)) ?_
  obtain ⟨S2, hS2, he⟩ := jq_ln he
  obtain ⟨h, e1, O⟩ := ob_pI (k := 6) (cs := [3]) (x := (x1 + 1)) O (ok_L nc ns) (by decide) rfl (by decide)
  rw [← hS2] at O
  refine s_b e1 ?_
  by_cases hc3 : p1 = 0
  · have he := jq_t hc3 he
    refine s_t hc3 ?_
    cases he
    exact ⟨_, rfl, O⟩
  have he := jq_n hc3 he
  refine s_n hc3 ?_
  obtain ⟨x4, hx4, he⟩ := jq_ln he
  refine s_b ((ob_gI O.1 (k := 7) rfl (by decide)).trans (congrArg some hx4.symm)) ?_
  obtain ⟨S5, hS5, he⟩ := jq_ln he
  obtain ⟨h, e1, O⟩ := ob_pI (k := 7) (cs := [3]) (x := (x4 + 1)) O (ok_L nc ns) (by decide) rfl (by decide)
  rw [← hS5] at O
  refine s_b e1 ?_
  refine s_b (ob_gR O.1 (k := 3) rfl (by decide)) ?_
  obtain ⟨hg7, he⟩ := jq_ite he
  obtain ⟨x6, hx6, he⟩ := jq_ln he
  refine s_b ((ob_ld O.1 (k := 3) rfl hg7).trans (congrArg some hx6.symm)) ?_
  obtain ⟨hg9, he⟩ := jq_ite he
  obtain ⟨S8, hS8, he⟩ := jq_ln he
  obtain ⟨h, e1, O⟩ := ob_st (k := 3) (x := (x6 + 1)) O (ok_L nc ns) rfl hg9
  rw [← hS8] at O
  refine s_b e1 ?_
  cases he
  exact ⟨_, rfl, O⟩
set_option maxRecDepth 100000 in
set_option maxHeartbeats 4000000 in
theorem NX4_keepPair_b27 {nc ns : Nat} {n a : Nat} {h0 : jq_H} {zs : ob_S} {v1 : Int32} {S : ob_S} {h : jq_H} (O : OF a 6 3 (sh_L nc ns) h0 S h) (he : rX4_keepPair_b27 nc ns n v1 S = some zs) : ∃ z, X4_keepPair_b27 n a v1 h = some z ∧ (OF a 6 3 (sh_L nc ns) h0 zs z) := by
  unfold rX4_keepPair_b27 at he
  unfold X4_keepPair_b27
  obtain ⟨x1, hx1, he⟩ := jq_ln he
  refine s_b ((ob_gI O.1 (k := 9) rfl (by decide)).trans (congrArg some hx1.symm)) ?_
  by_cases hc2 : x1 < 40
  · have he := jq_t hc2 he
    refine s_t hc2 ?_
    refine s_b (ob_gR O.1 (k := 4) rfl (by decide)) ?_
    obtain ⟨x3, hx3, he⟩ := jq_ln he
    refine s_b ((ob_gI O.1 (k := 9) rfl (by decide)).trans (congrArg some hx3.symm)) ?_
    obtain ⟨hg5, he⟩ := jq_ite he
    obtain ⟨S4, hS4, he⟩ := jq_ln he
    obtain ⟨h, e1, O⟩ := ob_st (k := 4) (x := v1) O (ok_L nc ns) rfl hg5
    rw [← hS4] at O
    refine s_b e1 ?_
    obtain ⟨x6, hx6, he⟩ := jq_ln he
    refine s_b ((ob_gI O.1 (k := 9) rfl (by decide)).trans (congrArg some hx6.symm)) ?_
    obtain ⟨S7, hS7, he⟩ := jq_ln he
    obtain ⟨h, e1, O⟩ := ob_pI (k := 9) (cs := [3]) (x := (x6 + 1)) O (ok_L nc ns) (by decide) rfl (by decide)
    rw [← hS7] at O
    refine s_b e1 ?_
    cases he
    exact ⟨_, rfl, O⟩
  have he := jq_n hc2 he
  refine s_n hc2 ?_
  cases he
  exact ⟨_, rfl, O⟩
set_option maxRecDepth 100000 in
set_option maxHeartbeats 4000000 in
theorem NX4_keepPair_b20 {nc ns : Nat} {n a : Nat} {h0 : jq_H} {zs : ob_S} {S : ob_S} {h : jq_H} (O : OF a 6 3 (sh_L nc ns) h0 S h) (he : rX4_keepPair_b20 nc ns n S = some zs) : ∃ z, X4_keepPair_b20 n h = some z ∧ (OF a 6 3 (sh_L nc ns) h0 zs z) := by
  unfold rX4_keepPair_b20 at he
  unfold X4_keepPair_b20
  cases he
  exact ⟨_, rfl, O⟩
set_option maxRecDepth 100000 in
set_option maxHeartbeats 4000000 in
theorem NX4_keepPair_b2 {nc ns : Nat} {n a : Nat} {h0 : jq_H} {zs : ob_S} {KB : Int32 → Int32 → ob_S → Option (ob_S)} {KBh : Nat → Int32 → Int32 → jq_H → Option (jq_H)} {K20 : ob_S → Option (ob_S)} {K20h : jq_H → Option (jq_H)} {K27 : Int32 → ob_S → Option (ob_S)} {K27h : Nat → Int32 → jq_H → Option (jq_H)} (hKB : ∀ (u1 : Int32) (u2 : Int32) (S : ob_S) (h : jq_H), OF a 6 3 (sh_L nc ns) h0 S h → KB u1 u2 S = some zs → ∃ z, KBh a u1 u2 h = some z ∧ (OF a 6 3 (sh_L nc ns) h0 zs z)) (hK20 : ∀ (S : ob_S) (h : jq_H), OF a 6 3 (sh_L nc ns) h0 S h → K20 S = some zs → ∃ z, K20h h = some z ∧ (OF a 6 3 (sh_L nc ns) h0 zs z)) (hK27 : ∀ (u1 : Int32) (S : ob_S) (h : jq_H), OF a 6 3 (sh_L nc ns) h0 S h → K27 u1 S = some zs → ∃ z, K27h a u1 h = some z ∧ (OF a 6 3 (sh_L nc ns) h0 zs z)) {v1 : Int32} {v2 : Int32} {S : ob_S} {h : jq_H} (O : OF a 6 3 (sh_L nc ns) h0 S h) (he : rX4_keepPair_b2 nc ns n KB K20 K27 v1 v2 S = some zs) : ∃ z, X4_keepPair_b2 n KBh K20h K27h a v1 v2 h = some z ∧ (OF a 6 3 (sh_L nc ns) h0 zs z) := by
  unfold rX4_keepPair_b2 at he
  unfold X4_keepPair_b2
  obtain ⟨x8, hx8, he⟩ := jq_ln he
  refine s_b ((ob_gI O.1 (k := 9) rfl (by decide)).trans (congrArg some hx8.symm)) ?_
  by_cases hc9 : x8 ≤ v2
  · have he := jq_t hc9 he
    refine s_t hc9 ?_
    exact hK27 _ _ _ O he
  have he := jq_n hc9 he
  refine s_n hc9 ?_
  refine s_b (ob_gR O.1 (k := 4) rfl (by decide)) ?_
  obtain ⟨hg11, he⟩ := jq_ite he
  obtain ⟨x10, hx10, he⟩ := jq_ln he
  refine s_b ((ob_ld O.1 (k := 4) rfl hg11).trans (congrArg some hx10.symm)) ?_
  by_cases hc12 : x10 = v1
  · have he := jq_t hc12 he
    refine s_t hc12 ?_
    exact hK20 _ _ O he
  have he := jq_n hc12 he
  refine s_n hc12 ?_
  obtain ⟨x13, hx13, he⟩ := jq_ln he
  refine s_l hx13 ?_
  exact hKB _ _ _ _ O he
set_option maxRecDepth 100000 in
set_option maxHeartbeats 4000000 in
theorem NX4_keepPair_l2 {nc ns : Nat} {n a : Nat} {h0 : jq_H} {zs : ob_S} {K20 : ob_S → Option (ob_S)} {K20h : jq_H → Option (jq_H)} {K27 : Int32 → ob_S → Option (ob_S)} {K27h : Nat → Int32 → jq_H → Option (jq_H)} (hK20 : ∀ (S : ob_S) (h : jq_H), OF a 6 3 (sh_L nc ns) h0 S h → K20 S = some zs → ∃ z, K20h h = some z ∧ (OF a 6 3 (sh_L nc ns) h0 zs z)) (hK27 : ∀ (u1 : Int32) (S : ob_S) (h : jq_H), OF a 6 3 (sh_L nc ns) h0 S h → K27 u1 S = some zs → ∃ z, K27h a u1 h = some z ∧ (OF a 6 3 (sh_L nc ns) h0 zs z)) :
    ∀ (k : Nat) (v1 : Int32) (v2 : Int32) (S : ob_S) (h : jq_H), OF a 6 3 (sh_L nc ns) h0 S h → rX4_keepPair_l2 nc ns n K20 K27 k v1 v2 S = some zs → ∃ z, X4_keepPair_l2 n K20h K27h k a v1 v2 h = some z ∧ (OF a 6 3 (sh_L nc ns) h0 zs z) := by
  intro k
  induction k with
  | zero => intro v1 v2 S h O he; cases (show (none : Option (ob_S)) = some zs from he)
  | succ k ih =>
    intro v1 v2 S h O he
    exact NX4_keepPair_b2 (n := n) (KB := rX4_keepPair_l2 nc ns n K20 K27 k) (KBh := X4_keepPair_l2 n K20h K27h k) ih hK20 hK27 O he
set_option maxRecDepth 100000 in
set_option maxHeartbeats 4000000 in
theorem N_X4_keepPair {nc ns : Nat} {n a : Nat} {h0 : jq_H} {zs : ob_S} {p0 : Int32} {S : ob_S} {h : jq_H} (O : OF a 6 3 (sh_L nc ns) h0 S h) (he : rX4_keepPair nc ns n S p0 = some zs) : ∃ z, X4_keepPair n h a p0 = some z ∧ (OF a 6 3 (sh_L nc ns) h0 zs z) := by
  unfold rX4_keepPair at he
  unfold X4_keepPair
  exact NX4_keepPair_l2 (nc := nc) (ns := ns) (n := n) (fun SS hh O he => by
    exact NX4_keepPair_b20 (n := n) O he) (fun w1 SS hh O he => by
    exact NX4_keepPair_b27 (n := n) O he) n _ _ _ _ O he
set_option maxRecDepth 100000 in
set_option maxHeartbeats 4000000 in
theorem NX4_useSlot_b25 {nc ns : Nat} {n a : Nat} {h0 : jq_H} {zs : ob_S} {S : ob_S} {h : jq_H} (O : OF a 6 3 (sh_L nc ns) h0 S h) (he : rX4_useSlot_b25 nc ns n S = some zs) : ∃ z, X4_useSlot_b25 n h = some z ∧ (OF a 6 3 (sh_L nc ns) h0 zs z) := by
  unfold rX4_useSlot_b25 at he
  unfold X4_useSlot_b25
  cases he
  exact ⟨_, rfl, O⟩
set_option maxRecDepth 100000 in
set_option maxHeartbeats 4000000 in
theorem N_X4_useSlot {nc ns : Nat} {n a : Nat} {h0 : jq_H} {zs : ob_S} {p0 : Int32} {p1 : Int32} {S : ob_S} {h : jq_H} (O : OF a 6 3 (sh_L nc ns) h0 S h) (he : rX4_useSlot nc ns n S p0 p1 = some zs) : ∃ z, X4_useSlot n h a p0 p1 = some z ∧ (OF a 6 3 (sh_L nc ns) h0 zs z) := by
  unfold rX4_useSlot at he
  unfold X4_useSlot
  refine s_b (ob_gR O.1 (k := 1) rfl (by decide)) ?_
  obtain ⟨hg2, he⟩ := jq_ite he
  obtain ⟨x1, hx1, he⟩ := jq_ln he
  refine s_b ((ob_ld O.1 (k := 1) rfl hg2).trans (congrArg some hx1.symm)) ?_
  refine s_b (ob_gR O.1 (k := 1) rfl (by decide)) ?_
  obtain ⟨hg4, he⟩ := jq_ite he
  obtain ⟨S3, hS3, he⟩ := jq_ln he
  obtain ⟨h, e1, O⟩ := ob_st (k := 1) (x := p1) O (ok_L nc ns) rfl hg4
  rw [← hS3] at O
  refine s_b e1 ?_
  by_cases hc5 : x1 = (-6)
  · have he := jq_t hc5 he
    refine s_t hc5 ?_
    exact NX4_useSlot_b25 (n := n) O he
  have he := jq_n hc5 he
  refine s_n hc5 ?_
  by_cases hc6 : x1 = p1
  · have he := jq_t hc6 he
    refine s_t hc6 ?_
    exact NX4_useSlot_b25 (n := n) O he
  have he := jq_n hc6 he
  refine s_n hc6 ?_
  obtain ⟨x7, hx7, he⟩ := jq_ln he
  refine s_b ((ob_gI O.1 (k := 8) rfl (by decide)).trans (congrArg some hx7.symm)) ?_
  obtain ⟨S8, hS8, he⟩ := jq_ln he
  obtain ⟨h, e1, O⟩ := ob_pI (k := 8) (cs := [3]) (x := (x7 + 1)) O (ok_L nc ns) (by decide) rfl (by decide)
  rw [← hS8] at O
  refine s_b e1 ?_
  obtain ⟨x9, hx9, he⟩ := jq_ln he
  refine s_l hx9 ?_
  obtain ⟨x10, hx10, he⟩ := jq_ln he
  refine s_l hx10 ?_
  obtain ⟨z11, hz11, he⟩ := jq_b he
  have hOz11 := O.1.ci
  obtain ⟨h, e1, O⟩ := N_X4_keepPair O hz11
  refine s_b ((if_pos hOz11).trans e1) ?_
  cases he
  exact ⟨_, rfl, O⟩
set_option maxRecDepth 100000 in
set_option maxHeartbeats 4000000 in
theorem NX4_teachCounter_b37 {nc ns : Nat} {n a : Nat} {h0 : jq_H} {zs : ob_S} {s1 : Int32} {s2 : Int32} {S : ob_S} {h : jq_H} (O : OF a 6 3 (sh_L nc ns) h0 S h) (he : rX4_teachCounter_b37 nc ns n s1 s2 S = some zs) : ∃ z, X4_teachCounter_b37 n (a + 4) s1 s2 h = some z ∧ (OF a 6 3 (sh_L nc ns) h0 zs z) := by
  unfold rX4_teachCounter_b37 at he
  unfold X4_teachCounter_b37
  obtain ⟨hg2, he⟩ := jq_ite he
  obtain ⟨S1, hS1, he⟩ := jq_ln he
  obtain ⟨h, e1, O⟩ := ob_st (k := 0) (x := s2) O (ok_L nc ns) rfl hg2
  rw [← hS1] at O
  refine s_b e1 ?_
  cases he
  exact ⟨_, rfl, O⟩
set_option maxRecDepth 100000 in
set_option maxHeartbeats 4000000 in
theorem N_X4_teachCounter {nc ns : Nat} {n a : Nat} {h0 : jq_H} {zs : ob_S} {p0 : Int32} {p1 : Int32} {S : ob_S} {h : jq_H} (O : OF a 6 3 (sh_L nc ns) h0 S h) (he : rX4_teachCounter nc ns n S p0 p1 = some zs) : ∃ z, X4_teachCounter n h a p0 p1 = some z ∧ (OF a 6 3 (sh_L nc ns) h0 zs z) := by
  unfold rX4_teachCounter at he
  unfold X4_teachCounter
  refine s_b (ob_gR O.1 (k := 0) rfl (by decide)) ?_
  by_cases hc3 : p1 = 1
  · have he := jq_t hc3 he
    refine s_t hc3 ?_
    refine s_b (ob_gR O.1 (k := 0) rfl (by decide)) ?_
    obtain ⟨hg8, he⟩ := jq_ite he
    obtain ⟨x7, hx7, he⟩ := jq_ln he
    refine s_b ((ob_ld O.1 (k := 0) rfl hg8).trans (congrArg some hx7.symm)) ?_
    obtain ⟨x9, hx9, he⟩ := jq_ln he
    refine s_l hx9 ?_
    exact NX4_teachCounter_b37 (n := n) O he
  have he := jq_n hc3 he
  refine s_n hc3 ?_
  refine s_b (ob_gR O.1 (k := 0) rfl (by decide)) ?_
  obtain ⟨hg5, he⟩ := jq_ite he
  obtain ⟨x4, hx4, he⟩ := jq_ln he
  refine s_b ((ob_ld O.1 (k := 0) rfl hg5).trans (congrArg some hx4.symm)) ?_
  obtain ⟨x6, hx6, he⟩ := jq_ln he
  refine s_l hx6 ?_
  exact NX4_teachCounter_b37 (n := n) O he
set_option maxRecDepth 100000 in
set_option maxHeartbeats 4000000 in
theorem N_X4_addWay {nc ns : Nat} {n a : Nat} {h0 : jq_H} {zs : ob_S} {p0 : Int32} {p1 : Int32} {S : ob_S} {h : jq_H} (O : OF a 6 3 (sh_L nc ns) h0 S h) (he : rX4_addWay nc ns n S p0 p1 = some zs) : ∃ z, X4_addWay n h a p0 p1 = some z ∧ (OF a 6 3 (sh_L nc ns) h0 zs z) := by
  unfold rX4_addWay at he
  unfold X4_addWay
  obtain ⟨x1, hx1, he⟩ := jq_ln he
  refine s_b ((ob_gI O.1 (k := 5) rfl (by decide)).trans (congrArg some hx1.symm)) ?_
  obtain ⟨x2, hx2, he⟩ := jq_ln he
  refine s_b (p_lowBits _ _ _) ?_
  rw [← hx2]
  obtain ⟨S3, hS3, he⟩ := jq_ln he
  obtain ⟨h, e1, O⟩ := ob_pI (k := 5) (cs := [3]) (x := (((x1 <<< (1 &&& 31)) ||| p1) &&& x2)) O (ok_L nc ns) (by decide) rfl (by decide)
  rw [← hS3] at O
  refine s_b e1 ?_
  refine s_b (ob_gR O.1 (k := 2) rfl (by decide)) ?_
  refine s_b (ob_gR O.1 (k := 2) rfl (by decide)) ?_
  obtain ⟨hg5, he⟩ := jq_ite he
  obtain ⟨x4, hx4, he⟩ := jq_ln he
  refine s_b ((ob_ld O.1 (k := 2) rfl hg5).trans (congrArg some hx4.symm)) ?_
  obtain ⟨x6, hx6, he⟩ := jq_ln he
  refine s_b (p_lowBits _ _ _) ?_
  rw [← hx6]
  obtain ⟨hg8, he⟩ := jq_ite he
  obtain ⟨S7, hS7, he⟩ := jq_ln he
  obtain ⟨h, e1, O⟩ := ob_st (k := 2) (x := (((x4 <<< (1 &&& 31)) ||| p1) &&& x6)) O (ok_L nc ns) rfl hg8
  rw [← hS7] at O
  refine s_b e1 ?_
  cases he
  exact ⟨_, rfl, O⟩
set_option maxRecDepth 100000 in
set_option maxHeartbeats 4000000 in
theorem NX7_tally_b86 {n a : Nat} {h0 : jq_H} {zs : ob_S} {s1 : Int32} {s2 : Int32} {s3 : Int32} {S : ob_S} {h : jq_H} (O : OF a 6 6 sh_W h0 S h) (he : rX7_tally_b86 n s1 s2 s3 S = some zs) : ∃ z, X7_tally_b86 n (a + 3) s1 s2 s3 h = some z ∧ (OF a 6 6 sh_W h0 zs z) := by
  unfold rX7_tally_b86 at he
  unfold X7_tally_b86
  obtain ⟨hg2, he⟩ := jq_ite he
  obtain ⟨S1, hS1, he⟩ := jq_ln he
  obtain ⟨h, e1, O⟩ := ob_st (k := 2) (x := (s2 + s3)) O ok_W rfl hg2
  rw [← hS1] at O
  refine s_b e1 ?_
  cases he
  exact ⟨_, rfl, O⟩
set_option maxRecDepth 100000 in
set_option maxHeartbeats 4000000 in
theorem NX7_tally_b68 {n a : Nat} {h0 : jq_H} {zs : ob_S} {v1 : Int32} {v2 : Int32} {S : ob_S} {h : jq_H} (O : OF a 6 6 sh_W h0 S h) (he : rX7_tally_b68 n v1 v2 S = some zs) : ∃ z, X7_tally_b68 n a v1 v2 h = some z ∧ (OF a 6 6 sh_W h0 zs z) := by
  unfold rX7_tally_b68 at he
  unfold X7_tally_b68
  refine s_b (ob_gR O.1 (k := 2) rfl (by decide)) ?_
  obtain ⟨hg4, he⟩ := jq_ite he
  obtain ⟨x3, hx3, he⟩ := jq_ln he
  refine s_b ((ob_ld O.1 (k := 2) rfl hg4).trans (congrArg some hx3.symm)) ?_
  by_cases hc5 : v2 = 1
  · have he := jq_t hc5 he
    refine s_t hc5 ?_
    exact NX7_tally_b86 (n := n) O he
  have he := jq_n hc5 he
  refine s_n hc5 ?_
  exact NX7_tally_b86 (n := n) O he
set_option maxRecDepth 100000 in
set_option maxHeartbeats 4000000 in
theorem NX7_tally_b58 {n a : Nat} {h0 : jq_H} {zs : ob_S} {v1 : Int32} {v2 : Int32} {S : ob_S} {h : jq_H} (O : OF a 6 6 sh_W h0 S h) (he : rX7_tally_b58 n v1 v2 S = some zs) : ∃ z, X7_tally_b58 n a v1 v2 h = some z ∧ (OF a 6 6 sh_W h0 zs z) := by
  unfold rX7_tally_b58 at he
  unfold X7_tally_b58
  obtain ⟨x6, hx6, he⟩ := jq_ln he
  refine s_b ((ob_gI O.1 (k := 6) rfl (by decide)).trans (congrArg some hx6.symm)) ?_
  obtain ⟨S7, hS7, he⟩ := jq_ln he
  obtain ⟨h, e1, O⟩ := ob_pI (k := 6) (cs := [6]) (x := (x6 + 1)) O ok_W (by decide) rfl (by decide)
  rw [← hS7] at O
  refine s_b e1 ?_
  exact NX7_tally_b68 (n := n) O he
set_option maxRecDepth 100000 in
set_option maxHeartbeats 4000000 in
theorem NX7_tally_b38 {n a : Nat} {h0 : jq_H} {zs : ob_S} {v1 : Int32} {v2 : Int32} {v3 : Int32} {v4 : Int32} {S : ob_S} {h : jq_H} (O : OF a 6 6 sh_W h0 S h) (he : rX7_tally_b38 n v1 v2 v3 v4 S = some zs) : ∃ z, X7_tally_b38 n a v1 v2 v3 v4 h = some z ∧ (OF a 6 6 sh_W h0 zs z) := by
  unfold rX7_tally_b38 at he
  unfold X7_tally_b38
  by_cases hc8 : v2 = 1
  · have he := jq_t hc8 he
    refine s_t hc8 ?_
    by_cases hc10 : v3 ≤ v4
    · have he := jq_t hc10 he
      refine s_t hc10 ?_
      exact NX7_tally_b68 (n := n) O he
    have he := jq_n hc10 he
    refine s_n hc10 ?_
    exact NX7_tally_b58 (n := n) O he
  have he := jq_n hc8 he
  refine s_n hc8 ?_
  by_cases hc9 : v4 ≤ v3
  · have he := jq_t hc9 he
    refine s_t hc9 ?_
    exact NX7_tally_b68 (n := n) O he
  have he := jq_n hc9 he
  refine s_n hc9 ?_
  exact NX7_tally_b58 (n := n) O he
set_option maxRecDepth 100000 in
set_option maxHeartbeats 4000000 in
theorem N_X7_tally {n a : Nat} {h0 : jq_H} {zs : ob_S} {p0 : Int32} {p1 : Int32} {S : ob_S} {h : jq_H} (O : OF a 6 6 sh_W h0 S h) (he : rX7_tally n S p0 p1 = some zs) : ∃ z, X7_tally n h a p0 p1 = some z ∧ (OF a 6 6 sh_W h0 zs z) := by
  unfold rX7_tally at he
  unfold X7_tally
  refine s_b (ob_gR O.1 (k := 2) rfl (by decide)) ?_
  obtain ⟨hg12, he⟩ := jq_ite he
  obtain ⟨x11, hx11, he⟩ := jq_ln he
  refine s_b ((ob_ld O.1 (k := 2) rfl hg12).trans (congrArg some hx11.symm)) ?_
  obtain ⟨x13, hx13, he⟩ := jq_ln he
  refine s_l hx13 ?_
  refine s_b (ob_gR O.1 (k := 2) rfl (by decide)) ?_
  obtain ⟨hg15, he⟩ := jq_ite he
  obtain ⟨x14, hx14, he⟩ := jq_ln he
  refine s_b ((ob_ld O.1 (k := 2) rfl hg15).trans (congrArg some hx14.symm)) ?_
  obtain ⟨x16, hx16, he⟩ := jq_ln he
  refine s_l hx16 ?_
  by_cases hc17 : (x13 + x16) = 0
  · have he := jq_t hc17 he
    refine s_t hc17 ?_
    obtain ⟨x18, hx18, he⟩ := jq_ln he
    refine s_b ((ob_gI O.1 (k := 7) rfl (by decide)).trans (congrArg some hx18.symm)) ?_
    obtain ⟨S19, hS19, he⟩ := jq_ln he
    obtain ⟨h, e1, O⟩ := ob_pI (k := 7) (cs := [6]) (x := (x18 + 1)) O ok_W (by decide) rfl (by decide)
    rw [← hS19] at O
    refine s_b e1 ?_
    exact NX7_tally_b38 (n := n) O he
  have he := jq_n hc17 he
  refine s_n hc17 ?_
  exact NX7_tally_b38 (n := n) O he
set_option maxRecDepth 100000 in
set_option maxHeartbeats 4000000 in
theorem NX7_survey_b142 {n a : Nat} {h0 : jq_H} {zs : ob_S} {S : ob_S} {h : jq_H} (O : OF a 6 6 sh_W h0 S h) (he : rX7_survey_b142 n S = some zs) : ∃ z, X7_survey_b142 n h = some z ∧ (OF a 6 6 sh_W h0 zs z) := by
  unfold rX7_survey_b142 at he
  unfold X7_survey_b142
  cases he
  exact ⟨_, rfl, O⟩
set_option maxRecDepth 100000 in
set_option maxHeartbeats 4000000 in
theorem NX7_survey_b116 {n a : Nat} {h0 : jq_H} {zs : ob_S} {KB : Int32 → ob_S → Option (ob_S)} {KBh : Nat → Int32 → jq_H → Option (jq_H)} {K142 : ob_S → Option (ob_S)} {K142h : jq_H → Option (jq_H)} (hKB : ∀ (u3 : Int32) (S : ob_S) (h : jq_H), OF a 6 6 sh_W h0 S h → KB u3 S = some zs → ∃ z, KBh a u3 h = some z ∧ (OF a 6 6 sh_W h0 zs z)) (hK142 : ∀ (S : ob_S) (h : jq_H), OF a 6 6 sh_W h0 S h → K142 S = some zs → ∃ z, K142h h = some z ∧ (OF a 6 6 sh_W h0 zs z)) {v3 : Int32} {S : ob_S} {h : jq_H} (O : OF a 6 6 sh_W h0 S h) (he : rX7_survey_b116 n KB K142 v3 S = some zs) : ∃ z, X7_survey_b116 n KBh K142h a v3 h = some z ∧ (OF a 6 6 sh_W h0 zs z) := by
  unfold rX7_survey_b116 at he
  unfold X7_survey_b116
  obtain ⟨x1, hx1, he⟩ := jq_ln he
  refine s_b ((ob_gI O.1 (k := 5) rfl (by decide)).trans (congrArg some hx1.symm)) ?_
  by_cases hc2 : x1 ≤ v3
  · have he := jq_t hc2 he
    refine s_t hc2 ?_
    exact hK142 _ _ O he
  have he := jq_n hc2 he
  refine s_n hc2 ?_
  refine s_b (ob_gR O.1 (k := 2) rfl (by decide)) ?_
  refine s_b (ob_gR O.1 (k := 3) rfl (by decide)) ?_
  obtain ⟨hg4, he⟩ := jq_ite he
  obtain ⟨x3, hx3, he⟩ := jq_ln he
  refine s_b ((ob_ld O.1 (k := 3) rfl hg4).trans (congrArg some hx3.symm)) ?_
  obtain ⟨hg6, he⟩ := jq_ite he
  obtain ⟨S5, hS5, he⟩ := jq_ln he
  obtain ⟨h, e1, O⟩ := ob_st (k := 2) (x := 0) O ok_W rfl hg6
  rw [← hS5] at O
  refine s_b e1 ?_
  obtain ⟨x7, hx7, he⟩ := jq_ln he
  refine s_l hx7 ?_
  exact hKB _ _ _ O he
set_option maxRecDepth 100000 in
set_option maxHeartbeats 4000000 in
theorem NX7_survey_l116 {n a : Nat} {h0 : jq_H} {zs : ob_S} {K142 : ob_S → Option (ob_S)} {K142h : jq_H → Option (jq_H)} (hK142 : ∀ (S : ob_S) (h : jq_H), OF a 6 6 sh_W h0 S h → K142 S = some zs → ∃ z, K142h h = some z ∧ (OF a 6 6 sh_W h0 zs z)) :
    ∀ (k : Nat) (v3 : Int32) (S : ob_S) (h : jq_H), OF a 6 6 sh_W h0 S h → rX7_survey_l116 n K142 k v3 S = some zs → ∃ z, X7_survey_l116 n K142h k a v3 h = some z ∧ (OF a 6 6 sh_W h0 zs z) := by
  intro k
  induction k with
  | zero => intro v3 S h O he; cases (show (none : Option (ob_S)) = some zs from he)
  | succ k ih =>
    intro v3 S h O he
    exact NX7_survey_b116 (n := n) (KB := rX7_survey_l116 n K142 k) (KBh := X7_survey_l116 n K142h k) ih hK142 O he
set_option maxRecDepth 100000 in
set_option maxHeartbeats 4000000 in
theorem NX7_survey_b114 {n a : Nat} {h0 : jq_H} {zs : ob_S} {S : ob_S} {h : jq_H} (O : OF a 6 6 sh_W h0 S h) (he : rX7_survey_b114 n S = some zs) : ∃ z, X7_survey_b114 n a h = some z ∧ (OF a 6 6 sh_W h0 zs z) := by
  unfold rX7_survey_b114 at he
  unfold X7_survey_b114
  exact NX7_survey_l116 (n := n) (fun SS hh O he => by
    exact NX7_survey_b142 (n := n) O he) n _ _ _ O he
set_option maxRecDepth 100000 in
set_option maxHeartbeats 4000000 in
theorem NX7_survey_b52 {n a : Nat} {h0 : jq_H} {zs : ob_S} {KB : Int32 → Int32 → Int32 → ob_S → Option (ob_S)} {KBh : Nat → Int32 → Int32 → Int32 → jq_H → Option (jq_H)} {K114 : ob_S → Option (ob_S)} {K114h : Nat → jq_H → Option (jq_H)} (hKB : ∀ (u1 : Int32) (u2 : Int32) (u3 : Int32) (S : ob_S) (h : jq_H), OF a 6 6 sh_W h0 S h → KB u1 u2 u3 S = some zs → ∃ z, KBh a u1 u2 u3 h = some z ∧ (OF a 6 6 sh_W h0 zs z)) (hK114 : ∀ (S : ob_S) (h : jq_H), OF a 6 6 sh_W h0 S h → K114 S = some zs → ∃ z, K114h a h = some z ∧ (OF a 6 6 sh_W h0 zs z)) {v1 : Int32} {v2 : Int32} {v3 : Int32} {v4 : Int32} {v5 : Int32} {s0 : Int32} {S : ob_S} {h : jq_H} (O : OF a 6 6 sh_W h0 S h) (he : rX7_survey_b52 n KB K114 v1 v2 v3 v4 v5 s0 S = some zs) : ∃ z, X7_survey_b52 n KBh K114h a v1 v2 v3 v4 v5 s0 h = some z ∧ (OF a 6 6 sh_W h0 zs z) := by
  unfold rX7_survey_b52 at he
  unfold X7_survey_b52
  refine s_b (ob_gR O.1 (k := 3) rfl (by decide)) ?_
  refine s_b (ob_gR O.1 (k := 4) rfl (by decide)) ?_
  obtain ⟨hg9, he⟩ := jq_ite he
  obtain ⟨x8, hx8, he⟩ := jq_ln he
  refine s_b ((ob_ld O.1 (k := 4) rfl hg9).trans (congrArg some hx8.symm)) ?_
  obtain ⟨hg11, he⟩ := jq_ite he
  obtain ⟨S10, hS10, he⟩ := jq_ln he
  obtain ⟨h, e1, O⟩ := ob_st (k := 3) (x := ((v4 <<< (v1 &&& 31)) ||| x8)) O ok_W rfl hg11
  rw [← hS10] at O
  refine s_b e1 ?_
  refine s_b (ob_gR O.1 (k := 3) rfl (by decide)) ?_
  obtain ⟨hg13, he⟩ := jq_ite he
  obtain ⟨x12, hx12, he⟩ := jq_ln he
  refine s_b ((ob_ld O.1 (k := 3) rfl hg13).trans (congrArg some hx12.symm)) ?_
  obtain ⟨z14, hz14, he⟩ := jq_b he
  have hOz14 := O.1.ci
  obtain ⟨h, e1, O⟩ := N_X7_tally O hz14
  refine s_b ((if_pos hOz14).trans e1) ?_
  refine s_b (ob_gR O.1 (k := 4) rfl (by decide)) ?_
  refine s_b (ob_gR O.1 (k := 4) rfl (by decide)) ?_
  obtain ⟨hg16, he⟩ := jq_ite he
  obtain ⟨x15, hx15, he⟩ := jq_ln he
  refine s_b ((ob_ld O.1 (k := 4) rfl hg16).trans (congrArg some hx15.symm)) ?_
  obtain ⟨x17, hx17, he⟩ := jq_ln he
  refine s_b (p_lowBits _ _ _) ?_
  rw [← hx17]
  obtain ⟨hg19, he⟩ := jq_ite he
  obtain ⟨S18, hS18, he⟩ := jq_ln he
  obtain ⟨h, e1, O⟩ := ob_st (k := 4) (x := (((x15 <<< (1 &&& 31)) ||| v5) &&& x17)) O ok_W rfl hg19
  rw [← hS18] at O
  refine s_b e1 ?_
  obtain ⟨x20, hx20, he⟩ := jq_ln he
  refine s_l hx20 ?_
  exact hKB _ _ _ _ _ O he
set_option maxRecDepth 100000 in
set_option maxHeartbeats 4000000 in
theorem NX7_survey_b20 {n a : Nat} {h0 : jq_H} {zs : ob_S} {KB : Int32 → Int32 → Int32 → ob_S → Option (ob_S)} {KBh : Nat → Int32 → Int32 → Int32 → jq_H → Option (jq_H)} {K114 : ob_S → Option (ob_S)} {K114h : Nat → jq_H → Option (jq_H)} (hKB : ∀ (u1 : Int32) (u2 : Int32) (u3 : Int32) (S : ob_S) (h : jq_H), OF a 6 6 sh_W h0 S h → KB u1 u2 u3 S = some zs → ∃ z, KBh a u1 u2 u3 h = some z ∧ (OF a 6 6 sh_W h0 zs z)) (hK114 : ∀ (S : ob_S) (h : jq_H), OF a 6 6 sh_W h0 S h → K114 S = some zs → ∃ z, K114h a h = some z ∧ (OF a 6 6 sh_W h0 zs z)) {v1 : Int32} {v2 : Int32} {v3 : Int32} {S : ob_S} {h : jq_H} (O : OF a 6 6 sh_W h0 S h) (he : rX7_survey_b20 n KB K114 v1 v2 v3 S = some zs) : ∃ z, X7_survey_b20 n KBh K114h a v1 v2 v3 h = some z ∧ (OF a 6 6 sh_W h0 zs z) := by
  unfold rX7_survey_b20 at he
  unfold X7_survey_b20
  obtain ⟨x21, hx21, he⟩ := jq_ln he
  refine s_b ((ob_gI O.1 (k := 5) rfl (by decide)).trans (congrArg some hx21.symm)) ?_
  by_cases hc22 : x21 ≤ v3
  · have he := jq_t hc22 he
    refine s_t hc22 ?_
    exact hK114 _ _ O he
  have he := jq_n hc22 he
  refine s_n hc22 ?_
  obtain ⟨z23, hz23, he⟩ := jq_b he
  have hOz23 := O.1.ci
  obtain ⟨⟨rz23, h⟩, e1, e2, O⟩ := N_X7_placeOf O hz23
  dsimp only at e2 O
  subst e2
  refine s_b ((if_pos hOz23).trans e1) ?_
  obtain ⟨x24, hx24, he⟩ := jq_ln he
  refine s_l hx24 ?_
  obtain ⟨z25, hz25, he⟩ := jq_b he
  have hOz25 := O.1.ci
  obtain ⟨⟨rz25, h⟩, e1, e2, O⟩ := N_X7_wayOf O hz25
  dsimp only at e2 O
  subst e2
  refine s_b ((if_pos hOz25).trans e1) ?_
  obtain ⟨x26, hx26, he⟩ := jq_ln he
  refine s_l hx26 ?_
  by_cases hc27 : v2 = 0
  · have he := jq_t hc27 he
    refine s_t hc27 ?_
    exact NX7_survey_b52 (n := n) hKB hK114 O he
  have he := jq_n hc27 he
  refine s_n hc27 ?_
  exact NX7_survey_b52 (n := n) hKB hK114 O he
set_option maxRecDepth 100000 in
set_option maxHeartbeats 4000000 in
theorem NX7_survey_l20 {n a : Nat} {h0 : jq_H} {zs : ob_S} {K114 : ob_S → Option (ob_S)} {K114h : Nat → jq_H → Option (jq_H)} (hK114 : ∀ (S : ob_S) (h : jq_H), OF a 6 6 sh_W h0 S h → K114 S = some zs → ∃ z, K114h a h = some z ∧ (OF a 6 6 sh_W h0 zs z)) :
    ∀ (k : Nat) (v1 : Int32) (v2 : Int32) (v3 : Int32) (S : ob_S) (h : jq_H), OF a 6 6 sh_W h0 S h → rX7_survey_l20 n K114 k v1 v2 v3 S = some zs → ∃ z, X7_survey_l20 n K114h k a v1 v2 v3 h = some z ∧ (OF a 6 6 sh_W h0 zs z) := by
  intro k
  induction k with
  | zero => intro v1 v2 v3 S h O he; cases (show (none : Option (ob_S)) = some zs from he)
  | succ k ih =>
    intro v1 v2 v3 S h O he
    exact NX7_survey_b20 (n := n) (KB := rX7_survey_l20 n K114 k) (KBh := X7_survey_l20 n K114h k) ih hK114 O he
set_option maxRecDepth 100000 in
set_option maxHeartbeats 4000000 in
theorem N_X7_survey {n a : Nat} {h0 : jq_H} {zs : ob_S} {p0 : Int32} {p1 : Int32} {S : ob_S} {h : jq_H} (O : OF a 6 6 sh_W h0 S h) (he : rX7_survey n S p0 p1 = some zs) : ∃ z, X7_survey n h a p0 p1 = some z ∧ (OF a 6 6 sh_W h0 zs z) := by
  unfold rX7_survey at he
  unfold X7_survey
  refine s_b (ob_gR O.1 (k := 4) rfl (by decide)) ?_
  obtain ⟨hg29, he⟩ := jq_ite he
  obtain ⟨S28, hS28, he⟩ := jq_ln he
  obtain ⟨h, e1, O⟩ := p_fill (k := 4) (x := 0) O ok_W rfl hg29 (by decide)
  rw [← hS28] at O
  refine s_b e1 ?_
  obtain ⟨S30, hS30, he⟩ := jq_ln he
  obtain ⟨h, e1, O⟩ := ob_pI (k := 6) (cs := [6]) (x := 0) O ok_W (by decide) rfl (by decide)
  rw [← hS30] at O
  refine s_b e1 ?_
  obtain ⟨S31, hS31, he⟩ := jq_ln he
  obtain ⟨h, e1, O⟩ := ob_pI (k := 7) (cs := [6]) (x := 0) O ok_W (by decide) rfl (by decide)
  rw [← hS31] at O
  refine s_b e1 ?_
  exact NX7_survey_l20 (n := n) (fun SS hh O he => by
    exact NX7_survey_b114 (n := n) O he) n _ _ _ _ _ O he
set_option maxRecDepth 100000 in
set_option maxHeartbeats 4000000 in
theorem N_X7_add {n a : Nat} {h0 : jq_H} {zs : ob_S} {p0 : Int32} {p1 : Int32} {S : ob_S} {h : jq_H} (O : OF a 6 6 sh_W h0 S h) (he : rX7_add n S p0 p1 = some zs) : ∃ z, X7_add n h a p0 p1 = some z ∧ (OF a 6 6 sh_W h0 zs z) := by
  unfold rX7_add at he
  unfold X7_add
  obtain ⟨x1, hx1, he⟩ := jq_ln he
  refine s_b ((ob_gI O.1 (k := 5) rfl (by decide)).trans (congrArg some hx1.symm)) ?_
  by_cases hc2 : x1 < 3000
  · have he := jq_t hc2 he
    refine s_t hc2 ?_
    refine s_b (ob_gR O.1 (k := 0) rfl (by decide)) ?_
    obtain ⟨x3, hx3, he⟩ := jq_ln he
    refine s_b ((ob_gI O.1 (k := 5) rfl (by decide)).trans (congrArg some hx3.symm)) ?_
    obtain ⟨hg5, he⟩ := jq_ite he
    obtain ⟨S4, hS4, he⟩ := jq_ln he
    obtain ⟨h, e1, O⟩ := ob_st (k := 0) (x := ((2 * p0) + p1)) O ok_W rfl hg5
    rw [← hS4] at O
    refine s_b e1 ?_
    refine s_b (ob_gR O.1 (k := 1) rfl (by decide)) ?_
    obtain ⟨hg7, he⟩ := jq_ite he
    obtain ⟨x6, hx6, he⟩ := jq_ln he
    refine s_b ((ob_ld O.1 (k := 1) rfl hg7).trans (congrArg some hx6.symm)) ?_
    obtain ⟨hg9, he⟩ := jq_ite he
    obtain ⟨S8, hS8, he⟩ := jq_ln he
    obtain ⟨h, e1, O⟩ := ob_st (k := 1) (x := (x6 + 1)) O ok_W rfl hg9
    rw [← hS8] at O
    refine s_b e1 ?_
    obtain ⟨x10, hx10, he⟩ := jq_ln he
    refine s_b ((ob_gI O.1 (k := 5) rfl (by decide)).trans (congrArg some hx10.symm)) ?_
    obtain ⟨S11, hS11, he⟩ := jq_ln he
    obtain ⟨h, e1, O⟩ := ob_pI (k := 5) (cs := [6]) (x := (x10 + 1)) O ok_W (by decide) rfl (by decide)
    rw [← hS11] at O
    refine s_b e1 ?_
    cases he
    exact ⟨_, rfl, O⟩
  have he := jq_n hc2 he
  refine s_n hc2 ?_
  cases he
  exact ⟨_, rfl, O⟩
set_option maxRecDepth 100000 in
set_option maxHeartbeats 4000000 in
theorem N_X7_clear {n a : Nat} {h0 : jq_H} {zs : ob_S} {S : ob_S} {h : jq_H} (O : OF a 6 6 sh_W h0 S h) (he : rX7_clear n S = some zs) : ∃ z, X7_clear n h a = some z ∧ (OF a 6 6 sh_W h0 zs z) := by
  unfold rX7_clear at he
  unfold X7_clear
  obtain ⟨S1, hS1, he⟩ := jq_ln he
  obtain ⟨h, e1, O⟩ := ob_pI (k := 5) (cs := [6]) (x := 0) O ok_W (by decide) rfl (by decide)
  rw [← hS1] at O
  refine s_b e1 ?_
  refine s_b (ob_gR O.1 (k := 1) rfl (by decide)) ?_
  obtain ⟨hg3, he⟩ := jq_ite he
  obtain ⟨S2, hS2, he⟩ := jq_ln he
  obtain ⟨h, e1, O⟩ := p_fill (k := 1) (x := 0) O ok_W rfl hg3 (by decide)
  rw [← hS2] at O
  refine s_b e1 ?_
  cases he
  exact ⟨_, rfl, O⟩
set_option maxRecDepth 100000 in
set_option maxHeartbeats 4000000 in
theorem N_X7_count {n a : Nat} {h0 : jq_H} {zs : Int32 × ob_S} {p0 : Int32} {p1 : Int32} {S : ob_S} {h : jq_H} (O : OF a 6 6 sh_W h0 S h) (he : rX7_count n S p0 p1 = some zs) : ∃ z, X7_count n h a p0 p1 = some z ∧ (z.1 = zs.1 ∧ OF a 6 6 sh_W h0 zs.2 z.2) := by
  unfold rX7_count at he
  unfold X7_count
  refine s_b (ob_gR O.1 (k := 1) rfl (by decide)) ?_
  obtain ⟨hg2, he⟩ := jq_ite he
  obtain ⟨x1, hx1, he⟩ := jq_ln he
  refine s_b ((ob_ld O.1 (k := 1) rfl hg2).trans (congrArg some hx1.symm)) ?_
  cases he
  exact ⟨_, rfl, rfl, O⟩
set_option maxRecDepth 100000 in
set_option maxHeartbeats 4000000 in
theorem N_X6_write {n a : Nat} {h0 : jq_H} {zs : ob_S} {p0 : Int32} {p1 : Int32} {p2 : Int32} {p3 : Int32} {p4 : Int32} {S : ob_S} {h : jq_H} (O : OF a 7 5 sh_M h0 S h) (he : rX6_write n S p0 p1 p2 p3 p4 = some zs) : ∃ z, X6_write n h a p0 p1 p2 p3 p4 = some z ∧ (OF a 7 5 sh_M h0 zs z) := by
  unfold rX6_write at he
  unfold X6_write
  refine s_b (ob_gR O.1 (k := 0) rfl (by decide)) ?_
  obtain ⟨hg2, he⟩ := jq_ite he
  obtain ⟨S1, hS1, he⟩ := jq_ln he
  obtain ⟨h, e1, O⟩ := ob_st (k := 0) (x := p1) O ok_M rfl hg2
  rw [← hS1] at O
  refine s_b e1 ?_
  refine s_b (ob_gR O.1 (k := 1) rfl (by decide)) ?_
  obtain ⟨hg4, he⟩ := jq_ite he
  obtain ⟨S3, hS3, he⟩ := jq_ln he
  obtain ⟨h, e1, O⟩ := ob_st (k := 1) (x := p2) O ok_M rfl hg4
  rw [← hS3] at O
  refine s_b e1 ?_
  refine s_b (ob_gR O.1 (k := 2) rfl (by decide)) ?_
  obtain ⟨hg6, he⟩ := jq_ite he
  obtain ⟨S5, hS5, he⟩ := jq_ln he
  obtain ⟨h, e1, O⟩ := ob_st (k := 2) (x := p3) O ok_M rfl hg6
  rw [← hS5] at O
  refine s_b e1 ?_
  refine s_b (ob_gR O.1 (k := 3) rfl (by decide)) ?_
  obtain ⟨hg8, he⟩ := jq_ite he
  obtain ⟨S7, hS7, he⟩ := jq_ln he
  obtain ⟨h, e1, O⟩ := ob_st (k := 3) (x := p4) O ok_M rfl hg8
  rw [← hS7] at O
  refine s_b e1 ?_
  cases he
  exact ⟨_, rfl, O⟩
set_option maxRecDepth 100000 in
set_option maxHeartbeats 4000000 in
theorem NX7_usualWay_b32 {n a : Nat} {h0 : jq_H} {zs : Int32 × ob_S} {s0 : Int32} {S : ob_S} {h : jq_H} (O : OF a 6 6 sh_W h0 S h) (he : rX7_usualWay_b32 n s0 S = some zs) : ∃ z, X7_usualWay_b32 n s0 h = some z ∧ (z.1 = zs.1 ∧ OF a 6 6 sh_W h0 zs.2 z.2) := by
  unfold rX7_usualWay_b32 at he
  unfold X7_usualWay_b32
  cases he
  exact ⟨_, rfl, rfl, O⟩
set_option maxRecDepth 100000 in
set_option maxHeartbeats 4000000 in
theorem N_X7_usualWay {n a : Nat} {h0 : jq_H} {zs : Int32 × ob_S} {p0 : Int32} {S : ob_S} {h : jq_H} (O : OF a 6 6 sh_W h0 S h) (he : rX7_usualWay n S p0 = some zs) : ∃ z, X7_usualWay n h a p0 = some z ∧ (z.1 = zs.1 ∧ OF a 6 6 sh_W h0 zs.2 z.2) := by
  unfold rX7_usualWay at he
  unfold X7_usualWay
  obtain ⟨z1, hz1, he⟩ := jq_b he
  have hOz1 := O.1.ci
  obtain ⟨⟨rz1, h⟩, e1, e2, O⟩ := N_X7_count O hz1
  dsimp only at e2 O
  subst e2
  refine s_b ((if_pos hOz1).trans e1) ?_
  obtain ⟨x2, hx2, he⟩ := jq_ln he
  refine s_l hx2 ?_
  obtain ⟨z3, hz3, he⟩ := jq_b he
  have hOz3 := O.1.ci
  obtain ⟨⟨rz3, h⟩, e1, e2, O⟩ := N_X7_count O hz3
  dsimp only at e2 O
  subst e2
  refine s_b ((if_pos hOz3).trans e1) ?_
  obtain ⟨x4, hx4, he⟩ := jq_ln he
  refine s_l hx4 ?_
  by_cases hc5 : (x2 + x4) = 0
  · have he := jq_t hc5 he
    refine s_t hc5 ?_
    cases he
    exact ⟨_, rfl, rfl, O⟩
  have he := jq_n hc5 he
  refine s_n hc5 ?_
  by_cases hc6 : x4 < x2
  · have he := jq_t hc6 he
    refine s_t hc6 ?_
    exact NX7_usualWay_b32 (n := n) O he
  have he := jq_n hc6 he
  refine s_n hc6 ?_
  exact NX7_usualWay_b32 (n := n) O he
set_option maxRecDepth 100000 in
set_option maxHeartbeats 4000000 in
theorem NX6_reckon_b188 {n a : Nat} {h0 : jq_H} {zs : ob_S} {S : ob_S} {h : jq_H} (O : OF a 7 5 sh_M h0 S h) (he : rX6_reckon_b188 n S = some zs) : ∃ z, X6_reckon_b188 n h = some z ∧ (OF a 7 5 sh_M h0 zs z) := by
  unfold rX6_reckon_b188 at he
  unfold X6_reckon_b188
  cases he
  exact ⟨_, rfl, O⟩
set_option maxRecDepth 100000 in
set_option maxHeartbeats 4000000 in
theorem N_X6_reckon {n a : Nat} {h0 : jq_H} {zs : ob_S} {p0 : Int32} {p1 : Int32} {p2 : Int32} {p3 : Int32} {S : ob_S} {h : jq_H} (O : OF a 7 5 sh_M h0 S h) (he : rX6_reckon n S p0 p1 p2 p3 = some zs) : ∃ z, X6_reckon n h a p0 p1 p2 p3 = some z ∧ (OF a 7 5 sh_M h0 zs z) := by
  unfold rX6_reckon at he
  unfold X6_reckon
  refine s_b (ob_gR O.1 (k := 4) rfl (by decide)) ?_
  obtain ⟨hg2, he⟩ := jq_ite he
  obtain ⟨x1, hx1, he⟩ := jq_ln he
  refine s_b ((ob_ld O.1 (k := 4) rfl hg2).trans (congrArg some hx1.symm)) ?_
  obtain ⟨x3, hx3, he⟩ := jq_ln he
  refine s_l hx3 ?_
  by_cases hc6 : p0 = 1
  · have he := jq_t hc6 he
    refine s_t hc6 ?_
    refine s_b (ob_gR O.1 (k := 4) rfl (by decide)) ?_
    obtain ⟨hg5, he⟩ := jq_ite he
    obtain ⟨S4, hS4, he⟩ := jq_ln he
    obtain ⟨h, e1, O⟩ := ob_st (k := 4) (x := p3) O ok_M rfl hg5
    rw [← hS4] at O
    refine s_b e1 ?_
    exact NX6_reckon_b188 (n := n) O he
  have he := jq_n hc6 he
  refine s_n hc6 ?_
  by_cases hc13 : p0 = 2
  · have he := jq_t hc13 he
    refine s_t hc13 ?_
    refine s_b (ob_gR O.1 (k := 4) rfl (by decide)) ?_
    obtain ⟨hg8, he⟩ := jq_ite he
    obtain ⟨x7, hx7, he⟩ := jq_ln he
    refine s_b ((ob_ld O.1 (k := 4) rfl hg8).trans (congrArg some hx7.symm)) ?_
    refine s_b (ob_gR O.1 (k := 4) rfl (by decide)) ?_
    obtain ⟨hg10, he⟩ := jq_ite he
    obtain ⟨x9, hx9, he⟩ := jq_ln he
    refine s_b ((ob_ld O.1 (k := 4) rfl hg10).trans (congrArg some hx9.symm)) ?_
    obtain ⟨hg12, he⟩ := jq_ite he
    obtain ⟨S11, hS11, he⟩ := jq_ln he
    obtain ⟨h, e1, O⟩ := ob_st (k := 4) (x := (x7 + x9)) O ok_M rfl hg12
    rw [← hS11] at O
    refine s_b e1 ?_
    exact NX6_reckon_b188 (n := n) O he
  have he := jq_n hc13 he
  refine s_n hc13 ?_
  by_cases hc20 : p0 = 3
  · have he := jq_t hc20 he
    refine s_t hc20 ?_
    refine s_b (ob_gR O.1 (k := 4) rfl (by decide)) ?_
    obtain ⟨hg15, he⟩ := jq_ite he
    obtain ⟨x14, hx14, he⟩ := jq_ln he
    refine s_b ((ob_ld O.1 (k := 4) rfl hg15).trans (congrArg some hx14.symm)) ?_
    refine s_b (ob_gR O.1 (k := 4) rfl (by decide)) ?_
    obtain ⟨hg17, he⟩ := jq_ite he
    obtain ⟨x16, hx16, he⟩ := jq_ln he
    refine s_b ((ob_ld O.1 (k := 4) rfl hg17).trans (congrArg some hx16.symm)) ?_
    obtain ⟨hg19, he⟩ := jq_ite he
    obtain ⟨S18, hS18, he⟩ := jq_ln he
    obtain ⟨h, e1, O⟩ := ob_st (k := 4) (x := (x14 - x16)) O ok_M rfl hg19
    rw [← hS18] at O
    refine s_b e1 ?_
    exact NX6_reckon_b188 (n := n) O he
  have he := jq_n hc20 he
  refine s_n hc20 ?_
  by_cases hc27 : p0 = 4
  · have he := jq_t hc27 he
    refine s_t hc27 ?_
    refine s_b (ob_gR O.1 (k := 4) rfl (by decide)) ?_
    obtain ⟨hg22, he⟩ := jq_ite he
    obtain ⟨x21, hx21, he⟩ := jq_ln he
    refine s_b ((ob_ld O.1 (k := 4) rfl hg22).trans (congrArg some hx21.symm)) ?_
    refine s_b (ob_gR O.1 (k := 4) rfl (by decide)) ?_
    obtain ⟨hg24, he⟩ := jq_ite he
    obtain ⟨x23, hx23, he⟩ := jq_ln he
    refine s_b ((ob_ld O.1 (k := 4) rfl hg24).trans (congrArg some hx23.symm)) ?_
    obtain ⟨hg26, he⟩ := jq_ite he
    obtain ⟨S25, hS25, he⟩ := jq_ln he
    obtain ⟨h, e1, O⟩ := ob_st (k := 4) (x := (x21 * x23)) O ok_M rfl hg26
    rw [← hS25] at O
    refine s_b e1 ?_
    exact NX6_reckon_b188 (n := n) O he
  have he := jq_n hc27 he
  refine s_n hc27 ?_
  by_cases hc34 : p0 = 5
  · have he := jq_t hc34 he
    refine s_t hc34 ?_
    refine s_b (ob_gR O.1 (k := 4) rfl (by decide)) ?_
    obtain ⟨hg29, he⟩ := jq_ite he
    obtain ⟨x28, hx28, he⟩ := jq_ln he
    refine s_b ((ob_ld O.1 (k := 4) rfl hg29).trans (congrArg some hx28.symm)) ?_
    refine s_b (ob_gR O.1 (k := 4) rfl (by decide)) ?_
    obtain ⟨hg31, he⟩ := jq_ite he
    obtain ⟨x30, hx30, he⟩ := jq_ln he
    refine s_b ((ob_ld O.1 (k := 4) rfl hg31).trans (congrArg some hx30.symm)) ?_
    obtain ⟨hg33, he⟩ := jq_ite he
    obtain ⟨S32, hS32, he⟩ := jq_ln he
    obtain ⟨h, e1, O⟩ := ob_st (k := 4) (x := (x28 &&& x30)) O ok_M rfl hg33
    rw [← hS32] at O
    refine s_b e1 ?_
    exact NX6_reckon_b188 (n := n) O he
  have he := jq_n hc34 he
  refine s_n hc34 ?_
  by_cases hc39 : p0 = 6
  · have he := jq_t hc39 he
    refine s_t hc39 ?_
    refine s_b (ob_gR O.1 (k := 4) rfl (by decide)) ?_
    obtain ⟨hg36, he⟩ := jq_ite he
    obtain ⟨x35, hx35, he⟩ := jq_ln he
    refine s_b ((ob_ld O.1 (k := 4) rfl hg36).trans (congrArg some hx35.symm)) ?_
    obtain ⟨hg38, he⟩ := jq_ite he
    obtain ⟨S37, hS37, he⟩ := jq_ln he
    obtain ⟨h, e1, O⟩ := ob_st (k := 4) (x := ((x35.toUInt32 >>> (Int32.toUInt32 1 &&& Int32.toUInt32 31)).toInt32)) O ok_M rfl hg38
    rw [← hS37] at O
    refine s_b e1 ?_
    exact NX6_reckon_b188 (n := n) O he
  have he := jq_n hc39 he
  refine s_n hc39 ?_
  by_cases hc44 : p0 = 7
  · have he := jq_t hc44 he
    refine s_t hc44 ?_
    refine s_b (ob_gR O.1 (k := 4) rfl (by decide)) ?_
    refine s_b (ob_gR O.1 (k := 5) rfl (by decide)) ?_
    obtain ⟨hg41, he⟩ := jq_ite he
    obtain ⟨x40, hx40, he⟩ := jq_ln he
    refine s_b ((ob_ld O.1 (k := 5) rfl hg41).trans (congrArg some hx40.symm)) ?_
    obtain ⟨hg43, he⟩ := jq_ite he
    obtain ⟨S42, hS42, he⟩ := jq_ln he
    obtain ⟨h, e1, O⟩ := ob_st (k := 4) (x := x40) O ok_M rfl hg43
    rw [← hS42] at O
    refine s_b e1 ?_
    exact NX6_reckon_b188 (n := n) O he
  have he := jq_n hc44 he
  refine s_n hc44 ?_
  by_cases hc49 : p0 = 8
  · have he := jq_t hc49 he
    refine s_t hc49 ?_
    refine s_b (ob_gR O.1 (k := 5) rfl (by decide)) ?_
    refine s_b (ob_gR O.1 (k := 4) rfl (by decide)) ?_
    obtain ⟨hg46, he⟩ := jq_ite he
    obtain ⟨x45, hx45, he⟩ := jq_ln he
    refine s_b ((ob_ld O.1 (k := 4) rfl hg46).trans (congrArg some hx45.symm)) ?_
    obtain ⟨hg48, he⟩ := jq_ite he
    obtain ⟨S47, hS47, he⟩ := jq_ln he
    obtain ⟨h, e1, O⟩ := ob_st (k := 5) (x := x45) O ok_M rfl hg48
    rw [← hS47] at O
    refine s_b e1 ?_
    exact NX6_reckon_b188 (n := n) O he
  have he := jq_n hc49 he
  refine s_n hc49 ?_
  exact NX6_reckon_b188 (n := n) O he
set_option maxRecDepth 100000 in
set_option maxHeartbeats 4000000 in
theorem NX6_step_b144 {n a : Nat} {h0 : jq_H} {zs : Int32 × ob_S} {s0 : Int32} {S : ob_S} {h : jq_H} (O : OF a 7 5 sh_M h0 S h) (he : rX6_step_b144 n s0 S = some zs) : ∃ z, X6_step_b144 n s0 h = some z ∧ (z.1 = zs.1 ∧ OF a 7 5 sh_M h0 zs.2 z.2) := by
  unfold rX6_step_b144 at he
  unfold X6_step_b144
  cases he
  exact ⟨_, rfl, rfl, O⟩
set_option maxRecDepth 100000 in
set_option maxHeartbeats 4000000 in
theorem NX6_step_b127 {n a : Nat} {h0 : jq_H} {zs : Int32 × ob_S} {v2 : Int32} {v3 : Int32} {S : ob_S} {h : jq_H} (O : OF a 7 5 sh_M h0 S h) (he : rX6_step_b127 n v2 v3 S = some zs) : ∃ z, X6_step_b127 n v2 v3 h = some z ∧ (z.1 = zs.1 ∧ OF a 7 5 sh_M h0 zs.2 z.2) := by
  unfold rX6_step_b127 at he
  unfold X6_step_b127
  by_cases hc1 : v2 = 12
  · have he := jq_t hc1 he
    refine s_t hc1 ?_
    cases he
    exact ⟨_, rfl, rfl, O⟩
  have he := jq_n hc1 he
  refine s_n hc1 ?_
  by_cases hc2 : v3 = 0
  · have he := jq_t hc2 he
    refine s_t hc2 ?_
    exact NX6_step_b144 (n := n) O he
  have he := jq_n hc2 he
  refine s_n hc2 ?_
  exact NX6_step_b144 (n := n) O he
set_option maxRecDepth 100000 in
set_option maxHeartbeats 4000000 in
theorem NX6_step_b109 {n a : Nat} {h0 : jq_H} {zs : Int32 × ob_S} {v1 : Int32} {v2 : Int32} {s0 : Int32} {S : ob_S} {h : jq_H} (O : OF a 7 5 sh_M h0 S h) (he : rX6_step_b109 n v1 v2 s0 S = some zs) : ∃ z, X6_step_b109 n a v1 v2 s0 h = some z ∧ (z.1 = zs.1 ∧ OF a 7 5 sh_M h0 zs.2 z.2) := by
  unfold rX6_step_b109 at he
  unfold X6_step_b109
  by_cases hc3 : s0 = 0
  · have he := jq_t hc3 he
    refine s_t hc3 ?_
    exact NX6_step_b127 (n := n) O he
  have he := jq_n hc3 he
  refine s_n hc3 ?_
  refine s_b (ob_gR O.1 (k := 3) rfl (by decide)) ?_
  obtain ⟨hg5, he⟩ := jq_ite he
  obtain ⟨x4, hx4, he⟩ := jq_ln he
  refine s_b ((ob_ld O.1 (k := 3) rfl hg5).trans (congrArg some hx4.symm)) ?_
  obtain ⟨S6, hS6, he⟩ := jq_ln he
  obtain ⟨h, e1, O⟩ := ob_pI (k := 6) (cs := [5]) (x := (x4 &&& 63)) O ok_M (by decide) rfl (by decide)
  rw [← hS6] at O
  refine s_b e1 ?_
  exact NX6_step_b127 (n := n) O he
set_option maxRecDepth 100000 in
set_option maxHeartbeats 4000000 in
theorem NX6_step_b104 {n a : Nat} {h0 : jq_H} {zs : Int32 × ob_S} {v1 : Int32} {v2 : Int32} {S : ob_S} {h : jq_H} (O : OF a 7 5 sh_M h0 S h) (he : rX6_step_b104 n v1 v2 S = some zs) : ∃ z, X6_step_b104 n a v1 v2 h = some z ∧ (z.1 = zs.1 ∧ OF a 7 5 sh_M h0 zs.2 z.2) := by
  unfold rX6_step_b104 at he
  unfold X6_step_b104
  exact NX6_step_b109 (n := n) O he
set_option maxRecDepth 100000 in
set_option maxHeartbeats 4000000 in
theorem N_X6_step {n a : Nat} {h0 : jq_H} {zs : Int32 × ob_S} {S : ob_S} {h : jq_H} (O : OF a 7 5 sh_M h0 S h) (he : rX6_step n S = some zs) : ∃ z, X6_step n h a = some z ∧ (z.1 = zs.1 ∧ OF a 7 5 sh_M h0 zs.2 z.2) := by
  unfold rX6_step at he
  unfold X6_step
  obtain ⟨x7, hx7, he⟩ := jq_ln he
  refine s_b ((ob_gI O.1 (k := 6) rfl (by decide)).trans (congrArg some hx7.symm)) ?_
  refine s_b (ob_gR O.1 (k := 0) rfl (by decide)) ?_
  obtain ⟨hg9, he⟩ := jq_ite he
  obtain ⟨x8, hx8, he⟩ := jq_ln he
  refine s_b ((ob_ld O.1 (k := 0) rfl hg9).trans (congrArg some hx8.symm)) ?_
  by_cases hc10 : x8 = 0
  · have he := jq_t hc10 he
    refine s_t hc10 ?_
    cases he
    exact ⟨_, rfl, rfl, O⟩
  have he := jq_n hc10 he
  refine s_n hc10 ?_
  obtain ⟨x11, hx11, he⟩ := jq_ln he
  refine s_b ((ob_gI O.1 (k := 7) rfl (by decide)).trans (congrArg some hx11.symm)) ?_
  obtain ⟨S12, hS12, he⟩ := jq_ln he
  obtain ⟨h, e1, O⟩ := ob_pI (k := 7) (cs := [5]) (x := (x11 + 1)) O ok_M (by decide) rfl (by decide)
  rw [← hS12] at O
  refine s_b e1 ?_
  obtain ⟨S13, hS13, he⟩ := jq_ln he
  obtain ⟨h, e1, O⟩ := ob_pI (k := 6) (cs := [5]) (x := ((x7 + 1) &&& 63)) O ok_M (by decide) rfl (by decide)
  rw [← hS13] at O
  refine s_b e1 ?_
  by_cases hc14 : 9 ≤ x8
  · have he := jq_t hc14 he
    refine s_t hc14 ?_
    by_cases hc15 : x8 = 12
    · have he := jq_t hc15 he
      refine s_t hc15 ?_
      exact NX6_step_b104 (n := n) O he
    have he := jq_n hc15 he
    refine s_n hc15 ?_
    refine s_b (ob_gR O.1 (k := 4) rfl (by decide)) ?_
    refine s_b (ob_gR O.1 (k := 1) rfl (by decide)) ?_
    obtain ⟨hg17, he⟩ := jq_ite he
    obtain ⟨x16, hx16, he⟩ := jq_ln he
    refine s_b ((ob_ld O.1 (k := 1) rfl hg17).trans (congrArg some hx16.symm)) ?_
    obtain ⟨hg19, he⟩ := jq_ite he
    obtain ⟨x18, hx18, he⟩ := jq_ln he
    refine s_b ((ob_ld O.1 (k := 4) rfl hg19).trans (congrArg some hx18.symm)) ?_
    refine s_b (ob_gR O.1 (k := 4) rfl (by decide)) ?_
    refine s_b (ob_gR O.1 (k := 2) rfl (by decide)) ?_
    obtain ⟨hg21, he⟩ := jq_ite he
    obtain ⟨x20, hx20, he⟩ := jq_ln he
    refine s_b ((ob_ld O.1 (k := 2) rfl hg21).trans (congrArg some hx20.symm)) ?_
    obtain ⟨hg23, he⟩ := jq_ite he
    obtain ⟨x22, hx22, he⟩ := jq_ln he
    refine s_b ((ob_ld O.1 (k := 4) rfl hg23).trans (congrArg some hx22.symm)) ?_
    obtain ⟨x24, hx24, he⟩ := jq_ln he
    refine s_b (p_holds _ _ _ _ _) ?_
    rw [← hx24]
    by_cases hc25 : x24 = 0
    · have he := jq_t hc25 he
      refine s_t hc25 ?_
      exact NX6_step_b109 (n := n) O he
    have he := jq_n hc25 he
    refine s_n hc25 ?_
    exact NX6_step_b104 (n := n) O he
  have he := jq_n hc14 he
  refine s_n hc14 ?_
  refine s_b (ob_gR O.1 (k := 1) rfl (by decide)) ?_
  obtain ⟨hg27, he⟩ := jq_ite he
  obtain ⟨x26, hx26, he⟩ := jq_ln he
  refine s_b ((ob_ld O.1 (k := 1) rfl hg27).trans (congrArg some hx26.symm)) ?_
  refine s_b (ob_gR O.1 (k := 2) rfl (by decide)) ?_
  obtain ⟨hg29, he⟩ := jq_ite he
  obtain ⟨x28, hx28, he⟩ := jq_ln he
  refine s_b ((ob_ld O.1 (k := 2) rfl hg29).trans (congrArg some hx28.symm)) ?_
  refine s_b (ob_gR O.1 (k := 3) rfl (by decide)) ?_
  obtain ⟨hg31, he⟩ := jq_ite he
  obtain ⟨x30, hx30, he⟩ := jq_ln he
  refine s_b ((ob_ld O.1 (k := 3) rfl hg31).trans (congrArg some hx30.symm)) ?_
  obtain ⟨z32, hz32, he⟩ := jq_b he
  have hOz32 := O.1.ci
  obtain ⟨h, e1, O⟩ := N_X6_reckon O hz32
  refine s_b ((if_pos hOz32).trans e1) ?_
  cases he
  exact ⟨_, rfl, rfl, O⟩
