set_option maxRecDepth 100000 in
set_option maxHeartbeats 4000000 in
theorem N_X11_isGuesser {n a : Nat} {h0 : jq_H} {zs : Int32 × ob_S} {p0 : Int32} {S : ob_S} {h : jq_H} (O : OF a 21 10 sh_R h0 S h) (he : rX11_isGuesser n S p0 = some zs) : ∃ z, X11_isGuesser n h a p0 = some z ∧ (z.1 = zs.1 ∧ OF a 21 10 sh_R h0 zs.2 z.2) := by
  unfold rX11_isGuesser at he
  unfold X11_isGuesser
  obtain ⟨x1, hx1, he⟩ := jq_ln he
  refine s_b ((ob_gI O.1 (k := 12) rfl (by decide)).trans (congrArg some hx1.symm)) ?_
  obtain ⟨x2, hx2, he⟩ := jq_ln he
  refine s_b (p_in _ _ _ _ _) ?_
  rw [← hx2]
  obtain ⟨hz3, he⟩ := jq_ite he
  cases he
  exact ⟨_, if_pos hz3, rfl, O⟩
set_option maxRecDepth 100000 in
set_option maxHeartbeats 4000000 in
theorem NX11_begin_b122 {n a : Nat} {h0 : jq_H} {zs : ob_S} {S : ob_S} {h : jq_H} (O : OF a 21 10 sh_R h0 S h) (he : rX11_begin_b122 n S = some zs) : ∃ z, X11_begin_b122 n h = some z ∧ (OF a 21 10 sh_R h0 zs z) := by
  unfold rX11_begin_b122 at he
  unfold X11_begin_b122
  cases he
  exact ⟨_, rfl, O⟩
set_option maxRecDepth 100000 in
set_option maxHeartbeats 4000000 in
theorem NX11_begin_b115 {n a : Nat} {h0 : jq_H} {zs : ob_S} {KB : Int32 → Int32 → Int32 → ob_S → Option (ob_S)} {KBh : Nat → Int32 → Int32 → Int32 → jq_H → Option (jq_H)} {K122 : ob_S → Option (ob_S)} {K122h : jq_H → Option (jq_H)} (hKB : ∀ (u1 : Int32) (u2 : Int32) (u3 : Int32) (S : ob_S) (h : jq_H), OF a 21 10 sh_R h0 S h → KB u1 u2 u3 S = some zs → ∃ z, KBh a u1 u2 u3 h = some z ∧ (OF a 21 10 sh_R h0 zs z)) (hK122 : ∀ (S : ob_S) (h : jq_H), OF a 21 10 sh_R h0 S h → K122 S = some zs → ∃ z, K122h h = some z ∧ (OF a 21 10 sh_R h0 zs z)) {v1 : Int32} {v2 : Int32} {v3 : Int32} {s1 : Int32} {s2 : Int32} {S : ob_S} {h : jq_H} (O : OF a 21 10 sh_R h0 S h) (he : rX11_begin_b115 n KB K122 v1 v2 v3 s1 s2 S = some zs) : ∃ z, X11_begin_b115 n KBh K122h a v1 v2 v3 (a + 14) s1 s2 h = some z ∧ (OF a 21 10 sh_R h0 zs z) := by
  unfold rX11_begin_b115 at he
  unfold X11_begin_b115
  obtain ⟨hg2, he⟩ := jq_ite he
  obtain ⟨S1, hS1, he⟩ := jq_ln he
  obtain ⟨h, e1, O⟩ := ob_st (k := 18) (x := s2) O ok_R rfl hg2
  rw [← hS1] at O
  refine s_b e1 ?_
  obtain ⟨x3, hx3, he⟩ := jq_ln he
  refine s_l hx3 ?_
  exact hKB _ _ _ _ _ O he
set_option maxRecDepth 100000 in
set_option maxHeartbeats 4000000 in
theorem NX11_begin_b60 {n a : Nat} {h0 : jq_H} {zs : ob_S} {KB : Int32 → Int32 → Int32 → ob_S → Option (ob_S)} {KBh : Nat → Int32 → Int32 → Int32 → jq_H → Option (jq_H)} {K122 : ob_S → Option (ob_S)} {K122h : jq_H → Option (jq_H)} (hKB : ∀ (u1 : Int32) (u2 : Int32) (u3 : Int32) (S : ob_S) (h : jq_H), OF a 21 10 sh_R h0 S h → KB u1 u2 u3 S = some zs → ∃ z, KBh a u1 u2 u3 h = some z ∧ (OF a 21 10 sh_R h0 zs z)) (hK122 : ∀ (S : ob_S) (h : jq_H), OF a 21 10 sh_R h0 S h → K122 S = some zs → ∃ z, K122h h = some z ∧ (OF a 21 10 sh_R h0 zs z)) {v1 : Int32} {v2 : Int32} {v3 : Int32} {S : ob_S} {h : jq_H} (O : OF a 21 10 sh_R h0 S h) (he : rX11_begin_b60 n KB K122 v1 v2 v3 S = some zs) : ∃ z, X11_begin_b60 n KBh K122h a v1 v2 v3 h = some z ∧ (OF a 21 10 sh_R h0 zs z) := by
  unfold rX11_begin_b60 at he
  unfold X11_begin_b60
  by_cases hc4 : 384 ≤ v3
  · have he := jq_t hc4 he
    refine s_t hc4 ?_
    exact hK122 _ _ O he
  have he := jq_n hc4 he
  refine s_n hc4 ?_
  refine s_b (ob_gR O.1 (k := 18) rfl (by decide)) ?_
  refine s_b (ob_gR O.1 (k := 13) rfl (by decide)) ?_
  obtain ⟨hg6, he⟩ := jq_ite he
  obtain ⟨x5, hx5, he⟩ := jq_ln he
  refine s_b ((ob_ld O.1 (k := 13) rfl hg6).trans (congrArg some hx5.symm)) ?_
  by_cases hc7 : x5 = 5
  · have he := jq_t hc7 he
    refine s_t hc7 ?_
    exact NX11_begin_b115 (n := n) hKB hK122 O he
  have he := jq_n hc7 he
  refine s_n hc7 ?_
  refine s_b (ob_gR O.1 (k := 13) rfl (by decide)) ?_
  obtain ⟨hg9, he⟩ := jq_ite he
  obtain ⟨x8, hx8, he⟩ := jq_ln he
  refine s_b ((ob_ld O.1 (k := 13) rfl hg9).trans (congrArg some hx8.symm)) ?_
  by_cases hc10 : x8 = 6
  · have he := jq_t hc10 he
    refine s_t hc10 ?_
    by_cases hc11 : (v3 - v3 / 3 * 3) = 1
    · have he := jq_t hc11 he
      refine s_t hc11 ?_
      exact NX11_begin_b115 (n := n) hKB hK122 O he
    have he := jq_n hc11 he
    refine s_n hc11 ?_
    exact NX11_begin_b115 (n := n) hKB hK122 O he
  have he := jq_n hc10 he
  refine s_n hc10 ?_
  exact NX11_begin_b115 (n := n) hKB hK122 O he
set_option maxRecDepth 100000 in
set_option maxHeartbeats 4000000 in
theorem NX11_begin_l60 {n a : Nat} {h0 : jq_H} {zs : ob_S} {K122 : ob_S → Option (ob_S)} {K122h : jq_H → Option (jq_H)} (hK122 : ∀ (S : ob_S) (h : jq_H), OF a 21 10 sh_R h0 S h → K122 S = some zs → ∃ z, K122h h = some z ∧ (OF a 21 10 sh_R h0 zs z)) :
    ∀ (k : Nat) (v1 : Int32) (v2 : Int32) (v3 : Int32) (S : ob_S) (h : jq_H), OF a 21 10 sh_R h0 S h → rX11_begin_l60 n K122 k v1 v2 v3 S = some zs → ∃ z, X11_begin_l60 n K122h k a v1 v2 v3 h = some z ∧ (OF a 21 10 sh_R h0 zs z) := by
  intro k
  induction k with
  | zero => intro v1 v2 v3 S h O he; cases (show (none : Option (ob_S)) = some zs from he)
  | succ k ih =>
    intro v1 v2 v3 S h O he
    exact NX11_begin_b60 (n := n) (KB := rX11_begin_l60 n K122 k) (KBh := X11_begin_l60 n K122h k) ih hK122 O he
set_option maxRecDepth 100000 in
set_option maxHeartbeats 4000000 in
theorem NX11_begin_b58 {n a : Nat} {h0 : jq_H} {zs : ob_S} {v1 : Int32} {v2 : Int32} {S : ob_S} {h : jq_H} (O : OF a 21 10 sh_R h0 S h) (he : rX11_begin_b58 n v1 v2 S = some zs) : ∃ z, X11_begin_b58 n a v1 v2 h = some z ∧ (OF a 21 10 sh_R h0 zs z) := by
  unfold rX11_begin_b58 at he
  unfold X11_begin_b58
  exact NX11_begin_l60 (n := n) (fun SS hh O he => by
    exact NX11_begin_b122 (n := n) O he) n _ _ _ _ _ O he
set_option maxRecDepth 100000 in
set_option maxHeartbeats 4000000 in
theorem NX11_begin_b32 {n a : Nat} {h0 : jq_H} {zs : ob_S} {KB : Int32 → Int32 → Int32 → ob_S → Option (ob_S)} {KBh : Nat → Int32 → Int32 → Int32 → jq_H → Option (jq_H)} {K58 : Int32 → Int32 → ob_S → Option (ob_S)} {K58h : Nat → Int32 → Int32 → jq_H → Option (jq_H)} (hKB : ∀ (u1 : Int32) (u2 : Int32) (u3 : Int32) (S : ob_S) (h : jq_H), OF a 21 10 sh_R h0 S h → KB u1 u2 u3 S = some zs → ∃ z, KBh a u1 u2 u3 h = some z ∧ (OF a 21 10 sh_R h0 zs z)) (hK58 : ∀ (u1 : Int32) (u2 : Int32) (S : ob_S) (h : jq_H), OF a 21 10 sh_R h0 S h → K58 u1 u2 S = some zs → ∃ z, K58h a u1 u2 h = some z ∧ (OF a 21 10 sh_R h0 zs z)) {v1 : Int32} {v2 : Int32} {v3 : Int32} {S : ob_S} {h : jq_H} (O : OF a 21 10 sh_R h0 S h) (he : rX11_begin_b32 n KB K58 v1 v2 v3 S = some zs) : ∃ z, X11_begin_b32 n KBh K58h a v1 v2 v3 h = some z ∧ (OF a 21 10 sh_R h0 zs z) := by
  unfold rX11_begin_b32 at he
  unfold X11_begin_b32
  by_cases hc12 : 256 ≤ v3
  · have he := jq_t hc12 he
    refine s_t hc12 ?_
    exact hK58 _ _ _ _ O he
  have he := jq_n hc12 he
  refine s_n hc12 ?_
  refine s_b (ob_gR O.1 (k := 18) rfl (by decide)) ?_
  obtain ⟨hg14, he⟩ := jq_ite he
  obtain ⟨S13, hS13, he⟩ := jq_ln he
  obtain ⟨h, e1, O⟩ := ob_st (k := 18) (x := (-1)) O ok_R rfl hg14
  rw [← hS13] at O
  refine s_b e1 ?_
  obtain ⟨x15, hx15, he⟩ := jq_ln he
  refine s_l hx15 ?_
  exact hKB _ _ _ _ _ O he
set_option maxRecDepth 100000 in
set_option maxHeartbeats 4000000 in
theorem NX11_begin_l32 {n a : Nat} {h0 : jq_H} {zs : ob_S} {K58 : Int32 → Int32 → ob_S → Option (ob_S)} {K58h : Nat → Int32 → Int32 → jq_H → Option (jq_H)} (hK58 : ∀ (u1 : Int32) (u2 : Int32) (S : ob_S) (h : jq_H), OF a 21 10 sh_R h0 S h → K58 u1 u2 S = some zs → ∃ z, K58h a u1 u2 h = some z ∧ (OF a 21 10 sh_R h0 zs z)) :
    ∀ (k : Nat) (v1 : Int32) (v2 : Int32) (v3 : Int32) (S : ob_S) (h : jq_H), OF a 21 10 sh_R h0 S h → rX11_begin_l32 n K58 k v1 v2 v3 S = some zs → ∃ z, X11_begin_l32 n K58h k a v1 v2 v3 h = some z ∧ (OF a 21 10 sh_R h0 zs z) := by
  intro k
  induction k with
  | zero => intro v1 v2 v3 S h O he; cases (show (none : Option (ob_S)) = some zs from he)
  | succ k ih =>
    intro v1 v2 v3 S h O he
    exact NX11_begin_b32 (n := n) (KB := rX11_begin_l32 n K58 k) (KBh := X11_begin_l32 n K58h k) ih hK58 O he
set_option maxRecDepth 100000 in
set_option maxHeartbeats 4000000 in
theorem NX11_begin_b30 {n a : Nat} {h0 : jq_H} {zs : ob_S} {v1 : Int32} {v2 : Int32} {S : ob_S} {h : jq_H} (O : OF a 21 10 sh_R h0 S h) (he : rX11_begin_b30 n v1 v2 S = some zs) : ∃ z, X11_begin_b30 n a v1 v2 h = some z ∧ (OF a 21 10 sh_R h0 zs z) := by
  unfold rX11_begin_b30 at he
  unfold X11_begin_b30
  exact NX11_begin_l32 (n := n) (fun w1 w2 SS hh O he => by
    exact NX11_begin_b58 (n := n) O he) n _ _ _ _ _ O he
set_option maxRecDepth 100000 in
set_option maxHeartbeats 4000000 in
theorem NX11_begin_b8 {n a : Nat} {h0 : jq_H} {zs : ob_S} {KB : Int32 → Int32 → Int32 → ob_S → Option (ob_S)} {KBh : Nat → Int32 → Int32 → Int32 → jq_H → Option (jq_H)} {K30 : Int32 → Int32 → ob_S → Option (ob_S)} {K30h : Nat → Int32 → Int32 → jq_H → Option (jq_H)} (hKB : ∀ (u1 : Int32) (u2 : Int32) (u3 : Int32) (S : ob_S) (h : jq_H), OF a 21 10 sh_R h0 S h → KB u1 u2 u3 S = some zs → ∃ z, KBh a u1 u2 u3 h = some z ∧ (OF a 21 10 sh_R h0 zs z)) (hK30 : ∀ (u1 : Int32) (u2 : Int32) (S : ob_S) (h : jq_H), OF a 21 10 sh_R h0 S h → K30 u1 u2 S = some zs → ∃ z, K30h a u1 u2 h = some z ∧ (OF a 21 10 sh_R h0 zs z)) {v1 : Int32} {v2 : Int32} {v3 : Int32} {S : ob_S} {h : jq_H} (O : OF a 21 10 sh_R h0 S h) (he : rX11_begin_b8 n KB K30 v1 v2 v3 S = some zs) : ∃ z, X11_begin_b8 n KBh K30h a v1 v2 v3 h = some z ∧ (OF a 21 10 sh_R h0 zs z) := by
  unfold rX11_begin_b8 at he
  unfold X11_begin_b8
  by_cases hc16 : 812 ≤ v3
  · have he := jq_t hc16 he
    refine s_t hc16 ?_
    exact hK30 _ _ _ _ O he
  have he := jq_n hc16 he
  refine s_n hc16 ?_
  refine s_b (ob_gR O.1 (k := 18) rfl (by decide)) ?_
  obtain ⟨hg18, he⟩ := jq_ite he
  obtain ⟨S17, hS17, he⟩ := jq_ln he
  obtain ⟨h, e1, O⟩ := ob_st (k := 18) (x := 0) O ok_R rfl hg18
  rw [← hS17] at O
  refine s_b e1 ?_
  obtain ⟨x19, hx19, he⟩ := jq_ln he
  refine s_l hx19 ?_
  exact hKB _ _ _ _ _ O he
set_option maxRecDepth 100000 in
set_option maxHeartbeats 4000000 in
theorem NX11_begin_l8 {n a : Nat} {h0 : jq_H} {zs : ob_S} {K30 : Int32 → Int32 → ob_S → Option (ob_S)} {K30h : Nat → Int32 → Int32 → jq_H → Option (jq_H)} (hK30 : ∀ (u1 : Int32) (u2 : Int32) (S : ob_S) (h : jq_H), OF a 21 10 sh_R h0 S h → K30 u1 u2 S = some zs → ∃ z, K30h a u1 u2 h = some z ∧ (OF a 21 10 sh_R h0 zs z)) :
    ∀ (k : Nat) (v1 : Int32) (v2 : Int32) (v3 : Int32) (S : ob_S) (h : jq_H), OF a 21 10 sh_R h0 S h → rX11_begin_l8 n K30 k v1 v2 v3 S = some zs → ∃ z, X11_begin_l8 n K30h k a v1 v2 v3 h = some z ∧ (OF a 21 10 sh_R h0 zs z) := by
  intro k
  induction k with
  | zero => intro v1 v2 v3 S h O he; cases (show (none : Option (ob_S)) = some zs from he)
  | succ k ih =>
    intro v1 v2 v3 S h O he
    exact NX11_begin_b8 (n := n) (KB := rX11_begin_l8 n K30 k) (KBh := X11_begin_l8 n K30h k) ih hK30 O he
set_option maxRecDepth 100000 in
set_option maxHeartbeats 4000000 in
theorem N_X11_begin {n a : Nat} {h0 : jq_H} {zs : ob_S} {p0 : Int32} {S : ob_S} {h : jq_H} (O : OF a 21 10 sh_R h0 S h) (he : rX11_begin n S p0 = some zs) : ∃ z, X11_begin n h a p0 = some z ∧ (OF a 21 10 sh_R h0 zs z) := by
  unfold rX11_begin at he
  unfold X11_begin
  obtain ⟨x20, hx20, he⟩ := jq_ln he
  refine s_l hx20 ?_
  exact NX11_begin_l8 (n := n) (fun w1 w2 SS hh O he => by
    exact NX11_begin_b30 (n := n) O he) n _ _ _ _ _ O he
set_option maxRecDepth 100000 in
set_option maxHeartbeats 4000000 in
theorem NX11_clashes1_b38 {n a : Nat} {h0 : jq_H} {zs : Int32 × ob_S} {s0 : Int32} {S : ob_S} {h : jq_H} (O : OF a 21 10 sh_R h0 S h) (he : rX11_clashes1_b38 n s0 S = some zs) : ∃ z, X11_clashes1_b38 n s0 h = some z ∧ (z.1 = zs.1 ∧ OF a 21 10 sh_R h0 zs.2 z.2) := by
  unfold rX11_clashes1_b38 at he
  unfold X11_clashes1_b38
  obtain ⟨hz1, he⟩ := jq_ite he
  cases he
  exact ⟨_, if_pos hz1, rfl, O⟩
set_option maxRecDepth 100000 in
set_option maxHeartbeats 4000000 in
theorem NX11_clashes1_b33 {n a : Nat} {h0 : jq_H} {zs : Int32 × ob_S} {S : ob_S} {h : jq_H} (O : OF a 21 10 sh_R h0 S h) (he : rX11_clashes1_b33 n S = some zs) : ∃ z, X11_clashes1_b33 n h = some z ∧ (z.1 = zs.1 ∧ OF a 21 10 sh_R h0 zs.2 z.2) := by
  unfold rX11_clashes1_b33 at he
  unfold X11_clashes1_b33
  exact NX11_clashes1_b38 (n := n) O he
set_option maxRecDepth 100000 in
set_option maxHeartbeats 4000000 in
theorem N_X11_clashes1 {n a : Nat} {h0 : jq_H} {zs : Int32 × ob_S} {p0 : Int32} {S : ob_S} {h : jq_H} (O : OF a 21 10 sh_R h0 S h) (he : rX11_clashes1 n S p0 = some zs) : ∃ z, X11_clashes1 n h a p0 = some z ∧ (z.1 = zs.1 ∧ OF a 21 10 sh_R h0 zs.2 z.2) := by
  unfold rX11_clashes1 at he
  unfold X11_clashes1
  refine s_b (ob_gR O.1 (k := 13) rfl (by decide)) ?_
  obtain ⟨hg3, he⟩ := jq_ite he
  obtain ⟨x2, hx2, he⟩ := jq_ln he
  refine s_b ((ob_ld O.1 (k := 13) rfl hg3).trans (congrArg some hx2.symm)) ?_
  by_cases hc4 : x2 = 1
  · have he := jq_t hc4 he
    refine s_t hc4 ?_
    exact NX11_clashes1_b33 (n := n) O he
  have he := jq_n hc4 he
  refine s_n hc4 ?_
  by_cases hc5 : x2 = 2
  · have he := jq_t hc5 he
    refine s_t hc5 ?_
    exact NX11_clashes1_b33 (n := n) O he
  have he := jq_n hc5 he
  refine s_n hc5 ?_
  by_cases hc6 : x2 = 3
  · have he := jq_t hc6 he
    refine s_t hc6 ?_
    exact NX11_clashes1_b33 (n := n) O he
  have he := jq_n hc6 he
  refine s_n hc6 ?_
  by_cases hc7 : x2 = 5
  · have he := jq_t hc7 he
    refine s_t hc7 ?_
    exact NX11_clashes1_b33 (n := n) O he
  have he := jq_n hc7 he
  refine s_n hc7 ?_
  by_cases hc8 : x2 = 7
  · have he := jq_t hc8 he
    refine s_t hc8 ?_
    exact NX11_clashes1_b33 (n := n) O he
  have he := jq_n hc8 he
  refine s_n hc8 ?_
  exact NX11_clashes1_b38 (n := n) O he
set_option maxRecDepth 100000 in
set_option maxHeartbeats 4000000 in
theorem N_X11_counter {n a : Nat} {h0 : jq_H} {zs : Int32 × ob_S} {p0 : Int32} {p1 : Int32} {p2 : Int32} {S : ob_S} {h : jq_H} (O : OF a 21 10 sh_R h0 S h) (he : rX11_counter n S p0 p1 p2 = some zs) : ∃ z, X11_counter n h a p0 p1 p2 = some z ∧ (z.1 = zs.1 ∧ OF a 21 10 sh_R h0 zs.2 z.2) := by
  unfold rX11_counter at he
  unfold X11_counter
  obtain ⟨x1, hx1, he⟩ := jq_ln he
  refine s_l hx1 ?_
  refine s_b (ob_gR O.1 (k := 18) rfl (by decide)) ?_
  obtain ⟨hg3, he⟩ := jq_ite he
  obtain ⟨x2, hx2, he⟩ := jq_ln he
  refine s_b ((ob_ld O.1 (k := 18) rfl hg3).trans (congrArg some hx2.symm)) ?_
  refine s_b (ob_gR O.1 (k := 13) rfl (by decide)) ?_
  obtain ⟨hg5, he⟩ := jq_ite he
  obtain ⟨x4, hx4, he⟩ := jq_ln he
  refine s_b ((ob_ld O.1 (k := 13) rfl hg5).trans (congrArg some hx4.symm)) ?_
  by_cases hc9 : x4 = 1
  · have he := jq_t hc9 he
    refine s_t hc9 ?_
    refine s_b (ob_gR O.1 (k := 14) rfl (by decide)) ?_
    obtain ⟨hg7, he⟩ := jq_ite he
    obtain ⟨x6, hx6, he⟩ := jq_ln he
    refine s_b ((ob_ld O.1 (k := 14) rfl hg7).trans (congrArg some hx6.symm)) ?_
    obtain ⟨x8, hx8, he⟩ := jq_ln he
    refine s_b (p_low _ _ _ _) ?_
    rw [← hx8]
    cases he
    exact ⟨_, rfl, rfl, O⟩
  have he := jq_n hc9 he
  refine s_n hc9 ?_
  by_cases hc16 : x4 = 2
  · have he := jq_t hc16 he
    refine s_t hc16 ?_
    refine s_b (ob_gR O.1 (k := 15) rfl (by decide)) ?_
    obtain ⟨hg11, he⟩ := jq_ite he
    obtain ⟨x10, hx10, he⟩ := jq_ln he
    refine s_b ((ob_ld O.1 (k := 15) rfl hg11).trans (congrArg some hx10.symm)) ?_
    obtain ⟨x12, hx12, he⟩ := jq_ln he
    refine s_b (p_low _ _ _ _) ?_
    rw [← hx12]
    refine s_b (ob_gR O.1 (k := 14) rfl (by decide)) ?_
    obtain ⟨hg14, he⟩ := jq_ite he
    obtain ⟨x13, hx13, he⟩ := jq_ln he
    refine s_b ((ob_ld O.1 (k := 14) rfl hg14).trans (congrArg some hx13.symm)) ?_
    obtain ⟨x15, hx15, he⟩ := jq_ln he
    refine s_b (p_low _ _ _ _) ?_
    rw [← hx15]
    cases he
    exact ⟨_, rfl, rfl, O⟩
  have he := jq_n hc16 he
  refine s_n hc16 ?_
  by_cases hc27 : x4 = 3
  · have he := jq_t hc27 he
    refine s_t hc27 ?_
    refine s_b (ob_gR O.1 (k := 18) rfl (by decide)) ?_
    obtain ⟨hg18, he⟩ := jq_ite he
    obtain ⟨x17, hx17, he⟩ := jq_ln he
    refine s_b ((ob_ld O.1 (k := 18) rfl hg18).trans (congrArg some hx17.symm)) ?_
    refine s_b (ob_gR O.1 (k := 15) rfl (by decide)) ?_
    obtain ⟨hg20, he⟩ := jq_ite he
    obtain ⟨x19, hx19, he⟩ := jq_ln he
    refine s_b ((ob_ld O.1 (k := 15) rfl hg20).trans (congrArg some hx19.symm)) ?_
    obtain ⟨x21, hx21, he⟩ := jq_ln he
    refine s_b (p_low _ _ _ _) ?_
    rw [← hx21]
    refine s_b (ob_gR O.1 (k := 16) rfl (by decide)) ?_
    obtain ⟨hg23, he⟩ := jq_ite he
    obtain ⟨x22, hx22, he⟩ := jq_ln he
    refine s_b ((ob_ld O.1 (k := 16) rfl hg23).trans (congrArg some hx22.symm)) ?_
    refine s_b (ob_gR O.1 (k := 14) rfl (by decide)) ?_
    obtain ⟨hg25, he⟩ := jq_ite he
    obtain ⟨x24, hx24, he⟩ := jq_ln he
    refine s_b ((ob_ld O.1 (k := 14) rfl hg25).trans (congrArg some hx24.symm)) ?_
    obtain ⟨x26, hx26, he⟩ := jq_ln he
    refine s_b (p_low _ _ _ _) ?_
    rw [← hx26]
    cases he
    exact ⟨_, rfl, rfl, O⟩
  have he := jq_n hc27 he
  refine s_n hc27 ?_
  by_cases hc34 : x4 = 4
  · have he := jq_t hc34 he
    refine s_t hc34 ?_
    refine s_b (ob_gR O.1 (k := 15) rfl (by decide)) ?_
    obtain ⟨hg29, he⟩ := jq_ite he
    obtain ⟨x28, hx28, he⟩ := jq_ln he
    refine s_b ((ob_ld O.1 (k := 15) rfl hg29).trans (congrArg some hx28.symm)) ?_
    obtain ⟨x30, hx30, he⟩ := jq_ln he
    refine s_b (p_low _ _ _ _) ?_
    rw [← hx30]
    refine s_b (ob_gR O.1 (k := 14) rfl (by decide)) ?_
    obtain ⟨hg32, he⟩ := jq_ite he
    obtain ⟨x31, hx31, he⟩ := jq_ln he
    refine s_b ((ob_ld O.1 (k := 14) rfl hg32).trans (congrArg some hx31.symm)) ?_
    obtain ⟨x33, hx33, he⟩ := jq_ln he
    refine s_b (p_low _ _ _ _) ?_
    rw [← hx33]
    cases he
    exact ⟨_, rfl, rfl, O⟩
  have he := jq_n hc34 he
  refine s_n hc34 ?_
  by_cases hc38 : x4 = 5
  · have he := jq_t hc38 he
    refine s_t hc38 ?_
    refine s_b (ob_gR O.1 (k := 14) rfl (by decide)) ?_
    obtain ⟨hg36, he⟩ := jq_ite he
    obtain ⟨x35, hx35, he⟩ := jq_ln he
    refine s_b ((ob_ld O.1 (k := 14) rfl hg36).trans (congrArg some hx35.symm)) ?_
    obtain ⟨x37, hx37, he⟩ := jq_ln he
    refine s_b (p_low _ _ _ _) ?_
    rw [← hx37]
    cases he
    exact ⟨_, rfl, rfl, O⟩
  have he := jq_n hc38 he
  refine s_n hc38 ?_
  refine s_b (ob_gR O.1 (k := 16) rfl (by decide)) ?_
  obtain ⟨hg40, he⟩ := jq_ite he
  obtain ⟨x39, hx39, he⟩ := jq_ln he
  refine s_b ((ob_ld O.1 (k := 16) rfl hg40).trans (congrArg some hx39.symm)) ?_
  obtain ⟨x41, hx41, he⟩ := jq_ln he
  refine s_b (p_low _ _ _ _) ?_
  rw [← hx41]
  cases he
  exact ⟨_, rfl, rfl, O⟩
set_option maxRecDepth 100000 in
set_option maxHeartbeats 4000000 in
theorem NX11_clash_b184 {n a : Nat} {h0 : jq_H} {zs : ob_S} {S : ob_S} {h : jq_H} (O : OF a 21 10 sh_R h0 S h) (he : rX11_clash_b184 n S = some zs) : ∃ z, X11_clash_b184 n h = some z ∧ (OF a 21 10 sh_R h0 zs z) := by
  unfold rX11_clash_b184 at he
  unfold X11_clash_b184
  cases he
  exact ⟨_, rfl, O⟩
set_option maxRecDepth 100000 in
set_option maxHeartbeats 4000000 in
theorem NX11_clash_b132 {n a : Nat} {h0 : jq_H} {zs : ob_S} {v3 : Int32} {v6 : Int32} {S : ob_S} {h : jq_H} (O : OF a 21 10 sh_R h0 S h) (he : rX11_clash_b132 n v3 v6 S = some zs) : ∃ z, X11_clash_b132 n a v3 v6 h = some z ∧ (OF a 21 10 sh_R h0 zs z) := by
  unfold rX11_clash_b132 at he
  unfold X11_clash_b132
  refine s_b (ob_gR O.1 (k := 18) rfl (by decide)) ?_
  obtain ⟨hg2, he⟩ := jq_ite he
  obtain ⟨x1, hx1, he⟩ := jq_ln he
  refine s_b ((ob_ld O.1 (k := 18) rfl hg2).trans (congrArg some hx1.symm)) ?_
  by_cases hc3 : 40 ≤ x1
  · have he := jq_t hc3 he
    refine s_t hc3 ?_
    exact NX11_clash_b184 (n := n) O he
  have he := jq_n hc3 he
  refine s_n hc3 ?_
  refine s_b (ob_gR O.1 (k := 18) rfl (by decide)) ?_
  refine s_b (ob_gR O.1 (k := 18) rfl (by decide)) ?_
  obtain ⟨hg5, he⟩ := jq_ite he
  obtain ⟨x4, hx4, he⟩ := jq_ln he
  refine s_b ((ob_ld O.1 (k := 18) rfl hg5).trans (congrArg some hx4.symm)) ?_
  obtain ⟨hg7, he⟩ := jq_ite he
  obtain ⟨S6, hS6, he⟩ := jq_ln he
  obtain ⟨h, e1, O⟩ := ob_st (k := 18) (x := v6) O ok_R rfl hg7
  rw [← hS6] at O
  refine s_b e1 ?_
  refine s_b (ob_gR O.1 (k := 18) rfl (by decide)) ?_
  obtain ⟨hg9, he⟩ := jq_ite he
  obtain ⟨x8, hx8, he⟩ := jq_ln he
  refine s_b ((ob_ld O.1 (k := 18) rfl hg9).trans (congrArg some hx8.symm)) ?_
  obtain ⟨hg11, he⟩ := jq_ite he
  obtain ⟨S10, hS10, he⟩ := jq_ln he
  obtain ⟨h, e1, O⟩ := ob_st (k := 18) (x := (x8 + 1)) O ok_R rfl hg11
  rw [← hS10] at O
  refine s_b e1 ?_
  exact NX11_clash_b184 (n := n) O he
set_option maxRecDepth 100000 in
set_option maxHeartbeats 4000000 in
theorem NX11_clash_b125 {n a : Nat} {h0 : jq_H} {zs : ob_S} {S : ob_S} {h : jq_H} (O : OF a 21 10 sh_R h0 S h) (he : rX11_clash_b125 n S = some zs) : ∃ z, X11_clash_b125 n h = some z ∧ (OF a 21 10 sh_R h0 zs z) := by
  unfold rX11_clash_b125 at he
  unfold X11_clash_b125
  cases he
  exact ⟨_, rfl, O⟩
set_option maxRecDepth 100000 in
set_option maxHeartbeats 4000000 in
theorem NX11_clash_b92 {n a : Nat} {h0 : jq_H} {zs : ob_S} {KB : Int32 → Int32 → Int32 → ob_S → Option (ob_S)} {KBh : Nat → Int32 → Int32 → Int32 → jq_H → Option (jq_H)} {K125 : ob_S → Option (ob_S)} {K125h : jq_H → Option (jq_H)} {K132 : Int32 → Int32 → ob_S → Option (ob_S)} {K132h : Nat → Int32 → Int32 → jq_H → Option (jq_H)} (hKB : ∀ (u3 : Int32) (u6 : Int32) (u7 : Int32) (S : ob_S) (h : jq_H), OF a 21 10 sh_R h0 S h → KB u3 u6 u7 S = some zs → ∃ z, KBh a u3 u6 u7 h = some z ∧ (OF a 21 10 sh_R h0 zs z)) (hK125 : ∀ (S : ob_S) (h : jq_H), OF a 21 10 sh_R h0 S h → K125 S = some zs → ∃ z, K125h h = some z ∧ (OF a 21 10 sh_R h0 zs z)) (hK132 : ∀ (u3 : Int32) (u6 : Int32) (S : ob_S) (h : jq_H), OF a 21 10 sh_R h0 S h → K132 u3 u6 S = some zs → ∃ z, K132h a u3 u6 h = some z ∧ (OF a 21 10 sh_R h0 zs z)) {v3 : Int32} {v6 : Int32} {v7 : Int32} {S : ob_S} {h : jq_H} (O : OF a 21 10 sh_R h0 S h) (he : rX11_clash_b92 n KB K125 K132 v3 v6 v7 S = some zs) : ∃ z, X11_clash_b92 n KBh K125h K132h a v3 v6 v7 h = some z ∧ (OF a 21 10 sh_R h0 zs z) := by
  unfold rX11_clash_b92 at he
  unfold X11_clash_b92
  refine s_b (ob_gR O.1 (k := 18) rfl (by decide)) ?_
  obtain ⟨hg13, he⟩ := jq_ite he
  obtain ⟨x12, hx12, he⟩ := jq_ln he
  refine s_b ((ob_ld O.1 (k := 18) rfl hg13).trans (congrArg some hx12.symm)) ?_
  by_cases hc14 : x12 ≤ v7
  · have he := jq_t hc14 he
    refine s_t hc14 ?_
    exact hK132 _ _ _ _ O he
  have he := jq_n hc14 he
  refine s_n hc14 ?_
  refine s_b (ob_gR O.1 (k := 18) rfl (by decide)) ?_
  obtain ⟨hg16, he⟩ := jq_ite he
  obtain ⟨x15, hx15, he⟩ := jq_ln he
  refine s_b ((ob_ld O.1 (k := 18) rfl hg16).trans (congrArg some hx15.symm)) ?_
  by_cases hc17 : x15 = v6
  · have he := jq_t hc17 he
    refine s_t hc17 ?_
    exact hK125 _ _ O he
  have he := jq_n hc17 he
  refine s_n hc17 ?_
  obtain ⟨x18, hx18, he⟩ := jq_ln he
  refine s_l hx18 ?_
  exact hKB _ _ _ _ _ O he
set_option maxRecDepth 100000 in
set_option maxHeartbeats 4000000 in
theorem NX11_clash_l92 {n a : Nat} {h0 : jq_H} {zs : ob_S} {K125 : ob_S → Option (ob_S)} {K125h : jq_H → Option (jq_H)} {K132 : Int32 → Int32 → ob_S → Option (ob_S)} {K132h : Nat → Int32 → Int32 → jq_H → Option (jq_H)} (hK125 : ∀ (S : ob_S) (h : jq_H), OF a 21 10 sh_R h0 S h → K125 S = some zs → ∃ z, K125h h = some z ∧ (OF a 21 10 sh_R h0 zs z)) (hK132 : ∀ (u3 : Int32) (u6 : Int32) (S : ob_S) (h : jq_H), OF a 21 10 sh_R h0 S h → K132 u3 u6 S = some zs → ∃ z, K132h a u3 u6 h = some z ∧ (OF a 21 10 sh_R h0 zs z)) :
    ∀ (k : Nat) (v3 : Int32) (v6 : Int32) (v7 : Int32) (S : ob_S) (h : jq_H), OF a 21 10 sh_R h0 S h → rX11_clash_l92 n K125 K132 k v3 v6 v7 S = some zs → ∃ z, X11_clash_l92 n K125h K132h k a v3 v6 v7 h = some z ∧ (OF a 21 10 sh_R h0 zs z) := by
  intro k
  induction k with
  | zero => intro v3 v6 v7 S h O he; cases (show (none : Option (ob_S)) = some zs from he)
  | succ k ih =>
    intro v3 v6 v7 S h O he
    exact NX11_clash_b92 (n := n) (KB := rX11_clash_l92 n K125 K132 k) (KBh := X11_clash_l92 n K125h K132h k) ih hK125 hK132 O he
set_option maxRecDepth 100000 in
set_option maxHeartbeats 4000000 in
theorem NX11_clash_b87 {n a : Nat} {h0 : jq_H} {zs : ob_S} {v3 : Int32} {s0 : Int32} {S : ob_S} {h : jq_H} (O : OF a 21 10 sh_R h0 S h) (he : rX11_clash_b87 n v3 s0 S = some zs) : ∃ z, X11_clash_b87 n a v3 s0 h = some z ∧ (OF a 21 10 sh_R h0 zs z) := by
  unfold rX11_clash_b87 at he
  unfold X11_clash_b87
  exact NX11_clash_l92 (n := n) (fun SS hh O he => by
    exact NX11_clash_b125 (n := n) O he) (fun w3 w6 SS hh O he => by
    exact NX11_clash_b132 (n := n) O he) n _ _ _ _ _ O he
set_option maxRecDepth 100000 in
set_option maxHeartbeats 4000000 in
theorem NX11_clash_b49 {n a : Nat} {h0 : jq_H} {zs : ob_S} {S : ob_S} {h : jq_H} (O : OF a 21 10 sh_R h0 S h) (he : rX11_clash_b49 n S = some zs) : ∃ z, X11_clash_b49 n h = some z ∧ (OF a 21 10 sh_R h0 zs z) := by
  unfold rX11_clash_b49 at he
  unfold X11_clash_b49
  cases he
  exact ⟨_, rfl, O⟩
set_option maxRecDepth 100000 in
set_option maxHeartbeats 4000000 in
theorem N_X11_clash {n a : Nat} {h0 : jq_H} {zs : ob_S} {p0 : Int32} {p1 : Int32} {S : ob_S} {h : jq_H} (O : OF a 21 10 sh_R h0 S h) (he : rX11_clash n S p0 p1 = some zs) : ∃ z, X11_clash n h a p0 p1 = some z ∧ (OF a 21 10 sh_R h0 zs z) := by
  unfold rX11_clash at he
  unfold X11_clash
  obtain ⟨x19, hx19, he⟩ := jq_ln he
  refine s_l hx19 ?_
  obtain ⟨z20, hz20, he⟩ := jq_b he
  have hOz20 := O.1.ci
  obtain ⟨⟨rz20, h⟩, e1, e2, O⟩ := N_X11_counter O hz20
  dsimp only at e2 O
  subst e2
  refine s_b ((if_pos hOz20).trans e1) ?_
  obtain ⟨x21, hx21, he⟩ := jq_ln he
  refine s_l hx21 ?_
  refine s_b (ob_gR O.1 (k := 18) rfl (by decide)) ?_
  obtain ⟨hg23, he⟩ := jq_ite he
  obtain ⟨x22, hx22, he⟩ := jq_ln he
  refine s_b ((ob_ld O.1 (k := 18) rfl hg23).trans (congrArg some hx22.symm)) ?_
  refine s_b (ob_gR O.1 (k := 18) rfl (by decide)) ?_
  obtain ⟨hg25, he⟩ := jq_ite he
  obtain ⟨S24, hS24, he⟩ := jq_ln he
  obtain ⟨h, e1, O⟩ := ob_st (k := 18) (x := p1) O ok_R rfl hg25
  rw [← hS24] at O
  refine s_b e1 ?_
  by_cases hc26 : x22 < 0
  · have he := jq_t hc26 he
    refine s_t hc26 ?_
    exact NX11_clash_b49 (n := n) O he
  have he := jq_n hc26 he
  refine s_n hc26 ?_
  by_cases hc27 : x22 = p1
  · have he := jq_t hc27 he
    refine s_t hc27 ?_
    exact NX11_clash_b49 (n := n) O he
  have he := jq_n hc27 he
  refine s_n hc27 ?_
  refine s_b (ob_gR O.1 (k := 18) rfl (by decide)) ?_
  obtain ⟨hg29, he⟩ := jq_ite he
  obtain ⟨x28, hx28, he⟩ := jq_ln he
  refine s_b ((ob_ld O.1 (k := 18) rfl hg29).trans (congrArg some hx28.symm)) ?_
  obtain ⟨hg31, he⟩ := jq_ite he
  obtain ⟨S30, hS30, he⟩ := jq_ln he
  obtain ⟨h, e1, O⟩ := ob_st (k := 18) (x := (x28 + 1)) O ok_R rfl hg31
  rw [← hS30] at O
  refine s_b e1 ?_
  by_cases hc32 : p1 ≤ x22
  · have he := jq_t hc32 he
    refine s_t hc32 ?_
    exact NX11_clash_b87 (n := n) O he
  have he := jq_n hc32 he
  refine s_n hc32 ?_
  exact NX11_clash_b87 (n := n) O he
set_option maxRecDepth 100000 in
set_option maxHeartbeats 4000000 in
theorem NX11_sum_b111 {n a : Nat} {h0 : jq_H} {zs : Int32 × ob_S} {v4 : Int32} {S : ob_S} {h : jq_H} (O : OF a 21 10 sh_R h0 S h) (he : rX11_sum_b111 n v4 S = some zs) : ∃ z, X11_sum_b111 n v4 h = some z ∧ (z.1 = zs.1 ∧ OF a 21 10 sh_R h0 zs.2 z.2) := by
  unfold rX11_sum_b111 at he
  unfold X11_sum_b111
  cases he
  exact ⟨_, rfl, rfl, O⟩
set_option maxRecDepth 100000 in
set_option maxHeartbeats 4000000 in
theorem NX11_sum_b102 {n a : Nat} {h0 : jq_H} {zs : Int32 × ob_S} {KB : Int32 → Int32 → Int32 → Int32 → ob_S → Option (Int32 × ob_S)} {KBh : Nat → Int32 → Int32 → Int32 → Int32 → jq_H → Option (Int32 × jq_H)} {K111 : Int32 → ob_S → Option (Int32 × ob_S)} {K111h : Int32 → jq_H → Option (Int32 × jq_H)} (hKB : ∀ (u1 : Int32) (u3 : Int32) (u4 : Int32) (u5 : Int32) (S : ob_S) (h : jq_H), OF a 21 10 sh_R h0 S h → KB u1 u3 u4 u5 S = some zs → ∃ z, KBh a u1 u3 u4 u5 h = some z ∧ (z.1 = zs.1 ∧ OF a 21 10 sh_R h0 zs.2 z.2)) (hK111 : ∀ (u4 : Int32) (S : ob_S) (h : jq_H), OF a 21 10 sh_R h0 S h → K111 u4 S = some zs → ∃ z, K111h u4 h = some z ∧ (z.1 = zs.1 ∧ OF a 21 10 sh_R h0 zs.2 z.2)) {v1 : Int32} {v3 : Int32} {v5 : Int32} {s0 : Int32} {s1 : Int32} {S : ob_S} {h : jq_H} (O : OF a 21 10 sh_R h0 S h) (he : rX11_sum_b102 n KB K111 v1 v3 v5 s0 s1 S = some zs) : ∃ z, X11_sum_b102 n KBh K111h a v1 v3 v5 s0 s1 h = some z ∧ (z.1 = zs.1 ∧ OF a 21 10 sh_R h0 zs.2 z.2) := by
  unfold rX11_sum_b102 at he
  unfold X11_sum_b102
  obtain ⟨x1, hx1, he⟩ := jq_ln he
  refine s_l hx1 ?_
  obtain ⟨x2, hx2, he⟩ := jq_ln he
  refine s_l hx2 ?_
  exact hKB _ _ _ _ _ _ O he
set_option maxRecDepth 100000 in
set_option maxHeartbeats 4000000 in
theorem NX11_sum_b67 {n a : Nat} {h0 : jq_H} {zs : Int32 × ob_S} {KB : Int32 → Int32 → Int32 → Int32 → ob_S → Option (Int32 × ob_S)} {KBh : Nat → Int32 → Int32 → Int32 → Int32 → jq_H → Option (Int32 × jq_H)} {K111 : Int32 → ob_S → Option (Int32 × ob_S)} {K111h : Int32 → jq_H → Option (Int32 × jq_H)} (hKB : ∀ (u1 : Int32) (u3 : Int32) (u4 : Int32) (u5 : Int32) (S : ob_S) (h : jq_H), OF a 21 10 sh_R h0 S h → KB u1 u3 u4 u5 S = some zs → ∃ z, KBh a u1 u3 u4 u5 h = some z ∧ (z.1 = zs.1 ∧ OF a 21 10 sh_R h0 zs.2 z.2)) (hK111 : ∀ (u4 : Int32) (S : ob_S) (h : jq_H), OF a 21 10 sh_R h0 S h → K111 u4 S = some zs → ∃ z, K111h u4 h = some z ∧ (z.1 = zs.1 ∧ OF a 21 10 sh_R h0 zs.2 z.2)) {v1 : Int32} {v3 : Int32} {v4 : Int32} {v5 : Int32} {s0 : Int32} {S : ob_S} {h : jq_H} (O : OF a 21 10 sh_R h0 S h) (he : rX11_sum_b67 n KB K111 v1 v3 v4 v5 s0 S = some zs) : ∃ z, X11_sum_b67 n KBh K111h a v1 v3 v4 v5 s0 h = some z ∧ (z.1 = zs.1 ∧ OF a 21 10 sh_R h0 zs.2 z.2) := by
  unfold rX11_sum_b67 at he
  unfold X11_sum_b67
  by_cases hc3 : s0 = 0
  · have he := jq_t hc3 he
    refine s_t hc3 ?_
    refine s_b (ob_gR O.1 (k := 18) rfl (by decide)) ?_
    obtain ⟨hg5, he⟩ := jq_ite he
    obtain ⟨x4, hx4, he⟩ := jq_ln he
    refine s_b ((ob_ld O.1 (k := 18) rfl hg5).trans (congrArg some hx4.symm)) ?_
    exact NX11_sum_b102 (n := n) hKB hK111 O he
  have he := jq_n hc3 he
  refine s_n hc3 ?_
  refine s_b (ob_gR O.1 (k := 18) rfl (by decide)) ?_
  obtain ⟨hg7, he⟩ := jq_ite he
  obtain ⟨x6, hx6, he⟩ := jq_ln he
  refine s_b ((ob_ld O.1 (k := 18) rfl hg7).trans (congrArg some hx6.symm)) ?_
  exact NX11_sum_b102 (n := n) hKB hK111 O he
set_option maxRecDepth 100000 in
set_option maxHeartbeats 4000000 in
theorem NX11_sum_b28 {n a : Nat} {h0 : jq_H} {zs : Int32 × ob_S} {KB : Int32 → Int32 → Int32 → Int32 → ob_S → Option (Int32 × ob_S)} {KBh : Nat → Int32 → Int32 → Int32 → Int32 → jq_H → Option (Int32 × jq_H)} {K111 : Int32 → ob_S → Option (Int32 × ob_S)} {K111h : Int32 → jq_H → Option (Int32 × jq_H)} (hKB : ∀ (u1 : Int32) (u3 : Int32) (u4 : Int32) (u5 : Int32) (S : ob_S) (h : jq_H), OF a 21 10 sh_R h0 S h → KB u1 u3 u4 u5 S = some zs → ∃ z, KBh a u1 u3 u4 u5 h = some z ∧ (z.1 = zs.1 ∧ OF a 21 10 sh_R h0 zs.2 z.2)) (hK111 : ∀ (u4 : Int32) (S : ob_S) (h : jq_H), OF a 21 10 sh_R h0 S h → K111 u4 S = some zs → ∃ z, K111h u4 h = some z ∧ (z.1 = zs.1 ∧ OF a 21 10 sh_R h0 zs.2 z.2)) {v1 : Int32} {v3 : Int32} {v4 : Int32} {v5 : Int32} {S : ob_S} {h : jq_H} (O : OF a 21 10 sh_R h0 S h) (he : rX11_sum_b28 n KB K111 v1 v3 v4 v5 S = some zs) : ∃ z, X11_sum_b28 n KBh K111h a v1 v3 v4 v5 h = some z ∧ (z.1 = zs.1 ∧ OF a 21 10 sh_R h0 zs.2 z.2) := by
  unfold rX11_sum_b28 at he
  unfold X11_sum_b28
  refine s_b (ob_gR O.1 (k := 15) rfl (by decide)) ?_
  obtain ⟨hg9, he⟩ := jq_ite he
  obtain ⟨x8, hx8, he⟩ := jq_ln he
  refine s_b ((ob_ld O.1 (k := 15) rfl hg9).trans (congrArg some hx8.symm)) ?_
  by_cases hc10 : x8 ≤ v5
  · have he := jq_t hc10 he
    refine s_t hc10 ?_
    exact hK111 _ _ _ O he
  have he := jq_n hc10 he
  refine s_n hc10 ?_
  refine s_b (ob_gR O.1 (k := 18) rfl (by decide)) ?_
  obtain ⟨hg12, he⟩ := jq_ite he
  obtain ⟨x11, hx11, he⟩ := jq_ln he
  refine s_b ((ob_ld O.1 (k := 18) rfl hg12).trans (congrArg some hx11.symm)) ?_
  by_cases hc13 : ((x11 >>> (v5 &&& 31)) &&& 1) = 1
  · have he := jq_t hc13 he
    refine s_t hc13 ?_
    exact NX11_sum_b67 (n := n) hKB hK111 O he
  have he := jq_n hc13 he
  refine s_n hc13 ?_
  exact NX11_sum_b67 (n := n) hKB hK111 O he
set_option maxRecDepth 100000 in
set_option maxHeartbeats 4000000 in
theorem NX11_sum_l28 {n a : Nat} {h0 : jq_H} {zs : Int32 × ob_S} {K111 : Int32 → ob_S → Option (Int32 × ob_S)} {K111h : Int32 → jq_H → Option (Int32 × jq_H)} (hK111 : ∀ (u4 : Int32) (S : ob_S) (h : jq_H), OF a 21 10 sh_R h0 S h → K111 u4 S = some zs → ∃ z, K111h u4 h = some z ∧ (z.1 = zs.1 ∧ OF a 21 10 sh_R h0 zs.2 z.2)) :
    ∀ (k : Nat) (v1 : Int32) (v3 : Int32) (v4 : Int32) (v5 : Int32) (S : ob_S) (h : jq_H), OF a 21 10 sh_R h0 S h → rX11_sum_l28 n K111 k v1 v3 v4 v5 S = some zs → ∃ z, X11_sum_l28 n K111h k a v1 v3 v4 v5 h = some z ∧ (z.1 = zs.1 ∧ OF a 21 10 sh_R h0 zs.2 z.2) := by
  intro k
  induction k with
  | zero => intro v1 v3 v4 v5 S h O he; cases (show (none : Option (Int32 × ob_S)) = some zs from he)
  | succ k ih =>
    intro v1 v3 v4 v5 S h O he
    exact NX11_sum_b28 (n := n) (KB := rX11_sum_l28 n K111 k) (KBh := X11_sum_l28 n K111h k) ih hK111 O he
set_option maxRecDepth 100000 in
set_option maxHeartbeats 4000000 in
theorem N_X11_sum {n a : Nat} {h0 : jq_H} {zs : Int32 × ob_S} {p0 : Int32} {p1 : Int32} {S : ob_S} {h : jq_H} (O : OF a 21 10 sh_R h0 S h) (he : rX11_sum n S p0 p1 = some zs) : ∃ z, X11_sum n h a p0 p1 = some z ∧ (z.1 = zs.1 ∧ OF a 21 10 sh_R h0 zs.2 z.2) := by
  unfold rX11_sum at he
  unfold X11_sum
  obtain ⟨z14, hz14, he⟩ := jq_b he
  have hOz14 := O.1.ci
  obtain ⟨⟨rz14, h⟩, e1, e2, O⟩ := N_X11_counter O hz14
  dsimp only at e2 O
  subst e2
  refine s_b ((if_pos hOz14).trans e1) ?_
  obtain ⟨x15, hx15, he⟩ := jq_ln he
  refine s_l hx15 ?_
  refine s_b (ob_gR O.1 (k := 18) rfl (by decide)) ?_
  obtain ⟨hg17, he⟩ := jq_ite he
  obtain ⟨x16, hx16, he⟩ := jq_ln he
  refine s_b ((ob_ld O.1 (k := 18) rfl hg17).trans (congrArg some hx16.symm)) ?_
  exact NX11_sum_l28 (n := n) (fun w4 SS hh O he => by
    exact NX11_sum_b111 (n := n) O he) n _ _ _ _ _ _ O he
set_option maxRecDepth 100000 in
set_option maxHeartbeats 4000000 in
theorem NX11_own_b287 {n a : Nat} {h0 : jq_H} {zs : Int32 × ob_S} {s0 : Int32} {S : ob_S} {h : jq_H} (O : OF a 21 10 sh_R h0 S h) (he : rX11_own_b287 n s0 S = some zs) : ∃ z, X11_own_b287 n s0 h = some z ∧ (z.1 = zs.1 ∧ OF a 21 10 sh_R h0 zs.2 z.2) := by
  unfold rX11_own_b287 at he
  unfold X11_own_b287
  cases he
  exact ⟨_, rfl, rfl, O⟩
set_option maxRecDepth 100000 in
set_option maxHeartbeats 4000000 in
theorem NX11_own_b263 {n a : Nat} {h0 : jq_H} {zs : Int32 × ob_S} {v1 : Int32} {v2 : Int32} {v5 : Int32} {S : ob_S} {h : jq_H} (O : OF a 21 10 sh_R h0 S h) (he : rX11_own_b263 n v1 v2 v5 S = some zs) : ∃ z, X11_own_b263 n a v1 v2 v5 h = some z ∧ (z.1 = zs.1 ∧ OF a 21 10 sh_R h0 zs.2 z.2) := by
  unfold rX11_own_b263 at he
  unfold X11_own_b263
  refine s_b (ob_gR O.1 (k := 18) rfl (by decide)) ?_
  obtain ⟨z1, hz1, he⟩ := jq_b he
  have hOz1 := O.1.ci
  obtain ⟨⟨rz1, h⟩, e1, e2, O⟩ := N_X11_counter O hz1
  dsimp only at e2 O
  subst e2
  refine s_b ((if_pos hOz1).trans e1) ?_
  obtain ⟨hg3, he⟩ := jq_ite he
  obtain ⟨x2, hx2, he⟩ := jq_ln he
  refine s_b ((ob_ld O.1 (k := 18) rfl hg3).trans (congrArg some hx2.symm)) ?_
  by_cases hc4 : x2 ≤ 1
  · have he := jq_t hc4 he
    refine s_t hc4 ?_
    exact NX11_own_b287 (n := n) O he
  have he := jq_n hc4 he
  refine s_n hc4 ?_
  exact NX11_own_b287 (n := n) O he
set_option maxRecDepth 100000 in
set_option maxHeartbeats 4000000 in
theorem NX11_own_b262 {n a : Nat} {h0 : jq_H} {zs : Int32 × ob_S} {s0 : Int32} {S : ob_S} {h : jq_H} (O : OF a 21 10 sh_R h0 S h) (he : rX11_own_b262 n s0 S = some zs) : ∃ z, X11_own_b262 n s0 h = some z ∧ (z.1 = zs.1 ∧ OF a 21 10 sh_R h0 zs.2 z.2) := by
  unfold rX11_own_b262 at he
  unfold X11_own_b262
  cases he
  exact ⟨_, rfl, rfl, O⟩
set_option maxRecDepth 100000 in
set_option maxHeartbeats 4000000 in
theorem NX11_own_b236 {n a : Nat} {h0 : jq_H} {zs : Int32 × ob_S} {s0 : Int32} {S : ob_S} {h : jq_H} (O : OF a 21 10 sh_R h0 S h) (he : rX11_own_b236 n s0 S = some zs) : ∃ z, X11_own_b236 n s0 h = some z ∧ (z.1 = zs.1 ∧ OF a 21 10 sh_R h0 zs.2 z.2) := by
  unfold rX11_own_b236 at he
  unfold X11_own_b236
  cases he
  exact ⟨_, rfl, rfl, O⟩
set_option maxRecDepth 100000 in
set_option maxHeartbeats 4000000 in
theorem NX11_own_b224 {n a : Nat} {h0 : jq_H} {zs : Int32 × ob_S} {s0 : Int32} {S : ob_S} {h : jq_H} (O : OF a 21 10 sh_R h0 S h) (he : rX11_own_b224 n s0 S = some zs) : ∃ z, X11_own_b224 n s0 h = some z ∧ (z.1 = zs.1 ∧ OF a 21 10 sh_R h0 zs.2 z.2) := by
  unfold rX11_own_b224 at he
  unfold X11_own_b224
  by_cases hc5 : s0 = 0
  · have he := jq_t hc5 he
    refine s_t hc5 ?_
    exact NX11_own_b236 (n := n) O he
  have he := jq_n hc5 he
  refine s_n hc5 ?_
  exact NX11_own_b236 (n := n) O he
set_option maxRecDepth 100000 in
set_option maxHeartbeats 4000000 in
theorem NX11_own_b223 {n a : Nat} {h0 : jq_H} {zs : Int32 × ob_S} {S : ob_S} {h : jq_H} (O : OF a 21 10 sh_R h0 S h) (he : rX11_own_b223 n S = some zs) : ∃ z, X11_own_b223 n h = some z ∧ (z.1 = zs.1 ∧ OF a 21 10 sh_R h0 zs.2 z.2) := by
  unfold rX11_own_b223 at he
  unfold X11_own_b223
  exact NX11_own_b224 (n := n) O he
set_option maxRecDepth 100000 in
set_option maxHeartbeats 4000000 in
theorem NX11_own_b169 {n a : Nat} {h0 : jq_H} {zs : Int32 × ob_S} {s0 : Int32} {S : ob_S} {h : jq_H} (O : OF a 21 10 sh_R h0 S h) (he : rX11_own_b169 n s0 S = some zs) : ∃ z, X11_own_b169 n s0 h = some z ∧ (z.1 = zs.1 ∧ OF a 21 10 sh_R h0 zs.2 z.2) := by
  unfold rX11_own_b169 at he
  unfold X11_own_b169
  cases he
  exact ⟨_, rfl, rfl, O⟩
set_option maxRecDepth 100000 in
set_option maxHeartbeats 4000000 in
theorem NX11_own_b154 {n a : Nat} {h0 : jq_H} {zs : Int32 × ob_S} {s0 : Int32} {S : ob_S} {h : jq_H} (O : OF a 21 10 sh_R h0 S h) (he : rX11_own_b154 n s0 S = some zs) : ∃ z, X11_own_b154 n s0 h = some z ∧ (z.1 = zs.1 ∧ OF a 21 10 sh_R h0 zs.2 z.2) := by
  unfold rX11_own_b154 at he
  unfold X11_own_b154
  cases he
  exact ⟨_, rfl, rfl, O⟩
set_option maxRecDepth 100000 in
set_option maxHeartbeats 4000000 in
theorem NX11_own_b143 {n a : Nat} {h0 : jq_H} {zs : Int32 × ob_S} {v6 : Int32} {S : ob_S} {h : jq_H} (O : OF a 21 10 sh_R h0 S h) (he : rX11_own_b143 n v6 S = some zs) : ∃ z, X11_own_b143 n v6 h = some z ∧ (z.1 = zs.1 ∧ OF a 21 10 sh_R h0 zs.2 z.2) := by
  unfold rX11_own_b143 at he
  unfold X11_own_b143
  by_cases hc6 : v6 ≤ 1
  · have he := jq_t hc6 he
    refine s_t hc6 ?_
    exact NX11_own_b154 (n := n) O he
  have he := jq_n hc6 he
  refine s_n hc6 ?_
  exact NX11_own_b154 (n := n) O he
set_option maxRecDepth 100000 in
set_option maxHeartbeats 4000000 in
theorem NX11_own_b134 {n a : Nat} {h0 : jq_H} {zs : Int32 × ob_S} {KB : Int32 → Int32 → Int32 → Int32 → Int32 → ob_S → Option (Int32 × ob_S)} {KBh : Nat → Int32 → Int32 → Int32 → Int32 → Int32 → jq_H → Option (Int32 × jq_H)} {K143 : Int32 → ob_S → Option (Int32 × ob_S)} {K143h : Int32 → jq_H → Option (Int32 × jq_H)} (hKB : ∀ (u1 : Int32) (u2 : Int32) (u5 : Int32) (u6 : Int32) (u7 : Int32) (S : ob_S) (h : jq_H), OF a 21 10 sh_R h0 S h → KB u1 u2 u5 u6 u7 S = some zs → ∃ z, KBh a u1 u2 u5 u6 u7 h = some z ∧ (z.1 = zs.1 ∧ OF a 21 10 sh_R h0 zs.2 z.2)) (hK143 : ∀ (u6 : Int32) (S : ob_S) (h : jq_H), OF a 21 10 sh_R h0 S h → K143 u6 S = some zs → ∃ z, K143h u6 h = some z ∧ (z.1 = zs.1 ∧ OF a 21 10 sh_R h0 zs.2 z.2)) {v1 : Int32} {v2 : Int32} {v5 : Int32} {v7 : Int32} {s0 : Int32} {s1 : Int32} {S : ob_S} {h : jq_H} (O : OF a 21 10 sh_R h0 S h) (he : rX11_own_b134 n KB K143 v1 v2 v5 v7 s0 s1 S = some zs) : ∃ z, X11_own_b134 n KBh K143h a v1 v2 v5 v7 s0 s1 h = some z ∧ (z.1 = zs.1 ∧ OF a 21 10 sh_R h0 zs.2 z.2) := by
  unfold rX11_own_b134 at he
  unfold X11_own_b134
  obtain ⟨x7, hx7, he⟩ := jq_ln he
  refine s_l hx7 ?_
  obtain ⟨x8, hx8, he⟩ := jq_ln he
  refine s_l hx8 ?_
  exact hKB _ _ _ _ _ _ _ O he
set_option maxRecDepth 100000 in
set_option maxHeartbeats 4000000 in
theorem NX11_own_b101 {n a : Nat} {h0 : jq_H} {zs : Int32 × ob_S} {KB : Int32 → Int32 → Int32 → Int32 → Int32 → ob_S → Option (Int32 × ob_S)} {KBh : Nat → Int32 → Int32 → Int32 → Int32 → Int32 → jq_H → Option (Int32 × jq_H)} {K143 : Int32 → ob_S → Option (Int32 × ob_S)} {K143h : Int32 → jq_H → Option (Int32 × jq_H)} (hKB : ∀ (u1 : Int32) (u2 : Int32) (u5 : Int32) (u6 : Int32) (u7 : Int32) (S : ob_S) (h : jq_H), OF a 21 10 sh_R h0 S h → KB u1 u2 u5 u6 u7 S = some zs → ∃ z, KBh a u1 u2 u5 u6 u7 h = some z ∧ (z.1 = zs.1 ∧ OF a 21 10 sh_R h0 zs.2 z.2)) (hK143 : ∀ (u6 : Int32) (S : ob_S) (h : jq_H), OF a 21 10 sh_R h0 S h → K143 u6 S = some zs → ∃ z, K143h u6 h = some z ∧ (z.1 = zs.1 ∧ OF a 21 10 sh_R h0 zs.2 z.2)) {v1 : Int32} {v2 : Int32} {v5 : Int32} {v6 : Int32} {v7 : Int32} {S : ob_S} {h : jq_H} (O : OF a 21 10 sh_R h0 S h) (he : rX11_own_b101 n KB K143 v1 v2 v5 v6 v7 S = some zs) : ∃ z, X11_own_b101 n KBh K143h a v1 v2 v5 v6 v7 h = some z ∧ (z.1 = zs.1 ∧ OF a 21 10 sh_R h0 zs.2 z.2) := by
  unfold rX11_own_b101 at he
  unfold X11_own_b101
  by_cases hc9 : 3 ≤ v7
  · have he := jq_t hc9 he
    refine s_t hc9 ?_
    exact hK143 _ _ _ O he
  have he := jq_n hc9 he
  refine s_n hc9 ?_
  refine s_b (ob_gR O.1 (k := 18) rfl (by decide)) ?_
  obtain ⟨z10, hz10, he⟩ := jq_b he
  have hOz10 := O.1.ci
  obtain ⟨⟨rz10, h⟩, e1, e2, O⟩ := N_X11_counter O hz10
  dsimp only at e2 O
  subst e2
  refine s_b ((if_pos hOz10).trans e1) ?_
  obtain ⟨hg12, he⟩ := jq_ite he
  obtain ⟨x11, hx11, he⟩ := jq_ln he
  refine s_b ((ob_ld O.1 (k := 18) rfl hg12).trans (congrArg some hx11.symm)) ?_
  by_cases hc13 : x11 ≤ 1
  · have he := jq_t hc13 he
    refine s_t hc13 ?_
    exact NX11_own_b134 (n := n) hKB hK143 O he
  have he := jq_n hc13 he
  refine s_n hc13 ?_
  exact NX11_own_b134 (n := n) hKB hK143 O he
set_option maxRecDepth 100000 in
set_option maxHeartbeats 4000000 in
theorem NX11_own_l101 {n a : Nat} {h0 : jq_H} {zs : Int32 × ob_S} {K143 : Int32 → ob_S → Option (Int32 × ob_S)} {K143h : Int32 → jq_H → Option (Int32 × jq_H)} (hK143 : ∀ (u6 : Int32) (S : ob_S) (h : jq_H), OF a 21 10 sh_R h0 S h → K143 u6 S = some zs → ∃ z, K143h u6 h = some z ∧ (z.1 = zs.1 ∧ OF a 21 10 sh_R h0 zs.2 z.2)) :
    ∀ (k : Nat) (v1 : Int32) (v2 : Int32) (v5 : Int32) (v6 : Int32) (v7 : Int32) (S : ob_S) (h : jq_H), OF a 21 10 sh_R h0 S h → rX11_own_l101 n K143 k v1 v2 v5 v6 v7 S = some zs → ∃ z, X11_own_l101 n K143h k a v1 v2 v5 v6 v7 h = some z ∧ (z.1 = zs.1 ∧ OF a 21 10 sh_R h0 zs.2 z.2) := by
  intro k
  induction k with
  | zero => intro v1 v2 v5 v6 v7 S h O he; cases (show (none : Option (Int32 × ob_S)) = some zs from he)
  | succ k ih =>
    intro v1 v2 v5 v6 v7 S h O he
    exact NX11_own_b101 (n := n) (KB := rX11_own_l101 n K143 k) (KBh := X11_own_l101 n K143h k) ih hK143 O he
set_option maxRecDepth 100000 in
set_option maxHeartbeats 4000000 in
theorem NX11_own_b94 {n a : Nat} {h0 : jq_H} {zs : Int32 × ob_S} {s0 : Int32} {S : ob_S} {h : jq_H} (O : OF a 21 10 sh_R h0 S h) (he : rX11_own_b94 n s0 S = some zs) : ∃ z, X11_own_b94 n s0 h = some z ∧ (z.1 = zs.1 ∧ OF a 21 10 sh_R h0 zs.2 z.2) := by
  unfold rX11_own_b94 at he
  unfold X11_own_b94
  cases he
  exact ⟨_, rfl, rfl, O⟩
set_option maxRecDepth 100000 in
set_option maxHeartbeats 4000000 in
theorem N_X11_own {n a : Nat} {h0 : jq_H} {zs : Int32 × ob_S} {p0 : Int32} {p1 : Int32} {p2 : Int32} {p3 : Int32} {S : ob_S} {h : jq_H} (O : OF a 21 10 sh_R h0 S h) (he : rX11_own n S p0 p1 p2 p3 = some zs) : ∃ z, X11_own n h a p0 p1 p2 p3 = some z ∧ (z.1 = zs.1 ∧ OF a 21 10 sh_R h0 zs.2 z.2) := by
  unfold rX11_own at he
  unfold X11_own
  obtain ⟨x14, hx14, he⟩ := jq_ln he
  refine s_l hx14 ?_
  refine s_b (ob_gR O.1 (k := 13) rfl (by decide)) ?_
  obtain ⟨hg16, he⟩ := jq_ite he
  obtain ⟨x15, hx15, he⟩ := jq_ln he
  refine s_b ((ob_ld O.1 (k := 13) rfl hg16).trans (congrArg some hx15.symm)) ?_
  by_cases hc25 : x15 = 0
  · have he := jq_t hc25 he
    refine s_t hc25 ?_
    refine s_b (ob_gR O.1 (k := 14) rfl (by decide)) ?_
    obtain ⟨hg18, he⟩ := jq_ite he
    obtain ⟨x17, hx17, he⟩ := jq_ln he
    refine s_b ((ob_ld O.1 (k := 14) rfl hg18).trans (congrArg some hx17.symm)) ?_
    by_cases hc19 : 2 ≤ x17
    · have he := jq_t hc19 he
      refine s_t hc19 ?_
      refine s_b (ob_gR O.1 (k := 3) rfl (by decide)) ?_
      obtain ⟨hg21, he⟩ := jq_ite he
      obtain ⟨x20, hx20, he⟩ := jq_ln he
      refine s_b ((ob_ld O.1 (k := 3) rfl hg21).trans (congrArg some hx20.symm)) ?_
      by_cases hc22 : p1 < x20
      · have he := jq_t hc22 he
        refine s_t hc22 ?_
        exact NX11_own_b94 (n := n) O he
      have he := jq_n hc22 he
      refine s_n hc22 ?_
      exact NX11_own_b94 (n := n) O he
    have he := jq_n hc19 he
    refine s_n hc19 ?_
    refine s_b (ob_gR O.1 (k := 14) rfl (by decide)) ?_
    obtain ⟨hg24, he⟩ := jq_ite he
    obtain ⟨x23, hx23, he⟩ := jq_ln he
    refine s_b ((ob_ld O.1 (k := 14) rfl hg24).trans (congrArg some hx23.symm)) ?_
    exact NX11_own_b94 (n := n) O he
  have he := jq_n hc25 he
  refine s_n hc25 ?_
  by_cases hc26 : x15 = 1
  · have he := jq_t hc26 he
    refine s_t hc26 ?_
    exact NX11_own_b263 (n := n) O he
  have he := jq_n hc26 he
  refine s_n hc26 ?_
  by_cases hc27 : x15 = 2
  · have he := jq_t hc27 he
    refine s_t hc27 ?_
    exact NX11_own_b263 (n := n) O he
  have he := jq_n hc27 he
  refine s_n hc27 ?_
  by_cases hc28 : x15 = 3
  · have he := jq_t hc28 he
    refine s_t hc28 ?_
    exact NX11_own_b263 (n := n) O he
  have he := jq_n hc28 he
  refine s_n hc28 ?_
  by_cases hc29 : x15 = 4
  · have he := jq_t hc29 he
    refine s_t hc29 ?_
    exact NX11_own_l101 (n := n) (fun w6 SS hh O he => by
    exact NX11_own_b143 (n := n) O he) n _ _ _ _ _ _ _ O he
  have he := jq_n hc29 he
  refine s_n hc29 ?_
  by_cases hc32 : x15 = 5
  · have he := jq_t hc32 he
    refine s_t hc32 ?_
    obtain ⟨z30, hz30, he⟩ := jq_b he
    have hOz30 := O.1.ci
    obtain ⟨⟨rz30, h⟩, e1, e2, O⟩ := N_X11_sum O hz30
    dsimp only at e2 O
    subst e2
    refine s_b ((if_pos hOz30).trans e1) ?_
    by_cases hc31 : z30.1 < 0
    · have he := jq_t hc31 he
      refine s_t hc31 ?_
      exact NX11_own_b169 (n := n) O he
    have he := jq_n hc31 he
    refine s_n hc31 ?_
    exact NX11_own_b169 (n := n) O he
  have he := jq_n hc32 he
  refine s_n hc32 ?_
  by_cases hc43 : x15 = 6
  · have he := jq_t hc43 he
    refine s_t hc43 ?_
    refine s_b (ob_gR O.1 (k := 18) rfl (by decide)) ?_
    obtain ⟨hg34, he⟩ := jq_ite he
    obtain ⟨x33, hx33, he⟩ := jq_ln he
    refine s_b ((ob_ld O.1 (k := 18) rfl hg34).trans (congrArg some hx33.symm)) ?_
    refine s_b (ob_gR O.1 (k := 14) rfl (by decide)) ?_
    obtain ⟨hg36, he⟩ := jq_ite he
    obtain ⟨x35, hx35, he⟩ := jq_ln he
    refine s_b ((ob_ld O.1 (k := 14) rfl hg36).trans (congrArg some hx35.symm)) ?_
    by_cases hc37 : x33 < x35
    · have he := jq_t hc37 he
      refine s_t hc37 ?_
      exact NX11_own_b223 (n := n) O he
    have he := jq_n hc37 he
    refine s_n hc37 ?_
    refine s_b (ob_gR O.1 (k := 18) rfl (by decide)) ?_
    obtain ⟨hg39, he⟩ := jq_ite he
    obtain ⟨x38, hx38, he⟩ := jq_ln he
    refine s_b ((ob_ld O.1 (k := 18) rfl hg39).trans (congrArg some hx38.symm)) ?_
    refine s_b (ob_gR O.1 (k := 18) rfl (by decide)) ?_
    obtain ⟨hg41, he⟩ := jq_ite he
    obtain ⟨x40, hx40, he⟩ := jq_ln he
    refine s_b ((ob_ld O.1 (k := 18) rfl hg41).trans (congrArg some hx40.symm)) ?_
    by_cases hc42 : x38 = x40
    · have he := jq_t hc42 he
      refine s_t hc42 ?_
      exact NX11_own_b224 (n := n) O he
    have he := jq_n hc42 he
    refine s_n hc42 ?_
    exact NX11_own_b223 (n := n) O he
  have he := jq_n hc43 he
  refine s_n hc43 ?_
  by_cases hc48 : x15 = 7
  · have he := jq_t hc48 he
    refine s_t hc48 ?_
    refine s_b (ob_gR O.1 (k := 18) rfl (by decide)) ?_
    obtain ⟨z44, hz44, he⟩ := jq_b he
    have hOz44 := O.1.ci
    obtain ⟨⟨rz44, h⟩, e1, e2, O⟩ := N_X11_counter O hz44
    dsimp only at e2 O
    subst e2
    refine s_b ((if_pos hOz44).trans e1) ?_
    obtain ⟨hg46, he⟩ := jq_ite he
    obtain ⟨x45, hx45, he⟩ := jq_ln he
    refine s_b ((ob_ld O.1 (k := 18) rfl hg46).trans (congrArg some hx45.symm)) ?_
    by_cases hc47 : x45 ≤ 1
    · have he := jq_t hc47 he
      refine s_t hc47 ?_
      exact NX11_own_b262 (n := n) O he
    have he := jq_n hc47 he
    refine s_n hc47 ?_
    exact NX11_own_b262 (n := n) O he
  have he := jq_n hc48 he
  refine s_n hc48 ?_
  exact NX11_own_b263 (n := n) O he
set_option maxRecDepth 100000 in
set_option maxHeartbeats 4000000 in
theorem NX11_turn_b43 {n a : Nat} {h0 : jq_H} {zs : ob_S} {s1 : Int32} {s2 : Int32} {S : ob_S} {h : jq_H} (O : OF a 21 10 sh_R h0 S h) (he : rX11_turn_b43 n s1 s2 S = some zs) : ∃ z, X11_turn_b43 n (a + 14) s1 s2 h = some z ∧ (OF a 21 10 sh_R h0 zs z) := by
  unfold rX11_turn_b43 at he
  unfold X11_turn_b43
  obtain ⟨hg2, he⟩ := jq_ite he
  obtain ⟨S1, hS1, he⟩ := jq_ln he
  obtain ⟨h, e1, O⟩ := ob_st (k := 18) (x := s2) O ok_R rfl hg2
  rw [← hS1] at O
  refine s_b e1 ?_
  cases he
  exact ⟨_, rfl, O⟩
set_option maxRecDepth 100000 in
set_option maxHeartbeats 4000000 in
theorem N_X11_turn {n a : Nat} {h0 : jq_H} {zs : ob_S} {p0 : Int32} {p1 : Int32} {S : ob_S} {h : jq_H} (O : OF a 21 10 sh_R h0 S h) (he : rX11_turn n S p0 p1 = some zs) : ∃ z, X11_turn n h a p0 p1 = some z ∧ (OF a 21 10 sh_R h0 zs z) := by
  unfold rX11_turn at he
  unfold X11_turn
  refine s_b (ob_gR O.1 (k := 18) rfl (by decide)) ?_
  obtain ⟨hg4, he⟩ := jq_ite he
  obtain ⟨x3, hx3, he⟩ := jq_ln he
  refine s_b ((ob_ld O.1 (k := 18) rfl hg4).trans (congrArg some hx3.symm)) ?_
  refine s_b (ob_gR O.1 (k := 18) rfl (by decide)) ?_
  by_cases hc5 : p1 = 1
  · have he := jq_t hc5 he
    refine s_t hc5 ?_
    by_cases hc7 : 3 ≤ x3
    · have he := jq_t hc7 he
      refine s_t hc7 ?_
      exact NX11_turn_b43 (n := n) O he
    have he := jq_n hc7 he
    refine s_n hc7 ?_
    exact NX11_turn_b43 (n := n) O he
  have he := jq_n hc5 he
  refine s_n hc5 ?_
  by_cases hc6 : x3 ≤ 0
  · have he := jq_t hc6 he
    refine s_t hc6 ?_
    exact NX11_turn_b43 (n := n) O he
  have he := jq_n hc6 he
  refine s_n hc6 ?_
  exact NX11_turn_b43 (n := n) O he
set_option maxRecDepth 100000 in
set_option maxHeartbeats 4000000 in
theorem NX11_weigh_b188 {n a : Nat} {h0 : jq_H} {zs : ob_S} {S : ob_S} {h : jq_H} (O : OF a 21 10 sh_R h0 S h) (he : rX11_weigh_b188 n S = some zs) : ∃ z, X11_weigh_b188 n h = some z ∧ (OF a 21 10 sh_R h0 zs z) := by
  unfold rX11_weigh_b188 at he
  unfold X11_weigh_b188
  cases he
  exact ⟨_, rfl, O⟩
set_option maxRecDepth 100000 in
set_option maxHeartbeats 4000000 in
theorem NX11_weigh_b181 {n a : Nat} {h0 : jq_H} {zs : ob_S} {KB : Int32 → Int32 → Int32 → Int32 → ob_S → Option (ob_S)} {KBh : Nat → Int32 → Int32 → Int32 → Int32 → jq_H → Option (jq_H)} {K188 : ob_S → Option (ob_S)} {K188h : jq_H → Option (jq_H)} (hKB : ∀ (u1 : Int32) (u3 : Int32) (u6 : Int32) (u7 : Int32) (S : ob_S) (h : jq_H), OF a 21 10 sh_R h0 S h → KB u1 u3 u6 u7 S = some zs → ∃ z, KBh a u1 u3 u6 u7 h = some z ∧ (OF a 21 10 sh_R h0 zs z)) (hK188 : ∀ (S : ob_S) (h : jq_H), OF a 21 10 sh_R h0 S h → K188 S = some zs → ∃ z, K188h h = some z ∧ (OF a 21 10 sh_R h0 zs z)) {v1 : Int32} {v3 : Int32} {v6 : Int32} {v7 : Int32} {s1 : Int32} {s2 : Int32} {S : ob_S} {h : jq_H} (O : OF a 21 10 sh_R h0 S h) (he : rX11_weigh_b181 n KB K188 v1 v3 v6 v7 s1 s2 S = some zs) : ∃ z, X11_weigh_b181 n KBh K188h a v1 v3 v6 v7 (a + 14) s1 s2 h = some z ∧ (OF a 21 10 sh_R h0 zs z) := by
  unfold rX11_weigh_b181 at he
  unfold X11_weigh_b181
  obtain ⟨hg2, he⟩ := jq_ite he
  obtain ⟨S1, hS1, he⟩ := jq_ln he
  obtain ⟨h, e1, O⟩ := ob_st (k := 18) (x := s2) O ok_R rfl hg2
  rw [← hS1] at O
  refine s_b e1 ?_
  obtain ⟨x3, hx3, he⟩ := jq_ln he
  refine s_l hx3 ?_
  exact hKB _ _ _ _ _ _ O he
set_option maxRecDepth 100000 in
set_option maxHeartbeats 4000000 in
theorem NX11_weigh_b143 {n a : Nat} {h0 : jq_H} {zs : ob_S} {KB : Int32 → Int32 → Int32 → Int32 → ob_S → Option (ob_S)} {KBh : Nat → Int32 → Int32 → Int32 → Int32 → jq_H → Option (jq_H)} {K188 : ob_S → Option (ob_S)} {K188h : jq_H → Option (jq_H)} (hKB : ∀ (u1 : Int32) (u3 : Int32) (u6 : Int32) (u7 : Int32) (S : ob_S) (h : jq_H), OF a 21 10 sh_R h0 S h → KB u1 u3 u6 u7 S = some zs → ∃ z, KBh a u1 u3 u6 u7 h = some z ∧ (OF a 21 10 sh_R h0 zs z)) (hK188 : ∀ (S : ob_S) (h : jq_H), OF a 21 10 sh_R h0 S h → K188 S = some zs → ∃ z, K188h h = some z ∧ (OF a 21 10 sh_R h0 zs z)) {v1 : Int32} {v3 : Int32} {v6 : Int32} {v7 : Int32} {s0 : Int32} {s1 : Int32} {S : ob_S} {h : jq_H} (O : OF a 21 10 sh_R h0 S h) (he : rX11_weigh_b143 n KB K188 v1 v3 v6 v7 s0 s1 S = some zs) : ∃ z, X11_weigh_b143 n KBh K188h a v1 v3 v6 v7 s0 s1 h = some z ∧ (OF a 21 10 sh_R h0 zs z) := by
  unfold rX11_weigh_b143 at he
  unfold X11_weigh_b143
  obtain ⟨x4, hx4, he⟩ := jq_ln he
  refine s_l hx4 ?_
  refine s_b (ob_gR O.1 (k := 18) rfl (by decide)) ?_
  by_cases hc5 : x4 ≤ 63
  · have he := jq_t hc5 he
    refine s_t hc5 ?_
    by_cases hc6 : (-64) ≤ x4
    · have he := jq_t hc6 he
      refine s_t hc6 ?_
      exact NX11_weigh_b181 (n := n) hKB hK188 O he
    have he := jq_n hc6 he
    refine s_n hc6 ?_
    exact NX11_weigh_b181 (n := n) hKB hK188 O he
  have he := jq_n hc5 he
  refine s_n hc5 ?_
  exact NX11_weigh_b181 (n := n) hKB hK188 O he
set_option maxRecDepth 100000 in
set_option maxHeartbeats 4000000 in
theorem NX11_weigh_b120 {n a : Nat} {h0 : jq_H} {zs : ob_S} {KB : Int32 → Int32 → Int32 → Int32 → ob_S → Option (ob_S)} {KBh : Nat → Int32 → Int32 → Int32 → Int32 → jq_H → Option (jq_H)} {K188 : ob_S → Option (ob_S)} {K188h : jq_H → Option (jq_H)} (hKB : ∀ (u1 : Int32) (u3 : Int32) (u6 : Int32) (u7 : Int32) (S : ob_S) (h : jq_H), OF a 21 10 sh_R h0 S h → KB u1 u3 u6 u7 S = some zs → ∃ z, KBh a u1 u3 u6 u7 h = some z ∧ (OF a 21 10 sh_R h0 zs z)) (hK188 : ∀ (S : ob_S) (h : jq_H), OF a 21 10 sh_R h0 S h → K188 S = some zs → ∃ z, K188h h = some z ∧ (OF a 21 10 sh_R h0 zs z)) {v1 : Int32} {v3 : Int32} {v6 : Int32} {v7 : Int32} {s0 : Int32} {S : ob_S} {h : jq_H} (O : OF a 21 10 sh_R h0 S h) (he : rX11_weigh_b120 n KB K188 v1 v3 v6 v7 s0 S = some zs) : ∃ z, X11_weigh_b120 n KBh K188h a v1 v3 v6 v7 s0 h = some z ∧ (OF a 21 10 sh_R h0 zs z) := by
  unfold rX11_weigh_b120 at he
  unfold X11_weigh_b120
  refine s_b (ob_gR O.1 (k := 18) rfl (by decide)) ?_
  obtain ⟨hg8, he⟩ := jq_ite he
  obtain ⟨x7, hx7, he⟩ := jq_ln he
  refine s_b ((ob_ld O.1 (k := 18) rfl hg8).trans (congrArg some hx7.symm)) ?_
  by_cases hc9 : s0 = v3
  · have he := jq_t hc9 he
    refine s_t hc9 ?_
    exact NX11_weigh_b143 (n := n) hKB hK188 O he
  have he := jq_n hc9 he
  refine s_n hc9 ?_
  exact NX11_weigh_b143 (n := n) hKB hK188 O he
set_option maxRecDepth 100000 in
set_option maxHeartbeats 4000000 in
theorem NX11_weigh_b79 {n a : Nat} {h0 : jq_H} {zs : ob_S} {KB : Int32 → Int32 → Int32 → Int32 → ob_S → Option (ob_S)} {KBh : Nat → Int32 → Int32 → Int32 → Int32 → jq_H → Option (jq_H)} {K188 : ob_S → Option (ob_S)} {K188h : jq_H → Option (jq_H)} (hKB : ∀ (u1 : Int32) (u3 : Int32) (u6 : Int32) (u7 : Int32) (S : ob_S) (h : jq_H), OF a 21 10 sh_R h0 S h → KB u1 u3 u6 u7 S = some zs → ∃ z, KBh a u1 u3 u6 u7 h = some z ∧ (OF a 21 10 sh_R h0 zs z)) (hK188 : ∀ (S : ob_S) (h : jq_H), OF a 21 10 sh_R h0 S h → K188 S = some zs → ∃ z, K188h h = some z ∧ (OF a 21 10 sh_R h0 zs z)) {v1 : Int32} {v3 : Int32} {v6 : Int32} {v7 : Int32} {S : ob_S} {h : jq_H} (O : OF a 21 10 sh_R h0 S h) (he : rX11_weigh_b79 n KB K188 v1 v3 v6 v7 S = some zs) : ∃ z, X11_weigh_b79 n KBh K188h a v1 v3 v6 v7 h = some z ∧ (OF a 21 10 sh_R h0 zs z) := by
  unfold rX11_weigh_b79 at he
  unfold X11_weigh_b79
  refine s_b (ob_gR O.1 (k := 15) rfl (by decide)) ?_
  obtain ⟨hg11, he⟩ := jq_ite he
  obtain ⟨x10, hx10, he⟩ := jq_ln he
  refine s_b ((ob_ld O.1 (k := 15) rfl hg11).trans (congrArg some hx10.symm)) ?_
  by_cases hc12 : x10 < v7
  · have he := jq_t hc12 he
    refine s_t hc12 ?_
    exact hK188 _ _ O he
  have he := jq_n hc12 he
  refine s_n hc12 ?_
  by_cases hc13 : v7 = 0
  · have he := jq_t hc13 he
    refine s_t hc13 ?_
    exact NX11_weigh_b120 (n := n) hKB hK188 O he
  have he := jq_n hc13 he
  refine s_n hc13 ?_
  refine s_b (ob_gR O.1 (k := 18) rfl (by decide)) ?_
  obtain ⟨hg15, he⟩ := jq_ite he
  obtain ⟨x14, hx14, he⟩ := jq_ln he
  refine s_b ((ob_ld O.1 (k := 18) rfl hg15).trans (congrArg some hx14.symm)) ?_
  exact NX11_weigh_b120 (n := n) hKB hK188 O he
set_option maxRecDepth 100000 in
set_option maxHeartbeats 4000000 in
theorem NX11_weigh_l79 {n a : Nat} {h0 : jq_H} {zs : ob_S} {K188 : ob_S → Option (ob_S)} {K188h : jq_H → Option (jq_H)} (hK188 : ∀ (S : ob_S) (h : jq_H), OF a 21 10 sh_R h0 S h → K188 S = some zs → ∃ z, K188h h = some z ∧ (OF a 21 10 sh_R h0 zs z)) :
    ∀ (k : Nat) (v1 : Int32) (v3 : Int32) (v6 : Int32) (v7 : Int32) (S : ob_S) (h : jq_H), OF a 21 10 sh_R h0 S h → rX11_weigh_l79 n K188 k v1 v3 v6 v7 S = some zs → ∃ z, X11_weigh_l79 n K188h k a v1 v3 v6 v7 h = some z ∧ (OF a 21 10 sh_R h0 zs z) := by
  intro k
  induction k with
  | zero => intro v1 v3 v6 v7 S h O he; cases (show (none : Option (ob_S)) = some zs from he)
  | succ k ih =>
    intro v1 v3 v6 v7 S h O he
    exact NX11_weigh_b79 (n := n) (KB := rX11_weigh_l79 n K188 k) (KBh := X11_weigh_l79 n K188h k) ih hK188 O he
set_option maxRecDepth 100000 in
set_option maxHeartbeats 4000000 in
theorem NX11_weigh_b58 {n a : Nat} {h0 : jq_H} {zs : ob_S} {v1 : Int32} {v2 : Int32} {v3 : Int32} {S : ob_S} {h : jq_H} (O : OF a 21 10 sh_R h0 S h) (he : rX11_weigh_b58 n v1 v2 v3 S = some zs) : ∃ z, X11_weigh_b58 n a v1 v2 v3 h = some z ∧ (OF a 21 10 sh_R h0 zs z) := by
  unfold rX11_weigh_b58 at he
  unfold X11_weigh_b58
  obtain ⟨z16, hz16, he⟩ := jq_b he
  have hOz16 := O.1.ci
  obtain ⟨⟨rz16, h⟩, e1, e2, O⟩ := N_X11_counter O hz16
  dsimp only at e2 O
  subst e2
  refine s_b ((if_pos hOz16).trans e1) ?_
  obtain ⟨x17, hx17, he⟩ := jq_ln he
  refine s_l hx17 ?_
  exact NX11_weigh_l79 (n := n) (fun SS hh O he => by
    exact NX11_weigh_b188 (n := n) O he) n _ _ _ _ _ _ O he
set_option maxRecDepth 100000 in
set_option maxHeartbeats 4000000 in
theorem NX11_weigh_b43 {n a : Nat} {h0 : jq_H} {zs : ob_S} {v1 : Int32} {v2 : Int32} {v3 : Int32} {v5 : Int32} {s0 : Int32} {s1 : Int32} {S : ob_S} {h : jq_H} (O : OF a 21 10 sh_R h0 S h) (he : rX11_weigh_b43 n v1 v2 v3 v5 s0 s1 S = some zs) : ∃ z, X11_weigh_b43 n a v1 v2 v3 v5 s0 s1 h = some z ∧ (OF a 21 10 sh_R h0 zs z) := by
  unfold rX11_weigh_b43 at he
  unfold X11_weigh_b43
  by_cases hc18 : s0 = s1
  · have he := jq_t hc18 he
    refine s_t hc18 ?_
    refine s_b (ob_gR O.1 (k := 16) rfl (by decide)) ?_
    obtain ⟨hg20, he⟩ := jq_ite he
    obtain ⟨x19, hx19, he⟩ := jq_ln he
    refine s_b ((ob_ld O.1 (k := 16) rfl hg20).trans (congrArg some hx19.symm)) ?_
    by_cases hc21 : v5 ≤ x19
    · have he := jq_t hc21 he
      refine s_t hc21 ?_
      exact NX11_weigh_b58 (n := n) O he
    have he := jq_n hc21 he
    refine s_n hc21 ?_
    cases he
    exact ⟨_, rfl, O⟩
  have he := jq_n hc18 he
  refine s_n hc18 ?_
  exact NX11_weigh_b58 (n := n) O he
set_option maxRecDepth 100000 in
set_option maxHeartbeats 4000000 in
theorem NX11_weigh_b33 {n a : Nat} {h0 : jq_H} {zs : ob_S} {v1 : Int32} {v2 : Int32} {v3 : Int32} {v5 : Int32} {s0 : Int32} {S : ob_S} {h : jq_H} (O : OF a 21 10 sh_R h0 S h) (he : rX11_weigh_b33 n v1 v2 v3 v5 s0 S = some zs) : ∃ z, X11_weigh_b33 n a v1 v2 v3 v5 s0 h = some z ∧ (OF a 21 10 sh_R h0 zs z) := by
  unfold rX11_weigh_b33 at he
  unfold X11_weigh_b33
  by_cases hc22 : v3 = 1
  · have he := jq_t hc22 he
    refine s_t hc22 ?_
    exact NX11_weigh_b43 (n := n) O he
  have he := jq_n hc22 he
  refine s_n hc22 ?_
  exact NX11_weigh_b43 (n := n) O he
set_option maxRecDepth 100000 in
set_option maxHeartbeats 4000000 in
theorem NX11_weigh_b21 {n a : Nat} {h0 : jq_H} {zs : ob_S} {v1 : Int32} {v2 : Int32} {v3 : Int32} {v4 : Int32} {s0 : Int32} {S : ob_S} {h : jq_H} (O : OF a 21 10 sh_R h0 S h) (he : rX11_weigh_b21 n v1 v2 v3 v4 s0 S = some zs) : ∃ z, X11_weigh_b21 n a v1 v2 v3 v4 s0 h = some z ∧ (OF a 21 10 sh_R h0 zs z) := by
  unfold rX11_weigh_b21 at he
  unfold X11_weigh_b21
  by_cases hc23 : v4 < 0
  · have he := jq_t hc23 he
    refine s_t hc23 ?_
    exact NX11_weigh_b33 (n := n) O he
  have he := jq_n hc23 he
  refine s_n hc23 ?_
  exact NX11_weigh_b33 (n := n) O he
set_option maxRecDepth 100000 in
set_option maxHeartbeats 4000000 in
theorem N_X11_weigh {n a : Nat} {h0 : jq_H} {zs : ob_S} {p0 : Int32} {p1 : Int32} {p2 : Int32} {S : ob_S} {h : jq_H} (O : OF a 21 10 sh_R h0 S h) (he : rX11_weigh n S p0 p1 p2 = some zs) : ∃ z, X11_weigh n h a p0 p1 p2 = some z ∧ (OF a 21 10 sh_R h0 zs z) := by
  unfold rX11_weigh at he
  unfold X11_weigh
  obtain ⟨z24, hz24, he⟩ := jq_b he
  have hOz24 := O.1.ci
  obtain ⟨⟨rz24, h⟩, e1, e2, O⟩ := N_X11_sum O hz24
  dsimp only at e2 O
  subst e2
  refine s_b ((if_pos hOz24).trans e1) ?_
  obtain ⟨x25, hx25, he⟩ := jq_ln he
  refine s_l hx25 ?_
  by_cases hc26 : 0 ≤ x25
  · have he := jq_t hc26 he
    refine s_t hc26 ?_
    exact NX11_weigh_b21 (n := n) O he
  have he := jq_n hc26 he
  refine s_n hc26 ?_
  exact NX11_weigh_b21 (n := n) O he
set_option maxRecDepth 100000 in
set_option maxHeartbeats 4000000 in
theorem NX11_loop_b115 {n a : Nat} {h0 : jq_H} {zs : ob_S} {v1 : Int32} {S : ob_S} {h : jq_H} (O : OF a 21 10 sh_R h0 S h) (he : rX11_loop_b115 n v1 S = some zs) : ∃ z, X11_loop_b115 n a v1 h = some z ∧ (OF a 21 10 sh_R h0 zs z) := by
  unfold rX11_loop_b115 at he
  unfold X11_loop_b115
  refine s_b (ob_gR O.1 (k := 18) rfl (by decide)) ?_
  obtain ⟨hg2, he⟩ := jq_ite he
  obtain ⟨S1, hS1, he⟩ := jq_ln he
  obtain ⟨h, e1, O⟩ := ob_st (k := 18) (x := 0) O ok_R rfl hg2
  rw [← hS1] at O
  refine s_b e1 ?_
  cases he
  exact ⟨_, rfl, O⟩
set_option maxRecDepth 100000 in
set_option maxHeartbeats 4000000 in
theorem NX11_loop_b88 {n a : Nat} {h0 : jq_H} {zs : ob_S} {v1 : Int32} {s1 : Int32} {s2 : Int32} {S : ob_S} {h : jq_H} (O : OF a 21 10 sh_R h0 S h) (he : rX11_loop_b88 n v1 s1 s2 S = some zs) : ∃ z, X11_loop_b88 n a v1 (a + 14) s1 s2 h = some z ∧ (OF a 21 10 sh_R h0 zs z) := by
  unfold rX11_loop_b88 at he
  unfold X11_loop_b88
  obtain ⟨hg4, he⟩ := jq_ite he
  obtain ⟨S3, hS3, he⟩ := jq_ln he
  obtain ⟨h, e1, O⟩ := ob_st (k := 18) (x := s2) O ok_R rfl hg4
  rw [← hS3] at O
  refine s_b e1 ?_
  exact NX11_loop_b115 (n := n) O he
set_option maxRecDepth 100000 in
set_option maxHeartbeats 4000000 in
theorem NX11_loop_b36 {n a : Nat} {h0 : jq_H} {zs : ob_S} {s1 : Int32} {s2 : Int32} {S : ob_S} {h : jq_H} (O : OF a 21 10 sh_R h0 S h) (he : rX11_loop_b36 n s1 s2 S = some zs) : ∃ z, X11_loop_b36 n (a + 14) s1 s2 h = some z ∧ (OF a 21 10 sh_R h0 zs z) := by
  unfold rX11_loop_b36 at he
  unfold X11_loop_b36
  obtain ⟨hg6, he⟩ := jq_ite he
  obtain ⟨S5, hS5, he⟩ := jq_ln he
  obtain ⟨h, e1, O⟩ := ob_st (k := 18) (x := s2) O ok_R rfl hg6
  rw [← hS5] at O
  refine s_b e1 ?_
  cases he
  exact ⟨_, rfl, O⟩
set_option maxRecDepth 100000 in
set_option maxHeartbeats 4000000 in
theorem N_X11_loop {n a : Nat} {h0 : jq_H} {zs : ob_S} {p0 : Int32} {p1 : Int32} {S : ob_S} {h : jq_H} (O : OF a 21 10 sh_R h0 S h) (he : rX11_loop n S p0 p1 = some zs) : ∃ z, X11_loop n h a p0 p1 = some z ∧ (OF a 21 10 sh_R h0 zs z) := by
  unfold rX11_loop at he
  unfold X11_loop
  by_cases hc7 : p1 = 1
  · have he := jq_t hc7 he
    refine s_t hc7 ?_
    refine s_b (ob_gR O.1 (k := 18) rfl (by decide)) ?_
    refine s_b (ob_gR O.1 (k := 18) rfl (by decide)) ?_
    obtain ⟨hg25, he⟩ := jq_ite he
    obtain ⟨x24, hx24, he⟩ := jq_ln he
    refine s_b ((ob_ld O.1 (k := 18) rfl hg25).trans (congrArg some hx24.symm)) ?_
    by_cases hc26 : 255 ≤ x24
    · have he := jq_t hc26 he
      refine s_t hc26 ?_
      exact NX11_loop_b36 (n := n) O he
    have he := jq_n hc26 he
    refine s_n hc26 ?_
    refine s_b (ob_gR O.1 (k := 18) rfl (by decide)) ?_
    obtain ⟨hg28, he⟩ := jq_ite he
    obtain ⟨x27, hx27, he⟩ := jq_ln he
    refine s_b ((ob_ld O.1 (k := 18) rfl hg28).trans (congrArg some hx27.symm)) ?_
    exact NX11_loop_b36 (n := n) O he
  have he := jq_n hc7 he
  refine s_n hc7 ?_
  refine s_b (ob_gR O.1 (k := 18) rfl (by decide)) ?_
  obtain ⟨hg9, he⟩ := jq_ite he
  obtain ⟨x8, hx8, he⟩ := jq_ln he
  refine s_b ((ob_ld O.1 (k := 18) rfl hg9).trans (congrArg some hx8.symm)) ?_
  refine s_b (ob_gR O.1 (k := 18) rfl (by decide)) ?_
  obtain ⟨hg11, he⟩ := jq_ite he
  obtain ⟨x10, hx10, he⟩ := jq_ln he
  refine s_b ((ob_ld O.1 (k := 18) rfl hg11).trans (congrArg some hx10.symm)) ?_
  by_cases hc12 : x8 = x10
  · have he := jq_t hc12 he
    refine s_t hc12 ?_
    refine s_b (ob_gR O.1 (k := 18) rfl (by decide)) ?_
    refine s_b (ob_gR O.1 (k := 18) rfl (by decide)) ?_
    obtain ⟨hg20, he⟩ := jq_ite he
    obtain ⟨x19, hx19, he⟩ := jq_ln he
    refine s_b ((ob_ld O.1 (k := 18) rfl hg20).trans (congrArg some hx19.symm)) ?_
    by_cases hc21 : 3 ≤ x19
    · have he := jq_t hc21 he
      refine s_t hc21 ?_
      exact NX11_loop_b88 (n := n) O he
    have he := jq_n hc21 he
    refine s_n hc21 ?_
    refine s_b (ob_gR O.1 (k := 18) rfl (by decide)) ?_
    obtain ⟨hg23, he⟩ := jq_ite he
    obtain ⟨x22, hx22, he⟩ := jq_ln he
    refine s_b ((ob_ld O.1 (k := 18) rfl hg23).trans (congrArg some hx22.symm)) ?_
    exact NX11_loop_b88 (n := n) O he
  have he := jq_n hc12 he
  refine s_n hc12 ?_
  refine s_b (ob_gR O.1 (k := 18) rfl (by decide)) ?_
  obtain ⟨hg14, he⟩ := jq_ite he
  obtain ⟨S13, hS13, he⟩ := jq_ln he
  obtain ⟨h, e1, O⟩ := ob_st (k := 18) (x := 0) O ok_R rfl hg14
  rw [← hS13] at O
  refine s_b e1 ?_
  refine s_b (ob_gR O.1 (k := 18) rfl (by decide)) ?_
  refine s_b (ob_gR O.1 (k := 18) rfl (by decide)) ?_
  obtain ⟨hg16, he⟩ := jq_ite he
  obtain ⟨x15, hx15, he⟩ := jq_ln he
  refine s_b ((ob_ld O.1 (k := 18) rfl hg16).trans (congrArg some hx15.symm)) ?_
  obtain ⟨hg18, he⟩ := jq_ite he
  obtain ⟨S17, hS17, he⟩ := jq_ln he
  obtain ⟨h, e1, O⟩ := ob_st (k := 18) (x := x15) O ok_R rfl hg18
  rw [← hS17] at O
  refine s_b e1 ?_
  exact NX11_loop_b115 (n := n) O he
set_option maxRecDepth 100000 in
set_option maxHeartbeats 4000000 in
theorem NX11_asks_b339 {n a : Nat} {h0 : jq_H} {zs : ob_S} {v2 : Int32} {v3 : Int32} {v4 : Int32} {S : ob_S} {h : jq_H} (O : OF a 21 10 sh_R h0 S h) (he : rX11_asks_b339 n v2 v3 v4 S = some zs) : ∃ z, X11_asks_b339 n a v2 v3 v4 h = some z ∧ (OF a 21 10 sh_R h0 zs z) := by
  unfold rX11_asks_b339 at he
  unfold X11_asks_b339
  refine s_b (ob_gR O.1 (k := 18) rfl (by decide)) ?_
  refine s_b (ob_gR O.1 (k := 18) rfl (by decide)) ?_
  obtain ⟨hg2, he⟩ := jq_ite he
  obtain ⟨x1, hx1, he⟩ := jq_ln he
  refine s_b ((ob_ld O.1 (k := 18) rfl hg2).trans (congrArg some hx1.symm)) ?_
  obtain ⟨hg4, he⟩ := jq_ite he
  obtain ⟨S3, hS3, he⟩ := jq_ln he
  obtain ⟨h, e1, O⟩ := ob_st (k := 18) (x := (((x1 <<< (1 &&& 31)) ||| v3) &&& 65535)) O ok_R rfl hg4
  rw [← hS3] at O
  refine s_b e1 ?_
  refine s_b (ob_gR O.1 (k := 18) rfl (by decide)) ?_
  refine s_b (ob_gR O.1 (k := 18) rfl (by decide)) ?_
  obtain ⟨hg6, he⟩ := jq_ite he
  obtain ⟨x5, hx5, he⟩ := jq_ln he
  refine s_b ((ob_ld O.1 (k := 18) rfl hg6).trans (congrArg some hx5.symm)) ?_
  obtain ⟨hg8, he⟩ := jq_ite he
  obtain ⟨S7, hS7, he⟩ := jq_ln he
  obtain ⟨h, e1, O⟩ := ob_st (k := 18) (x := (((x5 <<< (1 &&& 31)) ||| v3) &&& 65535)) O ok_R rfl hg8
  rw [← hS7] at O
  refine s_b e1 ?_
  cases he
  exact ⟨_, rfl, O⟩
set_option maxRecDepth 100000 in
set_option maxHeartbeats 4000000 in
theorem NX11_asks_b324 {n a : Nat} {h0 : jq_H} {zs : ob_S} {v1 : Int32} {v2 : Int32} {v3 : Int32} {v4 : Int32} {S : ob_S} {h : jq_H} (O : OF a 21 10 sh_R h0 S h) (he : rX11_asks_b324 n v1 v2 v3 v4 S = some zs) : ∃ z, X11_asks_b324 n a v1 v2 v3 v4 h = some z ∧ (OF a 21 10 sh_R h0 zs z) := by
  unfold rX11_asks_b324 at he
  unfold X11_asks_b324
  obtain ⟨z9, hz9, he⟩ := jq_b he
  have hOz9 := O.1.ci
  obtain ⟨⟨rz9, h⟩, e1, e2, O⟩ := N_X11_counter O hz9
  dsimp only at e2 O
  subst e2
  refine s_b ((if_pos hOz9).trans e1) ?_
  obtain ⟨z10, hz10, he⟩ := jq_b he
  have hOz10 := O.1.ci
  obtain ⟨h, e1, O⟩ := N_X11_turn O hz10
  refine s_b ((if_pos hOz10).trans e1) ?_
  exact NX11_asks_b339 (n := n) O he
set_option maxRecDepth 100000 in
set_option maxHeartbeats 4000000 in
theorem NX11_asks_b318 {n a : Nat} {h0 : jq_H} {zs : ob_S} {v2 : Int32} {v3 : Int32} {v4 : Int32} {s1 : Int32} {s2 : Int32} {S : ob_S} {h : jq_H} (O : OF a 21 10 sh_R h0 S h) (he : rX11_asks_b318 n v2 v3 v4 s1 s2 S = some zs) : ∃ z, X11_asks_b318 n a v2 v3 v4 a s1 s2 h = some z ∧ (OF a 21 10 sh_R h0 zs z) := by
  unfold rX11_asks_b318 at he
  unfold X11_asks_b318
  obtain ⟨z11, hz11, he⟩ := jq_b he
  have hOz11 := O.1.ci
  obtain ⟨h, e1, O⟩ := N_X11_turn O hz11
  refine s_b ((if_pos hOz11).trans e1) ?_
  exact NX11_asks_b339 (n := n) O he
set_option maxRecDepth 100000 in
set_option maxHeartbeats 4000000 in
theorem NX11_asks_b262 {n a : Nat} {h0 : jq_H} {zs : ob_S} {v2 : Int32} {v3 : Int32} {v4 : Int32} {S : ob_S} {h : jq_H} (O : OF a 21 10 sh_R h0 S h) (he : rX11_asks_b262 n v2 v3 v4 S = some zs) : ∃ z, X11_asks_b262 n a v2 v3 v4 h = some z ∧ (OF a 21 10 sh_R h0 zs z) := by
  unfold rX11_asks_b262 at he
  unfold X11_asks_b262
  exact NX11_asks_b339 (n := n) O he
set_option maxRecDepth 100000 in
set_option maxHeartbeats 4000000 in
theorem NX11_asks_b234 {n a : Nat} {h0 : jq_H} {zs : ob_S} {KB : Int32 → Int32 → Int32 → Int32 → Int32 → ob_S → Option (ob_S)} {KBh : Nat → Int32 → Int32 → Int32 → Int32 → Int32 → jq_H → Option (jq_H)} {K262 : Int32 → Int32 → Int32 → ob_S → Option (ob_S)} {K262h : Nat → Int32 → Int32 → Int32 → jq_H → Option (jq_H)} (hKB : ∀ (u1 : Int32) (u2 : Int32) (u3 : Int32) (u4 : Int32) (u9 : Int32) (S : ob_S) (h : jq_H), OF a 21 10 sh_R h0 S h → KB u1 u2 u3 u4 u9 S = some zs → ∃ z, KBh a u1 u2 u3 u4 u9 h = some z ∧ (OF a 21 10 sh_R h0 zs z)) (hK262 : ∀ (u2 : Int32) (u3 : Int32) (u4 : Int32) (S : ob_S) (h : jq_H), OF a 21 10 sh_R h0 S h → K262 u2 u3 u4 S = some zs → ∃ z, K262h a u2 u3 u4 h = some z ∧ (OF a 21 10 sh_R h0 zs z)) {v1 : Int32} {v2 : Int32} {v3 : Int32} {v4 : Int32} {v9 : Int32} {S : ob_S} {h : jq_H} (O : OF a 21 10 sh_R h0 S h) (he : rX11_asks_b234 n KB K262 v1 v2 v3 v4 v9 S = some zs) : ∃ z, X11_asks_b234 n KBh K262h a v1 v2 v3 v4 v9 h = some z ∧ (OF a 21 10 sh_R h0 zs z) := by
  unfold rX11_asks_b234 at he
  unfold X11_asks_b234
  by_cases hc12 : 3 ≤ v9
  · have he := jq_t hc12 he
    refine s_t hc12 ?_
    exact hK262 _ _ _ _ _ O he
  have he := jq_n hc12 he
  refine s_n hc12 ?_
  obtain ⟨z13, hz13, he⟩ := jq_b he
  have hOz13 := O.1.ci
  obtain ⟨⟨rz13, h⟩, e1, e2, O⟩ := N_X11_counter O hz13
  dsimp only at e2 O
  subst e2
  refine s_b ((if_pos hOz13).trans e1) ?_
  obtain ⟨z14, hz14, he⟩ := jq_b he
  have hOz14 := O.1.ci
  obtain ⟨h, e1, O⟩ := N_X11_turn O hz14
  refine s_b ((if_pos hOz14).trans e1) ?_
  obtain ⟨x15, hx15, he⟩ := jq_ln he
  refine s_l hx15 ?_
  exact hKB _ _ _ _ _ _ _ O he
set_option maxRecDepth 100000 in
set_option maxHeartbeats 4000000 in
theorem NX11_asks_l234 {n a : Nat} {h0 : jq_H} {zs : ob_S} {K262 : Int32 → Int32 → Int32 → ob_S → Option (ob_S)} {K262h : Nat → Int32 → Int32 → Int32 → jq_H → Option (jq_H)} (hK262 : ∀ (u2 : Int32) (u3 : Int32) (u4 : Int32) (S : ob_S) (h : jq_H), OF a 21 10 sh_R h0 S h → K262 u2 u3 u4 S = some zs → ∃ z, K262h a u2 u3 u4 h = some z ∧ (OF a 21 10 sh_R h0 zs z)) :
    ∀ (k : Nat) (v1 : Int32) (v2 : Int32) (v3 : Int32) (v4 : Int32) (v9 : Int32) (S : ob_S) (h : jq_H), OF a 21 10 sh_R h0 S h → rX11_asks_l234 n K262 k v1 v2 v3 v4 v9 S = some zs → ∃ z, X11_asks_l234 n K262h k a v1 v2 v3 v4 v9 h = some z ∧ (OF a 21 10 sh_R h0 zs z) := by
  intro k
  induction k with
  | zero => intro v1 v2 v3 v4 v9 S h O he; cases (show (none : Option (ob_S)) = some zs from he)
  | succ k ih =>
    intro v1 v2 v3 v4 v9 S h O he
    exact NX11_asks_b234 (n := n) (KB := rX11_asks_l234 n K262 k) (KBh := X11_asks_l234 n K262h k) ih hK262 O he
set_option maxRecDepth 100000 in
set_option maxHeartbeats 4000000 in
theorem NX11_asks_b157 {n a : Nat} {h0 : jq_H} {zs : ob_S} {v1 : Int32} {v2 : Int32} {v3 : Int32} {v4 : Int32} {v5 : Int32} {v6 : Int32} {s1 : Int32} {s2 : Int32} {s3 : Int32} {S : ob_S} {h : jq_H} (O : OF a 21 10 sh_R h0 S h) (he : rX11_asks_b157 n v1 v2 v3 v4 v5 v6 s1 s2 s3 S = some zs) : ∃ z, X11_asks_b157 n a v1 v2 v3 v4 v5 v6 (a + 14) s1 s2 s3 h = some z ∧ (OF a 21 10 sh_R h0 zs z) := by
  unfold rX11_asks_b157 at he
  unfold X11_asks_b157
  obtain ⟨hg17, he⟩ := jq_ite he
  obtain ⟨S16, hS16, he⟩ := jq_ln he
  obtain ⟨h, e1, O⟩ := ob_st (k := 18) (x := (s2 + s3)) O ok_R rfl hg17
  rw [← hS16] at O
  refine s_b e1 ?_
  refine s_b (ob_gR O.1 (k := 18) rfl (by decide)) ?_
  obtain ⟨hg19, he⟩ := jq_ite he
  obtain ⟨x18, hx18, he⟩ := jq_ln he
  refine s_b ((ob_ld O.1 (k := 18) rfl hg19).trans (congrArg some hx18.symm)) ?_
  obtain ⟨hg21, he⟩ := jq_ite he
  obtain ⟨S20, hS20, he⟩ := jq_ln he
  obtain ⟨h, e1, O⟩ := ob_st (k := 18) (x := (x18 + 1)) O ok_R rfl hg21
  rw [← hS20] at O
  refine s_b e1 ?_
  refine s_b (ob_gR O.1 (k := 13) rfl (by decide)) ?_
  obtain ⟨hg23, he⟩ := jq_ite he
  obtain ⟨x22, hx22, he⟩ := jq_ln he
  refine s_b ((ob_ld O.1 (k := 13) rfl hg23).trans (congrArg some hx22.symm)) ?_
  by_cases hc24 : x22 = 0
  · have he := jq_t hc24 he
    refine s_t hc24 ?_
    exact NX11_asks_b339 (n := n) O he
  have he := jq_n hc24 he
  refine s_n hc24 ?_
  by_cases hc25 : x22 = 1
  · have he := jq_t hc25 he
    refine s_t hc25 ?_
    exact NX11_asks_b324 (n := n) O he
  have he := jq_n hc25 he
  refine s_n hc25 ?_
  by_cases hc26 : x22 = 2
  · have he := jq_t hc26 he
    refine s_t hc26 ?_
    exact NX11_asks_b324 (n := n) O he
  have he := jq_n hc26 he
  refine s_n hc26 ?_
  by_cases hc27 : x22 = 3
  · have he := jq_t hc27 he
    refine s_t hc27 ?_
    exact NX11_asks_b324 (n := n) O he
  have he := jq_n hc27 he
  refine s_n hc27 ?_
  by_cases hc28 : x22 = 4
  · have he := jq_t hc28 he
    refine s_t hc28 ?_
    exact NX11_asks_l234 (n := n) (fun w2 w3 w4 SS hh O he => by
    exact NX11_asks_b262 (n := n) O he) n _ _ _ _ _ _ _ O he
  have he := jq_n hc28 he
  refine s_n hc28 ?_
  by_cases hc30 : x22 = 5
  · have he := jq_t hc30 he
    refine s_t hc30 ?_
    obtain ⟨z29, hz29, he⟩ := jq_b he
    have hOz29 := O.1.ci
    obtain ⟨h, e1, O⟩ := N_X11_weigh O hz29
    refine s_b ((if_pos hOz29).trans e1) ?_
    exact NX11_asks_b339 (n := n) O he
  have he := jq_n hc30 he
  refine s_n hc30 ?_
  by_cases hc32 : x22 = 6
  · have he := jq_t hc32 he
    refine s_t hc32 ?_
    obtain ⟨z31, hz31, he⟩ := jq_b he
    have hOz31 := O.1.ci
    obtain ⟨h, e1, O⟩ := N_X11_loop O hz31
    refine s_b ((if_pos hOz31).trans e1) ?_
    exact NX11_asks_b339 (n := n) O he
  have he := jq_n hc32 he
  refine s_n hc32 ?_
  by_cases hc36 : x22 = 7
  · have he := jq_t hc36 he
    refine s_t hc36 ?_
    by_cases hc33 : v5 = v6
    · have he := jq_t hc33 he
      refine s_t hc33 ?_
      exact NX11_asks_b339 (n := n) O he
    have he := jq_n hc33 he
    refine s_n hc33 ?_
    obtain ⟨z34, hz34, he⟩ := jq_b he
    have hOz34 := O.1.ci
    obtain ⟨⟨rz34, h⟩, e1, e2, O⟩ := N_X11_counter O hz34
    dsimp only at e2 O
    subst e2
    refine s_b ((if_pos hOz34).trans e1) ?_
    by_cases hc35 : v6 = v3
    · have he := jq_t hc35 he
      refine s_t hc35 ?_
      exact NX11_asks_b318 (n := n) O he
    have he := jq_n hc35 he
    refine s_n hc35 ?_
    exact NX11_asks_b318 (n := n) O he
  have he := jq_n hc36 he
  refine s_n hc36 ?_
  exact NX11_asks_b324 (n := n) O he
set_option maxRecDepth 100000 in
set_option maxHeartbeats 4000000 in
theorem NX11_asks_b131 {n a : Nat} {h0 : jq_H} {zs : ob_S} {v1 : Int32} {v2 : Int32} {v3 : Int32} {v4 : Int32} {v5 : Int32} {v6 : Int32} {s0 : Int32} {S : ob_S} {h : jq_H} (O : OF a 21 10 sh_R h0 S h) (he : rX11_asks_b131 n v1 v2 v3 v4 v5 v6 s0 S = some zs) : ∃ z, X11_asks_b131 n a v1 v2 v3 v4 v5 v6 s0 h = some z ∧ (OF a 21 10 sh_R h0 zs z) := by
  unfold rX11_asks_b131 at he
  unfold X11_asks_b131
  refine s_b (ob_gR O.1 (k := 18) rfl (by decide)) ?_
  obtain ⟨hg38, he⟩ := jq_ite he
  obtain ⟨x37, hx37, he⟩ := jq_ln he
  refine s_b ((ob_ld O.1 (k := 18) rfl hg38).trans (congrArg some hx37.symm)) ?_
  by_cases hc39 : s0 = 0
  · have he := jq_t hc39 he
    refine s_t hc39 ?_
    exact NX11_asks_b157 (n := n) O he
  have he := jq_n hc39 he
  refine s_n hc39 ?_
  exact NX11_asks_b157 (n := n) O he
set_option maxRecDepth 100000 in
set_option maxHeartbeats 4000000 in
theorem NX11_asks_b115 {n a : Nat} {h0 : jq_H} {zs : ob_S} {v1 : Int32} {v2 : Int32} {v3 : Int32} {v4 : Int32} {v5 : Int32} {v6 : Int32} {s1 : Int32} {s2 : Int32} {S : ob_S} {h : jq_H} (O : OF a 21 10 sh_R h0 S h) (he : rX11_asks_b115 n v1 v2 v3 v4 v5 v6 s1 s2 S = some zs) : ∃ z, X11_asks_b115 n a v1 v2 v3 v4 v5 v6 (a + 17) s1 s2 h = some z ∧ (OF a 21 10 sh_R h0 zs z) := by
  unfold rX11_asks_b115 at he
  unfold X11_asks_b115
  obtain ⟨hg41, he⟩ := jq_ite he
  obtain ⟨S40, hS40, he⟩ := jq_ln he
  obtain ⟨h, e1, O⟩ := ob_st (k := 21) (x := s2) O ok_R rfl hg41
  rw [← hS40] at O
  refine s_b e1 ?_
  refine s_b (ob_gR O.1 (k := 21) rfl (by decide)) ?_
  obtain ⟨hg43, he⟩ := jq_ite he
  obtain ⟨x42, hx42, he⟩ := jq_ln he
  refine s_b ((ob_ld O.1 (k := 21) rfl hg43).trans (congrArg some hx42.symm)) ?_
  by_cases hc44 : x42 = v3
  · have he := jq_t hc44 he
    refine s_t hc44 ?_
    exact NX11_asks_b131 (n := n) O he
  have he := jq_n hc44 he
  refine s_n hc44 ?_
  exact NX11_asks_b131 (n := n) O he
set_option maxRecDepth 100000 in
set_option maxHeartbeats 4000000 in
theorem NX11_asks_b75 {n a : Nat} {h0 : jq_H} {zs : ob_S} {v1 : Int32} {v2 : Int32} {v3 : Int32} {v4 : Int32} {v5 : Int32} {s0 : Int32} {S : ob_S} {h : jq_H} (O : OF a 21 10 sh_R h0 S h) (he : rX11_asks_b75 n v1 v2 v3 v4 v5 s0 S = some zs) : ∃ z, X11_asks_b75 n a v1 v2 v3 v4 v5 s0 h = some z ∧ (OF a 21 10 sh_R h0 zs z) := by
  unfold rX11_asks_b75 at he
  unfold X11_asks_b75
  refine s_b (ob_gR O.1 (k := 17) rfl (by decide)) ?_
  obtain ⟨hg46, he⟩ := jq_ite he
  obtain ⟨x45, hx45, he⟩ := jq_ln he
  refine s_b ((ob_ld O.1 (k := 17) rfl hg46).trans (congrArg some hx45.symm)) ?_
  refine s_b (ob_gR O.1 (k := 21) rfl (by decide)) ?_
  by_cases hc47 : x45 < 0
  · have he := jq_t hc47 he
    refine s_t hc47 ?_
    obtain ⟨z48, hz48, he⟩ := jq_b he
    have hOz48 := O.1.ci
    obtain ⟨⟨rz48, h⟩, e1, e2, O⟩ := N_X11_own O hz48
    dsimp only at e2 O
    subst e2
    refine s_b ((if_pos hOz48).trans e1) ?_
    exact NX11_asks_b115 (n := n) O he
  have he := jq_n hc47 he
  refine s_n hc47 ?_
  exact NX11_asks_b115 (n := n) O he
set_option maxRecDepth 100000 in
set_option maxHeartbeats 4000000 in
theorem NX11_asks_b47 {n a : Nat} {h0 : jq_H} {zs : ob_S} {v1 : Int32} {v2 : Int32} {v3 : Int32} {v4 : Int32} {s0 : Int32} {S : ob_S} {h : jq_H} (O : OF a 21 10 sh_R h0 S h) (he : rX11_asks_b47 n v1 v2 v3 v4 s0 S = some zs) : ∃ z, X11_asks_b47 n a v1 v2 v3 v4 s0 h = some z ∧ (OF a 21 10 sh_R h0 zs z) := by
  unfold rX11_asks_b47 at he
  unfold X11_asks_b47
  refine s_b (ob_gR O.1 (k := 13) rfl (by decide)) ?_
  obtain ⟨hg50, he⟩ := jq_ite he
  obtain ⟨x49, hx49, he⟩ := jq_ln he
  refine s_b ((ob_ld O.1 (k := 13) rfl hg50).trans (congrArg some hx49.symm)) ?_
  by_cases hc51 : x49 = 7
  · have he := jq_t hc51 he
    refine s_t hc51 ?_
    refine s_b (ob_gR O.1 (k := 21) rfl (by decide)) ?_
    refine s_b (ob_gR O.1 (k := 15) rfl (by decide)) ?_
    obtain ⟨hg53, he⟩ := jq_ite he
    obtain ⟨x52, hx52, he⟩ := jq_ln he
    refine s_b ((ob_ld O.1 (k := 15) rfl hg53).trans (congrArg some hx52.symm)) ?_
    obtain ⟨hg55, he⟩ := jq_ite he
    obtain ⟨x54, hx54, he⟩ := jq_ln he
    refine s_b ((ob_ld O.1 (k := 21) rfl hg55).trans (congrArg some hx54.symm)) ?_
    exact NX11_asks_b75 (n := n) O he
  have he := jq_n hc51 he
  refine s_n hc51 ?_
  exact NX11_asks_b75 (n := n) O he
set_option maxRecDepth 100000 in
set_option maxHeartbeats 4000000 in
theorem NX11_asks_b21 {n a : Nat} {h0 : jq_H} {zs : ob_S} {v1 : Int32} {v2 : Int32} {v3 : Int32} {v4 : Int32} {S : ob_S} {h : jq_H} (O : OF a 21 10 sh_R h0 S h) (he : rX11_asks_b21 n v1 v2 v3 v4 S = some zs) : ∃ z, X11_asks_b21 n a v1 v2 v3 v4 h = some z ∧ (OF a 21 10 sh_R h0 zs z) := by
  unfold rX11_asks_b21 at he
  unfold X11_asks_b21
  refine s_b (ob_gR O.1 (k := 13) rfl (by decide)) ?_
  obtain ⟨hg57, he⟩ := jq_ite he
  obtain ⟨x56, hx56, he⟩ := jq_ln he
  refine s_b ((ob_ld O.1 (k := 13) rfl hg57).trans (congrArg some hx56.symm)) ?_
  by_cases hc58 : x56 = 7
  · have he := jq_t hc58 he
    refine s_t hc58 ?_
    refine s_b (ob_gR O.1 (k := 21) rfl (by decide)) ?_
    refine s_b (ob_gR O.1 (k := 14) rfl (by decide)) ?_
    obtain ⟨hg60, he⟩ := jq_ite he
    obtain ⟨x59, hx59, he⟩ := jq_ln he
    refine s_b ((ob_ld O.1 (k := 14) rfl hg60).trans (congrArg some hx59.symm)) ?_
    obtain ⟨hg62, he⟩ := jq_ite he
    obtain ⟨x61, hx61, he⟩ := jq_ln he
    refine s_b ((ob_ld O.1 (k := 21) rfl hg62).trans (congrArg some hx61.symm)) ?_
    exact NX11_asks_b47 (n := n) O he
  have he := jq_n hc58 he
  refine s_n hc58 ?_
  exact NX11_asks_b47 (n := n) O he
set_option maxRecDepth 100000 in
set_option maxHeartbeats 4000000 in
theorem N_X11_asks {n a : Nat} {h0 : jq_H} {zs : ob_S} {p0 : Int32} {p1 : Int32} {p2 : Int32} {S : ob_S} {h : jq_H} (O : OF a 21 10 sh_R h0 S h) (he : rX11_asks n S p0 p1 p2 = some zs) : ∃ z, X11_asks n h a p0 p1 p2 = some z ∧ (OF a 21 10 sh_R h0 zs z) := by
  unfold rX11_asks at he
  unfold X11_asks
  obtain ⟨x63, hx63, he⟩ := jq_ln he
  refine s_l hx63 ?_
  obtain ⟨z64, hz64, he⟩ := jq_b he
  have hOz64 := O.1.ci
  obtain ⟨⟨rz64, h⟩, e1, e2, O⟩ := N_X11_clashes1 O hz64
  dsimp only at e2 O
  subst e2
  refine s_b ((if_pos hOz64).trans e1) ?_
  by_cases hc65 : z64.1 = 0
  · have he := jq_t hc65 he
    refine s_t hc65 ?_
    exact NX11_asks_b21 (n := n) O he
  have he := jq_n hc65 he
  refine s_n hc65 ?_
  obtain ⟨z66, hz66, he⟩ := jq_b he
  have hOz66 := O.1.ci
  obtain ⟨h, e1, O⟩ := N_X11_clash O hz66
  refine s_b ((if_pos hOz66).trans e1) ?_
  exact NX11_asks_b21 (n := n) O he
set_option maxRecDepth 100000 in
set_option maxHeartbeats 4000000 in
theorem NX11_missesOf_b35 {n a : Nat} {h0 : jq_H} {zs : Int32 × ob_S} {v2 : Int32} {S : ob_S} {h : jq_H} (O : OF a 21 10 sh_R h0 S h) (he : rX11_missesOf_b35 n v2 S = some zs) : ∃ z, X11_missesOf_b35 n v2 h = some z ∧ (z.1 = zs.1 ∧ OF a 21 10 sh_R h0 zs.2 z.2) := by
  unfold rX11_missesOf_b35 at he
  unfold X11_missesOf_b35
  cases he
  exact ⟨_, rfl, rfl, O⟩
set_option maxRecDepth 100000 in
set_option maxHeartbeats 4000000 in
theorem NX11_missesOf_b4 {n a : Nat} {h0 : jq_H} {zs : Int32 × ob_S} {KB : Int32 → Int32 → Int32 → ob_S → Option (Int32 × ob_S)} {KBh : Nat → Int32 → Int32 → Int32 → jq_H → Option (Int32 × jq_H)} {K35 : Int32 → ob_S → Option (Int32 × ob_S)} {K35h : Int32 → jq_H → Option (Int32 × jq_H)} (hKB : ∀ (u1 : Int32) (u2 : Int32) (u3 : Int32) (S : ob_S) (h : jq_H), OF a 21 10 sh_R h0 S h → KB u1 u2 u3 S = some zs → ∃ z, KBh a u1 u2 u3 h = some z ∧ (z.1 = zs.1 ∧ OF a 21 10 sh_R h0 zs.2 z.2)) (hK35 : ∀ (u2 : Int32) (S : ob_S) (h : jq_H), OF a 21 10 sh_R h0 S h → K35 u2 S = some zs → ∃ z, K35h u2 h = some z ∧ (z.1 = zs.1 ∧ OF a 21 10 sh_R h0 zs.2 z.2)) {v1 : Int32} {v2 : Int32} {v3 : Int32} {S : ob_S} {h : jq_H} (O : OF a 21 10 sh_R h0 S h) (he : rX11_missesOf_b4 n KB K35 v1 v2 v3 S = some zs) : ∃ z, X11_missesOf_b4 n KBh K35h a v1 v2 v3 h = some z ∧ (z.1 = zs.1 ∧ OF a 21 10 sh_R h0 zs.2 z.2) := by
  unfold rX11_missesOf_b4 at he
  unfold X11_missesOf_b4
  by_cases hc1 : 64 ≤ v3
  · have he := jq_t hc1 he
    refine s_t hc1 ?_
    exact hK35 _ _ _ O he
  have he := jq_n hc1 he
  refine s_n hc1 ?_
  refine s_b (ob_gR O.1 (k := 18) rfl (by decide)) ?_
  obtain ⟨hg3, he⟩ := jq_ite he
  obtain ⟨x2, hx2, he⟩ := jq_ln he
  refine s_b ((ob_ld O.1 (k := 18) rfl hg3).trans (congrArg some hx2.symm)) ?_
  obtain ⟨x4, hx4, he⟩ := jq_ln he
  refine s_l hx4 ?_
  obtain ⟨x5, hx5, he⟩ := jq_ln he
  refine s_l hx5 ?_
  exact hKB _ _ _ _ _ O he
set_option maxRecDepth 100000 in
set_option maxHeartbeats 4000000 in
theorem NX11_missesOf_l4 {n a : Nat} {h0 : jq_H} {zs : Int32 × ob_S} {K35 : Int32 → ob_S → Option (Int32 × ob_S)} {K35h : Int32 → jq_H → Option (Int32 × jq_H)} (hK35 : ∀ (u2 : Int32) (S : ob_S) (h : jq_H), OF a 21 10 sh_R h0 S h → K35 u2 S = some zs → ∃ z, K35h u2 h = some z ∧ (z.1 = zs.1 ∧ OF a 21 10 sh_R h0 zs.2 z.2)) :
    ∀ (k : Nat) (v1 : Int32) (v2 : Int32) (v3 : Int32) (S : ob_S) (h : jq_H), OF a 21 10 sh_R h0 S h → rX11_missesOf_l4 n K35 k v1 v2 v3 S = some zs → ∃ z, X11_missesOf_l4 n K35h k a v1 v2 v3 h = some z ∧ (z.1 = zs.1 ∧ OF a 21 10 sh_R h0 zs.2 z.2) := by
  intro k
  induction k with
  | zero => intro v1 v2 v3 S h O he; cases (show (none : Option (Int32 × ob_S)) = some zs from he)
  | succ k ih =>
    intro v1 v2 v3 S h O he
    exact NX11_missesOf_b4 (n := n) (KB := rX11_missesOf_l4 n K35 k) (KBh := X11_missesOf_l4 n K35h k) ih hK35 O he
set_option maxRecDepth 100000 in
set_option maxHeartbeats 4000000 in
theorem N_X11_missesOf {n a : Nat} {h0 : jq_H} {zs : Int32 × ob_S} {p0 : Int32} {S : ob_S} {h : jq_H} (O : OF a 21 10 sh_R h0 S h) (he : rX11_missesOf n S p0 = some zs) : ∃ z, X11_missesOf n h a p0 = some z ∧ (z.1 = zs.1 ∧ OF a 21 10 sh_R h0 zs.2 z.2) := by
  unfold rX11_missesOf at he
  unfold X11_missesOf
  exact NX11_missesOf_l4 (n := n) (fun w2 SS hh O he => by
    exact NX11_missesOf_b35 (n := n) O he) n _ _ _ _ _ O he
set_option maxRecDepth 100000 in
set_option maxHeartbeats 4000000 in
theorem NX11_again_b168 {n a : Nat} {h0 : jq_H} {zs : Int32 × ob_S} {v1 : Int32} {S : ob_S} {h : jq_H} (O : OF a 21 10 sh_R h0 S h) (he : rX11_again_b168 n v1 S = some zs) : ∃ z, X11_again_b168 n a v1 h = some z ∧ (z.1 = zs.1 ∧ OF a 21 10 sh_R h0 zs.2 z.2) := by
  unfold rX11_again_b168 at he
  unfold X11_again_b168
  obtain ⟨z1, hz1, he⟩ := jq_b he
  have hOz1 := O.1.ci
  obtain ⟨⟨rz1, h⟩, e1, e2, O⟩ := N_X11_missesOf O hz1
  dsimp only at e2 O
  subst e2
  refine s_b ((if_pos hOz1).trans e1) ?_
  cases he
  exact ⟨_, rfl, rfl, O⟩
set_option maxRecDepth 100000 in
set_option maxHeartbeats 4000000 in
theorem NX11_again_b162 {n a : Nat} {h0 : jq_H} {zs : Int32 × ob_S} {KB : Int32 → Int32 → Int32 → ob_S → Option (Int32 × ob_S)} {KBh : Nat → Int32 → Int32 → Int32 → jq_H → Option (Int32 × jq_H)} {K168 : Int32 → ob_S → Option (Int32 × ob_S)} {K168h : Nat → Int32 → jq_H → Option (Int32 × jq_H)} (hKB : ∀ (u1 : Int32) (u2 : Int32) (u3 : Int32) (S : ob_S) (h : jq_H), OF a 21 10 sh_R h0 S h → KB u1 u2 u3 S = some zs → ∃ z, KBh a u1 u2 u3 h = some z ∧ (z.1 = zs.1 ∧ OF a 21 10 sh_R h0 zs.2 z.2)) (hK168 : ∀ (u1 : Int32) (S : ob_S) (h : jq_H), OF a 21 10 sh_R h0 S h → K168 u1 S = some zs → ∃ z, K168h a u1 h = some z ∧ (z.1 = zs.1 ∧ OF a 21 10 sh_R h0 zs.2 z.2)) {v1 : Int32} {v2 : Int32} {v3 : Int32} {S : ob_S} {h : jq_H} (O : OF a 21 10 sh_R h0 S h) (he : rX11_again_b162 n KB K168 v1 v2 v3 S = some zs) : ∃ z, X11_again_b162 n KBh K168h a v1 v2 v3 h = some z ∧ (z.1 = zs.1 ∧ OF a 21 10 sh_R h0 zs.2 z.2) := by
  unfold rX11_again_b162 at he
  unfold X11_again_b162
  obtain ⟨x2, hx2, he⟩ := jq_ln he
  refine s_l hx2 ?_
  exact hKB _ _ _ _ _ O he
set_option maxRecDepth 100000 in
set_option maxHeartbeats 4000000 in
theorem NX11_again_b156 {n a : Nat} {h0 : jq_H} {zs : Int32 × ob_S} {KB : Int32 → Int32 → Int32 → Int32 → ob_S → Option (Int32 × ob_S)} {KBh : Nat → Int32 → Int32 → Int32 → Int32 → jq_H → Option (Int32 × jq_H)} {K162 : Int32 → Int32 → Int32 → ob_S → Option (Int32 × ob_S)} {K162h : Nat → Int32 → Int32 → Int32 → jq_H → Option (Int32 × jq_H)} (hKB : ∀ (u1 : Int32) (u2 : Int32) (u3 : Int32) (u4 : Int32) (S : ob_S) (h : jq_H), OF a 21 10 sh_R h0 S h → KB u1 u2 u3 u4 S = some zs → ∃ z, KBh a u1 u2 u3 u4 h = some z ∧ (z.1 = zs.1 ∧ OF a 21 10 sh_R h0 zs.2 z.2)) (hK162 : ∀ (u1 : Int32) (u2 : Int32) (u3 : Int32) (S : ob_S) (h : jq_H), OF a 21 10 sh_R h0 S h → K162 u1 u2 u3 S = some zs → ∃ z, K162h a u1 u2 u3 h = some z ∧ (z.1 = zs.1 ∧ OF a 21 10 sh_R h0 zs.2 z.2)) {v1 : Int32} {v2 : Int32} {v3 : Int32} {v4 : Int32} {S : ob_S} {h : jq_H} (O : OF a 21 10 sh_R h0 S h) (he : rX11_again_b156 n KB K162 v1 v2 v3 v4 S = some zs) : ∃ z, X11_again_b156 n KBh K162h a v1 v2 v3 v4 h = some z ∧ (z.1 = zs.1 ∧ OF a 21 10 sh_R h0 zs.2 z.2) := by
  unfold rX11_again_b156 at he
  unfold X11_again_b156
  obtain ⟨x3, hx3, he⟩ := jq_ln he
  refine s_l hx3 ?_
  exact hKB _ _ _ _ _ _ O he
set_option maxRecDepth 100000 in
set_option maxHeartbeats 4000000 in
theorem NX11_again_b122 {n a : Nat} {h0 : jq_H} {zs : Int32 × ob_S} {KB : Int32 → Int32 → Int32 → Int32 → ob_S → Option (Int32 × ob_S)} {KBh : Nat → Int32 → Int32 → Int32 → Int32 → jq_H → Option (Int32 × jq_H)} {K162 : Int32 → Int32 → Int32 → ob_S → Option (Int32 × ob_S)} {K162h : Nat → Int32 → Int32 → Int32 → jq_H → Option (Int32 × jq_H)} (hKB : ∀ (u1 : Int32) (u2 : Int32) (u3 : Int32) (u4 : Int32) (S : ob_S) (h : jq_H), OF a 21 10 sh_R h0 S h → KB u1 u2 u3 u4 S = some zs → ∃ z, KBh a u1 u2 u3 u4 h = some z ∧ (z.1 = zs.1 ∧ OF a 21 10 sh_R h0 zs.2 z.2)) (hK162 : ∀ (u1 : Int32) (u2 : Int32) (u3 : Int32) (S : ob_S) (h : jq_H), OF a 21 10 sh_R h0 S h → K162 u1 u2 u3 S = some zs → ∃ z, K162h a u1 u2 u3 h = some z ∧ (z.1 = zs.1 ∧ OF a 21 10 sh_R h0 zs.2 z.2)) {v1 : Int32} {v2 : Int32} {v3 : Int32} {v4 : Int32} {S : ob_S} {h : jq_H} (O : OF a 21 10 sh_R h0 S h) (he : rX11_again_b122 n KB K162 v1 v2 v3 v4 S = some zs) : ∃ z, X11_again_b122 n KBh K162h a v1 v2 v3 v4 h = some z ∧ (z.1 = zs.1 ∧ OF a 21 10 sh_R h0 zs.2 z.2) := by
  unfold rX11_again_b122 at he
  unfold X11_again_b122
  by_cases hc4 : v1 < v4
  · have he := jq_t hc4 he
    refine s_t hc4 ?_
    exact hK162 _ _ _ _ _ O he
  have he := jq_n hc4 he
  refine s_n hc4 ?_
  by_cases hc5 : ((v2 >>> (v4 &&& 31)) &&& 1) = 1
  · have he := jq_t hc5 he
    refine s_t hc5 ?_
    refine s_b (ob_gR O.1 (k := 10) rfl (by decide)) ?_
    obtain ⟨hg7, he⟩ := jq_ite he
    obtain ⟨x6, hx6, he⟩ := jq_ln he
    refine s_b ((ob_ld O.1 (k := 10) rfl hg7).trans (congrArg some hx6.symm)) ?_
    refine s_b (ob_gR O.1 (k := 11) rfl (by decide)) ?_
    obtain ⟨hg9, he⟩ := jq_ite he
    obtain ⟨x8, hx8, he⟩ := jq_ln he
    refine s_b ((ob_ld O.1 (k := 11) rfl hg9).trans (congrArg some hx8.symm)) ?_
    obtain ⟨z10, hz10, he⟩ := jq_b he
    have hOz10 := O.1.ci
    obtain ⟨h, e1, O⟩ := N_X11_asks O hz10
    refine s_b ((if_pos hOz10).trans e1) ?_
    exact NX11_again_b156 (n := n) hKB hK162 O he
  have he := jq_n hc5 he
  refine s_n hc5 ?_
  exact NX11_again_b156 (n := n) hKB hK162 O he
set_option maxRecDepth 100000 in
set_option maxHeartbeats 4000000 in
theorem NX11_again_l122 {n a : Nat} {h0 : jq_H} {zs : Int32 × ob_S} {K162 : Int32 → Int32 → Int32 → ob_S → Option (Int32 × ob_S)} {K162h : Nat → Int32 → Int32 → Int32 → jq_H → Option (Int32 × jq_H)} (hK162 : ∀ (u1 : Int32) (u2 : Int32) (u3 : Int32) (S : ob_S) (h : jq_H), OF a 21 10 sh_R h0 S h → K162 u1 u2 u3 S = some zs → ∃ z, K162h a u1 u2 u3 h = some z ∧ (z.1 = zs.1 ∧ OF a 21 10 sh_R h0 zs.2 z.2)) :
    ∀ (k : Nat) (v1 : Int32) (v2 : Int32) (v3 : Int32) (v4 : Int32) (S : ob_S) (h : jq_H), OF a 21 10 sh_R h0 S h → rX11_again_l122 n K162 k v1 v2 v3 v4 S = some zs → ∃ z, X11_again_l122 n K162h k a v1 v2 v3 v4 h = some z ∧ (z.1 = zs.1 ∧ OF a 21 10 sh_R h0 zs.2 z.2) := by
  intro k
  induction k with
  | zero => intro v1 v2 v3 v4 S h O he; cases (show (none : Option (Int32 × ob_S)) = some zs from he)
  | succ k ih =>
    intro v1 v2 v3 v4 S h O he
    exact NX11_again_b122 (n := n) (KB := rX11_again_l122 n K162 k) (KBh := X11_again_l122 n K162h k) ih hK162 O he
set_option maxRecDepth 100000 in
set_option maxHeartbeats 4000000 in
theorem NX11_again_b111 {n a : Nat} {h0 : jq_H} {zs : Int32 × ob_S} {KB : Int32 → Int32 → Int32 → ob_S → Option (Int32 × ob_S)} {KBh : Nat → Int32 → Int32 → Int32 → jq_H → Option (Int32 × jq_H)} {K168 : Int32 → ob_S → Option (Int32 × ob_S)} {K168h : Nat → Int32 → jq_H → Option (Int32 × jq_H)} (hKB : ∀ (u1 : Int32) (u2 : Int32) (u3 : Int32) (S : ob_S) (h : jq_H), OF a 21 10 sh_R h0 S h → KB u1 u2 u3 S = some zs → ∃ z, KBh a u1 u2 u3 h = some z ∧ (z.1 = zs.1 ∧ OF a 21 10 sh_R h0 zs.2 z.2)) (hK168 : ∀ (u1 : Int32) (S : ob_S) (h : jq_H), OF a 21 10 sh_R h0 S h → K168 u1 S = some zs → ∃ z, K168h a u1 h = some z ∧ (z.1 = zs.1 ∧ OF a 21 10 sh_R h0 zs.2 z.2)) {v1 : Int32} {v2 : Int32} {v3 : Int32} {S : ob_S} {h : jq_H} (O : OF a 21 10 sh_R h0 S h) (he : rX11_again_b111 n KB K168 v1 v2 v3 S = some zs) : ∃ z, X11_again_b111 n KBh K168h a v1 v2 v3 h = some z ∧ (z.1 = zs.1 ∧ OF a 21 10 sh_R h0 zs.2 z.2) := by
  unfold rX11_again_b111 at he
  unfold X11_again_b111
  obtain ⟨x11, hx11, he⟩ := jq_ln he
  refine s_b ((ob_gI O.1 (k := 9) rfl (by decide)).trans (congrArg some hx11.symm)) ?_
  by_cases hc12 : x11 ≤ v3
  · have he := jq_t hc12 he
    refine s_t hc12 ?_
    exact hK168 _ _ _ O he
  have he := jq_n hc12 he
  refine s_n hc12 ?_
  exact NX11_again_l122 (n := n) (fun w1 w2 w3 SS hh O he => by
    exact NX11_again_b162 (n := n) hKB hK168 O he) n _ _ _ _ _ _ O he
set_option maxRecDepth 100000 in
set_option maxHeartbeats 4000000 in
theorem NX11_again_l111 {n a : Nat} {h0 : jq_H} {zs : Int32 × ob_S} {K168 : Int32 → ob_S → Option (Int32 × ob_S)} {K168h : Nat → Int32 → jq_H → Option (Int32 × jq_H)} (hK168 : ∀ (u1 : Int32) (S : ob_S) (h : jq_H), OF a 21 10 sh_R h0 S h → K168 u1 S = some zs → ∃ z, K168h a u1 h = some z ∧ (z.1 = zs.1 ∧ OF a 21 10 sh_R h0 zs.2 z.2)) :
    ∀ (k : Nat) (v1 : Int32) (v2 : Int32) (v3 : Int32) (S : ob_S) (h : jq_H), OF a 21 10 sh_R h0 S h → rX11_again_l111 n K168 k v1 v2 v3 S = some zs → ∃ z, X11_again_l111 n K168h k a v1 v2 v3 h = some z ∧ (z.1 = zs.1 ∧ OF a 21 10 sh_R h0 zs.2 z.2) := by
  intro k
  induction k with
  | zero => intro v1 v2 v3 S h O he; cases (show (none : Option (Int32 × ob_S)) = some zs from he)
  | succ k ih =>
    intro v1 v2 v3 S h O he
    exact NX11_again_b111 (n := n) (KB := rX11_again_l111 n K168 k) (KBh := X11_again_l111 n K168h k) ih hK168 O he
set_option maxRecDepth 100000 in
set_option maxHeartbeats 4000000 in
theorem NX11_again_b109 {n a : Nat} {h0 : jq_H} {zs : Int32 × ob_S} {v1 : Int32} {v2 : Int32} {S : ob_S} {h : jq_H} (O : OF a 21 10 sh_R h0 S h) (he : rX11_again_b109 n v1 v2 S = some zs) : ∃ z, X11_again_b109 n a v1 v2 h = some z ∧ (z.1 = zs.1 ∧ OF a 21 10 sh_R h0 zs.2 z.2) := by
  unfold rX11_again_b109 at he
  unfold X11_again_b109
  exact NX11_again_l111 (n := n) (fun w1 SS hh O he => by
    exact NX11_again_b168 (n := n) O he) n _ _ _ _ _ O he
set_option maxRecDepth 100000 in
set_option maxHeartbeats 4000000 in
theorem NX11_again_b103 {n a : Nat} {h0 : jq_H} {zs : Int32 × ob_S} {KB : Int32 → Int32 → Int32 → ob_S → Option (Int32 × ob_S)} {KBh : Nat → Int32 → Int32 → Int32 → jq_H → Option (Int32 × jq_H)} {K109 : Int32 → Int32 → ob_S → Option (Int32 × ob_S)} {K109h : Nat → Int32 → Int32 → jq_H → Option (Int32 × jq_H)} (hKB : ∀ (u1 : Int32) (u2 : Int32) (u3 : Int32) (S : ob_S) (h : jq_H), OF a 21 10 sh_R h0 S h → KB u1 u2 u3 S = some zs → ∃ z, KBh a u1 u2 u3 h = some z ∧ (z.1 = zs.1 ∧ OF a 21 10 sh_R h0 zs.2 z.2)) (hK109 : ∀ (u1 : Int32) (u2 : Int32) (S : ob_S) (h : jq_H), OF a 21 10 sh_R h0 S h → K109 u1 u2 S = some zs → ∃ z, K109h a u1 u2 h = some z ∧ (z.1 = zs.1 ∧ OF a 21 10 sh_R h0 zs.2 z.2)) {v1 : Int32} {v2 : Int32} {v3 : Int32} {S : ob_S} {h : jq_H} (O : OF a 21 10 sh_R h0 S h) (he : rX11_again_b103 n KB K109 v1 v2 v3 S = some zs) : ∃ z, X11_again_b103 n KBh K109h a v1 v2 v3 h = some z ∧ (z.1 = zs.1 ∧ OF a 21 10 sh_R h0 zs.2 z.2) := by
  unfold rX11_again_b103 at he
  unfold X11_again_b103
  obtain ⟨x13, hx13, he⟩ := jq_ln he
  refine s_l hx13 ?_
  exact hKB _ _ _ _ _ O he
set_option maxRecDepth 100000 in
set_option maxHeartbeats 4000000 in
theorem NX11_again_b84 {n a : Nat} {h0 : jq_H} {zs : Int32 × ob_S} {KB : Int32 → Int32 → Int32 → ob_S → Option (Int32 × ob_S)} {KBh : Nat → Int32 → Int32 → Int32 → jq_H → Option (Int32 × jq_H)} {K109 : Int32 → Int32 → ob_S → Option (Int32 × ob_S)} {K109h : Nat → Int32 → Int32 → jq_H → Option (Int32 × jq_H)} (hKB : ∀ (u1 : Int32) (u2 : Int32) (u3 : Int32) (S : ob_S) (h : jq_H), OF a 21 10 sh_R h0 S h → KB u1 u2 u3 S = some zs → ∃ z, KBh a u1 u2 u3 h = some z ∧ (z.1 = zs.1 ∧ OF a 21 10 sh_R h0 zs.2 z.2)) (hK109 : ∀ (u1 : Int32) (u2 : Int32) (S : ob_S) (h : jq_H), OF a 21 10 sh_R h0 S h → K109 u1 u2 S = some zs → ∃ z, K109h a u1 u2 h = some z ∧ (z.1 = zs.1 ∧ OF a 21 10 sh_R h0 zs.2 z.2)) {v1 : Int32} {v2 : Int32} {v3 : Int32} {S : ob_S} {h : jq_H} (O : OF a 21 10 sh_R h0 S h) (he : rX11_again_b84 n KB K109 v1 v2 v3 S = some zs) : ∃ z, X11_again_b84 n KBh K109h a v1 v2 v3 h = some z ∧ (z.1 = zs.1 ∧ OF a 21 10 sh_R h0 zs.2 z.2) := by
  unfold rX11_again_b84 at he
  unfold X11_again_b84
  by_cases hc14 : v1 < v3
  · have he := jq_t hc14 he
    refine s_t hc14 ?_
    exact hK109 _ _ _ _ O he
  have he := jq_n hc14 he
  refine s_n hc14 ?_
  by_cases hc15 : ((v2 >>> (v3 &&& 31)) &&& 1) = 1
  · have he := jq_t hc15 he
    refine s_t hc15 ?_
    obtain ⟨z16, hz16, he⟩ := jq_b he
    have hOz16 := O.1.ci
    obtain ⟨h, e1, O⟩ := N_X11_begin O hz16
    refine s_b ((if_pos hOz16).trans e1) ?_
    exact NX11_again_b103 (n := n) hKB hK109 O he
  have he := jq_n hc15 he
  refine s_n hc15 ?_
  exact NX11_again_b103 (n := n) hKB hK109 O he
set_option maxRecDepth 100000 in
set_option maxHeartbeats 4000000 in
theorem NX11_again_l84 {n a : Nat} {h0 : jq_H} {zs : Int32 × ob_S} {K109 : Int32 → Int32 → ob_S → Option (Int32 × ob_S)} {K109h : Nat → Int32 → Int32 → jq_H → Option (Int32 × jq_H)} (hK109 : ∀ (u1 : Int32) (u2 : Int32) (S : ob_S) (h : jq_H), OF a 21 10 sh_R h0 S h → K109 u1 u2 S = some zs → ∃ z, K109h a u1 u2 h = some z ∧ (z.1 = zs.1 ∧ OF a 21 10 sh_R h0 zs.2 z.2)) :
    ∀ (k : Nat) (v1 : Int32) (v2 : Int32) (v3 : Int32) (S : ob_S) (h : jq_H), OF a 21 10 sh_R h0 S h → rX11_again_l84 n K109 k v1 v2 v3 S = some zs → ∃ z, X11_again_l84 n K109h k a v1 v2 v3 h = some z ∧ (z.1 = zs.1 ∧ OF a 21 10 sh_R h0 zs.2 z.2) := by
  intro k
  induction k with
  | zero => intro v1 v2 v3 S h O he; cases (show (none : Option (Int32 × ob_S)) = some zs from he)
  | succ k ih =>
    intro v1 v2 v3 S h O he
    exact NX11_again_b84 (n := n) (KB := rX11_again_l84 n K109 k) (KBh := X11_again_l84 n K109h k) ih hK109 O he
set_option maxRecDepth 100000 in
set_option maxHeartbeats 4000000 in
theorem NX11_again_b82 {n a : Nat} {h0 : jq_H} {zs : Int32 × ob_S} {v1 : Int32} {v2 : Int32} {S : ob_S} {h : jq_H} (O : OF a 21 10 sh_R h0 S h) (he : rX11_again_b82 n v1 v2 S = some zs) : ∃ z, X11_again_b82 n a v1 v2 h = some z ∧ (z.1 = zs.1 ∧ OF a 21 10 sh_R h0 zs.2 z.2) := by
  unfold rX11_again_b82 at he
  unfold X11_again_b82
  exact NX11_again_l84 (n := n) (fun w1 w2 SS hh O he => by
    exact NX11_again_b109 (n := n) O he) n _ _ _ _ _ O he
set_option maxRecDepth 100000 in
set_option maxHeartbeats 4000000 in
theorem NX11_again_b74 {n a : Nat} {h0 : jq_H} {zs : Int32 × ob_S} {KB : Int32 → Int32 → Int32 → ob_S → Option (Int32 × ob_S)} {KBh : Nat → Int32 → Int32 → Int32 → jq_H → Option (Int32 × jq_H)} {K82 : Int32 → Int32 → ob_S → Option (Int32 × ob_S)} {K82h : Nat → Int32 → Int32 → jq_H → Option (Int32 × jq_H)} (hKB : ∀ (u1 : Int32) (u2 : Int32) (u3 : Int32) (S : ob_S) (h : jq_H), OF a 21 10 sh_R h0 S h → KB u1 u2 u3 S = some zs → ∃ z, KBh a u1 u2 u3 h = some z ∧ (z.1 = zs.1 ∧ OF a 21 10 sh_R h0 zs.2 z.2)) (hK82 : ∀ (u1 : Int32) (u2 : Int32) (S : ob_S) (h : jq_H), OF a 21 10 sh_R h0 S h → K82 u1 u2 S = some zs → ∃ z, K82h a u1 u2 h = some z ∧ (z.1 = zs.1 ∧ OF a 21 10 sh_R h0 zs.2 z.2)) {v1 : Int32} {v3 : Int32} {s0 : Int32} {s1 : Int32} {S : ob_S} {h : jq_H} (O : OF a 21 10 sh_R h0 S h) (he : rX11_again_b74 n KB K82 v1 v3 s0 s1 S = some zs) : ∃ z, X11_again_b74 n KBh K82h a v1 v3 s0 s1 h = some z ∧ (z.1 = zs.1 ∧ OF a 21 10 sh_R h0 zs.2 z.2) := by
  unfold rX11_again_b74 at he
  unfold X11_again_b74
  obtain ⟨x17, hx17, he⟩ := jq_ln he
  refine s_l hx17 ?_
  obtain ⟨x18, hx18, he⟩ := jq_ln he
  refine s_l hx18 ?_
  exact hKB _ _ _ _ _ O he
