set_option maxRecDepth 100000 in
set_option maxHeartbeats 4000000 in
theorem NX11_again_b45 {n a : Nat} {h0 : jq_H} {zs : Int32 × ob_S} {KB : Int32 → Int32 → Int32 → ob_S → Option (Int32 × ob_S)} {KBh : Nat → Int32 → Int32 → Int32 → jq_H → Option (Int32 × jq_H)} {K82 : Int32 → Int32 → ob_S → Option (Int32 × ob_S)} {K82h : Nat → Int32 → Int32 → jq_H → Option (Int32 × jq_H)} (hKB : ∀ (u1 : Int32) (u2 : Int32) (u3 : Int32) (S : ob_S) (h : jq_H), OF a 21 10 sh_R h0 S h → KB u1 u2 u3 S = some zs → ∃ z, KBh a u1 u2 u3 h = some z ∧ (z.1 = zs.1 ∧ OF a 21 10 sh_R h0 zs.2 z.2)) (hK82 : ∀ (u1 : Int32) (u2 : Int32) (S : ob_S) (h : jq_H), OF a 21 10 sh_R h0 S h → K82 u1 u2 S = some zs → ∃ z, K82h a u1 u2 h = some z ∧ (z.1 = zs.1 ∧ OF a 21 10 sh_R h0 zs.2 z.2)) {v1 : Int32} {v2 : Int32} {v3 : Int32} {s0 : Int32} {S : ob_S} {h : jq_H} (O : OF a 21 10 sh_R h0 S h) (he : rX11_again_b45 n KB K82 v1 v2 v3 s0 S = some zs) : ∃ z, X11_again_b45 n KBh K82h a v1 v2 v3 s0 h = some z ∧ (z.1 = zs.1 ∧ OF a 21 10 sh_R h0 zs.2 z.2) := by
  unfold rX11_again_b45 at he
  unfold X11_again_b45
  by_cases hc19 : s0 = 0
  · have he := jq_t hc19 he
    refine s_t hc19 ?_
    exact NX11_again_b74 (n := n) hKB hK82 O he
  have he := jq_n hc19 he
  refine s_n hc19 ?_
  refine s_b (ob_gR O.1 (k := 14) rfl (by decide)) ?_
  obtain ⟨hg21, he⟩ := jq_ite he
  obtain ⟨x20, hx20, he⟩ := jq_ln he
  refine s_b ((ob_ld O.1 (k := 14) rfl hg21).trans (congrArg some hx20.symm)) ?_
  refine s_b (ob_gR O.1 (k := 15) rfl (by decide)) ?_
  obtain ⟨hg23, he⟩ := jq_ite he
  obtain ⟨x22, hx22, he⟩ := jq_ln he
  refine s_b ((ob_ld O.1 (k := 15) rfl hg23).trans (congrArg some hx22.symm)) ?_
  exact NX11_again_b74 (n := n) hKB hK82 O he
set_option maxRecDepth 100000 in
set_option maxHeartbeats 4000000 in
theorem NX11_again_b44 {n a : Nat} {h0 : jq_H} {zs : Int32 × ob_S} {KB : Int32 → Int32 → Int32 → ob_S → Option (Int32 × ob_S)} {KBh : Nat → Int32 → Int32 → Int32 → jq_H → Option (Int32 × jq_H)} {K82 : Int32 → Int32 → ob_S → Option (Int32 × ob_S)} {K82h : Nat → Int32 → Int32 → jq_H → Option (Int32 × jq_H)} (hKB : ∀ (u1 : Int32) (u2 : Int32) (u3 : Int32) (S : ob_S) (h : jq_H), OF a 21 10 sh_R h0 S h → KB u1 u2 u3 S = some zs → ∃ z, KBh a u1 u2 u3 h = some z ∧ (z.1 = zs.1 ∧ OF a 21 10 sh_R h0 zs.2 z.2)) (hK82 : ∀ (u1 : Int32) (u2 : Int32) (S : ob_S) (h : jq_H), OF a 21 10 sh_R h0 S h → K82 u1 u2 S = some zs → ∃ z, K82h a u1 u2 h = some z ∧ (z.1 = zs.1 ∧ OF a 21 10 sh_R h0 zs.2 z.2)) {v1 : Int32} {v2 : Int32} {v3 : Int32} {S : ob_S} {h : jq_H} (O : OF a 21 10 sh_R h0 S h) (he : rX11_again_b44 n KB K82 v1 v2 v3 S = some zs) : ∃ z, X11_again_b44 n KBh K82h a v1 v2 v3 h = some z ∧ (z.1 = zs.1 ∧ OF a 21 10 sh_R h0 zs.2 z.2) := by
  unfold rX11_again_b44 at he
  unfold X11_again_b44
  exact NX11_again_b45 (n := n) hKB hK82 O he
set_option maxRecDepth 100000 in
set_option maxHeartbeats 4000000 in
theorem NX11_again_b16 {n a : Nat} {h0 : jq_H} {zs : Int32 × ob_S} {KB : Int32 → Int32 → Int32 → ob_S → Option (Int32 × ob_S)} {KBh : Nat → Int32 → Int32 → Int32 → jq_H → Option (Int32 × jq_H)} {K82 : Int32 → Int32 → ob_S → Option (Int32 × ob_S)} {K82h : Nat → Int32 → Int32 → jq_H → Option (Int32 × jq_H)} (hKB : ∀ (u1 : Int32) (u2 : Int32) (u3 : Int32) (S : ob_S) (h : jq_H), OF a 21 10 sh_R h0 S h → KB u1 u2 u3 S = some zs → ∃ z, KBh a u1 u2 u3 h = some z ∧ (z.1 = zs.1 ∧ OF a 21 10 sh_R h0 zs.2 z.2)) (hK82 : ∀ (u1 : Int32) (u2 : Int32) (S : ob_S) (h : jq_H), OF a 21 10 sh_R h0 S h → K82 u1 u2 S = some zs → ∃ z, K82h a u1 u2 h = some z ∧ (z.1 = zs.1 ∧ OF a 21 10 sh_R h0 zs.2 z.2)) {v1 : Int32} {v2 : Int32} {v3 : Int32} {S : ob_S} {h : jq_H} (O : OF a 21 10 sh_R h0 S h) (he : rX11_again_b16 n KB K82 v1 v2 v3 S = some zs) : ∃ z, X11_again_b16 n KBh K82h a v1 v2 v3 h = some z ∧ (z.1 = zs.1 ∧ OF a 21 10 sh_R h0 zs.2 z.2) := by
  unfold rX11_again_b16 at he
  unfold X11_again_b16
  by_cases hc24 : v3 < 0
  · have he := jq_t hc24 he
    refine s_t hc24 ?_
    exact hK82 _ _ _ _ O he
  have he := jq_n hc24 he
  refine s_n hc24 ?_
  by_cases hc25 : ((v2 >>> (v3 &&& 31)) &&& 1) = 1
  · have he := jq_t hc25 he
    refine s_t hc25 ?_
    refine s_b (ob_gR O.1 (k := 13) rfl (by decide)) ?_
    obtain ⟨hg27, he⟩ := jq_ite he
    obtain ⟨x26, hx26, he⟩ := jq_ln he
    refine s_b ((ob_ld O.1 (k := 13) rfl hg27).trans (congrArg some hx26.symm)) ?_
    by_cases hc28 : x26 = 7
    · have he := jq_t hc28 he
      refine s_t hc28 ?_
      exact NX11_again_b45 (n := n) hKB hK82 O he
    have he := jq_n hc28 he
    refine s_n hc28 ?_
    exact NX11_again_b44 (n := n) hKB hK82 O he
  have he := jq_n hc25 he
  refine s_n hc25 ?_
  exact NX11_again_b44 (n := n) hKB hK82 O he
set_option maxRecDepth 100000 in
set_option maxHeartbeats 4000000 in
theorem NX11_again_l16 {n a : Nat} {h0 : jq_H} {zs : Int32 × ob_S} {K82 : Int32 → Int32 → ob_S → Option (Int32 × ob_S)} {K82h : Nat → Int32 → Int32 → jq_H → Option (Int32 × jq_H)} (hK82 : ∀ (u1 : Int32) (u2 : Int32) (S : ob_S) (h : jq_H), OF a 21 10 sh_R h0 S h → K82 u1 u2 S = some zs → ∃ z, K82h a u1 u2 h = some z ∧ (z.1 = zs.1 ∧ OF a 21 10 sh_R h0 zs.2 z.2)) :
    ∀ (k : Nat) (v1 : Int32) (v2 : Int32) (v3 : Int32) (S : ob_S) (h : jq_H), OF a 21 10 sh_R h0 S h → rX11_again_l16 n K82 k v1 v2 v3 S = some zs → ∃ z, X11_again_l16 n K82h k a v1 v2 v3 h = some z ∧ (z.1 = zs.1 ∧ OF a 21 10 sh_R h0 zs.2 z.2) := by
  intro k
  induction k with
  | zero => intro v1 v2 v3 S h O he; cases (show (none : Option (Int32 × ob_S)) = some zs from he)
  | succ k ih =>
    intro v1 v2 v3 S h O he
    exact NX11_again_b16 (n := n) (KB := rX11_again_l16 n K82 k) (KBh := X11_again_l16 n K82h k) ih hK82 O he
set_option maxRecDepth 100000 in
set_option maxHeartbeats 4000000 in
theorem N_X11_again {n a : Nat} {h0 : jq_H} {zs : Int32 × ob_S} {p0 : Int32} {S : ob_S} {h : jq_H} (O : OF a 21 10 sh_R h0 S h) (he : rX11_again n S p0 = some zs) : ∃ z, X11_again n h a p0 = some z ∧ (z.1 = zs.1 ∧ OF a 21 10 sh_R h0 zs.2 z.2) := by
  unfold rX11_again at he
  unfold X11_again
  obtain ⟨z29, hz29, he⟩ := jq_b he
  have hOz29 := O.1.ci
  obtain ⟨⟨rz29, h⟩, e1, e2, O⟩ := N_X11_isGuesser O hz29
  dsimp only at e2 O
  subst e2
  refine s_b ((if_pos hOz29).trans e1) ?_
  by_cases hc30 : z29.1 = 0
  · have he := jq_t hc30 he
    refine s_t hc30 ?_
    cases he
    exact ⟨_, rfl, rfl, O⟩
  have he := jq_n hc30 he
  refine s_n hc30 ?_
  obtain ⟨x31, hx31, he⟩ := jq_ln he
  refine s_l hx31 ?_
  exact NX11_again_l16 (n := n) (fun w1 w2 SS hh O he => by
    exact NX11_again_b82 (n := n) O he) n _ _ _ _ _ O he
set_option maxRecDepth 100000 in
set_option maxHeartbeats 4000000 in
theorem NX11_asked_b26 {n a : Nat} {h0 : jq_H} {zs : Int32 × ob_S} {s0 : Int32} {S : ob_S} {h : jq_H} (O : OF a 21 10 sh_R h0 S h) (he : rX11_asked_b26 n s0 S = some zs) : ∃ z, X11_asked_b26 n s0 h = some z ∧ (z.1 = zs.1 ∧ OF a 21 10 sh_R h0 zs.2 z.2) := by
  unfold rX11_asked_b26 at he
  unfold X11_asked_b26
  cases he
  exact ⟨_, rfl, rfl, O⟩
set_option maxRecDepth 100000 in
set_option maxHeartbeats 4000000 in
theorem N_X11_asked {n a : Nat} {h0 : jq_H} {zs : Int32 × ob_S} {p0 : Int32} {S : ob_S} {h : jq_H} (O : OF a 21 10 sh_R h0 S h) (he : rX11_asked n S p0 = some zs) : ∃ z, X11_asked n h a p0 = some z ∧ (z.1 = zs.1 ∧ OF a 21 10 sh_R h0 zs.2 z.2) := by
  unfold rX11_asked at he
  unfold X11_asked
  obtain ⟨z1, hz1, he⟩ := jq_b he
  have hOz1 := O.1.ci
  obtain ⟨⟨rz1, h⟩, e1, e2, O⟩ := N_X11_isGuesser O hz1
  dsimp only at e2 O
  subst e2
  refine s_b ((if_pos hOz1).trans e1) ?_
  by_cases hc2 : z1.1 = 0
  · have he := jq_t hc2 he
    refine s_t hc2 ?_
    exact NX11_asked_b26 (n := n) O he
  have he := jq_n hc2 he
  refine s_n hc2 ?_
  refine s_b (ob_gR O.1 (k := 18) rfl (by decide)) ?_
  obtain ⟨hg4, he⟩ := jq_ite he
  obtain ⟨x3, hx3, he⟩ := jq_ln he
  refine s_b ((ob_ld O.1 (k := 18) rfl hg4).trans (congrArg some hx3.symm)) ?_
  exact NX11_asked_b26 (n := n) O he
set_option maxRecDepth 100000 in
set_option maxHeartbeats 4000000 in
theorem NX11_at_b45 {n a : Nat} {h0 : jq_H} {zs : Int32 × ob_S} {s0 : Int32} {S : ob_S} {h : jq_H} (O : OF a 21 10 sh_R h0 S h) (he : rX11_at_b45 n s0 S = some zs) : ∃ z, X11_at_b45 n s0 h = some z ∧ (z.1 = zs.1 ∧ OF a 21 10 sh_R h0 zs.2 z.2) := by
  unfold rX11_at_b45 at he
  unfold X11_at_b45
  cases he
  exact ⟨_, rfl, rfl, O⟩
set_option maxRecDepth 100000 in
set_option maxHeartbeats 4000000 in
theorem N_X11_at {n a : Nat} {h0 : jq_H} {zs : Int32 × ob_S} {p0 : Int32} {p1 : Int32} {S : ob_S} {h : jq_H} (O : OF a 21 10 sh_R h0 S h) (he : rX11_at n S p0 p1 = some zs) : ∃ z, X11_at n h a p0 p1 = some z ∧ (z.1 = zs.1 ∧ OF a 21 10 sh_R h0 zs.2 z.2) := by
  unfold rX11_at at he
  unfold X11_at
  obtain ⟨x1, hx1, he⟩ := jq_ln he
  refine s_b ((ob_gI O.1 (k := 9) rfl (by decide)).trans (congrArg some hx1.symm)) ?_
  obtain ⟨x2, hx2, he⟩ := jq_ln he
  refine s_b (p_in _ _ _ _ _) ?_
  rw [← hx2]
  by_cases hc3 : x2 = 0
  · have he := jq_t hc3 he
    refine s_t hc3 ?_
    cases he
    exact ⟨_, rfl, rfl, O⟩
  have he := jq_n hc3 he
  refine s_n hc3 ?_
  by_cases hc4 : p1 = 0
  · have he := jq_t hc4 he
    refine s_t hc4 ?_
    refine s_b (ob_gR O.1 (k := 10) rfl (by decide)) ?_
    obtain ⟨hg9, he⟩ := jq_ite he
    obtain ⟨x8, hx8, he⟩ := jq_ln he
    refine s_b ((ob_ld O.1 (k := 10) rfl hg9).trans (congrArg some hx8.symm)) ?_
    exact NX11_at_b45 (n := n) O he
  have he := jq_n hc4 he
  refine s_n hc4 ?_
  by_cases hc5 : p1 = 1
  · have he := jq_t hc5 he
    refine s_t hc5 ?_
    refine s_b (ob_gR O.1 (k := 11) rfl (by decide)) ?_
    obtain ⟨hg7, he⟩ := jq_ite he
    obtain ⟨x6, hx6, he⟩ := jq_ln he
    refine s_b ((ob_ld O.1 (k := 11) rfl hg7).trans (congrArg some hx6.symm)) ?_
    exact NX11_at_b45 (n := n) O he
  have he := jq_n hc5 he
  refine s_n hc5 ?_
  exact NX11_at_b45 (n := n) O he
set_option maxRecDepth 100000 in
set_option maxHeartbeats 4000000 in
theorem NX11_back_b75 {n a : Nat} {h0 : jq_H} {zs : Int32 × ob_S} {v1 : Int32} {S : ob_S} {h : jq_H} (O : OF a 21 10 sh_R h0 S h) (he : rX11_back_b75 n v1 S = some zs) : ∃ z, X11_back_b75 n a v1 h = some z ∧ (z.1 = zs.1 ∧ OF a 21 10 sh_R h0 zs.2 z.2) := by
  unfold rX11_back_b75 at he
  unfold X11_back_b75
  refine s_b (ob_gR O.1 (k := 18) rfl (by decide)) ?_
  obtain ⟨hg2, he⟩ := jq_ite he
  obtain ⟨x1, hx1, he⟩ := jq_ln he
  refine s_b ((ob_ld O.1 (k := 18) rfl hg2).trans (congrArg some hx1.symm)) ?_
  cases he
  exact ⟨_, rfl, rfl, O⟩
set_option maxRecDepth 100000 in
set_option maxHeartbeats 4000000 in
theorem NX11_back_b34 {n a : Nat} {h0 : jq_H} {zs : Int32 × ob_S} {KB : Int32 → Int32 → Int32 → ob_S → Option (Int32 × ob_S)} {KBh : Nat → Int32 → Int32 → Int32 → jq_H → Option (Int32 × jq_H)} {K75 : Int32 → ob_S → Option (Int32 × ob_S)} {K75h : Nat → Int32 → jq_H → Option (Int32 × jq_H)} (hKB : ∀ (u1 : Int32) (u2 : Int32) (u3 : Int32) (S : ob_S) (h : jq_H), OF a 21 10 sh_R h0 S h → KB u1 u2 u3 S = some zs → ∃ z, KBh a u1 u2 u3 h = some z ∧ (z.1 = zs.1 ∧ OF a 21 10 sh_R h0 zs.2 z.2)) (hK75 : ∀ (u1 : Int32) (S : ob_S) (h : jq_H), OF a 21 10 sh_R h0 S h → K75 u1 S = some zs → ∃ z, K75h a u1 h = some z ∧ (z.1 = zs.1 ∧ OF a 21 10 sh_R h0 zs.2 z.2)) {v1 : Int32} {v2 : Int32} {v3 : Int32} {S : ob_S} {h : jq_H} (O : OF a 21 10 sh_R h0 S h) (he : rX11_back_b34 n KB K75 v1 v2 v3 S = some zs) : ∃ z, X11_back_b34 n KBh K75h a v1 v2 v3 h = some z ∧ (z.1 = zs.1 ∧ OF a 21 10 sh_R h0 zs.2 z.2) := by
  unfold rX11_back_b34 at he
  unfold X11_back_b34
  by_cases hc3 : 812 ≤ v3
  · have he := jq_t hc3 he
    refine s_t hc3 ?_
    exact hK75 _ _ _ O he
  have he := jq_n hc3 he
  refine s_n hc3 ?_
  refine s_b (ob_gR O.1 (k := 18) rfl (by decide)) ?_
  refine s_b (ob_gR O.1 (k := 19) rfl (by decide)) ?_
  obtain ⟨hg5, he⟩ := jq_ite he
  obtain ⟨x4, hx4, he⟩ := jq_ln he
  refine s_b ((ob_ld O.1 (k := 19) rfl hg5).trans (congrArg some hx4.symm)) ?_
  obtain ⟨hg7, he⟩ := jq_ite he
  obtain ⟨S6, hS6, he⟩ := jq_ln he
  obtain ⟨h, e1, O⟩ := ob_st (k := 18) (x := x4) O ok_R rfl hg7
  rw [← hS6] at O
  refine s_b e1 ?_
  obtain ⟨x8, hx8, he⟩ := jq_ln he
  refine s_l hx8 ?_
  exact hKB _ _ _ _ _ O he
set_option maxRecDepth 100000 in
set_option maxHeartbeats 4000000 in
theorem NX11_back_l34 {n a : Nat} {h0 : jq_H} {zs : Int32 × ob_S} {K75 : Int32 → ob_S → Option (Int32 × ob_S)} {K75h : Nat → Int32 → jq_H → Option (Int32 × jq_H)} (hK75 : ∀ (u1 : Int32) (S : ob_S) (h : jq_H), OF a 21 10 sh_R h0 S h → K75 u1 S = some zs → ∃ z, K75h a u1 h = some z ∧ (z.1 = zs.1 ∧ OF a 21 10 sh_R h0 zs.2 z.2)) :
    ∀ (k : Nat) (v1 : Int32) (v2 : Int32) (v3 : Int32) (S : ob_S) (h : jq_H), OF a 21 10 sh_R h0 S h → rX11_back_l34 n K75 k v1 v2 v3 S = some zs → ∃ z, X11_back_l34 n K75h k a v1 v2 v3 h = some z ∧ (z.1 = zs.1 ∧ OF a 21 10 sh_R h0 zs.2 z.2) := by
  intro k
  induction k with
  | zero => intro v1 v2 v3 S h O he; cases (show (none : Option (Int32 × ob_S)) = some zs from he)
  | succ k ih =>
    intro v1 v2 v3 S h O he
    exact NX11_back_b34 (n := n) (KB := rX11_back_l34 n K75 k) (KBh := X11_back_l34 n K75h k) ih hK75 O he
set_option maxRecDepth 100000 in
set_option maxHeartbeats 4000000 in
theorem NX11_back_b30 {n a : Nat} {h0 : jq_H} {zs : Int32 × ob_S} {S : ob_S} {h : jq_H} (O : OF a 21 10 sh_R h0 S h) (he : rX11_back_b30 n S = some zs) : ∃ z, X11_back_b30 n h = some z ∧ (z.1 = zs.1 ∧ OF a 21 10 sh_R h0 zs.2 z.2) := by
  unfold rX11_back_b30 at he
  unfold X11_back_b30
  cases he
  exact ⟨_, rfl, rfl, O⟩
set_option maxRecDepth 100000 in
set_option maxHeartbeats 4000000 in
theorem N_X11_back {n a : Nat} {h0 : jq_H} {zs : Int32 × ob_S} {p0 : Int32} {p1 : Int32} {S : ob_S} {h : jq_H} (O : OF a 21 10 sh_R h0 S h) (he : rX11_back n S p0 p1 = some zs) : ∃ z, X11_back n h a p0 p1 = some z ∧ (z.1 = zs.1 ∧ OF a 21 10 sh_R h0 zs.2 z.2) := by
  unfold rX11_back at he
  unfold X11_back
  obtain ⟨z9, hz9, he⟩ := jq_b he
  have hOz9 := O.1.ci
  obtain ⟨⟨rz9, h⟩, e1, e2, O⟩ := N_X11_isGuesser O hz9
  dsimp only at e2 O
  subst e2
  refine s_b ((if_pos hOz9).trans e1) ?_
  by_cases hc10 : z9.1 = 0
  · have he := jq_t hc10 he
    refine s_t hc10 ?_
    exact NX11_back_b30 (n := n) O he
  have he := jq_n hc10 he
  refine s_n hc10 ?_
  obtain ⟨x11, hx11, he⟩ := jq_ln he
  refine s_b (p_in _ _ _ _ _) ?_
  rw [← hx11]
  by_cases hc12 : x11 = 0
  · have he := jq_t hc12 he
    refine s_t hc12 ?_
    exact NX11_back_b30 (n := n) O he
  have he := jq_n hc12 he
  refine s_n hc12 ?_
  refine s_b (ob_gR O.1 (k := 20) rfl (by decide)) ?_
  obtain ⟨hg14, he⟩ := jq_ite he
  obtain ⟨x13, hx13, he⟩ := jq_ln he
  refine s_b ((ob_ld O.1 (k := 20) rfl hg14).trans (congrArg some hx13.symm)) ?_
  by_cases hc15 : x13 = 0
  · have he := jq_t hc15 he
    refine s_t hc15 ?_
    exact NX11_back_b30 (n := n) O he
  have he := jq_n hc15 he
  refine s_n hc15 ?_
  exact NX11_back_l34 (n := n) (fun w1 SS hh O he => by
    exact NX11_back_b75 (n := n) O he) n _ _ _ _ _ O he
set_option maxRecDepth 100000 in
set_option maxHeartbeats 4000000 in
theorem NX11_countAll_b156 {n a : Nat} {h0 : jq_H} {zs : ob_S} {S : ob_S} {h : jq_H} (O : OF a 21 10 sh_R h0 S h) (he : rX11_countAll_b156 n S = some zs) : ∃ z, X11_countAll_b156 n h = some z ∧ (OF a 21 10 sh_R h0 zs z) := by
  unfold rX11_countAll_b156 at he
  unfold X11_countAll_b156
  cases he
  exact ⟨_, rfl, O⟩
set_option maxRecDepth 100000 in
set_option maxHeartbeats 4000000 in
theorem NX11_countAll_b89 {n a : Nat} {h0 : jq_H} {zs : ob_S} {KB : Int32 → Int32 → Int32 → Int32 → ob_S → Option (ob_S)} {KBh : Nat → Int32 → Int32 → Int32 → Int32 → jq_H → Option (jq_H)} {K156 : ob_S → Option (ob_S)} {K156h : jq_H → Option (jq_H)} (hKB : ∀ (u1 : Int32) (u2 : Int32) (u3 : Int32) (u4 : Int32) (S : ob_S) (h : jq_H), OF a 21 10 sh_R h0 S h → KB u1 u2 u3 u4 S = some zs → ∃ z, KBh a u1 u2 u3 u4 h = some z ∧ (OF a 21 10 sh_R h0 zs z)) (hK156 : ∀ (S : ob_S) (h : jq_H), OF a 21 10 sh_R h0 S h → K156 S = some zs → ∃ z, K156h h = some z ∧ (OF a 21 10 sh_R h0 zs z)) {v1 : Int32} {v2 : Int32} {v3 : Int32} {v4 : Int32} {v5 : Int32} {v6 : Int32} {s0 : Int32} {S : ob_S} {h : jq_H} (O : OF a 21 10 sh_R h0 S h) (he : rX11_countAll_b89 n KB K156 v1 v2 v3 v4 v5 v6 s0 S = some zs) : ∃ z, X11_countAll_b89 n KBh K156h a v1 v2 v3 v4 v5 v6 s0 h = some z ∧ (OF a 21 10 sh_R h0 zs z) := by
  unfold rX11_countAll_b89 at he
  unfold X11_countAll_b89
  obtain ⟨x1, hx1, he⟩ := jq_ln he
  refine s_b (p_low _ _ _ _) ?_
  rw [← hx1]
  refine s_b (ob_gR O.1 (k := 23) rfl (by decide)) ?_
  obtain ⟨hg3, he⟩ := jq_ite he
  obtain ⟨x2, hx2, he⟩ := jq_ln he
  refine s_b ((ob_ld O.1 (k := 23) rfl hg3).trans (congrArg some hx2.symm)) ?_
  obtain ⟨hg5, he⟩ := jq_ite he
  obtain ⟨S4, hS4, he⟩ := jq_ln he
  obtain ⟨h, e1, O⟩ := ob_st (k := 23) (x := (x2 + 1)) O ok_R rfl hg5
  rw [← hS4] at O
  refine s_b e1 ?_
  obtain ⟨x6, hx6, he⟩ := jq_ln he
  refine s_l hx6 ?_
  refine s_b (ob_gR O.1 (k := 24) rfl (by decide)) ?_
  refine s_b (ob_gR O.1 (k := 24) rfl (by decide)) ?_
  obtain ⟨hg8, he⟩ := jq_ite he
  obtain ⟨x7, hx7, he⟩ := jq_ln he
  refine s_b ((ob_ld O.1 (k := 24) rfl hg8).trans (congrArg some hx7.symm)) ?_
  obtain ⟨hg10, he⟩ := jq_ite he
  obtain ⟨S9, hS9, he⟩ := jq_ln he
  obtain ⟨h, e1, O⟩ := ob_st (k := 24) (x := (((x7 <<< (1 &&& 31)) &&& 65535) ||| v6)) O ok_R rfl hg10
  rw [← hS9] at O
  refine s_b e1 ?_
  obtain ⟨x11, hx11, he⟩ := jq_ln he
  refine s_l hx11 ?_
  exact hKB _ _ _ _ _ _ O he
set_option maxRecDepth 100000 in
set_option maxHeartbeats 4000000 in
theorem NX11_countAll_b47 {n a : Nat} {h0 : jq_H} {zs : ob_S} {KB : Int32 → Int32 → Int32 → Int32 → ob_S → Option (ob_S)} {KBh : Nat → Int32 → Int32 → Int32 → Int32 → jq_H → Option (jq_H)} {K156 : ob_S → Option (ob_S)} {K156h : jq_H → Option (jq_H)} (hKB : ∀ (u1 : Int32) (u2 : Int32) (u3 : Int32) (u4 : Int32) (S : ob_S) (h : jq_H), OF a 21 10 sh_R h0 S h → KB u1 u2 u3 u4 S = some zs → ∃ z, KBh a u1 u2 u3 u4 h = some z ∧ (OF a 21 10 sh_R h0 zs z)) (hK156 : ∀ (S : ob_S) (h : jq_H), OF a 21 10 sh_R h0 S h → K156 S = some zs → ∃ z, K156h h = some z ∧ (OF a 21 10 sh_R h0 zs z)) {v1 : Int32} {v2 : Int32} {v3 : Int32} {v4 : Int32} {S : ob_S} {h : jq_H} (O : OF a 21 10 sh_R h0 S h) (he : rX11_countAll_b47 n KB K156 v1 v2 v3 v4 S = some zs) : ∃ z, X11_countAll_b47 n KBh K156h a v1 v2 v3 v4 h = some z ∧ (OF a 21 10 sh_R h0 zs z) := by
  unfold rX11_countAll_b47 at he
  unfold X11_countAll_b47
  obtain ⟨x12, hx12, he⟩ := jq_ln he
  refine s_b ((ob_gI O.1 (k := 9) rfl (by decide)).trans (congrArg some hx12.symm)) ?_
  by_cases hc13 : x12 ≤ v4
  · have he := jq_t hc13 he
    refine s_t hc13 ?_
    exact hK156 _ _ O he
  have he := jq_n hc13 he
  refine s_n hc13 ?_
  refine s_b (ob_gR O.1 (k := 10) rfl (by decide)) ?_
  obtain ⟨hg15, he⟩ := jq_ite he
  obtain ⟨x14, hx14, he⟩ := jq_ln he
  refine s_b ((ob_ld O.1 (k := 10) rfl hg15).trans (congrArg some hx14.symm)) ?_
  refine s_b (ob_gR O.1 (k := 11) rfl (by decide)) ?_
  obtain ⟨hg17, he⟩ := jq_ite he
  obtain ⟨x16, hx16, he⟩ := jq_ln he
  refine s_b ((ob_ld O.1 (k := 11) rfl hg17).trans (congrArg some hx16.symm)) ?_
  by_cases hc18 : v2 = 0
  · have he := jq_t hc18 he
    refine s_t hc18 ?_
    exact NX11_countAll_b89 (n := n) hKB hK156 O he
  have he := jq_n hc18 he
  refine s_n hc18 ?_
  refine s_b (ob_gR O.1 (k := 24) rfl (by decide)) ?_
  obtain ⟨hg20, he⟩ := jq_ite he
  obtain ⟨x19, hx19, he⟩ := jq_ln he
  refine s_b ((ob_ld O.1 (k := 24) rfl hg20).trans (congrArg some hx19.symm)) ?_
  exact NX11_countAll_b89 (n := n) hKB hK156 O he
set_option maxRecDepth 100000 in
set_option maxHeartbeats 4000000 in
theorem NX11_countAll_l47 {n a : Nat} {h0 : jq_H} {zs : ob_S} {K156 : ob_S → Option (ob_S)} {K156h : jq_H → Option (jq_H)} (hK156 : ∀ (S : ob_S) (h : jq_H), OF a 21 10 sh_R h0 S h → K156 S = some zs → ∃ z, K156h h = some z ∧ (OF a 21 10 sh_R h0 zs z)) :
    ∀ (k : Nat) (v1 : Int32) (v2 : Int32) (v3 : Int32) (v4 : Int32) (S : ob_S) (h : jq_H), OF a 21 10 sh_R h0 S h → rX11_countAll_l47 n K156 k v1 v2 v3 v4 S = some zs → ∃ z, X11_countAll_l47 n K156h k a v1 v2 v3 v4 h = some z ∧ (OF a 21 10 sh_R h0 zs z) := by
  intro k
  induction k with
  | zero => intro v1 v2 v3 v4 S h O he; cases (show (none : Option (ob_S)) = some zs from he)
  | succ k ih =>
    intro v1 v2 v3 v4 S h O he
    exact NX11_countAll_b47 (n := n) (KB := rX11_countAll_l47 n K156 k) (KBh := X11_countAll_l47 n K156h k) ih hK156 O he
set_option maxRecDepth 100000 in
set_option maxHeartbeats 4000000 in
theorem NX11_countAll_b42 {n a : Nat} {h0 : jq_H} {zs : ob_S} {v1 : Int32} {v2 : Int32} {S : ob_S} {h : jq_H} (O : OF a 21 10 sh_R h0 S h) (he : rX11_countAll_b42 n v1 v2 S = some zs) : ∃ z, X11_countAll_b42 n a v1 v2 h = some z ∧ (OF a 21 10 sh_R h0 zs z) := by
  unfold rX11_countAll_b42 at he
  unfold X11_countAll_b42
  exact NX11_countAll_l47 (n := n) (fun SS hh O he => by
    exact NX11_countAll_b156 (n := n) O he) n _ _ _ _ _ _ O he
set_option maxRecDepth 100000 in
set_option maxHeartbeats 4000000 in
theorem NX11_countAll_b23 {n a : Nat} {h0 : jq_H} {zs : ob_S} {KB : Int32 → Int32 → Int32 → ob_S → Option (ob_S)} {KBh : Nat → Int32 → Int32 → Int32 → jq_H → Option (jq_H)} {K42 : Int32 → Int32 → ob_S → Option (ob_S)} {K42h : Nat → Int32 → Int32 → jq_H → Option (jq_H)} (hKB : ∀ (u1 : Int32) (u2 : Int32) (u3 : Int32) (S : ob_S) (h : jq_H), OF a 21 10 sh_R h0 S h → KB u1 u2 u3 S = some zs → ∃ z, KBh a u1 u2 u3 h = some z ∧ (OF a 21 10 sh_R h0 zs z)) (hK42 : ∀ (u1 : Int32) (u2 : Int32) (S : ob_S) (h : jq_H), OF a 21 10 sh_R h0 S h → K42 u1 u2 S = some zs → ∃ z, K42h a u1 u2 h = some z ∧ (OF a 21 10 sh_R h0 zs z)) {v1 : Int32} {v2 : Int32} {v3 : Int32} {S : ob_S} {h : jq_H} (O : OF a 21 10 sh_R h0 S h) (he : rX11_countAll_b23 n KB K42 v1 v2 v3 S = some zs) : ∃ z, X11_countAll_b23 n KBh K42h a v1 v2 v3 h = some z ∧ (OF a 21 10 sh_R h0 zs z) := by
  unfold rX11_countAll_b23 at he
  unfold X11_countAll_b23
  by_cases hc21 : 64 ≤ v3
  · have he := jq_t hc21 he
    refine s_t hc21 ?_
    exact hK42 _ _ _ _ O he
  have he := jq_n hc21 he
  refine s_n hc21 ?_
  refine s_b (ob_gR O.1 (k := 24) rfl (by decide)) ?_
  obtain ⟨hg23, he⟩ := jq_ite he
  obtain ⟨S22, hS22, he⟩ := jq_ln he
  obtain ⟨h, e1, O⟩ := ob_st (k := 24) (x := 0) O ok_R rfl hg23
  rw [← hS22] at O
  refine s_b e1 ?_
  obtain ⟨x24, hx24, he⟩ := jq_ln he
  refine s_l hx24 ?_
  exact hKB _ _ _ _ _ O he
set_option maxRecDepth 100000 in
set_option maxHeartbeats 4000000 in
theorem NX11_countAll_l23 {n a : Nat} {h0 : jq_H} {zs : ob_S} {K42 : Int32 → Int32 → ob_S → Option (ob_S)} {K42h : Nat → Int32 → Int32 → jq_H → Option (jq_H)} (hK42 : ∀ (u1 : Int32) (u2 : Int32) (S : ob_S) (h : jq_H), OF a 21 10 sh_R h0 S h → K42 u1 u2 S = some zs → ∃ z, K42h a u1 u2 h = some z ∧ (OF a 21 10 sh_R h0 zs z)) :
    ∀ (k : Nat) (v1 : Int32) (v2 : Int32) (v3 : Int32) (S : ob_S) (h : jq_H), OF a 21 10 sh_R h0 S h → rX11_countAll_l23 n K42 k v1 v2 v3 S = some zs → ∃ z, X11_countAll_l23 n K42h k a v1 v2 v3 h = some z ∧ (OF a 21 10 sh_R h0 zs z) := by
  intro k
  induction k with
  | zero => intro v1 v2 v3 S h O he; cases (show (none : Option (ob_S)) = some zs from he)
  | succ k ih =>
    intro v1 v2 v3 S h O he
    exact NX11_countAll_b23 (n := n) (KB := rX11_countAll_l23 n K42 k) (KBh := X11_countAll_l23 n K42h k) ih hK42 O he
set_option maxRecDepth 100000 in
set_option maxHeartbeats 4000000 in
theorem NX11_countAll_b21 {n a : Nat} {h0 : jq_H} {zs : ob_S} {v1 : Int32} {v2 : Int32} {S : ob_S} {h : jq_H} (O : OF a 21 10 sh_R h0 S h) (he : rX11_countAll_b21 n v1 v2 S = some zs) : ∃ z, X11_countAll_b21 n a v1 v2 h = some z ∧ (OF a 21 10 sh_R h0 zs z) := by
  unfold rX11_countAll_b21 at he
  unfold X11_countAll_b21
  exact NX11_countAll_l23 (n := n) (fun w1 w2 SS hh O he => by
    exact NX11_countAll_b42 (n := n) O he) n _ _ _ _ _ O he
set_option maxRecDepth 100000 in
set_option maxHeartbeats 4000000 in
theorem NX11_countAll_b2 {n a : Nat} {h0 : jq_H} {zs : ob_S} {KB : Int32 → Int32 → Int32 → ob_S → Option (ob_S)} {KBh : Nat → Int32 → Int32 → Int32 → jq_H → Option (jq_H)} {K21 : Int32 → Int32 → ob_S → Option (ob_S)} {K21h : Nat → Int32 → Int32 → jq_H → Option (jq_H)} (hKB : ∀ (u1 : Int32) (u2 : Int32) (u3 : Int32) (S : ob_S) (h : jq_H), OF a 21 10 sh_R h0 S h → KB u1 u2 u3 S = some zs → ∃ z, KBh a u1 u2 u3 h = some z ∧ (OF a 21 10 sh_R h0 zs z)) (hK21 : ∀ (u1 : Int32) (u2 : Int32) (S : ob_S) (h : jq_H), OF a 21 10 sh_R h0 S h → K21 u1 u2 S = some zs → ∃ z, K21h a u1 u2 h = some z ∧ (OF a 21 10 sh_R h0 zs z)) {v1 : Int32} {v2 : Int32} {v3 : Int32} {S : ob_S} {h : jq_H} (O : OF a 21 10 sh_R h0 S h) (he : rX11_countAll_b2 n KB K21 v1 v2 v3 S = some zs) : ∃ z, X11_countAll_b2 n KBh K21h a v1 v2 v3 h = some z ∧ (OF a 21 10 sh_R h0 zs z) := by
  unfold rX11_countAll_b2 at he
  unfold X11_countAll_b2
  by_cases hc25 : 32768 ≤ v3
  · have he := jq_t hc25 he
    refine s_t hc25 ?_
    exact hK21 _ _ _ _ O he
  have he := jq_n hc25 he
  refine s_n hc25 ?_
  refine s_b (ob_gR O.1 (k := 23) rfl (by decide)) ?_
  obtain ⟨hg27, he⟩ := jq_ite he
  obtain ⟨S26, hS26, he⟩ := jq_ln he
  obtain ⟨h, e1, O⟩ := ob_st (k := 23) (x := 0) O ok_R rfl hg27
  rw [← hS26] at O
  refine s_b e1 ?_
  obtain ⟨x28, hx28, he⟩ := jq_ln he
  refine s_l hx28 ?_
  exact hKB _ _ _ _ _ O he
set_option maxRecDepth 100000 in
set_option maxHeartbeats 4000000 in
theorem NX11_countAll_l2 {n a : Nat} {h0 : jq_H} {zs : ob_S} {K21 : Int32 → Int32 → ob_S → Option (ob_S)} {K21h : Nat → Int32 → Int32 → jq_H → Option (jq_H)} (hK21 : ∀ (u1 : Int32) (u2 : Int32) (S : ob_S) (h : jq_H), OF a 21 10 sh_R h0 S h → K21 u1 u2 S = some zs → ∃ z, K21h a u1 u2 h = some z ∧ (OF a 21 10 sh_R h0 zs z)) :
    ∀ (k : Nat) (v1 : Int32) (v2 : Int32) (v3 : Int32) (S : ob_S) (h : jq_H), OF a 21 10 sh_R h0 S h → rX11_countAll_l2 n K21 k v1 v2 v3 S = some zs → ∃ z, X11_countAll_l2 n K21h k a v1 v2 v3 h = some z ∧ (OF a 21 10 sh_R h0 zs z) := by
  intro k
  induction k with
  | zero => intro v1 v2 v3 S h O he; cases (show (none : Option (ob_S)) = some zs from he)
  | succ k ih =>
    intro v1 v2 v3 S h O he
    exact NX11_countAll_b2 (n := n) (KB := rX11_countAll_l2 n K21 k) (KBh := X11_countAll_l2 n K21h k) ih hK21 O he
set_option maxRecDepth 100000 in
set_option maxHeartbeats 4000000 in
theorem N_X11_countAll {n a : Nat} {h0 : jq_H} {zs : ob_S} {p0 : Int32} {p1 : Int32} {S : ob_S} {h : jq_H} (O : OF a 21 10 sh_R h0 S h) (he : rX11_countAll n S p0 p1 = some zs) : ∃ z, X11_countAll n h a p0 p1 = some z ∧ (OF a 21 10 sh_R h0 zs z) := by
  unfold rX11_countAll at he
  unfold X11_countAll
  exact NX11_countAll_l2 (n := n) (fun w1 w2 SS hh O he => by
    exact NX11_countAll_b21 (n := n) O he) n _ _ _ _ _ O he
set_option maxRecDepth 100000 in
set_option maxHeartbeats 4000000 in
theorem NX11_best_b78 {n a : Nat} {h0 : jq_H} {zs : Int32 × ob_S} {v3 : Int32} {S : ob_S} {h : jq_H} (O : OF a 21 10 sh_R h0 S h) (he : rX11_best_b78 n v3 S = some zs) : ∃ z, X11_best_b78 n v3 h = some z ∧ (z.1 = zs.1 ∧ OF a 21 10 sh_R h0 zs.2 z.2) := by
  unfold rX11_best_b78 at he
  unfold X11_best_b78
  cases he
  exact ⟨_, rfl, rfl, O⟩
set_option maxRecDepth 100000 in
set_option maxHeartbeats 4000000 in
theorem NX11_best_b70 {n a : Nat} {h0 : jq_H} {zs : Int32 × ob_S} {KB : Int32 → Int32 → ob_S → Option (Int32 × ob_S)} {KBh : Nat → Int32 → Int32 → jq_H → Option (Int32 × jq_H)} {K78 : Int32 → ob_S → Option (Int32 × ob_S)} {K78h : Int32 → jq_H → Option (Int32 × jq_H)} (hKB : ∀ (u3 : Int32) (u4 : Int32) (S : ob_S) (h : jq_H), OF a 21 10 sh_R h0 S h → KB u3 u4 S = some zs → ∃ z, KBh a u3 u4 h = some z ∧ (z.1 = zs.1 ∧ OF a 21 10 sh_R h0 zs.2 z.2)) (hK78 : ∀ (u3 : Int32) (S : ob_S) (h : jq_H), OF a 21 10 sh_R h0 S h → K78 u3 S = some zs → ∃ z, K78h u3 h = some z ∧ (z.1 = zs.1 ∧ OF a 21 10 sh_R h0 zs.2 z.2)) {v4 : Int32} {s0 : Int32} {s1 : Int32} {S : ob_S} {h : jq_H} (O : OF a 21 10 sh_R h0 S h) (he : rX11_best_b70 n KB K78 v4 s0 s1 S = some zs) : ∃ z, X11_best_b70 n KBh K78h a v4 s0 s1 h = some z ∧ (z.1 = zs.1 ∧ OF a 21 10 sh_R h0 zs.2 z.2) := by
  unfold rX11_best_b70 at he
  unfold X11_best_b70
  obtain ⟨x1, hx1, he⟩ := jq_ln he
  refine s_l hx1 ?_
  obtain ⟨x2, hx2, he⟩ := jq_ln he
  refine s_l hx2 ?_
  exact hKB _ _ _ _ O he
set_option maxRecDepth 100000 in
set_option maxHeartbeats 4000000 in
theorem NX11_best_b24 {n a : Nat} {h0 : jq_H} {zs : Int32 × ob_S} {KB : Int32 → Int32 → ob_S → Option (Int32 × ob_S)} {KBh : Nat → Int32 → Int32 → jq_H → Option (Int32 × jq_H)} {K78 : Int32 → ob_S → Option (Int32 × ob_S)} {K78h : Int32 → jq_H → Option (Int32 × jq_H)} (hKB : ∀ (u3 : Int32) (u4 : Int32) (S : ob_S) (h : jq_H), OF a 21 10 sh_R h0 S h → KB u3 u4 S = some zs → ∃ z, KBh a u3 u4 h = some z ∧ (z.1 = zs.1 ∧ OF a 21 10 sh_R h0 zs.2 z.2)) (hK78 : ∀ (u3 : Int32) (S : ob_S) (h : jq_H), OF a 21 10 sh_R h0 S h → K78 u3 S = some zs → ∃ z, K78h u3 h = some z ∧ (z.1 = zs.1 ∧ OF a 21 10 sh_R h0 zs.2 z.2)) {v3 : Int32} {v4 : Int32} {S : ob_S} {h : jq_H} (O : OF a 21 10 sh_R h0 S h) (he : rX11_best_b24 n KB K78 v3 v4 S = some zs) : ∃ z, X11_best_b24 n KBh K78h a v3 v4 h = some z ∧ (z.1 = zs.1 ∧ OF a 21 10 sh_R h0 zs.2 z.2) := by
  unfold rX11_best_b24 at he
  unfold X11_best_b24
  by_cases hc3 : 32768 ≤ v4
  · have he := jq_t hc3 he
    refine s_t hc3 ?_
    exact hK78 _ _ _ O he
  have he := jq_n hc3 he
  refine s_n hc3 ?_
  refine s_b (ob_gR O.1 (k := 23) rfl (by decide)) ?_
  obtain ⟨hg5, he⟩ := jq_ite he
  obtain ⟨x4, hx4, he⟩ := jq_ln he
  refine s_b ((ob_ld O.1 (k := 23) rfl hg5).trans (congrArg some hx4.symm)) ?_
  refine s_b (ob_gR O.1 (k := 23) rfl (by decide)) ?_
  obtain ⟨hg7, he⟩ := jq_ite he
  obtain ⟨x6, hx6, he⟩ := jq_ln he
  refine s_b ((ob_ld O.1 (k := 23) rfl hg7).trans (congrArg some hx6.symm)) ?_
  by_cases hc8 : x6 ≤ x4
  · have he := jq_t hc8 he
    refine s_t hc8 ?_
    refine s_b (ob_gR O.1 (k := 23) rfl (by decide)) ?_
    obtain ⟨hg10, he⟩ := jq_ite he
    obtain ⟨x9, hx9, he⟩ := jq_ln he
    refine s_b ((ob_ld O.1 (k := 23) rfl hg10).trans (congrArg some hx9.symm)) ?_
    exact NX11_best_b70 (n := n) hKB hK78 O he
  have he := jq_n hc8 he
  refine s_n hc8 ?_
  refine s_b (ob_gR O.1 (k := 23) rfl (by decide)) ?_
  obtain ⟨hg12, he⟩ := jq_ite he
  obtain ⟨x11, hx11, he⟩ := jq_ln he
  refine s_b ((ob_ld O.1 (k := 23) rfl hg12).trans (congrArg some hx11.symm)) ?_
  exact NX11_best_b70 (n := n) hKB hK78 O he
set_option maxRecDepth 100000 in
set_option maxHeartbeats 4000000 in
theorem NX11_best_l24 {n a : Nat} {h0 : jq_H} {zs : Int32 × ob_S} {K78 : Int32 → ob_S → Option (Int32 × ob_S)} {K78h : Int32 → jq_H → Option (Int32 × jq_H)} (hK78 : ∀ (u3 : Int32) (S : ob_S) (h : jq_H), OF a 21 10 sh_R h0 S h → K78 u3 S = some zs → ∃ z, K78h u3 h = some z ∧ (z.1 = zs.1 ∧ OF a 21 10 sh_R h0 zs.2 z.2)) :
    ∀ (k : Nat) (v3 : Int32) (v4 : Int32) (S : ob_S) (h : jq_H), OF a 21 10 sh_R h0 S h → rX11_best_l24 n K78 k v3 v4 S = some zs → ∃ z, X11_best_l24 n K78h k a v3 v4 h = some z ∧ (z.1 = zs.1 ∧ OF a 21 10 sh_R h0 zs.2 z.2) := by
  intro k
  induction k with
  | zero => intro v3 v4 S h O he; cases (show (none : Option (Int32 × ob_S)) = some zs from he)
  | succ k ih =>
    intro v3 v4 S h O he
    exact NX11_best_b24 (n := n) (KB := rX11_best_l24 n K78 k) (KBh := X11_best_l24 n K78h k) ih hK78 O he
set_option maxRecDepth 100000 in
set_option maxHeartbeats 4000000 in
theorem N_X11_best {n a : Nat} {h0 : jq_H} {zs : Int32 × ob_S} {p0 : Int32} {p1 : Int32} {S : ob_S} {h : jq_H} (O : OF a 21 10 sh_R h0 S h) (he : rX11_best n S p0 p1 = some zs) : ∃ z, X11_best n h a p0 p1 = some z ∧ (z.1 = zs.1 ∧ OF a 21 10 sh_R h0 zs.2 z.2) := by
  unfold rX11_best at he
  unfold X11_best
  obtain ⟨x13, hx13, he⟩ := jq_ln he
  refine s_b (p_in _ _ _ _ _) ?_
  rw [← hx13]
  by_cases hc14 : x13 = 0
  · have he := jq_t hc14 he
    refine s_t hc14 ?_
    cases he
    exact ⟨_, rfl, rfl, O⟩
  have he := jq_n hc14 he
  refine s_n hc14 ?_
  obtain ⟨z15, hz15, he⟩ := jq_b he
  have hOz15 := O.1.ci
  obtain ⟨h, e1, O⟩ := N_X11_countAll O hz15
  refine s_b ((if_pos hOz15).trans e1) ?_
  exact NX11_best_l24 (n := n) (fun w3 SS hh O he => by
    exact NX11_best_b78 (n := n) O he) n _ _ _ _ O he
set_option maxRecDepth 100000 in
set_option maxHeartbeats 4000000 in
theorem NX11_comes_b63 {n a : Nat} {h0 : jq_H} {zs : ob_S} {S : ob_S} {h : jq_H} (O : OF a 21 10 sh_R h0 S h) (he : rX11_comes_b63 n S = some zs) : ∃ z, X11_comes_b63 n a h = some z ∧ (OF a 21 10 sh_R h0 zs z) := by
  unfold rX11_comes_b63 at he
  unfold X11_comes_b63
  obtain ⟨x1, hx1, he⟩ := jq_ln he
  refine s_b ((ob_gI O.1 (k := 8) rfl (by decide)).trans (congrArg some hx1.symm)) ?_
  obtain ⟨S2, hS2, he⟩ := jq_ln he
  obtain ⟨h, e1, O⟩ := ob_pI (k := 8) (cs := [10]) (x := (x1 + 1)) O ok_R (by decide) rfl (by decide)
  rw [← hS2] at O
  refine s_b e1 ?_
  cases he
  exact ⟨_, rfl, O⟩
set_option maxRecDepth 100000 in
set_option maxHeartbeats 4000000 in
theorem NX11_comes_b23 {n a : Nat} {h0 : jq_H} {zs : ob_S} {v1 : Int32} {v2 : Int32} {S : ob_S} {h : jq_H} (O : OF a 21 10 sh_R h0 S h) (he : rX11_comes_b23 n v1 v2 S = some zs) : ∃ z, X11_comes_b23 n a v1 v2 h = some z ∧ (OF a 21 10 sh_R h0 zs z) := by
  unfold rX11_comes_b23 at he
  unfold X11_comes_b23
  obtain ⟨x3, hx3, he⟩ := jq_ln he
  refine s_b ((ob_gI O.1 (k := 9) rfl (by decide)).trans (congrArg some hx3.symm)) ?_
  by_cases hc4 : 3000 ≤ x3
  · have he := jq_t hc4 he
    refine s_t hc4 ?_
    exact NX11_comes_b63 (n := n) O he
  have he := jq_n hc4 he
  refine s_n hc4 ?_
  refine s_b (ob_gR O.1 (k := 10) rfl (by decide)) ?_
  obtain ⟨x5, hx5, he⟩ := jq_ln he
  refine s_b ((ob_gI O.1 (k := 9) rfl (by decide)).trans (congrArg some hx5.symm)) ?_
  obtain ⟨hg7, he⟩ := jq_ite he
  obtain ⟨S6, hS6, he⟩ := jq_ln he
  obtain ⟨h, e1, O⟩ := ob_st (k := 10) (x := v1) O ok_R rfl hg7
  rw [← hS6] at O
  refine s_b e1 ?_
  refine s_b (ob_gR O.1 (k := 11) rfl (by decide)) ?_
  obtain ⟨x8, hx8, he⟩ := jq_ln he
  refine s_b ((ob_gI O.1 (k := 9) rfl (by decide)).trans (congrArg some hx8.symm)) ?_
  obtain ⟨hg10, he⟩ := jq_ite he
  obtain ⟨S9, hS9, he⟩ := jq_ln he
  obtain ⟨h, e1, O⟩ := ob_st (k := 11) (x := v2) O ok_R rfl hg10
  rw [← hS9] at O
  refine s_b e1 ?_
  obtain ⟨x11, hx11, he⟩ := jq_ln he
  refine s_b ((ob_gI O.1 (k := 9) rfl (by decide)).trans (congrArg some hx11.symm)) ?_
  obtain ⟨S12, hS12, he⟩ := jq_ln he
  obtain ⟨h, e1, O⟩ := ob_pI (k := 9) (cs := [10]) (x := (x11 + 1)) O ok_R (by decide) rfl (by decide)
  rw [← hS12] at O
  refine s_b e1 ?_
  exact NX11_comes_b63 (n := n) O he
set_option maxRecDepth 100000 in
set_option maxHeartbeats 4000000 in
theorem NX11_comes_b2 {n a : Nat} {h0 : jq_H} {zs : ob_S} {KB : Int32 → Int32 → Int32 → ob_S → Option (ob_S)} {KBh : Nat → Int32 → Int32 → Int32 → jq_H → Option (jq_H)} {K23 : Int32 → Int32 → ob_S → Option (ob_S)} {K23h : Nat → Int32 → Int32 → jq_H → Option (jq_H)} (hKB : ∀ (u1 : Int32) (u2 : Int32) (u3 : Int32) (S : ob_S) (h : jq_H), OF a 21 10 sh_R h0 S h → KB u1 u2 u3 S = some zs → ∃ z, KBh a u1 u2 u3 h = some z ∧ (OF a 21 10 sh_R h0 zs z)) (hK23 : ∀ (u1 : Int32) (u2 : Int32) (S : ob_S) (h : jq_H), OF a 21 10 sh_R h0 S h → K23 u1 u2 S = some zs → ∃ z, K23h a u1 u2 h = some z ∧ (OF a 21 10 sh_R h0 zs z)) {v1 : Int32} {v2 : Int32} {v3 : Int32} {S : ob_S} {h : jq_H} (O : OF a 21 10 sh_R h0 S h) (he : rX11_comes_b2 n KB K23 v1 v2 v3 S = some zs) : ∃ z, X11_comes_b2 n KBh K23h a v1 v2 v3 h = some z ∧ (OF a 21 10 sh_R h0 zs z) := by
  unfold rX11_comes_b2 at he
  unfold X11_comes_b2
  obtain ⟨x13, hx13, he⟩ := jq_ln he
  refine s_b ((ob_gI O.1 (k := 12) rfl (by decide)).trans (congrArg some hx13.symm)) ?_
  by_cases hc14 : x13 ≤ v3
  · have he := jq_t hc14 he
    refine s_t hc14 ?_
    exact hK23 _ _ _ _ O he
  have he := jq_n hc14 he
  refine s_n hc14 ?_
  obtain ⟨z15, hz15, he⟩ := jq_b he
  have hOz15 := O.1.ci
  obtain ⟨h, e1, O⟩ := N_X11_asks O hz15
  refine s_b ((if_pos hOz15).trans e1) ?_
  obtain ⟨x16, hx16, he⟩ := jq_ln he
  refine s_l hx16 ?_
  exact hKB _ _ _ _ _ O he
set_option maxRecDepth 100000 in
set_option maxHeartbeats 4000000 in
theorem NX11_comes_l2 {n a : Nat} {h0 : jq_H} {zs : ob_S} {K23 : Int32 → Int32 → ob_S → Option (ob_S)} {K23h : Nat → Int32 → Int32 → jq_H → Option (jq_H)} (hK23 : ∀ (u1 : Int32) (u2 : Int32) (S : ob_S) (h : jq_H), OF a 21 10 sh_R h0 S h → K23 u1 u2 S = some zs → ∃ z, K23h a u1 u2 h = some z ∧ (OF a 21 10 sh_R h0 zs z)) :
    ∀ (k : Nat) (v1 : Int32) (v2 : Int32) (v3 : Int32) (S : ob_S) (h : jq_H), OF a 21 10 sh_R h0 S h → rX11_comes_l2 n K23 k v1 v2 v3 S = some zs → ∃ z, X11_comes_l2 n K23h k a v1 v2 v3 h = some z ∧ (OF a 21 10 sh_R h0 zs z) := by
  intro k
  induction k with
  | zero => intro v1 v2 v3 S h O he; cases (show (none : Option (ob_S)) = some zs from he)
  | succ k ih =>
    intro v1 v2 v3 S h O he
    exact NX11_comes_b2 (n := n) (KB := rX11_comes_l2 n K23 k) (KBh := X11_comes_l2 n K23h k) ih hK23 O he
set_option maxRecDepth 100000 in
set_option maxHeartbeats 4000000 in
theorem N_X11_comes {n a : Nat} {h0 : jq_H} {zs : ob_S} {p0 : Int32} {p1 : Int32} {S : ob_S} {h : jq_H} (O : OF a 21 10 sh_R h0 S h) (he : rX11_comes n S p0 p1 = some zs) : ∃ z, X11_comes n h a p0 p1 = some z ∧ (OF a 21 10 sh_R h0 zs z) := by
  unfold rX11_comes at he
  unfold X11_comes
  exact NX11_comes_l2 (n := n) (fun w1 w2 SS hh O he => by
    exact NX11_comes_b23 (n := n) O he) n _ _ _ _ _ O he
set_option maxRecDepth 100000 in
set_option maxHeartbeats 4000000 in
theorem N_X11_branch {n a : Nat} {h0 : jq_H} {zs : Int32 × ob_S} {p0 : Int32} {p1 : Int32} {S : ob_S} {h : jq_H} (O : OF a 21 10 sh_R h0 S h) (he : rX11_branch n S p0 p1 = some zs) : ∃ z, X11_branch n h a p0 p1 = some z ∧ (z.1 = zs.1 ∧ OF a 21 10 sh_R h0 zs.2 z.2) := by
  unfold rX11_branch at he
  unfold X11_branch
  obtain ⟨x1, hx1, he⟩ := jq_ln he
  refine s_b (p_isPlaceR _ _ _) ?_
  rw [← hx1]
  by_cases hc2 : x1 = 0
  · have he := jq_t hc2 he
    refine s_t hc2 ?_
    cases he
    exact ⟨_, rfl, rfl, O⟩
  have he := jq_n hc2 he
  refine s_n hc2 ?_
  obtain ⟨x3, hx3, he⟩ := jq_ln he
  refine s_b (p_in _ _ _ _ _) ?_
  rw [← hx3]
  by_cases hc4 : x3 = 0
  · have he := jq_t hc4 he
    refine s_t hc4 ?_
    cases he
    exact ⟨_, rfl, rfl, O⟩
  have he := jq_n hc4 he
  refine s_n hc4 ?_
  obtain ⟨z5, hz5, he⟩ := jq_b he
  have hOz5 := O.1.ci
  obtain ⟨h, e1, O⟩ := N_X11_comes O hz5
  refine s_b ((if_pos hOz5).trans e1) ?_
  obtain ⟨x6, hx6, he⟩ := jq_ln he
  refine s_b ((ob_gI O.1 (k := 8) rfl (by decide)).trans (congrArg some hx6.symm)) ?_
  cases he
  exact ⟨_, rfl, rfl, O⟩
set_option maxRecDepth 100000 in
set_option maxHeartbeats 4000000 in
theorem NX11_clashes_b39 {n a : Nat} {h0 : jq_H} {zs : Int32 × ob_S} {s0 : Int32} {S : ob_S} {h : jq_H} (O : OF a 21 10 sh_R h0 S h) (he : rX11_clashes_b39 n s0 S = some zs) : ∃ z, X11_clashes_b39 n s0 h = some z ∧ (z.1 = zs.1 ∧ OF a 21 10 sh_R h0 zs.2 z.2) := by
  unfold rX11_clashes_b39 at he
  unfold X11_clashes_b39
  cases he
  exact ⟨_, rfl, rfl, O⟩
set_option maxRecDepth 100000 in
set_option maxHeartbeats 4000000 in
theorem N_X11_clashes {n a : Nat} {h0 : jq_H} {zs : Int32 × ob_S} {p0 : Int32} {S : ob_S} {h : jq_H} (O : OF a 21 10 sh_R h0 S h) (he : rX11_clashes n S p0 = some zs) : ∃ z, X11_clashes n h a p0 = some z ∧ (z.1 = zs.1 ∧ OF a 21 10 sh_R h0 zs.2 z.2) := by
  unfold rX11_clashes at he
  unfold X11_clashes
  obtain ⟨z1, hz1, he⟩ := jq_b he
  have hOz1 := O.1.ci
  obtain ⟨⟨rz1, h⟩, e1, e2, O⟩ := N_X11_isGuesser O hz1
  dsimp only at e2 O
  subst e2
  refine s_b ((if_pos hOz1).trans e1) ?_
  by_cases hc2 : z1.1 = 0
  · have he := jq_t hc2 he
    refine s_t hc2 ?_
    exact NX11_clashes_b39 (n := n) O he
  have he := jq_n hc2 he
  refine s_n hc2 ?_
  obtain ⟨z3, hz3, he⟩ := jq_b he
  have hOz3 := O.1.ci
  obtain ⟨⟨rz3, h⟩, e1, e2, O⟩ := N_X11_clashes1 O hz3
  dsimp only at e2 O
  subst e2
  refine s_b ((if_pos hOz3).trans e1) ?_
  by_cases hc4 : z3.1 = 0
  · have he := jq_t hc4 he
    refine s_t hc4 ?_
    exact NX11_clashes_b39 (n := n) O he
  have he := jq_n hc4 he
  refine s_n hc4 ?_
  refine s_b (ob_gR O.1 (k := 18) rfl (by decide)) ?_
  obtain ⟨hg6, he⟩ := jq_ite he
  obtain ⟨x5, hx5, he⟩ := jq_ln he
  refine s_b ((ob_ld O.1 (k := 18) rfl hg6).trans (congrArg some hx5.symm)) ?_
  exact NX11_clashes_b39 (n := n) O he
set_option maxRecDepth 100000 in
set_option maxHeartbeats 4000000 in
theorem N_X11_data {n a : Nat} {h0 : jq_H} {zs : Int32 × ob_S} {p0 : Int32} {p1 : Int32} {S : ob_S} {h : jq_H} (O : OF a 21 10 sh_R h0 S h) (he : rX11_data n S p0 p1 = some zs) : ∃ z, X11_data n h a p0 p1 = some z ∧ (z.1 = zs.1 ∧ OF a 21 10 sh_R h0 zs.2 z.2) := by
  unfold rX11_data at he
  unfold X11_data
  obtain ⟨x1, hx1, he⟩ := jq_ln he
  refine s_b (p_in _ _ _ _ _) ?_
  rw [← hx1]
  by_cases hc2 : x1 = 0
  · have he := jq_t hc2 he
    refine s_t hc2 ?_
    cases he
    exact ⟨_, rfl, rfl, O⟩
  have he := jq_n hc2 he
  refine s_n hc2 ?_
  refine s_b (ob_gR O.1 (k := 5) rfl (by decide)) ?_
  obtain ⟨hg4, he⟩ := jq_ite he
  obtain ⟨S3, hS3, he⟩ := jq_ln he
  obtain ⟨h, e1, O⟩ := ob_st (k := 5) (x := p1) O ok_R rfl hg4
  rw [← hS3] at O
  refine s_b e1 ?_
  cases he
  exact ⟨_, rfl, rfl, O⟩
set_option maxRecDepth 100000 in
set_option maxHeartbeats 4000000 in
theorem N_X11_empty {n a : Nat} {h0 : jq_H} {zs : Int32 × ob_S} {S : ob_S} {h : jq_H} (O : OF a 21 10 sh_R h0 S h) (he : rX11_empty n S = some zs) : ∃ z, X11_empty n h a = some z ∧ (z.1 = zs.1 ∧ OF a 21 10 sh_R h0 zs.2 z.2) := by
  unfold rX11_empty at he
  unfold X11_empty
  obtain ⟨x1, hx1, he⟩ := jq_ln he
  refine s_b ((ob_gI O.1 (k := 9) rfl (by decide)).trans (congrArg some hx1.symm)) ?_
  obtain ⟨S2, hS2, he⟩ := jq_ln he
  obtain ⟨h, e1, O⟩ := ob_pI (k := 9) (cs := [10]) (x := 0) O ok_R (by decide) rfl (by decide)
  rw [← hS2] at O
  refine s_b e1 ?_
  cases he
  exact ⟨_, rfl, rfl, O⟩
set_option maxRecDepth 100000 in
set_option maxHeartbeats 4000000 in
theorem N_X11_fresh {n a : Nat} {h0 : jq_H} {zs : Int32 × ob_S} {p0 : Int32} {S : ob_S} {h : jq_H} (O : OF a 21 10 sh_R h0 S h) (he : rX11_fresh n S p0 = some zs) : ∃ z, X11_fresh n h a p0 = some z ∧ (z.1 = zs.1 ∧ OF a 21 10 sh_R h0 zs.2 z.2) := by
  unfold rX11_fresh at he
  unfold X11_fresh
  obtain ⟨z1, hz1, he⟩ := jq_b he
  have hOz1 := O.1.ci
  obtain ⟨⟨rz1, h⟩, e1, e2, O⟩ := N_X11_isGuesser O hz1
  dsimp only at e2 O
  subst e2
  refine s_b ((if_pos hOz1).trans e1) ?_
  by_cases hc2 : z1.1 = 0
  · have he := jq_t hc2 he
    refine s_t hc2 ?_
    cases he
    exact ⟨_, rfl, rfl, O⟩
  have he := jq_n hc2 he
  refine s_n hc2 ?_
  refine s_b (ob_gR O.1 (k := 18) rfl (by decide)) ?_
  obtain ⟨hg4, he⟩ := jq_ite he
  obtain ⟨x3, hx3, he⟩ := jq_ln he
  refine s_b ((ob_ld O.1 (k := 18) rfl hg4).trans (congrArg some hx3.symm)) ?_
  obtain ⟨z5, hz5, he⟩ := jq_b he
  have hOz5 := O.1.ci
  obtain ⟨h, e1, O⟩ := N_X11_begin O hz5
  refine s_b ((if_pos hOz5).trans e1) ?_
  cases he
  exact ⟨_, rfl, rfl, O⟩
set_option maxRecDepth 100000 in
set_option maxHeartbeats 4000000 in
theorem NX11_guess_b123 {n a : Nat} {h0 : jq_H} {zs : Int32 × ob_S} {v1 : Int32} {S : ob_S} {h : jq_H} (O : OF a 21 10 sh_R h0 S h) (he : rX11_guess_b123 n v1 S = some zs) : ∃ z, X11_guess_b123 n a v1 h = some z ∧ (z.1 = zs.1 ∧ OF a 21 10 sh_R h0 zs.2 z.2) := by
  unfold rX11_guess_b123 at he
  unfold X11_guess_b123
  refine s_b (ob_gR O.1 (k := 22) rfl (by decide)) ?_
  obtain ⟨hg2, he⟩ := jq_ite he
  obtain ⟨x1, hx1, he⟩ := jq_ln he
  refine s_b ((ob_ld O.1 (k := 22) rfl hg2).trans (congrArg some hx1.symm)) ?_
  cases he
  exact ⟨_, rfl, rfl, O⟩
set_option maxRecDepth 100000 in
set_option maxHeartbeats 4000000 in
theorem NX11_guess_b116 {n a : Nat} {h0 : jq_H} {zs : Int32 × ob_S} {KB : Int32 → Int32 → Int32 → ob_S → Option (Int32 × ob_S)} {KBh : Nat → Int32 → Int32 → Int32 → jq_H → Option (Int32 × jq_H)} {K123 : Int32 → ob_S → Option (Int32 × ob_S)} {K123h : Nat → Int32 → jq_H → Option (Int32 × jq_H)} (hKB : ∀ (u1 : Int32) (u2 : Int32) (u3 : Int32) (S : ob_S) (h : jq_H), OF a 21 10 sh_R h0 S h → KB u1 u2 u3 S = some zs → ∃ z, KBh a u1 u2 u3 h = some z ∧ (z.1 = zs.1 ∧ OF a 21 10 sh_R h0 zs.2 z.2)) (hK123 : ∀ (u1 : Int32) (S : ob_S) (h : jq_H), OF a 21 10 sh_R h0 S h → K123 u1 S = some zs → ∃ z, K123h a u1 h = some z ∧ (z.1 = zs.1 ∧ OF a 21 10 sh_R h0 zs.2 z.2)) {v1 : Int32} {v2 : Int32} {v3 : Int32} {s1 : Int32} {s2 : Int32} {S : ob_S} {h : jq_H} (O : OF a 21 10 sh_R h0 S h) (he : rX11_guess_b116 n KB K123 v1 v2 v3 s1 s2 S = some zs) : ∃ z, X11_guess_b116 n KBh K123h a v1 v2 v3 (a + 18) s1 s2 h = some z ∧ (z.1 = zs.1 ∧ OF a 21 10 sh_R h0 zs.2 z.2) := by
  unfold rX11_guess_b116 at he
  unfold X11_guess_b116
  obtain ⟨hg4, he⟩ := jq_ite he
  obtain ⟨S3, hS3, he⟩ := jq_ln he
  obtain ⟨h, e1, O⟩ := ob_st (k := 22) (x := s2) O ok_R rfl hg4
  rw [← hS3] at O
  refine s_b e1 ?_
  obtain ⟨x5, hx5, he⟩ := jq_ln he
  refine s_l hx5 ?_
  exact hKB _ _ _ _ _ O he
set_option maxRecDepth 100000 in
set_option maxHeartbeats 4000000 in
theorem NX11_guess_b113 {n a : Nat} {h0 : jq_H} {zs : Int32 × ob_S} {KB : Int32 → Int32 → Int32 → ob_S → Option (Int32 × ob_S)} {KBh : Nat → Int32 → Int32 → Int32 → jq_H → Option (Int32 × jq_H)} {K123 : Int32 → ob_S → Option (Int32 × ob_S)} {K123h : Nat → Int32 → jq_H → Option (Int32 × jq_H)} (hKB : ∀ (u1 : Int32) (u2 : Int32) (u3 : Int32) (S : ob_S) (h : jq_H), OF a 21 10 sh_R h0 S h → KB u1 u2 u3 S = some zs → ∃ z, KBh a u1 u2 u3 h = some z ∧ (z.1 = zs.1 ∧ OF a 21 10 sh_R h0 zs.2 z.2)) (hK123 : ∀ (u1 : Int32) (S : ob_S) (h : jq_H), OF a 21 10 sh_R h0 S h → K123 u1 S = some zs → ∃ z, K123h a u1 h = some z ∧ (z.1 = zs.1 ∧ OF a 21 10 sh_R h0 zs.2 z.2)) {v1 : Int32} {v2 : Int32} {v3 : Int32} {s1 : Int32} {s3 : Int32} {s4 : Int32} {s5 : Int32} {s6 : Int32} {S : ob_S} {h : jq_H} (O : OF a 21 10 sh_R h0 S h) (he : rX11_guess_b113 n KB K123 v1 v2 v3 s1 s3 s4 s5 s6 S = some zs) : ∃ z, X11_guess_b113 n KBh K123h a v1 v2 v3 (a + 18) s1 a s3 s4 s5 s6 h = some z ∧ (z.1 = zs.1 ∧ OF a 21 10 sh_R h0 zs.2 z.2) := by
  unfold rX11_guess_b113 at he
  unfold X11_guess_b113
  obtain ⟨z6, hz6, he⟩ := jq_b he
  have hOz6 := O.1.ci
  obtain ⟨⟨rz6, h⟩, e1, e2, O⟩ := N_X11_own O hz6
  dsimp only at e2 O
  subst e2
  refine s_b ((if_pos hOz6).trans e1) ?_
  exact NX11_guess_b116 (n := n) hKB hK123 O he
set_option maxRecDepth 100000 in
set_option maxHeartbeats 4000000 in
theorem NX11_guess_b93 {n a : Nat} {h0 : jq_H} {zs : Int32 × ob_S} {KB : Int32 → Int32 → Int32 → ob_S → Option (Int32 × ob_S)} {KBh : Nat → Int32 → Int32 → Int32 → jq_H → Option (Int32 × jq_H)} {K123 : Int32 → ob_S → Option (Int32 × ob_S)} {K123h : Nat → Int32 → jq_H → Option (Int32 × jq_H)} (hKB : ∀ (u1 : Int32) (u2 : Int32) (u3 : Int32) (S : ob_S) (h : jq_H), OF a 21 10 sh_R h0 S h → KB u1 u2 u3 S = some zs → ∃ z, KBh a u1 u2 u3 h = some z ∧ (z.1 = zs.1 ∧ OF a 21 10 sh_R h0 zs.2 z.2)) (hK123 : ∀ (u1 : Int32) (S : ob_S) (h : jq_H), OF a 21 10 sh_R h0 S h → K123 u1 S = some zs → ∃ z, K123h a u1 h = some z ∧ (z.1 = zs.1 ∧ OF a 21 10 sh_R h0 zs.2 z.2)) {v1 : Int32} {v2 : Int32} {v3 : Int32} {v4 : Int32} {s1 : Int32} {s3 : Int32} {s4 : Int32} {s5 : Int32} {S : ob_S} {h : jq_H} (O : OF a 21 10 sh_R h0 S h) (he : rX11_guess_b93 n KB K123 v1 v2 v3 v4 s1 s3 s4 s5 S = some zs) : ∃ z, X11_guess_b93 n KBh K123h a v1 v2 v3 v4 (a + 18) s1 a s3 s4 s5 h = some z ∧ (z.1 = zs.1 ∧ OF a 21 10 sh_R h0 zs.2 z.2) := by
  unfold rX11_guess_b93 at he
  unfold X11_guess_b93
  by_cases hc7 : v4 = 0
  · have he := jq_t hc7 he
    refine s_t hc7 ?_
    exact NX11_guess_b113 (n := n) hKB hK123 O he
  have he := jq_n hc7 he
  refine s_n hc7 ?_
  refine s_b (ob_gR O.1 (k := 22) rfl (by decide)) ?_
  refine s_b (ob_gR O.1 (k := 15) rfl (by decide)) ?_
  obtain ⟨hg9, he⟩ := jq_ite he
  obtain ⟨x8, hx8, he⟩ := jq_ln he
  refine s_b ((ob_ld O.1 (k := 15) rfl hg9).trans (congrArg some hx8.symm)) ?_
  obtain ⟨hg11, he⟩ := jq_ite he
  obtain ⟨x10, hx10, he⟩ := jq_ln he
  refine s_b ((ob_ld O.1 (k := 22) rfl hg11).trans (congrArg some hx10.symm)) ?_
  exact NX11_guess_b113 (n := n) hKB hK123 O he
set_option maxRecDepth 100000 in
set_option maxHeartbeats 4000000 in
theorem NX11_guess_b40 {n a : Nat} {h0 : jq_H} {zs : Int32 × ob_S} {KB : Int32 → Int32 → Int32 → ob_S → Option (Int32 × ob_S)} {KBh : Nat → Int32 → Int32 → Int32 → jq_H → Option (Int32 × jq_H)} {K123 : Int32 → ob_S → Option (Int32 × ob_S)} {K123h : Nat → Int32 → jq_H → Option (Int32 × jq_H)} (hKB : ∀ (u1 : Int32) (u2 : Int32) (u3 : Int32) (S : ob_S) (h : jq_H), OF a 21 10 sh_R h0 S h → KB u1 u2 u3 S = some zs → ∃ z, KBh a u1 u2 u3 h = some z ∧ (z.1 = zs.1 ∧ OF a 21 10 sh_R h0 zs.2 z.2)) (hK123 : ∀ (u1 : Int32) (S : ob_S) (h : jq_H), OF a 21 10 sh_R h0 S h → K123 u1 S = some zs → ∃ z, K123h a u1 h = some z ∧ (z.1 = zs.1 ∧ OF a 21 10 sh_R h0 zs.2 z.2)) {v1 : Int32} {v2 : Int32} {v3 : Int32} {s0 : Int32} {S : ob_S} {h : jq_H} (O : OF a 21 10 sh_R h0 S h) (he : rX11_guess_b40 n KB K123 v1 v2 v3 s0 S = some zs) : ∃ z, X11_guess_b40 n KBh K123h a v1 v2 v3 s0 h = some z ∧ (z.1 = zs.1 ∧ OF a 21 10 sh_R h0 zs.2 z.2) := by
  unfold rX11_guess_b40 at he
  unfold X11_guess_b40
  refine s_b (ob_gR O.1 (k := 17) rfl (by decide)) ?_
  obtain ⟨hg13, he⟩ := jq_ite he
  obtain ⟨x12, hx12, he⟩ := jq_ln he
  refine s_b ((ob_ld O.1 (k := 17) rfl hg13).trans (congrArg some hx12.symm)) ?_
  refine s_b (ob_gR O.1 (k := 22) rfl (by decide)) ?_
  by_cases hc14 : x12 < 0
  · have he := jq_t hc14 he
    refine s_t hc14 ?_
    by_cases hc15 : s0 = 0
    · have he := jq_t hc15 he
      refine s_t hc15 ?_
      exact NX11_guess_b93 (n := n) hKB hK123 O he
    have he := jq_n hc15 he
    refine s_n hc15 ?_
    refine s_b (ob_gR O.1 (k := 22) rfl (by decide)) ?_
    refine s_b (ob_gR O.1 (k := 14) rfl (by decide)) ?_
    obtain ⟨hg17, he⟩ := jq_ite he
    obtain ⟨x16, hx16, he⟩ := jq_ln he
    refine s_b ((ob_ld O.1 (k := 14) rfl hg17).trans (congrArg some hx16.symm)) ?_
    obtain ⟨hg19, he⟩ := jq_ite he
    obtain ⟨x18, hx18, he⟩ := jq_ln he
    refine s_b ((ob_ld O.1 (k := 22) rfl hg19).trans (congrArg some hx18.symm)) ?_
    exact NX11_guess_b93 (n := n) hKB hK123 O he
  have he := jq_n hc14 he
  refine s_n hc14 ?_
  exact NX11_guess_b116 (n := n) hKB hK123 O he
set_option maxRecDepth 100000 in
set_option maxHeartbeats 4000000 in
theorem NX11_guess_b19 {n a : Nat} {h0 : jq_H} {zs : Int32 × ob_S} {KB : Int32 → Int32 → Int32 → ob_S → Option (Int32 × ob_S)} {KBh : Nat → Int32 → Int32 → Int32 → jq_H → Option (Int32 × jq_H)} {K123 : Int32 → ob_S → Option (Int32 × ob_S)} {K123h : Nat → Int32 → jq_H → Option (Int32 × jq_H)} (hKB : ∀ (u1 : Int32) (u2 : Int32) (u3 : Int32) (S : ob_S) (h : jq_H), OF a 21 10 sh_R h0 S h → KB u1 u2 u3 S = some zs → ∃ z, KBh a u1 u2 u3 h = some z ∧ (z.1 = zs.1 ∧ OF a 21 10 sh_R h0 zs.2 z.2)) (hK123 : ∀ (u1 : Int32) (S : ob_S) (h : jq_H), OF a 21 10 sh_R h0 S h → K123 u1 S = some zs → ∃ z, K123h a u1 h = some z ∧ (z.1 = zs.1 ∧ OF a 21 10 sh_R h0 zs.2 z.2)) {v1 : Int32} {v2 : Int32} {v3 : Int32} {S : ob_S} {h : jq_H} (O : OF a 21 10 sh_R h0 S h) (he : rX11_guess_b19 n KB K123 v1 v2 v3 S = some zs) : ∃ z, X11_guess_b19 n KBh K123h a v1 v2 v3 h = some z ∧ (z.1 = zs.1 ∧ OF a 21 10 sh_R h0 zs.2 z.2) := by
  unfold rX11_guess_b19 at he
  unfold X11_guess_b19
  by_cases hc20 : v1 < v3
  · have he := jq_t hc20 he
    refine s_t hc20 ?_
    exact hK123 _ _ _ O he
  have he := jq_n hc20 he
  refine s_n hc20 ?_
  refine s_b (ob_gR O.1 (k := 13) rfl (by decide)) ?_
  obtain ⟨hg22, he⟩ := jq_ite he
  obtain ⟨x21, hx21, he⟩ := jq_ln he
  refine s_b ((ob_ld O.1 (k := 13) rfl hg22).trans (congrArg some hx21.symm)) ?_
  by_cases hc23 : x21 = 7
  · have he := jq_t hc23 he
    refine s_t hc23 ?_
    exact NX11_guess_b40 (n := n) hKB hK123 O he
  have he := jq_n hc23 he
  refine s_n hc23 ?_
  exact NX11_guess_b40 (n := n) hKB hK123 O he
set_option maxRecDepth 100000 in
set_option maxHeartbeats 4000000 in
theorem NX11_guess_l19 {n a : Nat} {h0 : jq_H} {zs : Int32 × ob_S} {K123 : Int32 → ob_S → Option (Int32 × ob_S)} {K123h : Nat → Int32 → jq_H → Option (Int32 × jq_H)} (hK123 : ∀ (u1 : Int32) (S : ob_S) (h : jq_H), OF a 21 10 sh_R h0 S h → K123 u1 S = some zs → ∃ z, K123h a u1 h = some z ∧ (z.1 = zs.1 ∧ OF a 21 10 sh_R h0 zs.2 z.2)) :
    ∀ (k : Nat) (v1 : Int32) (v2 : Int32) (v3 : Int32) (S : ob_S) (h : jq_H), OF a 21 10 sh_R h0 S h → rX11_guess_l19 n K123 k v1 v2 v3 S = some zs → ∃ z, X11_guess_l19 n K123h k a v1 v2 v3 h = some z ∧ (z.1 = zs.1 ∧ OF a 21 10 sh_R h0 zs.2 z.2) := by
  intro k
  induction k with
  | zero => intro v1 v2 v3 S h O he; cases (show (none : Option (Int32 × ob_S)) = some zs from he)
  | succ k ih =>
    intro v1 v2 v3 S h O he
    exact NX11_guess_b19 (n := n) (KB := rX11_guess_l19 n K123 k) (KBh := X11_guess_l19 n K123h k) ih hK123 O he
set_option maxRecDepth 100000 in
set_option maxHeartbeats 4000000 in
theorem NX11_guess_b15 {n a : Nat} {h0 : jq_H} {zs : Int32 × ob_S} {S : ob_S} {h : jq_H} (O : OF a 21 10 sh_R h0 S h) (he : rX11_guess_b15 n S = some zs) : ∃ z, X11_guess_b15 n h = some z ∧ (z.1 = zs.1 ∧ OF a 21 10 sh_R h0 zs.2 z.2) := by
  unfold rX11_guess_b15 at he
  unfold X11_guess_b15
  cases he
  exact ⟨_, rfl, rfl, O⟩
set_option maxRecDepth 100000 in
set_option maxHeartbeats 4000000 in
theorem N_X11_guess {n a : Nat} {h0 : jq_H} {zs : Int32 × ob_S} {p0 : Int32} {p1 : Int32} {S : ob_S} {h : jq_H} (O : OF a 21 10 sh_R h0 S h) (he : rX11_guess n S p0 p1 = some zs) : ∃ z, X11_guess n h a p0 p1 = some z ∧ (z.1 = zs.1 ∧ OF a 21 10 sh_R h0 zs.2 z.2) := by
  unfold rX11_guess at he
  unfold X11_guess
  obtain ⟨z24, hz24, he⟩ := jq_b he
  have hOz24 := O.1.ci
  obtain ⟨⟨rz24, h⟩, e1, e2, O⟩ := N_X11_isGuesser O hz24
  dsimp only at e2 O
  subst e2
  refine s_b ((if_pos hOz24).trans e1) ?_
  by_cases hc25 : z24.1 = 0
  · have he := jq_t hc25 he
    refine s_t hc25 ?_
    exact NX11_guess_b15 (n := n) O he
  have he := jq_n hc25 he
  refine s_n hc25 ?_
  obtain ⟨x26, hx26, he⟩ := jq_ln he
  refine s_b (p_isPlaceR _ _ _) ?_
  rw [← hx26]
  by_cases hc27 : x26 = 0
  · have he := jq_t hc27 he
    refine s_t hc27 ?_
    exact NX11_guess_b15 (n := n) O he
  have he := jq_n hc27 he
  refine s_n hc27 ?_
  exact NX11_guess_l19 (n := n) (fun w1 SS hh O he => by
    exact NX11_guess_b123 (n := n) O he) n _ _ _ _ _ O he
set_option maxRecDepth 100000 in
set_option maxHeartbeats 4000000 in
theorem NX11_guesser_b123 {n a : Nat} {h0 : jq_H} {zs : Int32 × ob_S} {S : ob_S} {h : jq_H} (O : OF a 21 10 sh_R h0 S h) (he : rX11_guesser_b123 n S = some zs) : ∃ z, X11_guesser_b123 n a h = some z ∧ (z.1 = zs.1 ∧ OF a 21 10 sh_R h0 zs.2 z.2) := by
  unfold rX11_guesser_b123 at he
  unfold X11_guesser_b123
  obtain ⟨x1, hx1, he⟩ := jq_ln he
  refine s_b ((ob_gI O.1 (k := 12) rfl (by decide)).trans (congrArg some hx1.symm)) ?_
  obtain ⟨z2, hz2, he⟩ := jq_b he
  have hOz2 := O.1.ci
  obtain ⟨h, e1, O⟩ := N_X11_begin O hz2
  refine s_b ((if_pos hOz2).trans e1) ?_
  obtain ⟨x3, hx3, he⟩ := jq_ln he
  refine s_b ((ob_gI O.1 (k := 12) rfl (by decide)).trans (congrArg some hx3.symm)) ?_
  obtain ⟨S4, hS4, he⟩ := jq_ln he
  obtain ⟨h, e1, O⟩ := ob_pI (k := 12) (cs := [10]) (x := (x3 + 1)) O ok_R (by decide) rfl (by decide)
  rw [← hS4] at O
  refine s_b e1 ?_
  obtain ⟨x5, hx5, he⟩ := jq_ln he
  refine s_b ((ob_gI O.1 (k := 12) rfl (by decide)).trans (congrArg some hx5.symm)) ?_
  cases he
  exact ⟨_, rfl, rfl, O⟩
set_option maxRecDepth 100000 in
set_option maxHeartbeats 4000000 in
theorem NX11_guesser_b94 {n a : Nat} {h0 : jq_H} {zs : Int32 × ob_S} {KB : Int32 → ob_S → Option (Int32 × ob_S)} {KBh : Nat → Int32 → jq_H → Option (Int32 × jq_H)} {K123 : ob_S → Option (Int32 × ob_S)} {K123h : Nat → jq_H → Option (Int32 × jq_H)} (hKB : ∀ (u5 : Int32) (S : ob_S) (h : jq_H), OF a 21 10 sh_R h0 S h → KB u5 S = some zs → ∃ z, KBh a u5 h = some z ∧ (z.1 = zs.1 ∧ OF a 21 10 sh_R h0 zs.2 z.2)) (hK123 : ∀ (S : ob_S) (h : jq_H), OF a 21 10 sh_R h0 S h → K123 S = some zs → ∃ z, K123h a h = some z ∧ (z.1 = zs.1 ∧ OF a 21 10 sh_R h0 zs.2 z.2)) {v5 : Int32} {S : ob_S} {h : jq_H} (O : OF a 21 10 sh_R h0 S h) (he : rX11_guesser_b94 n KB K123 v5 S = some zs) : ∃ z, X11_guesser_b94 n KBh K123h a v5 h = some z ∧ (z.1 = zs.1 ∧ OF a 21 10 sh_R h0 zs.2 z.2) := by
  unfold rX11_guesser_b94 at he
  unfold X11_guesser_b94
  by_cases hc6 : 64 ≤ v5
  · have he := jq_t hc6 he
    refine s_t hc6 ?_
    exact hK123 _ _ O he
  have he := jq_n hc6 he
  refine s_n hc6 ?_
  refine s_b (ob_gR O.1 (k := 17) rfl (by decide)) ?_
  obtain ⟨x7, hx7, he⟩ := jq_ln he
  refine s_b ((ob_gI O.1 (k := 12) rfl (by decide)).trans (congrArg some hx7.symm)) ?_
  obtain ⟨hg9, he⟩ := jq_ite he
  obtain ⟨S8, hS8, he⟩ := jq_ln he
  obtain ⟨h, e1, O⟩ := ob_st (k := 17) (x := (-1)) O ok_R rfl hg9
  rw [← hS8] at O
  refine s_b e1 ?_
  obtain ⟨x10, hx10, he⟩ := jq_ln he
  refine s_l hx10 ?_
  exact hKB _ _ _ O he
set_option maxRecDepth 100000 in
set_option maxHeartbeats 4000000 in
theorem NX11_guesser_l94 {n a : Nat} {h0 : jq_H} {zs : Int32 × ob_S} {K123 : ob_S → Option (Int32 × ob_S)} {K123h : Nat → jq_H → Option (Int32 × jq_H)} (hK123 : ∀ (S : ob_S) (h : jq_H), OF a 21 10 sh_R h0 S h → K123 S = some zs → ∃ z, K123h a h = some z ∧ (z.1 = zs.1 ∧ OF a 21 10 sh_R h0 zs.2 z.2)) :
    ∀ (k : Nat) (v5 : Int32) (S : ob_S) (h : jq_H), OF a 21 10 sh_R h0 S h → rX11_guesser_l94 n K123 k v5 S = some zs → ∃ z, X11_guesser_l94 n K123h k a v5 h = some z ∧ (z.1 = zs.1 ∧ OF a 21 10 sh_R h0 zs.2 z.2) := by
  intro k
  induction k with
  | zero => intro v5 S h O he; cases (show (none : Option (Int32 × ob_S)) = some zs from he)
  | succ k ih =>
    intro v5 S h O he
    exact NX11_guesser_b94 (n := n) (KB := rX11_guesser_l94 n K123 k) (KBh := X11_guesser_l94 n K123h k) ih hK123 O he
set_option maxRecDepth 100000 in
set_option maxHeartbeats 4000000 in
theorem NX11_guesser_b24 {n a : Nat} {h0 : jq_H} {zs : Int32 × ob_S} {v1 : Int32} {v2 : Int32} {v3 : Int32} {v4 : Int32} {S : ob_S} {h : jq_H} (O : OF a 21 10 sh_R h0 S h) (he : rX11_guesser_b24 n v1 v2 v3 v4 S = some zs) : ∃ z, X11_guesser_b24 n a v1 v2 v3 v4 h = some z ∧ (z.1 = zs.1 ∧ OF a 21 10 sh_R h0 zs.2 z.2) := by
  unfold rX11_guesser_b24 at he
  unfold X11_guesser_b24
  obtain ⟨x11, hx11, he⟩ := jq_ln he
  refine s_b (p_fitsR _ _ _ _ _ _) ?_
  rw [← hx11]
  by_cases hc12 : x11 = 0
  · have he := jq_t hc12 he
    refine s_t hc12 ?_
    cases he
    exact ⟨_, rfl, rfl, O⟩
  have he := jq_n hc12 he
  refine s_n hc12 ?_
  obtain ⟨x13, hx13, he⟩ := jq_ln he
  refine s_b ((ob_gI O.1 (k := 12) rfl (by decide)).trans (congrArg some hx13.symm)) ?_
  by_cases hc14 : x13 = 8
  · have he := jq_t hc14 he
    refine s_t hc14 ?_
    cases he
    exact ⟨_, rfl, rfl, O⟩
  have he := jq_n hc14 he
  refine s_n hc14 ?_
  refine s_b (ob_gR O.1 (k := 13) rfl (by decide)) ?_
  obtain ⟨x15, hx15, he⟩ := jq_ln he
  refine s_b ((ob_gI O.1 (k := 12) rfl (by decide)).trans (congrArg some hx15.symm)) ?_
  obtain ⟨hg17, he⟩ := jq_ite he
  obtain ⟨S16, hS16, he⟩ := jq_ln he
  obtain ⟨h, e1, O⟩ := ob_st (k := 13) (x := v1) O ok_R rfl hg17
  rw [← hS16] at O
  refine s_b e1 ?_
  refine s_b (ob_gR O.1 (k := 14) rfl (by decide)) ?_
  obtain ⟨x18, hx18, he⟩ := jq_ln he
  refine s_b ((ob_gI O.1 (k := 12) rfl (by decide)).trans (congrArg some hx18.symm)) ?_
  obtain ⟨hg20, he⟩ := jq_ite he
  obtain ⟨S19, hS19, he⟩ := jq_ln he
  obtain ⟨h, e1, O⟩ := ob_st (k := 14) (x := v2) O ok_R rfl hg20
  rw [← hS19] at O
  refine s_b e1 ?_
  refine s_b (ob_gR O.1 (k := 15) rfl (by decide)) ?_
  obtain ⟨x21, hx21, he⟩ := jq_ln he
  refine s_b ((ob_gI O.1 (k := 12) rfl (by decide)).trans (congrArg some hx21.symm)) ?_
  obtain ⟨hg23, he⟩ := jq_ite he
  obtain ⟨S22, hS22, he⟩ := jq_ln he
  obtain ⟨h, e1, O⟩ := ob_st (k := 15) (x := v3) O ok_R rfl hg23
  rw [← hS22] at O
  refine s_b e1 ?_
  refine s_b (ob_gR O.1 (k := 16) rfl (by decide)) ?_
  obtain ⟨x24, hx24, he⟩ := jq_ln he
  refine s_b ((ob_gI O.1 (k := 12) rfl (by decide)).trans (congrArg some hx24.symm)) ?_
  obtain ⟨hg26, he⟩ := jq_ite he
  obtain ⟨S25, hS25, he⟩ := jq_ln he
  obtain ⟨h, e1, O⟩ := ob_st (k := 16) (x := v4) O ok_R rfl hg26
  rw [← hS25] at O
  refine s_b e1 ?_
  exact NX11_guesser_l94 (n := n) (fun SS hh O he => by
    exact NX11_guesser_b123 (n := n) O he) n _ _ _ O he
set_option maxRecDepth 100000 in
set_option maxHeartbeats 4000000 in
theorem NX11_guesser_b22 {n a : Nat} {h0 : jq_H} {zs : Int32 × ob_S} {S : ob_S} {h : jq_H} (O : OF a 21 10 sh_R h0 S h) (he : rX11_guesser_b22 n S = some zs) : ∃ z, X11_guesser_b22 n h = some z ∧ (z.1 = zs.1 ∧ OF a 21 10 sh_R h0 zs.2 z.2) := by
  unfold rX11_guesser_b22 at he
  unfold X11_guesser_b22
  cases he
  exact ⟨_, rfl, rfl, O⟩
set_option maxRecDepth 100000 in
set_option maxHeartbeats 4000000 in
theorem N_X11_guesser {n a : Nat} {h0 : jq_H} {zs : Int32 × ob_S} {p0 : Int32} {p1 : Int32} {p2 : Int32} {p3 : Int32} {S : ob_S} {h : jq_H} (O : OF a 21 10 sh_R h0 S h) (he : rX11_guesser n S p0 p1 p2 p3 = some zs) : ∃ z, X11_guesser n h a p0 p1 p2 p3 = some z ∧ (z.1 = zs.1 ∧ OF a 21 10 sh_R h0 zs.2 z.2) := by
  unfold rX11_guesser at he
  unfold X11_guesser
  by_cases hc27 : p0 = 7
  · have he := jq_t hc27 he
    refine s_t hc27 ?_
    obtain ⟨z28, hz28, he⟩ := jq_b he
    have hOz28 := O.1.ci
    obtain ⟨⟨rz28, h⟩, e1, e2, O⟩ := N_X11_isGuesser O hz28
    dsimp only at e2 O
    subst e2
    refine s_b ((if_pos hOz28).trans e1) ?_
    by_cases hc29 : z28.1 = 0
    · have he := jq_t hc29 he
      refine s_t hc29 ?_
      exact NX11_guesser_b22 (n := n) O he
    have he := jq_n hc29 he
    refine s_n hc29 ?_
    obtain ⟨z30, hz30, he⟩ := jq_b he
    have hOz30 := O.1.ci
    obtain ⟨⟨rz30, h⟩, e1, e2, O⟩ := N_X11_isGuesser O hz30
    dsimp only at e2 O
    subst e2
    refine s_b ((if_pos hOz30).trans e1) ?_
    by_cases hc31 : z30.1 = 0
    · have he := jq_t hc31 he
      refine s_t hc31 ?_
      exact NX11_guesser_b22 (n := n) O he
    have he := jq_n hc31 he
    refine s_n hc31 ?_
    exact NX11_guesser_b24 (n := n) O he
  have he := jq_n hc27 he
  refine s_n hc27 ?_
  exact NX11_guesser_b24 (n := n) O he
set_option maxRecDepth 100000 in
set_option maxHeartbeats 4000000 in
theorem NX11_hint_b15 {n a : Nat} {h0 : jq_H} {zs : Int32 × ob_S} {S : ob_S} {h : jq_H} (O : OF a 21 10 sh_R h0 S h) (he : rX11_hint_b15 n S = some zs) : ∃ z, X11_hint_b15 n h = some z ∧ (z.1 = zs.1 ∧ OF a 21 10 sh_R h0 zs.2 z.2) := by
  unfold rX11_hint_b15 at he
  unfold X11_hint_b15
  cases he
  exact ⟨_, rfl, rfl, O⟩
set_option maxRecDepth 100000 in
set_option maxHeartbeats 4000000 in
theorem N_X11_hint {n a : Nat} {h0 : jq_H} {zs : Int32 × ob_S} {p0 : Int32} {p1 : Int32} {p2 : Int32} {S : ob_S} {h : jq_H} (O : OF a 21 10 sh_R h0 S h) (he : rX11_hint n S p0 p1 p2 = some zs) : ∃ z, X11_hint n h a p0 p1 p2 = some z ∧ (z.1 = zs.1 ∧ OF a 21 10 sh_R h0 zs.2 z.2) := by
  unfold rX11_hint at he
  unfold X11_hint
  obtain ⟨z1, hz1, he⟩ := jq_b he
  have hOz1 := O.1.ci
  obtain ⟨⟨rz1, h⟩, e1, e2, O⟩ := N_X11_isGuesser O hz1
  dsimp only at e2 O
  subst e2
  refine s_b ((if_pos hOz1).trans e1) ?_
  by_cases hc2 : z1.1 = 0
  · have he := jq_t hc2 he
    refine s_t hc2 ?_
    exact NX11_hint_b15 (n := n) O he
  have he := jq_n hc2 he
  refine s_n hc2 ?_
  obtain ⟨x3, hx3, he⟩ := jq_ln he
  refine s_b (p_isPlaceR _ _ _) ?_
  rw [← hx3]
  by_cases hc4 : x3 = 0
  · have he := jq_t hc4 he
    refine s_t hc4 ?_
    exact NX11_hint_b15 (n := n) O he
  have he := jq_n hc4 he
  refine s_n hc4 ?_
  obtain ⟨x5, hx5, he⟩ := jq_ln he
  refine s_b (p_in _ _ _ _ _) ?_
  rw [← hx5]
  by_cases hc6 : x5 = 0
  · have he := jq_t hc6 he
    refine s_t hc6 ?_
    cases he
    exact ⟨_, rfl, rfl, O⟩
  have he := jq_n hc6 he
  refine s_n hc6 ?_
  refine s_b (ob_gR O.1 (k := 17) rfl (by decide)) ?_
  obtain ⟨hg8, he⟩ := jq_ite he
  obtain ⟨x7, hx7, he⟩ := jq_ln he
  refine s_b ((ob_ld O.1 (k := 17) rfl hg8).trans (congrArg some hx7.symm)) ?_
  refine s_b (ob_gR O.1 (k := 17) rfl (by decide)) ?_
  obtain ⟨hg10, he⟩ := jq_ite he
  obtain ⟨S9, hS9, he⟩ := jq_ln he
  obtain ⟨h, e1, O⟩ := ob_st (k := 17) (x := p2) O ok_R rfl hg10
  rw [← hS9] at O
  refine s_b e1 ?_
  cases he
  exact ⟨_, rfl, rfl, O⟩
set_option maxRecDepth 100000 in
set_option maxHeartbeats 4000000 in
theorem NX11_inside_b289 {n a : Nat} {h0 : jq_H} {zs : Int32 × ob_S} {s0 : Int32} {S : ob_S} {h : jq_H} (O : OF a 21 10 sh_R h0 S h) (he : rX11_inside_b289 n s0 S = some zs) : ∃ z, X11_inside_b289 n s0 h = some z ∧ (z.1 = zs.1 ∧ OF a 21 10 sh_R h0 zs.2 z.2) := by
  unfold rX11_inside_b289 at he
  unfold X11_inside_b289
  cases he
  exact ⟨_, rfl, rfl, O⟩
set_option maxRecDepth 100000 in
set_option maxHeartbeats 4000000 in
theorem NX11_inside_b286 {n a : Nat} {h0 : jq_H} {zs : Int32 × ob_S} {S : ob_S} {h : jq_H} (O : OF a 21 10 sh_R h0 S h) (he : rX11_inside_b286 n S = some zs) : ∃ z, X11_inside_b286 n h = some z ∧ (z.1 = zs.1 ∧ OF a 21 10 sh_R h0 zs.2 z.2) := by
  unfold rX11_inside_b286 at he
  unfold X11_inside_b286
  exact NX11_inside_b289 (n := n) O he
set_option maxRecDepth 100000 in
set_option maxHeartbeats 4000000 in
theorem NX11_inside_b252 {n a : Nat} {h0 : jq_H} {zs : Int32 × ob_S} {v1 : Int32} {v2 : Int32} {v3 : Int32} {v4 : Int32} {S : ob_S} {h : jq_H} (O : OF a 21 10 sh_R h0 S h) (he : rX11_inside_b252 n v1 v2 v3 v4 S = some zs) : ∃ z, X11_inside_b252 n a v1 v2 v3 v4 h = some z ∧ (z.1 = zs.1 ∧ OF a 21 10 sh_R h0 zs.2 z.2) := by
  unfold rX11_inside_b252 at he
  unfold X11_inside_b252
  by_cases hc1 : v2 = 0
  · have he := jq_t hc1 he
    refine s_t hc1 ?_
    refine s_b (ob_gR O.1 (k := 14) rfl (by decide)) ?_
    obtain ⟨hg3, he⟩ := jq_ite he
    obtain ⟨x2, hx2, he⟩ := jq_ln he
    refine s_b ((ob_ld O.1 (k := 14) rfl hg3).trans (congrArg some hx2.symm)) ?_
    obtain ⟨x4, hx4, he⟩ := jq_ln he
    refine s_b (p_in _ _ _ _ _) ?_
    rw [← hx4]
    by_cases hc5 : x4 = 0
    · have he := jq_t hc5 he
      refine s_t hc5 ?_
      exact NX11_inside_b286 (n := n) O he
    have he := jq_n hc5 he
    refine s_n hc5 ?_
    refine s_b (ob_gR O.1 (k := 18) rfl (by decide)) ?_
    obtain ⟨hg7, he⟩ := jq_ite he
    obtain ⟨x6, hx6, he⟩ := jq_ln he
    refine s_b ((ob_ld O.1 (k := 18) rfl hg7).trans (congrArg some hx6.symm)) ?_
    exact NX11_inside_b289 (n := n) O he
  have he := jq_n hc1 he
  refine s_n hc1 ?_
  exact NX11_inside_b286 (n := n) O he
set_option maxRecDepth 100000 in
set_option maxHeartbeats 4000000 in
theorem NX11_inside_b251 {n a : Nat} {h0 : jq_H} {zs : Int32 × ob_S} {s0 : Int32} {S : ob_S} {h : jq_H} (O : OF a 21 10 sh_R h0 S h) (he : rX11_inside_b251 n s0 S = some zs) : ∃ z, X11_inside_b251 n s0 h = some z ∧ (z.1 = zs.1 ∧ OF a 21 10 sh_R h0 zs.2 z.2) := by
  unfold rX11_inside_b251 at he
  unfold X11_inside_b251
  cases he
  exact ⟨_, rfl, rfl, O⟩
set_option maxRecDepth 100000 in
set_option maxHeartbeats 4000000 in
theorem NX11_inside_b248 {n a : Nat} {h0 : jq_H} {zs : Int32 × ob_S} {S : ob_S} {h : jq_H} (O : OF a 21 10 sh_R h0 S h) (he : rX11_inside_b248 n S = some zs) : ∃ z, X11_inside_b248 n h = some z ∧ (z.1 = zs.1 ∧ OF a 21 10 sh_R h0 zs.2 z.2) := by
  unfold rX11_inside_b248 at he
  unfold X11_inside_b248
  exact NX11_inside_b251 (n := n) O he
set_option maxRecDepth 100000 in
set_option maxHeartbeats 4000000 in
theorem NX11_inside_b213 {n a : Nat} {h0 : jq_H} {zs : Int32 × ob_S} {s0 : Int32} {S : ob_S} {h : jq_H} (O : OF a 21 10 sh_R h0 S h) (he : rX11_inside_b213 n s0 S = some zs) : ∃ z, X11_inside_b213 n s0 h = some z ∧ (z.1 = zs.1 ∧ OF a 21 10 sh_R h0 zs.2 z.2) := by
  unfold rX11_inside_b213 at he
  unfold X11_inside_b213
  cases he
  exact ⟨_, rfl, rfl, O⟩
set_option maxRecDepth 100000 in
set_option maxHeartbeats 4000000 in
theorem NX11_inside_b210 {n a : Nat} {h0 : jq_H} {zs : Int32 × ob_S} {S : ob_S} {h : jq_H} (O : OF a 21 10 sh_R h0 S h) (he : rX11_inside_b210 n S = some zs) : ∃ z, X11_inside_b210 n h = some z ∧ (z.1 = zs.1 ∧ OF a 21 10 sh_R h0 zs.2 z.2) := by
  unfold rX11_inside_b210 at he
  unfold X11_inside_b210
  exact NX11_inside_b213 (n := n) O he
set_option maxRecDepth 100000 in
set_option maxHeartbeats 4000000 in
theorem NX11_inside_b177 {n a : Nat} {h0 : jq_H} {zs : Int32 × ob_S} {s0 : Int32} {S : ob_S} {h : jq_H} (O : OF a 21 10 sh_R h0 S h) (he : rX11_inside_b177 n s0 S = some zs) : ∃ z, X11_inside_b177 n s0 h = some z ∧ (z.1 = zs.1 ∧ OF a 21 10 sh_R h0 zs.2 z.2) := by
  unfold rX11_inside_b177 at he
  unfold X11_inside_b177
  cases he
  exact ⟨_, rfl, rfl, O⟩
set_option maxRecDepth 100000 in
set_option maxHeartbeats 4000000 in
theorem NX11_inside_b174 {n a : Nat} {h0 : jq_H} {zs : Int32 × ob_S} {S : ob_S} {h : jq_H} (O : OF a 21 10 sh_R h0 S h) (he : rX11_inside_b174 n S = some zs) : ∃ z, X11_inside_b174 n h = some z ∧ (z.1 = zs.1 ∧ OF a 21 10 sh_R h0 zs.2 z.2) := by
  unfold rX11_inside_b174 at he
  unfold X11_inside_b174
  exact NX11_inside_b177 (n := n) O he
set_option maxRecDepth 100000 in
set_option maxHeartbeats 4000000 in
theorem NX11_inside_b124 {n a : Nat} {h0 : jq_H} {zs : Int32 × ob_S} {s0 : Int32} {S : ob_S} {h : jq_H} (O : OF a 21 10 sh_R h0 S h) (he : rX11_inside_b124 n s0 S = some zs) : ∃ z, X11_inside_b124 n s0 h = some z ∧ (z.1 = zs.1 ∧ OF a 21 10 sh_R h0 zs.2 z.2) := by
  unfold rX11_inside_b124 at he
  unfold X11_inside_b124
  cases he
  exact ⟨_, rfl, rfl, O⟩
set_option maxRecDepth 100000 in
set_option maxHeartbeats 4000000 in
theorem NX11_inside_b121 {n a : Nat} {h0 : jq_H} {zs : Int32 × ob_S} {S : ob_S} {h : jq_H} (O : OF a 21 10 sh_R h0 S h) (he : rX11_inside_b121 n S = some zs) : ∃ z, X11_inside_b121 n h = some z ∧ (z.1 = zs.1 ∧ OF a 21 10 sh_R h0 zs.2 z.2) := by
  unfold rX11_inside_b121 at he
  unfold X11_inside_b121
  exact NX11_inside_b124 (n := n) O he
set_option maxRecDepth 100000 in
set_option maxHeartbeats 4000000 in
theorem N_X11_inside {n a : Nat} {h0 : jq_H} {zs : Int32 × ob_S} {p0 : Int32} {p1 : Int32} {p2 : Int32} {S : ob_S} {h : jq_H} (O : OF a 21 10 sh_R h0 S h) (he : rX11_inside n S p0 p1 p2 = some zs) : ∃ z, X11_inside n h a p0 p1 p2 = some z ∧ (z.1 = zs.1 ∧ OF a 21 10 sh_R h0 zs.2 z.2) := by
  unfold rX11_inside at he
  unfold X11_inside
  obtain ⟨z8, hz8, he⟩ := jq_b he
  have hOz8 := O.1.ci
  obtain ⟨⟨rz8, h⟩, e1, e2, O⟩ := N_X11_isGuesser O hz8
  dsimp only at e2 O
  subst e2
  refine s_b ((if_pos hOz8).trans e1) ?_
  by_cases hc9 : z8.1 = 0
  · have he := jq_t hc9 he
    refine s_t hc9 ?_
    cases he
    exact ⟨_, rfl, rfl, O⟩
  have he := jq_n hc9 he
  refine s_n hc9 ?_
  obtain ⟨x10, hx10, he⟩ := jq_ln he
  refine s_l hx10 ?_
  refine s_b (ob_gR O.1 (k := 13) rfl (by decide)) ?_
  obtain ⟨hg12, he⟩ := jq_ite he
  obtain ⟨x11, hx11, he⟩ := jq_ln he
  refine s_b ((ob_ld O.1 (k := 13) rfl hg12).trans (congrArg some hx11.symm)) ?_
  by_cases hc13 : x11 = 0
  · have he := jq_t hc13 he
    refine s_t hc13 ?_
    cases he
    exact ⟨_, rfl, rfl, O⟩
  have he := jq_n hc13 he
  refine s_n hc13 ?_
  by_cases hc14 : x11 = 1
  · have he := jq_t hc14 he
    refine s_t hc14 ?_
    exact NX11_inside_b252 (n := n) O he
  have he := jq_n hc14 he
  refine s_n hc14 ?_
  by_cases hc15 : x11 = 2
  · have he := jq_t hc15 he
    refine s_t hc15 ?_
    exact NX11_inside_b252 (n := n) O he
  have he := jq_n hc15 he
  refine s_n hc15 ?_
  by_cases hc16 : x11 = 3
  · have he := jq_t hc16 he
    refine s_t hc16 ?_
    exact NX11_inside_b252 (n := n) O he
  have he := jq_n hc16 he
  refine s_n hc16 ?_
  by_cases hc25 : x11 = 4
  · have he := jq_t hc25 he
    refine s_t hc25 ?_
    obtain ⟨x17, hx17, he⟩ := jq_ln he
    refine s_b (p_in _ _ _ _ _) ?_
    rw [← hx17]
    by_cases hc18 : x17 = 0
    · have he := jq_t hc18 he
      refine s_t hc18 ?_
      exact NX11_inside_b121 (n := n) O he
    have he := jq_n hc18 he
    refine s_n hc18 ?_
    refine s_b (ob_gR O.1 (k := 14) rfl (by decide)) ?_
    obtain ⟨hg20, he⟩ := jq_ite he
    obtain ⟨x19, hx19, he⟩ := jq_ln he
    refine s_b ((ob_ld O.1 (k := 14) rfl hg20).trans (congrArg some hx19.symm)) ?_
    obtain ⟨x21, hx21, he⟩ := jq_ln he
    refine s_b (p_in _ _ _ _ _) ?_
    rw [← hx21]
    by_cases hc22 : x21 = 0
    · have he := jq_t hc22 he
      refine s_t hc22 ?_
      exact NX11_inside_b121 (n := n) O he
    have he := jq_n hc22 he
    refine s_n hc22 ?_
    refine s_b (ob_gR O.1 (k := 18) rfl (by decide)) ?_
    obtain ⟨hg24, he⟩ := jq_ite he
    obtain ⟨x23, hx23, he⟩ := jq_ln he
    refine s_b ((ob_ld O.1 (k := 18) rfl hg24).trans (congrArg some hx23.symm)) ?_
    exact NX11_inside_b124 (n := n) O he
  have he := jq_n hc25 he
  refine s_n hc25 ?_
  by_cases hc36 : x11 = 5
  · have he := jq_t hc36 he
    refine s_t hc36 ?_
    refine s_b (ob_gR O.1 (k := 14) rfl (by decide)) ?_
    obtain ⟨hg27, he⟩ := jq_ite he
    obtain ⟨x26, hx26, he⟩ := jq_ln he
    refine s_b ((ob_ld O.1 (k := 14) rfl hg27).trans (congrArg some hx26.symm)) ?_
    obtain ⟨x28, hx28, he⟩ := jq_ln he
    refine s_b (p_in _ _ _ _ _) ?_
    rw [← hx28]
    by_cases hc29 : x28 = 0
    · have he := jq_t hc29 he
      refine s_t hc29 ?_
      exact NX11_inside_b174 (n := n) O he
    have he := jq_n hc29 he
    refine s_n hc29 ?_
    refine s_b (ob_gR O.1 (k := 15) rfl (by decide)) ?_
    obtain ⟨hg31, he⟩ := jq_ite he
    obtain ⟨x30, hx30, he⟩ := jq_ln he
    refine s_b ((ob_ld O.1 (k := 15) rfl hg31).trans (congrArg some hx30.symm)) ?_
    obtain ⟨x32, hx32, he⟩ := jq_ln he
    refine s_b (p_in _ _ _ _ _) ?_
    rw [← hx32]
    by_cases hc33 : x32 = 0
    · have he := jq_t hc33 he
      refine s_t hc33 ?_
      exact NX11_inside_b174 (n := n) O he
    have he := jq_n hc33 he
    refine s_n hc33 ?_
    refine s_b (ob_gR O.1 (k := 18) rfl (by decide)) ?_
    obtain ⟨hg35, he⟩ := jq_ite he
    obtain ⟨x34, hx34, he⟩ := jq_ln he
    refine s_b ((ob_ld O.1 (k := 18) rfl hg35).trans (congrArg some hx34.symm)) ?_
    exact NX11_inside_b177 (n := n) O he
  have he := jq_n hc36 he
  refine s_n hc36 ?_
  by_cases hc43 : x11 = 6
  · have he := jq_t hc43 he
    refine s_t hc43 ?_
    obtain ⟨x37, hx37, he⟩ := jq_ln he
    refine s_b (p_isPlaceR _ _ _) ?_
    rw [← hx37]
    by_cases hc38 : x37 = 0
    · have he := jq_t hc38 he
      refine s_t hc38 ?_
      exact NX11_inside_b210 (n := n) O he
    have he := jq_n hc38 he
    refine s_n hc38 ?_
    obtain ⟨x39, hx39, he⟩ := jq_ln he
    refine s_b (p_in _ _ _ _ _) ?_
    rw [← hx39]
    by_cases hc40 : x39 = 0
    · have he := jq_t hc40 he
      refine s_t hc40 ?_
      exact NX11_inside_b210 (n := n) O he
    have he := jq_n hc40 he
    refine s_n hc40 ?_
    refine s_b (ob_gR O.1 (k := 18) rfl (by decide)) ?_
    obtain ⟨hg42, he⟩ := jq_ite he
    obtain ⟨x41, hx41, he⟩ := jq_ln he
    refine s_b ((ob_ld O.1 (k := 18) rfl hg42).trans (congrArg some hx41.symm)) ?_
    exact NX11_inside_b213 (n := n) O he
  have he := jq_n hc43 he
  refine s_n hc43 ?_
  by_cases hc51 : x11 = 7
  · have he := jq_t hc51 he
    refine s_t hc51 ?_
    by_cases hc44 : p1 = 0
    · have he := jq_t hc44 he
      refine s_t hc44 ?_
      refine s_b (ob_gR O.1 (k := 16) rfl (by decide)) ?_
      obtain ⟨hg46, he⟩ := jq_ite he
      obtain ⟨x45, hx45, he⟩ := jq_ln he
      refine s_b ((ob_ld O.1 (k := 16) rfl hg46).trans (congrArg some hx45.symm)) ?_
      obtain ⟨x47, hx47, he⟩ := jq_ln he
      refine s_b (p_in _ _ _ _ _) ?_
      rw [← hx47]
      by_cases hc48 : x47 = 0
      · have he := jq_t hc48 he
        refine s_t hc48 ?_
        exact NX11_inside_b248 (n := n) O he
      have he := jq_n hc48 he
      refine s_n hc48 ?_
      refine s_b (ob_gR O.1 (k := 18) rfl (by decide)) ?_
      obtain ⟨hg50, he⟩ := jq_ite he
      obtain ⟨x49, hx49, he⟩ := jq_ln he
      refine s_b ((ob_ld O.1 (k := 18) rfl hg50).trans (congrArg some hx49.symm)) ?_
      exact NX11_inside_b251 (n := n) O he
    have he := jq_n hc44 he
    refine s_n hc44 ?_
    exact NX11_inside_b248 (n := n) O he
  have he := jq_n hc51 he
  refine s_n hc51 ?_
  exact NX11_inside_b252 (n := n) O he
set_option maxRecDepth 100000 in
set_option maxHeartbeats 4000000 in
theorem NX11_keep_b62 {n a : Nat} {h0 : jq_H} {zs : Int32 × ob_S} {v1 : Int32} {v2 : Int32} {S : ob_S} {h : jq_H} (O : OF a 21 10 sh_R h0 S h) (he : rX11_keep_b62 n v1 v2 S = some zs) : ∃ z, X11_keep_b62 n a v1 v2 h = some z ∧ (z.1 = zs.1 ∧ OF a 21 10 sh_R h0 zs.2 z.2) := by
  unfold rX11_keep_b62 at he
  unfold X11_keep_b62
  refine s_b (ob_gR O.1 (k := 20) rfl (by decide)) ?_
  obtain ⟨hg2, he⟩ := jq_ite he
  obtain ⟨S1, hS1, he⟩ := jq_ln he
  obtain ⟨h, e1, O⟩ := ob_stZ (k := 20) (x := 1) O ok_R rfl hg2 (by decide)
  rw [← hS1] at O
  refine s_b e1 ?_
  cases he
  exact ⟨_, rfl, rfl, O⟩
set_option maxRecDepth 100000 in
set_option maxHeartbeats 4000000 in
theorem NX11_keep_b21 {n a : Nat} {h0 : jq_H} {zs : Int32 × ob_S} {KB : Int32 → Int32 → Int32 → ob_S → Option (Int32 × ob_S)} {KBh : Nat → Int32 → Int32 → Int32 → jq_H → Option (Int32 × jq_H)} {K62 : Int32 → Int32 → ob_S → Option (Int32 × ob_S)} {K62h : Nat → Int32 → Int32 → jq_H → Option (Int32 × jq_H)} (hKB : ∀ (u1 : Int32) (u2 : Int32) (u3 : Int32) (S : ob_S) (h : jq_H), OF a 21 10 sh_R h0 S h → KB u1 u2 u3 S = some zs → ∃ z, KBh a u1 u2 u3 h = some z ∧ (z.1 = zs.1 ∧ OF a 21 10 sh_R h0 zs.2 z.2)) (hK62 : ∀ (u1 : Int32) (u2 : Int32) (S : ob_S) (h : jq_H), OF a 21 10 sh_R h0 S h → K62 u1 u2 S = some zs → ∃ z, K62h a u1 u2 h = some z ∧ (z.1 = zs.1 ∧ OF a 21 10 sh_R h0 zs.2 z.2)) {v1 : Int32} {v2 : Int32} {v3 : Int32} {S : ob_S} {h : jq_H} (O : OF a 21 10 sh_R h0 S h) (he : rX11_keep_b21 n KB K62 v1 v2 v3 S = some zs) : ∃ z, X11_keep_b21 n KBh K62h a v1 v2 v3 h = some z ∧ (z.1 = zs.1 ∧ OF a 21 10 sh_R h0 zs.2 z.2) := by
  unfold rX11_keep_b21 at he
  unfold X11_keep_b21
  by_cases hc3 : 812 ≤ v3
  · have he := jq_t hc3 he
    refine s_t hc3 ?_
    exact hK62 _ _ _ _ O he
  have he := jq_n hc3 he
  refine s_n hc3 ?_
  refine s_b (ob_gR O.1 (k := 19) rfl (by decide)) ?_
  refine s_b (ob_gR O.1 (k := 18) rfl (by decide)) ?_
  obtain ⟨hg5, he⟩ := jq_ite he
  obtain ⟨x4, hx4, he⟩ := jq_ln he
  refine s_b ((ob_ld O.1 (k := 18) rfl hg5).trans (congrArg some hx4.symm)) ?_
  obtain ⟨hg7, he⟩ := jq_ite he
  obtain ⟨S6, hS6, he⟩ := jq_ln he
  obtain ⟨h, e1, O⟩ := ob_st (k := 19) (x := x4) O ok_R rfl hg7
  rw [← hS6] at O
  refine s_b e1 ?_
  obtain ⟨x8, hx8, he⟩ := jq_ln he
  refine s_l hx8 ?_
  exact hKB _ _ _ _ _ O he
set_option maxRecDepth 100000 in
set_option maxHeartbeats 4000000 in
theorem NX11_keep_l21 {n a : Nat} {h0 : jq_H} {zs : Int32 × ob_S} {K62 : Int32 → Int32 → ob_S → Option (Int32 × ob_S)} {K62h : Nat → Int32 → Int32 → jq_H → Option (Int32 × jq_H)} (hK62 : ∀ (u1 : Int32) (u2 : Int32) (S : ob_S) (h : jq_H), OF a 21 10 sh_R h0 S h → K62 u1 u2 S = some zs → ∃ z, K62h a u1 u2 h = some z ∧ (z.1 = zs.1 ∧ OF a 21 10 sh_R h0 zs.2 z.2)) :
    ∀ (k : Nat) (v1 : Int32) (v2 : Int32) (v3 : Int32) (S : ob_S) (h : jq_H), OF a 21 10 sh_R h0 S h → rX11_keep_l21 n K62 k v1 v2 v3 S = some zs → ∃ z, X11_keep_l21 n K62h k a v1 v2 v3 h = some z ∧ (z.1 = zs.1 ∧ OF a 21 10 sh_R h0 zs.2 z.2) := by
  intro k
  induction k with
  | zero => intro v1 v2 v3 S h O he; cases (show (none : Option (Int32 × ob_S)) = some zs from he)
  | succ k ih =>
    intro v1 v2 v3 S h O he
    exact NX11_keep_b21 (n := n) (KB := rX11_keep_l21 n K62 k) (KBh := X11_keep_l21 n K62h k) ih hK62 O he
set_option maxRecDepth 100000 in
set_option maxHeartbeats 4000000 in
theorem NX11_keep_b17 {n a : Nat} {h0 : jq_H} {zs : Int32 × ob_S} {S : ob_S} {h : jq_H} (O : OF a 21 10 sh_R h0 S h) (he : rX11_keep_b17 n S = some zs) : ∃ z, X11_keep_b17 n h = some z ∧ (z.1 = zs.1 ∧ OF a 21 10 sh_R h0 zs.2 z.2) := by
  unfold rX11_keep_b17 at he
  unfold X11_keep_b17
  cases he
  exact ⟨_, rfl, rfl, O⟩
set_option maxRecDepth 100000 in
set_option maxHeartbeats 4000000 in
theorem N_X11_keep {n a : Nat} {h0 : jq_H} {zs : Int32 × ob_S} {p0 : Int32} {p1 : Int32} {S : ob_S} {h : jq_H} (O : OF a 21 10 sh_R h0 S h) (he : rX11_keep n S p0 p1 = some zs) : ∃ z, X11_keep n h a p0 p1 = some z ∧ (z.1 = zs.1 ∧ OF a 21 10 sh_R h0 zs.2 z.2) := by
  unfold rX11_keep at he
  unfold X11_keep
  obtain ⟨z9, hz9, he⟩ := jq_b he
  have hOz9 := O.1.ci
  obtain ⟨⟨rz9, h⟩, e1, e2, O⟩ := N_X11_isGuesser O hz9
  dsimp only at e2 O
  subst e2
  refine s_b ((if_pos hOz9).trans e1) ?_
  by_cases hc10 : z9.1 = 0
  · have he := jq_t hc10 he
    refine s_t hc10 ?_
    exact NX11_keep_b17 (n := n) O he
  have he := jq_n hc10 he
  refine s_n hc10 ?_
  obtain ⟨x11, hx11, he⟩ := jq_ln he
  refine s_b (p_in _ _ _ _ _) ?_
  rw [← hx11]
  by_cases hc12 : x11 = 0
  · have he := jq_t hc12 he
    refine s_t hc12 ?_
    exact NX11_keep_b17 (n := n) O he
  have he := jq_n hc12 he
  refine s_n hc12 ?_
  exact NX11_keep_l21 (n := n) (fun w1 w2 SS hh O he => by
    exact NX11_keep_b62 (n := n) O he) n _ _ _ _ _ O he
set_option maxRecDepth 100000 in
set_option maxHeartbeats 4000000 in
theorem NX11_misses_b48 {n a : Nat} {h0 : jq_H} {zs : Int32 × ob_S} {s0 : Int32} {S : ob_S} {h : jq_H} (O : OF a 21 10 sh_R h0 S h) (he : rX11_misses_b48 n s0 S = some zs) : ∃ z, X11_misses_b48 n s0 h = some z ∧ (z.1 = zs.1 ∧ OF a 21 10 sh_R h0 zs.2 z.2) := by
  unfold rX11_misses_b48 at he
  unfold X11_misses_b48
  cases he
  exact ⟨_, rfl, rfl, O⟩
set_option maxRecDepth 100000 in
set_option maxHeartbeats 4000000 in
theorem NX11_misses_b18 {n a : Nat} {h0 : jq_H} {zs : Int32 × ob_S} {S : ob_S} {h : jq_H} (O : OF a 21 10 sh_R h0 S h) (he : rX11_misses_b18 n S = some zs) : ∃ z, X11_misses_b18 n h = some z ∧ (z.1 = zs.1 ∧ OF a 21 10 sh_R h0 zs.2 z.2) := by
  unfold rX11_misses_b18 at he
  unfold X11_misses_b18
  cases he
  exact ⟨_, rfl, rfl, O⟩
set_option maxRecDepth 100000 in
set_option maxHeartbeats 4000000 in
theorem N_X11_misses {n a : Nat} {h0 : jq_H} {zs : Int32 × ob_S} {p0 : Int32} {p1 : Int32} {S : ob_S} {h : jq_H} (O : OF a 21 10 sh_R h0 S h) (he : rX11_misses n S p0 p1 = some zs) : ∃ z, X11_misses n h a p0 p1 = some z ∧ (z.1 = zs.1 ∧ OF a 21 10 sh_R h0 zs.2 z.2) := by
  unfold rX11_misses at he
  unfold X11_misses
  obtain ⟨z1, hz1, he⟩ := jq_b he
  have hOz1 := O.1.ci
  obtain ⟨⟨rz1, h⟩, e1, e2, O⟩ := N_X11_isGuesser O hz1
  dsimp only at e2 O
  subst e2
  refine s_b ((if_pos hOz1).trans e1) ?_
  by_cases hc2 : z1.1 = 0
  · have he := jq_t hc2 he
    refine s_t hc2 ?_
    exact NX11_misses_b18 (n := n) O he
  have he := jq_n hc2 he
  refine s_n hc2 ?_
  obtain ⟨x3, hx3, he⟩ := jq_ln he
  refine s_b (p_in _ _ _ _ _) ?_
  rw [← hx3]
  by_cases hc4 : x3 = 0
  · have he := jq_t hc4 he
    refine s_t hc4 ?_
    exact NX11_misses_b18 (n := n) O he
  have he := jq_n hc4 he
  refine s_n hc4 ?_
  by_cases hc5 : 0 ≤ p1
  · have he := jq_t hc5 he
    refine s_t hc5 ?_
    refine s_b (ob_gR O.1 (k := 18) rfl (by decide)) ?_
    obtain ⟨hg7, he⟩ := jq_ite he
    obtain ⟨x6, hx6, he⟩ := jq_ln he
    refine s_b ((ob_ld O.1 (k := 18) rfl hg7).trans (congrArg some hx6.symm)) ?_
    exact NX11_misses_b48 (n := n) O he
  have he := jq_n hc5 he
  refine s_n hc5 ?_
  obtain ⟨z8, hz8, he⟩ := jq_b he
  have hOz8 := O.1.ci
  obtain ⟨⟨rz8, h⟩, e1, e2, O⟩ := N_X11_missesOf O hz8
  dsimp only at e2 O
  subst e2
  refine s_b ((if_pos hOz8).trans e1) ?_
  exact NX11_misses_b48 (n := n) O he
set_option maxRecDepth 100000 in
set_option maxHeartbeats 4000000 in
theorem NX11_times_b54 {n a : Nat} {h0 : jq_H} {zs : Int32 × ob_S} {v3 : Int32} {S : ob_S} {h : jq_H} (O : OF a 21 10 sh_R h0 S h) (he : rX11_times_b54 n v3 S = some zs) : ∃ z, X11_times_b54 n v3 h = some z ∧ (z.1 = zs.1 ∧ OF a 21 10 sh_R h0 zs.2 z.2) := by
  unfold rX11_times_b54 at he
  unfold X11_times_b54
  cases he
  exact ⟨_, rfl, rfl, O⟩
set_option maxRecDepth 100000 in
set_option maxHeartbeats 4000000 in
theorem NX11_times_b46 {n a : Nat} {h0 : jq_H} {zs : Int32 × ob_S} {KB : Int32 → Int32 → Int32 → Int32 → ob_S → Option (Int32 × ob_S)} {KBh : Nat → Int32 → Int32 → Int32 → Int32 → jq_H → Option (Int32 × jq_H)} {K54 : Int32 → ob_S → Option (Int32 × ob_S)} {K54h : Int32 → jq_H → Option (Int32 × jq_H)} (hKB : ∀ (u1 : Int32) (u2 : Int32) (u3 : Int32) (u4 : Int32) (S : ob_S) (h : jq_H), OF a 21 10 sh_R h0 S h → KB u1 u2 u3 u4 S = some zs → ∃ z, KBh a u1 u2 u3 u4 h = some z ∧ (z.1 = zs.1 ∧ OF a 21 10 sh_R h0 zs.2 z.2)) (hK54 : ∀ (u3 : Int32) (S : ob_S) (h : jq_H), OF a 21 10 sh_R h0 S h → K54 u3 S = some zs → ∃ z, K54h u3 h = some z ∧ (z.1 = zs.1 ∧ OF a 21 10 sh_R h0 zs.2 z.2)) {v1 : Int32} {v2 : Int32} {v4 : Int32} {s0 : Int32} {s1 : Int32} {S : ob_S} {h : jq_H} (O : OF a 21 10 sh_R h0 S h) (he : rX11_times_b46 n KB K54 v1 v2 v4 s0 s1 S = some zs) : ∃ z, X11_times_b46 n KBh K54h a v1 v2 v4 s0 s1 h = some z ∧ (z.1 = zs.1 ∧ OF a 21 10 sh_R h0 zs.2 z.2) := by
  unfold rX11_times_b46 at he
  unfold X11_times_b46
  obtain ⟨x1, hx1, he⟩ := jq_ln he
  refine s_l hx1 ?_
  obtain ⟨x2, hx2, he⟩ := jq_ln he
  refine s_l hx2 ?_
  exact hKB _ _ _ _ _ _ O he
set_option maxRecDepth 100000 in
set_option maxHeartbeats 4000000 in
theorem NX11_times_b45 {n a : Nat} {h0 : jq_H} {zs : Int32 × ob_S} {KB : Int32 → Int32 → Int32 → Int32 → ob_S → Option (Int32 × ob_S)} {KBh : Nat → Int32 → Int32 → Int32 → Int32 → jq_H → Option (Int32 × jq_H)} {K54 : Int32 → ob_S → Option (Int32 × ob_S)} {K54h : Int32 → jq_H → Option (Int32 × jq_H)} (hKB : ∀ (u1 : Int32) (u2 : Int32) (u3 : Int32) (u4 : Int32) (S : ob_S) (h : jq_H), OF a 21 10 sh_R h0 S h → KB u1 u2 u3 u4 S = some zs → ∃ z, KBh a u1 u2 u3 u4 h = some z ∧ (z.1 = zs.1 ∧ OF a 21 10 sh_R h0 zs.2 z.2)) (hK54 : ∀ (u3 : Int32) (S : ob_S) (h : jq_H), OF a 21 10 sh_R h0 S h → K54 u3 S = some zs → ∃ z, K54h u3 h = some z ∧ (z.1 = zs.1 ∧ OF a 21 10 sh_R h0 zs.2 z.2)) {v1 : Int32} {v2 : Int32} {v4 : Int32} {s0 : Int32} {S : ob_S} {h : jq_H} (O : OF a 21 10 sh_R h0 S h) (he : rX11_times_b45 n KB K54 v1 v2 v4 s0 S = some zs) : ∃ z, X11_times_b45 n KBh K54h a v1 v2 v4 s0 h = some z ∧ (z.1 = zs.1 ∧ OF a 21 10 sh_R h0 zs.2 z.2) := by
  unfold rX11_times_b45 at he
  unfold X11_times_b45
  exact NX11_times_b46 (n := n) hKB hK54 O he
set_option maxRecDepth 100000 in
set_option maxHeartbeats 4000000 in
theorem NX11_times_b41 {n a : Nat} {h0 : jq_H} {zs : Int32 × ob_S} {KB : Int32 → Int32 → Int32 → Int32 → ob_S → Option (Int32 × ob_S)} {KBh : Nat → Int32 → Int32 → Int32 → Int32 → jq_H → Option (Int32 × jq_H)} {K54 : Int32 → ob_S → Option (Int32 × ob_S)} {K54h : Int32 → jq_H → Option (Int32 × jq_H)} (hKB : ∀ (u1 : Int32) (u2 : Int32) (u3 : Int32) (u4 : Int32) (S : ob_S) (h : jq_H), OF a 21 10 sh_R h0 S h → KB u1 u2 u3 u4 S = some zs → ∃ z, KBh a u1 u2 u3 u4 h = some z ∧ (z.1 = zs.1 ∧ OF a 21 10 sh_R h0 zs.2 z.2)) (hK54 : ∀ (u3 : Int32) (S : ob_S) (h : jq_H), OF a 21 10 sh_R h0 S h → K54 u3 S = some zs → ∃ z, K54h u3 h = some z ∧ (z.1 = zs.1 ∧ OF a 21 10 sh_R h0 zs.2 z.2)) {v1 : Int32} {v2 : Int32} {v4 : Int32} {s0 : Int32} {S : ob_S} {h : jq_H} (O : OF a 21 10 sh_R h0 S h) (he : rX11_times_b41 n KB K54 v1 v2 v4 s0 S = some zs) : ∃ z, X11_times_b41 n KBh K54h a v1 v2 v4 s0 h = some z ∧ (z.1 = zs.1 ∧ OF a 21 10 sh_R h0 zs.2 z.2) := by
  unfold rX11_times_b41 at he
  unfold X11_times_b41
  exact NX11_times_b46 (n := n) hKB hK54 O he
set_option maxRecDepth 100000 in
set_option maxHeartbeats 4000000 in
theorem NX11_times_b5 {n a : Nat} {h0 : jq_H} {zs : Int32 × ob_S} {KB : Int32 → Int32 → Int32 → Int32 → ob_S → Option (Int32 × ob_S)} {KBh : Nat → Int32 → Int32 → Int32 → Int32 → jq_H → Option (Int32 × jq_H)} {K54 : Int32 → ob_S → Option (Int32 × ob_S)} {K54h : Int32 → jq_H → Option (Int32 × jq_H)} (hKB : ∀ (u1 : Int32) (u2 : Int32) (u3 : Int32) (u4 : Int32) (S : ob_S) (h : jq_H), OF a 21 10 sh_R h0 S h → KB u1 u2 u3 u4 S = some zs → ∃ z, KBh a u1 u2 u3 u4 h = some z ∧ (z.1 = zs.1 ∧ OF a 21 10 sh_R h0 zs.2 z.2)) (hK54 : ∀ (u3 : Int32) (S : ob_S) (h : jq_H), OF a 21 10 sh_R h0 S h → K54 u3 S = some zs → ∃ z, K54h u3 h = some z ∧ (z.1 = zs.1 ∧ OF a 21 10 sh_R h0 zs.2 z.2)) {v1 : Int32} {v2 : Int32} {v3 : Int32} {v4 : Int32} {S : ob_S} {h : jq_H} (O : OF a 21 10 sh_R h0 S h) (he : rX11_times_b5 n KB K54 v1 v2 v3 v4 S = some zs) : ∃ z, X11_times_b5 n KBh K54h a v1 v2 v3 v4 h = some z ∧ (z.1 = zs.1 ∧ OF a 21 10 sh_R h0 zs.2 z.2) := by
  unfold rX11_times_b5 at he
  unfold X11_times_b5
  obtain ⟨x3, hx3, he⟩ := jq_ln he
  refine s_b ((ob_gI O.1 (k := 9) rfl (by decide)).trans (congrArg some hx3.symm)) ?_
  by_cases hc4 : x3 ≤ v4
  · have he := jq_t hc4 he
    refine s_t hc4 ?_
    exact hK54 _ _ _ O he
  have he := jq_n hc4 he
  refine s_n hc4 ?_
  refine s_b (ob_gR O.1 (k := 10) rfl (by decide)) ?_
  obtain ⟨hg6, he⟩ := jq_ite he
  obtain ⟨x5, hx5, he⟩ := jq_ln he
  refine s_b ((ob_ld O.1 (k := 10) rfl hg6).trans (congrArg some hx5.symm)) ?_
  by_cases hc7 : x5 = v1
  · have he := jq_t hc7 he
    refine s_t hc7 ?_
    by_cases hc8 : v2 < 0
    · have he := jq_t hc8 he
      refine s_t hc8 ?_
      exact NX11_times_b41 (n := n) hKB hK54 O he
    have he := jq_n hc8 he
    refine s_n hc8 ?_
    refine s_b (ob_gR O.1 (k := 11) rfl (by decide)) ?_
    obtain ⟨hg10, he⟩ := jq_ite he
    obtain ⟨x9, hx9, he⟩ := jq_ln he
    refine s_b ((ob_ld O.1 (k := 11) rfl hg10).trans (congrArg some hx9.symm)) ?_
    by_cases hc11 : x9 = v2
    · have he := jq_t hc11 he
      refine s_t hc11 ?_
      exact NX11_times_b41 (n := n) hKB hK54 O he
    have he := jq_n hc11 he
    refine s_n hc11 ?_
    exact NX11_times_b45 (n := n) hKB hK54 O he
  have he := jq_n hc7 he
  refine s_n hc7 ?_
  exact NX11_times_b45 (n := n) hKB hK54 O he
set_option maxRecDepth 100000 in
set_option maxHeartbeats 4000000 in
theorem NX11_times_l5 {n a : Nat} {h0 : jq_H} {zs : Int32 × ob_S} {K54 : Int32 → ob_S → Option (Int32 × ob_S)} {K54h : Int32 → jq_H → Option (Int32 × jq_H)} (hK54 : ∀ (u3 : Int32) (S : ob_S) (h : jq_H), OF a 21 10 sh_R h0 S h → K54 u3 S = some zs → ∃ z, K54h u3 h = some z ∧ (z.1 = zs.1 ∧ OF a 21 10 sh_R h0 zs.2 z.2)) :
    ∀ (k : Nat) (v1 : Int32) (v2 : Int32) (v3 : Int32) (v4 : Int32) (S : ob_S) (h : jq_H), OF a 21 10 sh_R h0 S h → rX11_times_l5 n K54 k v1 v2 v3 v4 S = some zs → ∃ z, X11_times_l5 n K54h k a v1 v2 v3 v4 h = some z ∧ (z.1 = zs.1 ∧ OF a 21 10 sh_R h0 zs.2 z.2) := by
  intro k
  induction k with
  | zero => intro v1 v2 v3 v4 S h O he; cases (show (none : Option (Int32 × ob_S)) = some zs from he)
  | succ k ih =>
    intro v1 v2 v3 v4 S h O he
    exact NX11_times_b5 (n := n) (KB := rX11_times_l5 n K54 k) (KBh := X11_times_l5 n K54h k) ih hK54 O he
set_option maxRecDepth 100000 in
set_option maxHeartbeats 4000000 in
theorem N_X11_times {n a : Nat} {h0 : jq_H} {zs : Int32 × ob_S} {p0 : Int32} {p1 : Int32} {S : ob_S} {h : jq_H} (O : OF a 21 10 sh_R h0 S h) (he : rX11_times n S p0 p1 = some zs) : ∃ z, X11_times n h a p0 p1 = some z ∧ (z.1 = zs.1 ∧ OF a 21 10 sh_R h0 zs.2 z.2) := by
  unfold rX11_times at he
  unfold X11_times
  exact NX11_times_l5 (n := n) (fun w3 SS hh O he => by
    exact NX11_times_b54 (n := n) O he) n _ _ _ _ _ _ O he
set_option maxRecDepth 100000 in
set_option maxHeartbeats 4000000 in
theorem NX11_often_b29 {n a : Nat} {h0 : jq_H} {zs : Int32 × ob_S} {s0 : Int32} {S : ob_S} {h : jq_H} (O : OF a 21 10 sh_R h0 S h) (he : rX11_often_b29 n s0 S = some zs) : ∃ z, X11_often_b29 n s0 h = some z ∧ (z.1 = zs.1 ∧ OF a 21 10 sh_R h0 zs.2 z.2) := by
  unfold rX11_often_b29 at he
  unfold X11_often_b29
  cases he
  exact ⟨_, rfl, rfl, O⟩
set_option maxRecDepth 100000 in
set_option maxHeartbeats 4000000 in
theorem N_X11_often {n a : Nat} {h0 : jq_H} {zs : Int32 × ob_S} {p0 : Int32} {p1 : Int32} {S : ob_S} {h : jq_H} (O : OF a 21 10 sh_R h0 S h) (he : rX11_often n S p0 p1 = some zs) : ∃ z, X11_often n h a p0 p1 = some z ∧ (z.1 = zs.1 ∧ OF a 21 10 sh_R h0 zs.2 z.2) := by
  unfold rX11_often at he
  unfold X11_often
  obtain ⟨x1, hx1, he⟩ := jq_ln he
  refine s_b (p_isPlaceR _ _ _) ?_
  rw [← hx1]
  by_cases hc2 : x1 = 0
  · have he := jq_t hc2 he
    refine s_t hc2 ?_
    cases he
    exact ⟨_, rfl, rfl, O⟩
  have he := jq_n hc2 he
  refine s_n hc2 ?_
  obtain ⟨x3, hx3, he⟩ := jq_ln he
  refine s_b (p_in _ _ _ _ _) ?_
  rw [← hx3]
  by_cases hc4 : x3 = 0
  · have he := jq_t hc4 he
    refine s_t hc4 ?_
    exact NX11_often_b29 (n := n) O he
  have he := jq_n hc4 he
  refine s_n hc4 ?_
  obtain ⟨z5, hz5, he⟩ := jq_b he
  have hOz5 := O.1.ci
  obtain ⟨⟨rz5, h⟩, e1, e2, O⟩ := N_X11_times O hz5
  dsimp only at e2 O
  subst e2
  refine s_b ((if_pos hOz5).trans e1) ?_
  exact NX11_often_b29 (n := n) O he
set_option maxRecDepth 100000 in
set_option maxHeartbeats 4000000 in
theorem NX11_op_b57 {n a : Nat} {h0 : jq_H} {zs : Int32 × ob_S} {v1 : Int32} {v2 : Int32} {v3 : Int32} {v4 : Int32} {v5 : Int32} {S : ob_S} {h : jq_H} (O : OF a 21 10 sh_R h0 S h) (he : rX11_op_b57 n v1 v2 v3 v4 v5 S = some zs) : ∃ z, X11_op_b57 n a v1 v2 v3 v4 v5 h = some z ∧ (z.1 = zs.1 ∧ OF a 21 10 sh_R h0 zs.2 z.2) := by
  unfold rX11_op_b57 at he
  unfold X11_op_b57
  refine s_b (ob_gR O.1 (k := 0) rfl (by decide)) ?_
  obtain ⟨hg2, he⟩ := jq_ite he
  obtain ⟨x1, hx1, he⟩ := jq_ln he
  refine s_b ((ob_ld O.1 (k := 0) rfl hg2).trans (congrArg some hx1.symm)) ?_
  refine s_b (ob_gR O.1 (k := 0) rfl (by decide)) ?_
  obtain ⟨hg4, he⟩ := jq_ite he
  obtain ⟨S3, hS3, he⟩ := jq_ln he
  obtain ⟨h, e1, O⟩ := ob_st (k := 0) (x := v2) O ok_R rfl hg4
  rw [← hS3] at O
  refine s_b e1 ?_
  refine s_b (ob_gR O.1 (k := 1) rfl (by decide)) ?_
  obtain ⟨hg6, he⟩ := jq_ite he
  obtain ⟨S5, hS5, he⟩ := jq_ln he
  obtain ⟨h, e1, O⟩ := ob_st (k := 1) (x := v3) O ok_R rfl hg6
  rw [← hS5] at O
  refine s_b e1 ?_
  refine s_b (ob_gR O.1 (k := 2) rfl (by decide)) ?_
  obtain ⟨hg8, he⟩ := jq_ite he
  obtain ⟨S7, hS7, he⟩ := jq_ln he
  obtain ⟨h, e1, O⟩ := ob_st (k := 2) (x := v4) O ok_R rfl hg8
  rw [← hS7] at O
  refine s_b e1 ?_
  refine s_b (ob_gR O.1 (k := 3) rfl (by decide)) ?_
  obtain ⟨hg10, he⟩ := jq_ite he
  obtain ⟨S9, hS9, he⟩ := jq_ln he
  obtain ⟨h, e1, O⟩ := ob_st (k := 3) (x := v5) O ok_R rfl hg10
  rw [← hS9] at O
  refine s_b e1 ?_
  cases he
  exact ⟨_, rfl, rfl, O⟩
set_option maxRecDepth 100000 in
set_option maxHeartbeats 4000000 in
theorem NX11_op_b54 {n a : Nat} {h0 : jq_H} {zs : Int32 × ob_S} {S : ob_S} {h : jq_H} (O : OF a 21 10 sh_R h0 S h) (he : rX11_op_b54 n S = some zs) : ∃ z, X11_op_b54 n h = some z ∧ (z.1 = zs.1 ∧ OF a 21 10 sh_R h0 zs.2 z.2) := by
  unfold rX11_op_b54 at he
  unfold X11_op_b54
  cases he
  exact ⟨_, rfl, rfl, O⟩
set_option maxRecDepth 100000 in
set_option maxHeartbeats 4000000 in
theorem N_X11_op {n a : Nat} {h0 : jq_H} {zs : Int32 × ob_S} {p0 : Int32} {p1 : Int32} {p2 : Int32} {p3 : Int32} {p4 : Int32} {S : ob_S} {h : jq_H} (O : OF a 21 10 sh_R h0 S h) (he : rX11_op n S p0 p1 p2 p3 p4 = some zs) : ∃ z, X11_op n h a p0 p1 p2 p3 p4 = some z ∧ (z.1 = zs.1 ∧ OF a 21 10 sh_R h0 zs.2 z.2) := by
  unfold rX11_op at he
  unfold X11_op
  obtain ⟨x11, hx11, he⟩ := jq_ln he
  refine s_b (p_isPlaceR _ _ _) ?_
  rw [← hx11]
  by_cases hc12 : x11 = 0
  · have he := jq_t hc12 he
    refine s_t hc12 ?_
    cases he
    exact ⟨_, rfl, rfl, O⟩
  have he := jq_n hc12 he
  refine s_n hc12 ?_
  obtain ⟨x13, hx13, he⟩ := jq_ln he
  refine s_b (p_in _ _ _ _ _) ?_
  rw [← hx13]
  by_cases hc14 : x13 = 0
  · have he := jq_t hc14 he
    refine s_t hc14 ?_
    exact NX11_op_b54 (n := n) O he
  have he := jq_n hc14 he
  refine s_n hc14 ?_
  obtain ⟨x15, hx15, he⟩ := jq_ln he
  refine s_b (p_in _ _ _ _ _) ?_
  rw [← hx15]
  by_cases hc16 : x15 = 0
  · have he := jq_t hc16 he
    refine s_t hc16 ?_
    exact NX11_op_b54 (n := n) O he
  have he := jq_n hc16 he
  refine s_n hc16 ?_
  obtain ⟨x17, hx17, he⟩ := jq_ln he
  refine s_b (p_in _ _ _ _ _) ?_
  rw [← hx17]
  by_cases hc18 : x17 = 0
  · have he := jq_t hc18 he
    refine s_t hc18 ?_
    exact NX11_op_b54 (n := n) O he
  have he := jq_n hc18 he
  refine s_n hc18 ?_
  by_cases hc19 : p1 ≤ 8
  · have he := jq_t hc19 he
    refine s_t hc19 ?_
    exact NX11_op_b57 (n := n) O he
  have he := jq_n hc19 he
  refine s_n hc19 ?_
  obtain ⟨x20, hx20, he⟩ := jq_ln he
  refine s_b (p_isPlaceR _ _ _) ?_
  rw [← hx20]
  by_cases hc21 : x20 = 0
  · have he := jq_t hc21 he
    refine s_t hc21 ?_
    exact NX11_op_b54 (n := n) O he
  have he := jq_n hc21 he
  refine s_n hc21 ?_
  exact NX11_op_b57 (n := n) O he
set_option maxRecDepth 100000 in
set_option maxHeartbeats 4000000 in
theorem NX11_pair_b66 {n a : Nat} {h0 : jq_H} {zs : Int32 × ob_S} {s0 : Int32} {S : ob_S} {h : jq_H} (O : OF a 21 10 sh_R h0 S h) (he : rX11_pair_b66 n s0 S = some zs) : ∃ z, X11_pair_b66 n s0 h = some z ∧ (z.1 = zs.1 ∧ OF a 21 10 sh_R h0 zs.2 z.2) := by
  unfold rX11_pair_b66 at he
  unfold X11_pair_b66
  cases he
  exact ⟨_, rfl, rfl, O⟩
set_option maxRecDepth 100000 in
set_option maxHeartbeats 4000000 in
theorem N_X11_pair {n a : Nat} {h0 : jq_H} {zs : Int32 × ob_S} {p0 : Int32} {p1 : Int32} {S : ob_S} {h : jq_H} (O : OF a 21 10 sh_R h0 S h) (he : rX11_pair n S p0 p1 = some zs) : ∃ z, X11_pair n h a p0 p1 = some z ∧ (z.1 = zs.1 ∧ OF a 21 10 sh_R h0 zs.2 z.2) := by
  unfold rX11_pair at he
  unfold X11_pair
  obtain ⟨z1, hz1, he⟩ := jq_b he
  have hOz1 := O.1.ci
  obtain ⟨⟨rz1, h⟩, e1, e2, O⟩ := N_X11_isGuesser O hz1
  dsimp only at e2 O
  subst e2
  refine s_b ((if_pos hOz1).trans e1) ?_
  by_cases hc2 : z1.1 = 0
  · have he := jq_t hc2 he
    refine s_t hc2 ?_
    cases he
    exact ⟨_, rfl, rfl, O⟩
  have he := jq_n hc2 he
  refine s_n hc2 ?_
  obtain ⟨z3, hz3, he⟩ := jq_b he
  have hOz3 := O.1.ci
  obtain ⟨⟨rz3, h⟩, e1, e2, O⟩ := N_X11_clashes1 O hz3
  dsimp only at e2 O
  subst e2
  refine s_b ((if_pos hOz3).trans e1) ?_
  by_cases hc4 : z3.1 = 0
  · have he := jq_t hc4 he
    refine s_t hc4 ?_
    cases he
    exact ⟨_, rfl, rfl, O⟩
  have he := jq_n hc4 he
  refine s_n hc4 ?_
  refine s_b (ob_gR O.1 (k := 18) rfl (by decide)) ?_
  obtain ⟨hg6, he⟩ := jq_ite he
  obtain ⟨x5, hx5, he⟩ := jq_ln he
  refine s_b ((ob_ld O.1 (k := 18) rfl hg6).trans (congrArg some hx5.symm)) ?_
  obtain ⟨x7, hx7, he⟩ := jq_ln he
  refine s_b (p_in _ _ _ _ _) ?_
  rw [← hx7]
  by_cases hc8 : x7 = 0
  · have he := jq_t hc8 he
    refine s_t hc8 ?_
    exact NX11_pair_b66 (n := n) O he
  have he := jq_n hc8 he
  refine s_n hc8 ?_
  refine s_b (ob_gR O.1 (k := 18) rfl (by decide)) ?_
  obtain ⟨hg10, he⟩ := jq_ite he
  obtain ⟨x9, hx9, he⟩ := jq_ln he
  refine s_b ((ob_ld O.1 (k := 18) rfl hg10).trans (congrArg some hx9.symm)) ?_
  exact NX11_pair_b66 (n := n) O he
set_option maxRecDepth 100000 in
set_option maxHeartbeats 4000000 in
theorem NX11_profile_b93 {n a : Nat} {h0 : jq_H} {zs : Int32 × ob_S} {v2 : Int32} {S : ob_S} {h : jq_H} (O : OF a 21 10 sh_R h0 S h) (he : rX11_profile_b93 n v2 S = some zs) : ∃ z, X11_profile_b93 n v2 h = some z ∧ (z.1 = zs.1 ∧ OF a 21 10 sh_R h0 zs.2 z.2) := by
  unfold rX11_profile_b93 at he
  unfold X11_profile_b93
  cases he
  exact ⟨_, rfl, rfl, O⟩
set_option maxRecDepth 100000 in
set_option maxHeartbeats 4000000 in
theorem NX11_profile_b85 {n a : Nat} {h0 : jq_H} {zs : Int32 × ob_S} {KB : Int32 → Int32 → Int32 → ob_S → Option (Int32 × ob_S)} {KBh : Nat → Int32 → Int32 → Int32 → jq_H → Option (Int32 × jq_H)} {K93 : Int32 → ob_S → Option (Int32 × ob_S)} {K93h : Int32 → jq_H → Option (Int32 × jq_H)} (hKB : ∀ (u1 : Int32) (u2 : Int32) (u3 : Int32) (S : ob_S) (h : jq_H), OF a 21 10 sh_R h0 S h → KB u1 u2 u3 S = some zs → ∃ z, KBh a u1 u2 u3 h = some z ∧ (z.1 = zs.1 ∧ OF a 21 10 sh_R h0 zs.2 z.2)) (hK93 : ∀ (u2 : Int32) (S : ob_S) (h : jq_H), OF a 21 10 sh_R h0 S h → K93 u2 S = some zs → ∃ z, K93h u2 h = some z ∧ (z.1 = zs.1 ∧ OF a 21 10 sh_R h0 zs.2 z.2)) {v1 : Int32} {v3 : Int32} {s0 : Int32} {s1 : Int32} {S : ob_S} {h : jq_H} (O : OF a 21 10 sh_R h0 S h) (he : rX11_profile_b85 n KB K93 v1 v3 s0 s1 S = some zs) : ∃ z, X11_profile_b85 n KBh K93h a v1 v3 s0 s1 h = some z ∧ (z.1 = zs.1 ∧ OF a 21 10 sh_R h0 zs.2 z.2) := by
  unfold rX11_profile_b85 at he
  unfold X11_profile_b85
  obtain ⟨x1, hx1, he⟩ := jq_ln he
  refine s_l hx1 ?_
  obtain ⟨x2, hx2, he⟩ := jq_ln he
  refine s_l hx2 ?_
  exact hKB _ _ _ _ _ O he
