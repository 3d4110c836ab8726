/-! ===== the class's Learnt against a block ===== -/
/-- the place last asked: the reference has -1 where the class has -6 -/
def lv6 (x : Int32) : Int32 := if x = -1 then -6 else x
def lastOK (x : Int32) : Prop := x = -1 ∨ isN x 64
theorem nI_ne_m1 {k : Nat} (h : k < 2 ^ 31) : ¬ nI k = -1 := by
  intro q
  have h1 := nI_toInt h
  rw [q] at h1
  have : ((-1 : Int32)).toInt = -1 := by decide
  omega
theorem nI_ne_m6 {k : Nat} (h : k < 2 ^ 31) : ¬ nI k = -6 := by
  intro q
  have h1 := nI_toInt h
  rw [q] at h1
  have : ((-6 : Int32)).toInt = -6 := by decide
  omega
theorem lv6_N {k : Nat} (h : k < 2 ^ 31) : lv6 (nI k) = nI k := by
  unfold lv6
  rw [if_neg (nI_ne_m1 h)]
theorem C_countAsked {n nc ns p : Nat} {S : ob_S} {y : Int32} (hp : p < 64) : rX4_countAsked nc ns n S (nI p) y = some (if y = 0 then u2 S 6 0 (S 6 0 + 1) else u2 (u2 (u2 S 6 0 (S 6 0 + 1)) 7 0 (S 7 0 + 1)) 3 p (S 3 p + 1)) := by
  have c1 : (nI p).toNatClampNeg = p := n_cl (by omega)
  have i1 : ∀ {β : Type} (x : Option β), (if jq_in (nI p) 64 then x else none) = x := fun x => n_ifin hp (by decide)
  have e1 : ∀ x, u2 S 6 0 x 7 0 = S 7 0 := fun x => by rw [u2_ne (by decide)]
  have e2 : ∀ x y, u2 (u2 S 6 0 x) 7 0 y 3 p = S 3 p := fun x y => by rw [u2_ne (by decide), u2_ne (by decide)]
  unfold rX4_countAsked
  simp only [jq_l, i1, c1, e1, e2]
  by_cases h : y = 0
  · rw [if_pos h, if_pos h]
  · rw [if_neg h, if_neg h]
theorem sp_turn_N {k w : Nat} (hk : k < 4) (hw : w < 2) : sp_turn (nI k) w = nI (if w = 1 then (if 3 ≤ k then 3 else k + 1) else k - 1) := by
  rcases (show k = 0 ∨ k = 1 ∨ k = 2 ∨ k = 3 by omega) with rfl | rfl | rfl | rfl <;> rcases (show w = 0 ∨ w = 1 by omega) with rfl | rfl <;> decide
theorem teach_N {k : Nat} (hk : k < 4) : (if 3 < nI k + 1 then (3 : Int32) else nI k + 1) = sp_turn (nI k) 1 ∧ (if nI k - 1 < 0 then (0 : Int32) else nI k - 1) = sp_turn (nI k) 0 := by
  rcases (show k = 0 ∨ k = 1 ∨ k = 2 ∨ k = 3 by omega) with rfl | rfl | rfl | rfl <;> decide
theorem C_teach {n nc ns i w : Nat} {S : ob_S} (hi : i < nc) (hnc : nc < 2 ^ 31) (hw : w < 2) (hv : isN (S 0 i) 4) : rX4_teachCounter nc ns n S (nI i) (nI w) = some (u2 S 0 i (sp_turn (S 0 i) w)) := by
  obtain ⟨k, hk, e⟩ := hv
  have c1 : (nI i).toNatClampNeg = i := n_cl (by omega)
  have i1 : ∀ {β : Type} (x : Option β), (if jq_in (nI i) nc then x else none) = x := fun x => n_ifin hi hnc
  unfold rX4_teachCounter rX4_teachCounter_b37
  simp only [jq_l, i1, c1, e, (teach_N hk).1, (teach_N hk).2, nI_w1 hw]
  rcases (show w = 0 ∨ w = 1 by omega) with rfl | rfl
  · rw [if_neg (by decide)]
  · rw [if_pos rfl]
theorem C_way {n nc ns i : Nat} {S : ob_S} (hi : i < nc) (hnc : nc < 2 ^ 31) (hv : isN (S 0 i) 4) : rX4_counterWay nc ns n S (nI i) = some ((if S 0 i ≤ 1 then 0 else 1), S) := by
  obtain ⟨k, hk, e⟩ := hv
  have c1 : (nI i).toNatClampNeg = i := n_cl (by omega)
  have i1 : ∀ {β : Type} (x : Option β), (if jq_in (nI i) nc then x else none) = x := fun x => n_ifin hi hnc
  unfold rX4_counterWay rX4_counterWay_b15
  simp only [jq_l, i1, c1, e]
  have e1 : (nI k < (2 : Int32)) ↔ k < 2 := nI_ltI (b := 2) (by omega) (by decide)
  have e2 : (nI k ≤ (1 : Int32)) ↔ k ≤ 1 := nI_leI (b := 1) (by omega) (by decide)
  by_cases h : k < 2
  · rw [if_pos (e1.mpr h), if_pos (e2.mpr (by omega))]
  · rw [if_neg (fun q => h (e1.mp q)), if_neg (fun q => absurd (e2.mp q) (by omega))]
theorem C_addWay {n nc ns p w H Hp : Nat} {S : ob_S} (hp : p < 64) (hw : w < 2) (h5 : S 5 0 = nI H) (hH : H < 65536) (h2 : S 2 p = nI Hp) (hHp : Hp < 65536) :
    rX4_addWay nc ns n S (nI p) (nI w) = some (u2 (u2 S 5 0 (nI ((2 * H + w) % 256))) 2 p (nI ((2 * Hp + w) % 256))) := by
  have c1 : (nI p).toNatClampNeg = p := n_cl (by omega)
  have i1 : ∀ {β : Type} (x : Option β), (if jq_in (nI p) 64 then x else none) = x := fun x => n_ifin hp (by decide)
  have e1 : ∀ x, u2 S 5 0 x 2 p = nI Hp := fun x => by rw [u2_ne (by decide)]; exact h2
  unfold rX4_addWay
  simp only [jq_l, i1, c1, h5, e1, n_h8 hH hw, n_h8 hHp hw]
/-- pairs -/
theorem keep_loop {n nc ns m : Nat} {two : Int32} {S : ob_S} {nb : Nat → Int32} {K1 : ob_S → Option ob_S} {K2 : Int32 → ob_S → Option ob_S} (hm : m ≤ 40) (h9 : S 9 0 = nI m) (h4 : ∀ i, i < 40 → S 4 i = nb (768 + i)) :
    ∀ (k j : Nat), j ≤ m → m < j + k → rX4_keepPair_l2 nc ns n K1 K2 k two (nI j) S = if sp_any nb two j (m - j) = true then K1 S else K2 two S := by
  intro k
  induction k with
  | zero => intro j h1 h2; exfalso; omega
  | succ k ih =>
    intro j h1 h2
    show rX4_keepPair_b2 nc ns n (rX4_keepPair_l2 nc ns n K1 K2 k) K1 K2 _ _ _ = _
    unfold rX4_keepPair_b2
    simp only [jq_l, h9]
    by_cases hj : m ≤ j
    · rw [if_pos ((nI_leI (by omega) (by omega)).mpr hj)]
      have : m - j = 0 := by omega
      rw [this]
      rw [if_neg (by simp [sp_any])]
    · rw [if_neg (fun q => hj ((nI_leI (by omega) (by omega)).mp q))]
      have c2 : (nI j).toNatClampNeg = j := n_cl (by omega)
      have i2 : ∀ {β : Type} (x : Option β), (if jq_in (nI j) 40 then x else none) = x := fun x => n_ifin (by omega) (by decide)
      simp only [i2, c2, h4 j (by omega), na1]
      have hs : m - j = (m - (j + 1)) + 1 := by omega
      rw [hs]
      by_cases hq : nb (768 + j) = two
      · rw [if_pos hq, if_pos (by simp [sp_any, hq])]
      · rw [if_neg hq, ih (j + 1) (by omega) (by omega)]
        simp [sp_any, hq]
theorem C_keep {n nc ns : Nat} {two : Int32} {S : ob_S} {nb : Nat → Int32} (hn : 100 < n) (h11 : isN (nb 811) 41) (h9 : S 9 0 = nb 811) (h4 : ∀ i, i < 40 → S 4 i = nb (768 + i)) :
    ∃ S2, rX4_keepPair nc ns n S two = some S2 ∧ (∀ k, k ≠ 4 → k ≠ 9 → S2 k = S k) ∧ (∀ i, i < 40 → S2 4 i = sp_keep nb two (768 + i)) ∧ S2 9 0 = sp_keep nb two 811 := by
  obtain ⟨m, hm, e11⟩ := h11
  have hl := keep_loop (n := n) (nc := nc) (ns := ns) (two := two) (K1 := fun SS => rX4_keepPair_b20 nc ns n SS) (K2 := fun w1 SS => rX4_keepPair_b27 nc ns n w1 SS) (by omega : m ≤ 40) (h9.trans e11) h4 n 0 (Nat.zero_le _) (by omega)
  unfold rX4_keepPair
  have c0 : (nb 811).toNatClampNeg = m := by rw [e11]; exact n_cl (by omega)
  unfold sp_keep
  rw [c0]
  rw [Nat.sub_zero] at hl
  by_cases ha : sp_any nb two 0 m = true
  · rw [if_pos ha] at hl ⊢
    exact ⟨S, hl, fun _ _ _ => rfl, h4, h9⟩
  · rw [if_neg ha] at hl ⊢
    unfold rX4_keepPair_b27 at hl
    simp only [jq_l, h9.trans e11] at hl
    rw [e11]
    by_cases h40 : (40 : Int32) ≤ nI m
    · rw [if_pos h40]
      rw [if_neg (Int32.not_lt.mpr h40)] at hl
      exact ⟨S, hl, fun _ _ _ => rfl, h4, h9⟩
    · rw [if_neg h40]
      have hm40 : m < 40 := Nat.not_le.mp fun q => h40 ((nI_leI (a := 40) (by decide) (by omega)).mpr q)
      rw [if_pos (Int32.not_le.mp h40), n_ifin hm40 (by decide), n_cl (by omega), u2_ne (show (9 : Nat) ≠ 4 by decide), h9.trans e11] at hl
      refine ⟨_, hl, fun k h1 h2 => by rw [u2_ne h2, u2_ne h1], fun i hi => ?_, ?_⟩
      · have hr : upd (upd nb (768 + m) two) 811 (nI m + 1) (768 + i) = upd nb (768 + m) two (768 + i) := pk_un (by omega)
        rw [hr, u2_ne (by decide), u2_eq]
        by_cases hi2 : i = m
        · subst hi2
          rw [pk_us, pk_us]
        · rw [pk_un hi2, pk_un (by omega)]
          exact h4 i hi
      · rw [u2_at, pk_us]
theorem pair_eq {x : Int32} {p : Nat} (hp : p < 64) (hx : isN x 64) (hne : ¬ x = nI p) : (64 * (if nI p < x then nI p else x)) + (if x < nI p then nI p else x) = sp_pair x p := by
  obtain ⟨k, hk, rfl⟩ := hx
  have e1 : (nI p < nI k) ↔ p < k := nI_ltI (by omega) (by omega)
  have e2 : (nI k < nI p) ↔ k < p := nI_ltI (by omega) (by omega)
  have e3 : (nI p ≤ nI k) ↔ p ≤ k := nI_leI (by omega) (by omega)
  have hkp : k ≠ p := fun q => hne (by rw [q])
  unfold sp_pair
  by_cases h : p < k
  · rw [if_pos (e1.mpr h), if_neg (fun q => absurd (e2.mp q) (by omega)), if_pos (e3.mpr (by omega))]
  · rw [if_neg (fun q => h (e1.mp q)), if_pos (e2.mpr (by omega)), if_neg (fun q => absurd (e3.mp q) (by omega))]
theorem C_useSlot {n nc ns s p : Nat} {S : ob_S} {nb : Nat → Int32} (hn : 100 < n) (hs : s < ns) (hns : ns ≤ 256) (hp : p < 64) (h11 : isN (nb 811) 41) (hl : ∀ s, s < ns → lastOK (nb (512 + s))) (h1 : ∀ s, s < ns → S 1 s = lv6 (nb (512 + s))) (h4 : ∀ i, i < 40 → S 4 i = nb (768 + i)) (h8 : S 8 0 = nb 810) (h9 : S 9 0 = nb 811) :
    ∃ S2, rX4_useSlot nc ns n S (nI s) (nI p) = some S2 ∧ (∀ k, k ≠ 1 → k ≠ 4 → k ≠ 8 → k ≠ 9 → S2 k = S k) ∧ (∀ s', s' < ns → S2 1 s' = lv6 (sp_clash nb s p (512 + s'))) ∧ (∀ i, i < 40 → S2 4 i = sp_clash nb s p (768 + i)) ∧ S2 8 0 = sp_clash nb s p 810 ∧ S2 9 0 = sp_clash nb s p 811 := by
  have c1 : (nI s).toNatClampNeg = s := n_cl (by omega)
  have i1 : ∀ {β : Type} (x : Option β), (if jq_in (nI s) ns then x else none) = x := fun x => n_ifin hs (by omega)
  have hls := hl s hs
  have hu1 : ∀ s', s' < ns → u2 S 1 s (nI p) 1 s' = lv6 (upd nb (512 + s) (nI p) (512 + s')) := by
    intro s' hs'
    rw [u2_eq]
    by_cases hq : s' = s
    · subst hq
      rw [pk_us, pk_us, lv6_N (by omega)]
    · rw [pk_un hq, pk_un (by omega)]
      exact h1 s' hs'
  unfold rX4_useSlot rX4_useSlot_b25 sp_clash
  simp only [jq_l, i1, c1, h1 s hs]
  rcases hls with hm1 | hN
  · rw [hm1]
    refine ⟨u2 S 1 s (nI p), by rw [if_pos (show lv6 (-1) = -6 by decide)], fun k h _ _ _ => u2_ne h, ?_⟩
    rw [if_pos (Or.inl (by decide))]
    refine ⟨hu1, fun i hi => ?_, ?_, ?_⟩
    · rw [u2_ne (by decide), pk_un (by omega)]; exact h4 i hi
    · rw [u2_ne (by decide), pk_un (by omega)]; exact h8
    · rw [u2_ne (by decide), pk_un (by omega)]; exact h9
  · obtain ⟨q, hq, eq⟩ := id hN
    have hv : lv6 (nb (512 + s)) = nb (512 + s) := by rw [eq]; exact lv6_N (by omega)
    have hn6 : ¬ nb (512 + s) = -6 := by rw [eq]; exact nI_ne_m6 (by omega)
    have hn0 : ¬ nb (512 + s) < 0 := by rw [eq]; exact nI_pos (by omega)
    rw [hv, if_neg hn6]
    by_cases hqp : nb (512 + s) = nI p
    · rw [if_pos hqp, if_pos (Or.inr hqp)]
      refine ⟨u2 S 1 s (nI p), rfl, fun k h _ _ _ => u2_ne h, hu1, fun i hi => ?_, ?_, ?_⟩
      · rw [u2_ne (by decide), pk_un (by omega)]; exact h4 i hi
      · rw [u2_ne (by decide), pk_un (by omega)]; exact h8
      · rw [u2_ne (by decide), pk_un (by omega)]; exact h9
    · rw [if_neg hqp, if_neg (show ¬ (nb (512 + s) < 0 ∨ nb (512 + s) = nI p) from fun z => z.elim hn0 hqp)]
      have hpe := pair_eq hp hN hqp
      have e8 : u2 S 1 s (nI p) 8 0 = nb 810 := by rw [u2_ne (by decide)]; exact h8
      rw [e8]
      obtain ⟨S2, r1, r2, r3, r4⟩ := C_keep (n := n) (nc := nc) (ns := ns) (two := sp_pair (nb (512 + s)) p) (S := u2 (u2 S 1 s (nI p)) 8 0 (nb 810 + 1)) (nb := upd (upd nb (512 + s) (nI p)) 810 (nb 810 + 1)) hn (by rw [pk_un (by decide), pk_un (by omega)]; exact h11) (by rw [u2_ne (by decide), u2_ne (by decide), pk_un (by decide), pk_un (by omega)]; exact h9) (fun i hi => by rw [u2_ne (by decide), u2_ne (by decide), pk_un (by omega), pk_un (by omega)]; exact h4 i hi)
      rw [hpe, r1]
      have hkf : ∀ (nb' : Nat → Int32) (two : Int32) (j : Nat), isN (nb' 811) 41 → j ≠ 811 → (∀ i, i < 40 → j ≠ 768 + i) → sp_keep nb' two j = nb' j := by
        intro nb' two j ⟨m, hm, em⟩ h1 h2
        unfold sp_keep
        refine ite_fun rfl ?_
        rw [em]
        by_cases h40 : (40 : Int32) ≤ nI m
        · rw [if_pos h40]
        · have hm40 : m < 40 := Nat.not_le.mp fun q => h40 ((nI_leI (a := 40) (by decide) (by omega)).mpr q)
          rw [if_neg h40, pk_un h1, pk_un]
          rw [n_cl (by omega)]
          exact h2 m hm40
      have h11' : isN (upd (upd nb (512 + s) (nI p)) 810 (nb 810 + 1) 811) 41 := by rw [pk_un (by decide), pk_un (by omega)]; exact h11
      refine ⟨S2, rfl, fun k g1 g4 g8 g9 => by rw [r2 k g4 g9, u2_ne g8, u2_ne g1], fun s' hs' => ?_, r3, ?_, r4⟩
      · rw [r2 1 (by decide) (by decide), u2_ne (by decide), hkf _ _ _ h11' (by omega) (fun i hi => by omega), pk_un (by omega)]
        exact hu1 s' hs'
      · rw [r2 8 (by decide) (by decide), u2_at, hkf _ _ _ h11' (by decide) (fun i hi => by omega), pk_us]
