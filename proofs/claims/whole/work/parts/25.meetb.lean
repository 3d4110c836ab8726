/-! ===== meetBranch against asks ===== -/
theorem ix_lt {kd a b c j : Nat} (hk : gkOK kd a b c) (hj : j < gk_nc kd a b c) : gk_ix kd a b j < 384 := by
  have hnc := nc_lt hk
  unfold gk_ix
  by_cases h4 : kd = 4
  · subst h4
    have k4 := hk.2.2.2.2.2.1 rfl
    rw [if_pos rfl]
    have hj : j < 3 * 2 ^ a := hj
    have hp : 2 ^ a ≤ 128 := (Nat.pow_le_pow_right (by decide) k4.2.1 : 2 ^ a ≤ 2 ^ 7)
    have h1 := Nat.mod_lt j (Nat.two_pow_pos a)
    have h2 : j / 2 ^ a < 3 := Nat.div_lt_of_lt_mul (by rw [Nat.mul_comm]; exact hj)
    omega
  · rw [if_neg h4]
    by_cases h5 : kd = 5
    · subst h5
      have k5 := hk.2.2.2.2.2.2.1 rfl
      rw [if_pos rfl]
      have hj : j < 2 ^ a * (b + 1) := hj
      have hp : 2 ^ a ≤ 16 := (Nat.pow_le_pow_right (by decide) k5.1 : 2 ^ a ≤ 2 ^ 4)
      have h1 := Nat.mod_lt j (show 0 < b + 1 by omega)
      have h2 : j / (b + 1) < 2 ^ a := Nat.div_lt_of_lt_mul (by rw [Nat.mul_comm]; exact hj)
      omega
    · rw [if_neg h5]
      omega
theorem cells_far {kd a b c p w i : Nat} {nb : Nat → Int32} {oA oB : Int32} (hk : gkOK kd a b c) (hp : p < 64) (hi : 384 ≤ i) : sp_cells kd a b c nb p w oA oB i = nb i := by
  have h8 := hk.1
  have tn : ∀ (x : Nat → Int32) (r w : Nat), r < 384 → sp_tn x r w i = x i := fun x r w hr => pk_un (by omega)
  have hl : ∀ t, t < 3 → kd ≠ 0 → kd ≠ 6 → sp_ctr kd a b c nb p t < 384 := fun t ht h0 h6 => ctr_lt hk h0 h6 ht
  unfold sp_cells
  rcases (show kd = 0 ∨ kd = 1 ∨ kd = 2 ∨ kd = 3 ∨ kd = 4 ∨ kd = 5 ∨ kd = 6 ∨ kd = 7 by omega) with rfl | rfl | rfl | rfl | rfl | rfl | rfl | rfl
  · simp only [if_true]
  · simp only [if_false, Nat.reduceEqDiff]
    exact tn _ _ _ (hl 0 (by decide) (by decide) (by decide))
  · simp only [if_false, Nat.reduceEqDiff]
    exact tn _ _ _ (hl 0 (by decide) (by decide) (by decide))
  · simp only [if_false, Nat.reduceEqDiff]
    exact tn _ _ _ (hl 0 (by decide) (by decide) (by decide))
  · simp only [if_true, if_false, Nat.reduceEqDiff]
    rw [tn _ _ _ (hl 2 (by decide) (by decide) (by decide)), tn _ _ _ (hl 1 (by decide) (by decide) (by decide)), tn _ _ _ (hl 0 (by decide) (by decide) (by decide))]
  · simp only [if_true, if_false, Nat.reduceEqDiff]
    have hr := (r_lt (p := p) hk).2
    have hb := (hk.2.2.2.2.2.2.1 rfl).2.2.1
    unfold sp_weigh
    exact ite_fun rfl (by rw [sp_wrow, if_neg (by omega)])
  · simp only [if_true, if_false, Nat.reduceEqDiff]
    unfold sp_loop
    refine ite_fun (pk_un (by omega)) (ite_fun ?_ ?_)
    · rw [pk_un (by omega), pk_un (by omega)]
    · rw [pk_un (by omega), pk_un (by omega), pk_un (by omega)]
  · simp only [if_true, if_false, Nat.reduceEqDiff]
    exact ite_fun rfl (tn _ _ _ (hl 0 (by decide) (by decide) (by decide)))
theorem tn_rng {nb : Nat → Int32} {r w : Nat} (hw : w < 2) (hr : r < 384) (hB : ∀ j, j < 384 → isN (nb j) 4) : ∀ j, j < 384 → isN (sp_tn nb r w j) 4 := by
  intro j hj
  unfold sp_tn
  by_cases hq : j = r
  · rw [hq, pk_us]
    obtain ⟨k, hk2, e⟩ := hB r hr
    rw [e, sp_turn_N hk2 hw]
    refine ⟨_, ?_, rfl⟩
    split
    · split <;> omega
    · omega
  · rw [pk_un hq]
    exact hB j hj
theorem wv_rng {v : Int32} {up : Prop} [Decidable up] : -64 ≤ sp_wv v up ∧ sp_wv v up ≤ 63 := by
  have d1 : (-64 : Int32) ≤ 63 := by decide
  have d2 : (-64 : Int32) ≤ -64 := by decide
  have d3 : (63 : Int32) ≤ 63 := by decide
  unfold sp_wv
  generalize v + (if up then (1 : Int32) else -1) = x
  by_cases h1 : x ≤ 63
  · rw [if_pos h1]
    by_cases h2 : -64 ≤ x
    · rw [if_pos h2]
      exact ⟨h2, h1⟩
    · rw [if_neg h2]
      exact ⟨d2, d1⟩
  · rw [if_neg h1]
    exact ⟨d1, d3⟩
theorem ite_prop {P : Int32 → Prop} {c : Prop} {_i : Decidable c} {f g : Nat → Int32} {i : Nat} (h1 : P (f i)) (h2 : P (g i)) : P ((if c then f else g) i) := by
  by_cases h : c
  · rw [if_pos h]; exact h1
  · rw [if_neg h]; exact h2
theorem cells_ok {kd a b c p w : Nat} {nb : Nat → Int32} {oA oB : Int32} (hk : gkOK kd a b c) (hp : p < 64) (hw : w < 2) (B : cellOK kd nb) : cellOK kd (sp_cells kd a b c nb p w oA oB) := by
  have h8 := hk.1
  have hl : ∀ t, t < 3 → kd ≠ 0 → kd ≠ 6 → sp_ctr kd a b c nb p t < 384 := fun t ht h0 h6 => ctr_lt hk h0 h6 ht
  unfold sp_cells
  rcases (show kd = 0 ∨ kd = 1 ∨ kd = 2 ∨ kd = 3 ∨ kd = 4 ∨ kd = 5 ∨ kd = 6 ∨ kd = 7 by omega) with rfl | rfl | rfl | rfl | rfl | rfl | rfl | rfl
  · simp only [if_true]
    exact B
  · simp only [if_false, Nat.reduceEqDiff]
    exact ⟨fun q => tn_rng hw (hl 0 (by decide) (by decide) (by decide)) (B.1 q), fun q => absurd q (by decide), fun q => absurd q (by decide)⟩
  · simp only [if_false, Nat.reduceEqDiff]
    exact ⟨fun q => tn_rng hw (hl 0 (by decide) (by decide) (by decide)) (B.1 q), fun q => absurd q (by decide), fun q => absurd q (by decide)⟩
  · simp only [if_false, Nat.reduceEqDiff]
    exact ⟨fun q => tn_rng hw (hl 0 (by decide) (by decide) (by decide)) (B.1 q), fun q => absurd q (by decide), fun q => absurd q (by decide)⟩
  · simp only [if_true, if_false, Nat.reduceEqDiff]
    exact ⟨fun q => tn_rng hw (hl 2 (by decide) (by decide) (by decide)) (tn_rng hw (hl 1 (by decide) (by decide) (by decide)) (tn_rng hw (hl 0 (by decide) (by decide) (by decide)) (B.1 q))), fun q => absurd q (by decide), fun q => absurd q (by decide)⟩
  · simp only [if_true, if_false, Nat.reduceEqDiff]
    refine ⟨fun q => absurd rfl q.2.1, fun q j hj => ?_, fun q => absurd q (by decide)⟩
    unfold sp_weigh
    refine ite_prop (P := fun x => -64 ≤ x ∧ x ≤ 63) (B.2.1 rfl j hj) ?_
    unfold sp_wrow
    by_cases hq : 9 * (p % 2 ^ a) ≤ j ∧ j < 9 * (p % 2 ^ a) + (b + 1)
    · rw [if_pos hq]
      exact wv_rng
    · rw [if_neg hq]
      exact B.2.1 rfl j hj
  · simp only [if_true, if_false, Nat.reduceEqDiff]
    refine ⟨fun q => absurd rfl q.2.2, fun q => absurd q (by decide), fun _ q hq => ?_⟩
    obtain ⟨⟨k0, hk0, e0⟩, ⟨k2, hk2, e2⟩⟩ := B.2.2 rfl p hp
    obtain ⟨f0, f2⟩ := B.2.2 rfl q hq
    have z0 : isN (0 : Int32) 256 := ⟨0, by decide, rfl⟩
    have z4 : isN (0 : Int32) 4 := ⟨0, by decide, rfl⟩
    have l0 : isN (if 255 ≤ nb (3 * p) then (255 : Int32) else nb (3 * p) + 1) 256 := by
      rw [e0]
      by_cases h : (255 : Int32) ≤ nI k0
      · rw [if_pos h]
        exact ⟨255, by decide, rfl⟩
      · rw [if_neg h, na1]
        have : ¬ 255 ≤ k0 := fun z => h ((nI_leI (a := 255) (by decide) (by omega)).mpr z)
        exact ⟨k0 + 1, by omega, rfl⟩
    have l2 : isN (if 3 ≤ nb (3 * p + 2) then (3 : Int32) else nb (3 * p + 2) + 1) 4 := by
      rw [e2]
      by_cases h : (3 : Int32) ≤ nI k2
      · rw [if_pos h]
        exact ⟨3, by decide, rfl⟩
      · rw [if_neg h, na1]
        have : ¬ 3 ≤ k2 := fun z => h ((nI_leI (a := 3) (by decide) (by omega)).mpr z)
        exact ⟨k2 + 1, by omega, rfl⟩
    unfold sp_loop
    refine ⟨ite_prop (P := fun x => isN x 256) ?_ (ite_prop (P := fun x => isN x 256) ?_ ?_), ite_prop (P := fun x => isN x 4) ?_ (ite_prop (P := fun x => isN x 4) ?_ ?_)⟩
    · by_cases h : q = p
      · subst h; rw [pk_us]; exact l0
      · rw [pk_un (by omega)]; exact f0
    · by_cases h : q = p
      · subst h; rw [pk_us]; exact z0
      · rw [pk_un (by omega), pk_un (by omega)]; exact f0
    · by_cases h : q = p
      · subst h; rw [pk_us]; exact z0
      · rw [pk_un (by omega), pk_un (by omega), pk_un (by omega)]; exact f0
    · rw [pk_un (by omega)]; exact f2
    · by_cases h : q = p
      · subst h; rw [pk_un (by omega), pk_us]; exact l2
      · rw [pk_un (by omega), pk_un (by omega)]; exact f2
    · by_cases h : q = p
      · subst h; rw [pk_un (by omega), pk_un (by omega), pk_us]; exact z4
      · rw [pk_un (by omega), pk_un (by omega), pk_un (by omega)]; exact f2
  · simp only [if_true, if_false, Nat.reduceEqDiff]
    refine ⟨fun q j hj => ite_prop (P := fun x => isN x 4) (B.1 q j hj) (tn_rng (by split <;> decide) (hl 0 (by decide) (by decide) (by decide)) (B.1 q) j hj), fun q => absurd q (by decide), fun q => absurd q (by decide)⟩
/-- a clash leaves pairs and last places in range -/
theorem clash_ok {nb : Nat → Int32} {s p : Nat} (hs : s < 256) (hp : p < 64) (h11 : isN (nb 811) 41) (hl : ∀ s, s < 256 → lastOK (nb (512 + s))) : isN (sp_clash nb s p 811) 41 ∧ ∀ s', s' < 256 → lastOK (sp_clash nb s p (512 + s')) := by
  obtain ⟨m, hm, e11⟩ := h11
  have g1 : upd (upd nb (512 + s) (nI p)) 810 (nb 810 + 1) 811 = nI m := by rw [pk_un (by decide), pk_un (by omega)]; exact e11
  have hu : ∀ s', s' < 256 → lastOK (upd nb (512 + s) (nI p) (512 + s')) := by
    intro s' hs'
    by_cases hq : s' = s
    · subst hq; rw [pk_us]; exact Or.inr ⟨p, hp, rfl⟩
    · rw [pk_un (by omega)]; exact hl s' hs'
  have hm1 : isN (nI m) 41 := ⟨m, hm, rfl⟩
  unfold sp_clash
  refine ⟨ite_prop (P := fun x => isN x 41) ?_ ?_, fun s' hs' => ite_prop (P := lastOK) (hu s' hs') ?_⟩
  · rw [pk_un (by omega), e11]; exact hm1
  · unfold sp_keep
    rw [g1]
    refine ite_prop (P := fun x => isN x 41) (by rw [g1]; exact hm1) ?_
    by_cases h40 : (40 : Int32) ≤ nI m
    · rw [if_pos h40, g1]; exact hm1
    · have hm40 : m < 40 := Nat.not_le.mp fun q => h40 ((nI_leI (a := 40) (by decide) (by omega)).mpr q)
      rw [if_neg h40, pk_us, na1]
      exact ⟨m + 1, by omega, rfl⟩
  · have hv : upd (upd nb (512 + s) (nI p)) 810 (nb 810 + 1) (512 + s') = upd nb (512 + s) (nI p) (512 + s') := pk_un (by omega)
    unfold sp_keep
    rw [g1]
    refine ite_prop (P := lastOK) (by rw [hv]; exact hu s' hs') (ite_prop (P := lastOK) (by rw [hv]; exact hu s' hs') ?_)
    by_cases h40 : (40 : Int32) ≤ nI m
    · rw [pk_un (by omega), n_cl (by omega)]
      rw [pk_un (by omega), hv]; exact hu s' hs'
    · rw [pk_un (by omega), n_cl (by omega), pk_un (by omega), hv]; exact hu s' hs'
/-- behind a branch the block is in range again -/
theorem BW_next {kd a b c p w : Nat} {nb : Nat → Int32} {oA oB miss : Int32} (hk : gkOK kd a b c) (hp : p < 64) (hw : w < 2) (B : BW kd nb) : BW kd (sp_hist (sp_cells kd a b c (sp_ask (sp_c1 kd a b c nb p) p miss) p w oA oB) p w) := by
  obtain ⟨b1, b2, b3, b4⟩ := B
  have c1 : isN (sp_c1 kd a b c nb p 811) 41 ∧ ∀ s', s' < 256 → lastOK (sp_c1 kd a b c nb p (512 + s')) := by
    unfold sp_c1
    by_cases hc : sp_cl kd = true
    · rw [if_pos hc]
      exact clash_ok (ctr0_lt hk hc) hp b2 b3
    · rw [if_neg hc]
      exact ⟨b2, b3⟩
  have cf : ∀ i, i < 512 ∨ i = 808 ∨ i = 809 → sp_c1 kd a b c nb p i = nb i := fun i hi => c1_far hk hi b2
  have ak : ∀ i, i ≠ 448 + p → i ≠ 809 → sp_ask (sp_c1 kd a b c nb p) p miss i = sp_c1 kd a b c nb p i := fun i h1 h2 => by rw [sp_ask, pk_un h2, pk_un h1]
  have cell2 : cellOK kd (sp_ask (sp_c1 kd a b c nb p) p miss) := by
    refine ⟨fun q j hj => ?_, fun q j hj => ?_, fun q r hr => ?_⟩
    · rw [ak j (by omega) (by omega), cf j (by omega)]; exact b4.1 q j hj
    · rw [ak j (by omega) (by omega), cf j (by omega)]; exact b4.2.1 q j hj
    · rw [ak (3 * r) (by omega) (by omega), cf (3 * r) (by omega), ak (3 * r + 2) (by omega) (by omega), cf (3 * r + 2) (by omega)]; exact b4.2.2 q r hr
  have cell3 := cells_ok (oA := oA) (oB := oB) hk hp hw cell2
  have far : ∀ i, 384 ≤ i → i ≠ 808 → i ≠ 384 + p → sp_hist (sp_cells kd a b c (sp_ask (sp_c1 kd a b c nb p) p miss) p w oA oB) p w i = sp_ask (sp_c1 kd a b c nb p) p miss i := fun i h1 h2 h3 => by rw [sp_hist, pk_un h3, pk_un h2, cells_far hk hp h1]
  refine ⟨⟨?_, fun q hq => ?_⟩, ?_, fun s hs => ?_, ?_⟩
  · rw [sp_hist, pk_un (by omega), pk_us]
    exact ⟨_, Nat.mod_lt _ (by decide), rfl⟩
  · by_cases hqp : q = p
    · subst hqp
      rw [sp_hist, pk_us]
      exact ⟨_, Nat.mod_lt _ (by decide), rfl⟩
    · rw [far _ (by omega) (by omega) (by omega), ak _ (by omega) (by omega), cf _ (by omega)]
      exact b1.2 q hq
  · rw [far 811 (by decide) (by decide) (by omega), ak 811 (by omega) (by decide)]
    exact c1.1
  · rw [far _ (by omega) (by omega) (by omega), ak _ (by omega) (by omega)]
    exact c1.2 s hs
  · have low : ∀ i, i < 384 → sp_hist (sp_cells kd a b c (sp_ask (sp_c1 kd a b c nb p) p miss) p w oA oB) p w i = sp_cells kd a b c (sp_ask (sp_c1 kd a b c nb p) p miss) p w oA oB i := fun i hi => by rw [sp_hist, pk_un (by omega), pk_un (by omega)]
    refine ⟨fun q j hj => ?_, fun q j hj => ?_, fun q r hr => ?_⟩
    · rw [low j hj]; exact cell3.1 q j hj
    · rw [low j hj]; exact cell3.2.1 q j hj
    · rw [low _ (by omega), low _ (by omega)]; exact cell3.2.2 q r hr
