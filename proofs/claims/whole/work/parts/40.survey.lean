/-! ===== best and seen ===== -/
/-- histories by holders -/
def hx (ho wy : Nat → Nat) : Nat → Nat → Nat
  | 0, _ => 0
  | i + 1, q => if q = ho i then (2 * hx ho wy i q + wy i) % 65536 else hx ho wy i q
def ky (l : Nat) (ho pl wy : Nat → Nat) (i : Nat) : Nat := pl i * 2 ^ l + hx ho wy i (ho i) % 2 ^ l
def rky (l : Nat) (ho pl wy : Nat → Nat) (i : Nat) : Nat := 256 * pl i + hx ho wy i (ho i) % 2 ^ l
def dlm (c0 c1 w : Nat) : Nat := if w = 1 then (if c1 < c0 then 1 else 0) else (if c0 < c1 then 1 else 0)
def dun (c0 c1 : Nat) : Nat := if c0 + c1 = 0 then 1 else 0
def lmf (k wy : Nat → Nat) : Nat → Nat
  | 0 => 0
  | i + 1 => lmf k wy i + dlm (cnt k wy (k i) 0 i) (cnt k wy (k i) 1 i) (wy i)
def unf (k wy : Nat → Nat) : Nat → Nat
  | 0 => 0
  | i + 1 => unf k wy i + dun (cnt k wy (k i) 0 i) (cnt k wy (k i) 1 i)
theorem hx_lt {ho wy : Nat → Nat} : ∀ (i q : Nat), hx ho wy i q < 65536
  | 0, _ => by show 0 < 65536; decide
  | i + 1, q => by
    show (if q = ho i then (2 * hx ho wy i q + wy i) % 65536 else hx ho wy i q) < 65536
    split
    · exact Nat.mod_lt _ (by decide)
    · exact hx_lt i q
theorem pw_le {l : Nat} (hl : l ≤ 8) : 2 ^ l ≤ 256 := two_lt hl
theorem ky_lt {l i : Nat} {ho pl wy : Nat → Nat} (hl : l ≤ 8) (hp : pl i < 64) : ky l ho pl wy i < 16384 := by
  unfold ky
  have h1 := pw_le hl
  have h2 : hx ho wy i (ho i) % 2 ^ l < 2 ^ l := Nat.mod_lt _ (Nat.two_pow_pos l)
  have h3 : pl i * 2 ^ l ≤ 63 * 2 ^ l := Nat.mul_le_mul_right _ (by omega)
  omega
theorem rky_lt {l i : Nat} {ho pl wy : Nat → Nat} (hl : l ≤ 8) (hp : pl i < 64) : rky l ho pl wy i < 16384 := by
  unfold rky
  have h1 := pw_le hl
  have h2 : hx ho wy i (ho i) % 2 ^ l < 2 ^ l := Nat.mod_lt _ (Nat.two_pow_pos l)
  omega
theorem ky_iff {l i j : Nat} {ho pl wy : Nat → Nat} (hl : l ≤ 8) : (ky l ho pl wy i = ky l ho pl wy j) ↔ (rky l ho pl wy i = rky l ho pl wy j) := by
  unfold ky rky
  have h1 := pw_le hl
  have hi : hx ho wy i (ho i) % 2 ^ l < 2 ^ l := Nat.mod_lt _ (Nat.two_pow_pos l)
  have hj : hx ho wy j (ho j) % 2 ^ l < 2 ^ l := Nat.mod_lt _ (Nat.two_pow_pos l)
  generalize hx ho wy i (ho i) % 2 ^ l = x at *
  generalize hx ho wy j (ho j) % 2 ^ l = y at *
  constructor
  · intro q
    have q1 : (pl i * 2 ^ l + x) / 2 ^ l = (pl j * 2 ^ l + y) / 2 ^ l := by rw [q]
    rw [Nat.mul_comm, Nat.mul_add_div (Nat.two_pow_pos l), Nat.mul_comm (pl j), Nat.mul_add_div (Nat.two_pow_pos l), Nat.div_eq_of_lt hi, Nat.div_eq_of_lt hj] at q1
    have q2 : pl i = pl j := by omega
    rw [q2] at q ⊢
    omega
  · intro q
    have q2 : pl i = pl j := by omega
    rw [q2] at q ⊢
    omega
theorem cnt_iff {k k' wy : Nat → Nat} {x x' w : Nat} : ∀ m, (∀ j, j < m → (k j = x ↔ k' j = x')) → cnt k wy x w m = cnt k' wy x' w m
  | 0, _ => rfl
  | m + 1, h => by
    show cnt k wy x w m + _ = cnt k' wy x' w m + _
    rw [cnt_iff m (fun j hj => h j (by omega))]
    congr 1
    simp only [h m (by omega)]
theorem lm_eq {k k' wy : Nat → Nat} : ∀ m, (∀ i j, i < m → j < m → (k j = k i ↔ k' j = k' i)) → lmf k wy m = lmf k' wy m ∧ unf k wy m = unf k' wy m
  | 0, _ => ⟨rfl, rfl⟩
  | m + 1, h => by
    have ih := lm_eq (k := k) (k' := k') (wy := wy) m (fun i j hi hj => h i j (by omega) (by omega))
    have e0 : cnt k wy (k m) 0 m = cnt k' wy (k' m) 0 m := cnt_iff m (fun j hj => h m j (by omega) (by omega))
    have e1 : cnt k wy (k m) 1 m = cnt k' wy (k' m) 1 m := cnt_iff m (fun j hj => h m j (by omega) (by omega))
    constructor
    · show lmf k wy m + dlm _ _ _ = lmf k' wy m + dlm _ _ _
      rw [ih.1, e0, e1]
    · show unf k wy m + dun _ _ = unf k' wy m + dun _ _
      rw [ih.2, e0, e1]
/-- sums over all keys -/
def nsum (f : Nat → Nat) : Nat → Nat
  | 0 => 0
  | n + 1 => nsum f n + f n
theorem nsum_congr {f g : Nat → Nat} : ∀ n, (∀ r, r < n → f r = g r) → nsum f n = nsum g n
  | 0, _ => rfl
  | n + 1, h => by
    show nsum f n + f n = nsum g n + g n
    rw [nsum_congr n (fun r hr => h r (by omega)), h n (by omega)]
theorem nsum_one {f g : Nat → Nat} {x d : Nat} (hx : g x = f x + d) (ho : ∀ r, r ≠ x → g r = f r) : ∀ n, x < n → nsum g n = nsum f n + d
  | 0, h => by omega
  | n + 1, h => by
    show nsum g n + g n = nsum f n + f n + d
    by_cases e : x = n
    · subst e
      rw [nsum_congr x (fun r hr => ho r (by omega)), hx]
      omega
    · rw [nsum_one hx ho n (by omega), ho n (by omega)]
      omega
theorem nsum_zero : ∀ n, nsum (fun _ => 0) n = 0
  | 0 => rfl
  | n + 1 => by
    show nsum (fun _ => 0) n + 0 = 0
    rw [nsum_zero n]
def mn (x y : Nat) : Nat := if y ≤ x then y else x
def sn (x y : Nat) : Nat := if x + y ≤ 0 then 0 else 1
theorem cnt_next {k wy : Nat → Nat} {x w m : Nat} (hw : wy m < 2) (h : x ≠ k m) : cnt k wy x w (m + 1) = cnt k wy x w m := by
  show cnt k wy x w m + _ = _
  rw [if_neg (fun q => h q.1.symm)]
  rfl
theorem cnt_at {k wy : Nat → Nat} {w m : Nat} : cnt k wy (k m) w (m + 1) = cnt k wy (k m) w m + (if wy m = w then 1 else 0) := by
  show cnt k wy (k m) w m + _ = _
  congr 1
  simp only [true_and]
theorem lm_sum {k wy : Nat → Nat} {N : Nat} : ∀ m, (∀ i, i < m → k i < N ∧ wy i < 2) → lmf k wy m = nsum (fun r => mn (cnt k wy r 0 m) (cnt k wy r 1 m)) N ∧ unf k wy m = nsum (fun r => sn (cnt k wy r 0 m) (cnt k wy r 1 m)) N
  | 0, _ => by
    constructor
    · show 0 = nsum (fun r => 0) N
      rw [nsum_zero]
    · show 0 = nsum (fun r => 0) N
      rw [nsum_zero]
  | m + 1, h => by
    have ih := lm_sum (k := k) (wy := wy) (N := N) m (fun i hi => h i (by omega))
    have hm := h m (by omega)
    constructor
    · show lmf k wy m + dlm _ _ _ = _
      rw [ih.1]
      refine (nsum_one (x := k m) ?_ (fun r hr => ?_) N hm.1).symm
      · simp only [cnt_at]
        unfold mn dlm
        rcases (show wy m = 0 ∨ wy m = 1 by omega) with q | q
        · simp only [q, if_true, Nat.zero_ne_one, if_false]
          (repeat' split) <;> omega
        · simp only [q, if_true, Nat.one_ne_zero, if_false]
          (repeat' split) <;> omega
      · simp only [cnt_next hm.2 hr]
    · show unf k wy m + dun _ _ = _
      rw [ih.2]
      refine (nsum_one (x := k m) ?_ (fun r hr => ?_) N hm.1).symm
      · simp only [cnt_at]
        unfold sn dun
        rcases (show wy m = 0 ∨ wy m = 1 by omega) with q | q
        · simp only [q, if_true, Nat.zero_ne_one, if_false]
          (repeat' split) <;> omega
        · simp only [q, if_true, Nat.one_ne_zero, if_false]
          (repeat' split) <;> omega
      · simp only [cnt_next hm.2 hr]
/-! the class's pass -/
theorem n_and16 {c0 c1 : Nat} (h : c0 + c1 ≤ 3000) : nI (c0 + 65536 * c1) &&& 65535 = nI c0 := by
  have e : nI (c0 + 65536 * c1) &&& nI (2 ^ 16 - 1) = nI ((c0 + 65536 * c1) % 2 ^ 16) := n_mask _ 16
  have e2 : (c0 + 65536 * c1) % 2 ^ 16 = c0 := by omega
  rw [e2] at e
  exact e
theorem n_shr16 {c0 c1 : Nat} (h : c0 + c1 ≤ 3000) : nI (c0 + 65536 * c1) >>> ((16 : Int32) &&& 31) = nI c1 := by
  have e : nI (c0 + 65536 * c1) >>> ((16 : Int32) &&& 31) = nI ((c0 + 65536 * c1) / 2 ^ 16) := n_shr (k := 16) (by omega) (by decide)
  have e2 : (c0 + 65536 * c1) / 2 ^ 16 = c1 := by omega
  rw [e2] at e
  exact e
theorem C_tally {n key c0 c1 w : Nat} {S : ob_S} (hk : key < 16384) (h2 : S 2 key = nI (c0 + 65536 * c1)) (hc : c0 + c1 ≤ 3000) (hw : w < 2) :
    ∃ S', rX7_tally n S (nI key) (nI w) = some S' ∧ S' 2 = upd (S 2) key (nI ((c0 + (if w = 0 then 1 else 0)) + 65536 * (c1 + (if w = 1 then 1 else 0)))) ∧ S' 6 0 = S 6 0 + nI (dlm c0 c1 w) ∧ S' 7 0 = S 7 0 + nI (dun c0 c1) ∧ ∀ k, k ≠ 2 → k ≠ 6 → k ≠ 7 → S' k = S k := by
  have cc : (nI key).toNatClampNeg = key := n_cl (by omega)
  have ii : ∀ {β : Type} (x : Option β), (if jq_in (nI key) 16384 then x else none) = x := fun x => n_ifin hk (by decide)
  obtain ⟨v, hv⟩ : ∃ v, v = nI ((c0 + (if w = 0 then 1 else 0)) + 65536 * (c1 + (if w = 1 then 1 else 0))) := ⟨_, rfl⟩
  have b68 : ∀ T : ob_S, T 2 key = nI (c0 + 65536 * c1) → rX7_tally_b68 n (nI key) (nI w) T = some (u2 T 2 key v) := by
    intro T hT
    unfold rX7_tally_b68 rX7_tally_b86
    simp only [jq_l, ii, cc, hT, nI_w1 hw]
    rcases (show w = 0 ∨ w = 1 by omega) with rfl | rfl
    · rw [if_neg (by decide)]
      have e : nI (c0 + 65536 * c1) + 1 = v := by
        rw [na1, hv]
        simp only [if_true, Nat.zero_ne_one, if_false]
        congr 1
        omega
      rw [e]
    · rw [if_pos rfl]
      have e : nI (c0 + 65536 * c1) + 65536 = v := by
        have e0 : nI (c0 + 65536 * c1) + 65536 = nI (c0 + 65536 * c1 + 65536) := nI_add _ 65536
        rw [e0, hv]
        simp only [if_true, Nat.one_ne_zero, if_false]
        exact congrArg nI (by omega)
      rw [e]
  have b38 : ∀ T : ob_S, T 2 key = nI (c0 + 65536 * c1) → ∃ S', rX7_tally_b38 n (nI key) (nI w) (nI c0) (nI c1) T = some S' ∧ S' 2 = upd (T 2) key v ∧ S' 6 0 = T 6 0 + nI (dlm c0 c1 w) ∧ ∀ k, k ≠ 2 → k ≠ 6 → S' k = T k := by
    intro T hT
    have yes : ∀ S', rX7_tally_b38 n (nI key) (nI w) (nI c0) (nI c1) T = rX7_tally_b68 n (nI key) (nI w) T → dlm c0 c1 w = 0 → S' = u2 T 2 key v → ∃ S', rX7_tally_b38 n (nI key) (nI w) (nI c0) (nI c1) T = some S' ∧ S' 2 = upd (T 2) key v ∧ S' 6 0 = T 6 0 + nI (dlm c0 c1 w) ∧ ∀ k, k ≠ 2 → k ≠ 6 → S' k = T k := by
      intro S' q1 q2 q3
      refine ⟨u2 T 2 key v, q1.trans (b68 T hT), u2_eq, ?_, fun k z1 _ => u2_ne z1⟩
      rw [q2, u2_ne (by decide)]
      exact (Int32.add_zero _).symm
    have no : rX7_tally_b38 n (nI key) (nI w) (nI c0) (nI c1) T = rX7_tally_b58 n (nI key) (nI w) T → dlm c0 c1 w = 1 → ∃ S', rX7_tally_b38 n (nI key) (nI w) (nI c0) (nI c1) T = some S' ∧ S' 2 = upd (T 2) key v ∧ S' 6 0 = T 6 0 + nI (dlm c0 c1 w) ∧ ∀ k, k ≠ 2 → k ≠ 6 → S' k = T k := by
      intro q1 q2
      refine ⟨u2 (u2 T 6 0 (T 6 0 + 1)) 2 key v, ?_, ?_, ?_, fun k z1 z2 => ?_⟩
      · rw [q1]
        unfold rX7_tally_b58
        simp only [jq_l]
        exact b68 _ (by rw [u2_ne (by decide)]; exact hT)
      · rw [u2_eq, u2_ne (by decide)]
      · rw [q2, u2_ne (by decide), u2_at]
        rfl
      · rw [u2_ne z1, u2_ne z2]
    have l1 : (nI c0 ≤ nI c1) = (c0 ≤ c1) := propext (nI_leI (by omega) (by omega))
    have l2 : (nI c1 ≤ nI c0) = (c1 ≤ c0) := propext (nI_leI (by omega) (by omega))
    rcases (show w = 0 ∨ w = 1 by omega) with rfl | rfl
    · by_cases q : c1 ≤ c0
      · refine yes _ ?_ ?_ rfl
        · unfold rX7_tally_b38
          simp only [nI_w1 hw, l2, Nat.zero_ne_one, if_false, if_pos q]
        · unfold dlm
          rw [if_neg (by decide), if_neg (by omega)]
      · refine no ?_ ?_
        · unfold rX7_tally_b38
          simp only [nI_w1 hw, l2, Nat.zero_ne_one, if_false, if_neg q]
        · unfold dlm
          rw [if_neg (by decide), if_pos (by omega)]
    · by_cases q : c0 ≤ c1
      · refine yes _ ?_ ?_ rfl
        · unfold rX7_tally_b38
          simp only [nI_w1 hw, l1, if_true, if_pos q]
        · unfold dlm
          rw [if_pos rfl, if_neg (by omega)]
      · refine no ?_ ?_
        · unfold rX7_tally_b38
          simp only [nI_w1 hw, l1, if_true, if_neg q]
        · unfold dlm
          rw [if_pos rfl, if_pos (by omega)]
  have e0 : (nI (c0 + c1) = 0) = (c0 + c1 = 0) := propext (nI_eq (b := 0) (by omega) (by decide))
  unfold rX7_tally
  simp only [jq_l, ii, cc, h2, n_and16 hc, n_shr16 hc, nI_add, e0]
  rw [← hv]
  by_cases q : c0 + c1 = 0
  · rw [if_pos q]
    obtain ⟨S', s1, s2, s3, s4⟩ := b38 (u2 S 7 0 (S 7 0 + 1)) (by rw [u2_ne (by decide)]; exact h2)
    refine ⟨S', s1, by rw [s2, u2_ne (by decide)], by rw [s3, u2_ne (by decide)], ?_, fun k z1 z2 z3 => by rw [s4 k z1 z2, u2_ne z3]⟩
    rw [s4 7 (by decide) (by decide), u2_at]
    unfold dun
    rw [if_pos q]
    rfl
  · rw [if_neg q]
    obtain ⟨S', s1, s2, s3, s4⟩ := b38 S h2
    refine ⟨S', s1, s2, s3, ?_, fun k z1 z2 z3 => s4 k z1 z2⟩
    rw [s4 7 (by decide) (by decide)]
    unfold dun
    rw [if_neg q]
    exact (Int32.add_zero _).symm
theorem n_shlL : ∀ l, l ≤ 8 → ((nI l &&& 31).toBitVec.smod 32).toNat = l := by decide +kernel
theorem n_key {p l y : Nat} (hl : l ≤ 8) (hp : p < 64) (hy : y < 2 ^ l) : (nI p <<< (nI l &&& 31)) ||| nI y = nI (p * 2 ^ l + y) := by
  have h1 := pw_le hl
  have h3 : p * 2 ^ l ≤ 63 * 256 := Nat.mul_le_mul (by omega) h1
  rw [pk_shlN (nI l &&& 31) l (n_shlL l hl) (by omega), n_or]
  congr 1
  rw [Nat.mul_comm]
  exact (Nat.two_pow_add_eq_or_of_lt hy p).symm
theorem n_hl {x w l : Nat} (hl : l ≤ 8) (hw : w < 2) : ((nI (x % 2 ^ l) <<< ((1 : Int32) &&& 31)) ||| nI w) &&& (((1 : Int32) <<< (nI l &&& 31)) - 1) = nI ((2 * x + w) % 65536 % 2 ^ l) := by
  have h1 := pw_le hl
  have h2 : x % 2 ^ l < 2 ^ l := Nat.mod_lt _ (Nat.two_pow_pos l)
  rw [n_shl1 (by omega), n_or, n_or1 hw, n_lb l (by omega), n_mask]
  congr 1
  rw [Nat.mod_mod_of_dvd _ (Nat.pow_dvd_pow 2 (show l ≤ 16 by omega) : 2 ^ l ∣ 2 ^ 16)]
  rw [Nat.add_mod, Nat.mul_mod, Nat.mod_mod, ← Nat.mul_mod, ← Nat.add_mod]
theorem n_h16b {x w : Nat} (hx : x < 65536) (hw : w < 2) : ((nI x <<< ((1 : Int32) &&& 31)) &&& 65535) ||| nI w = nI ((2 * x + w) % 65536) := by
  rw [n_shl1 (by omega)]
  have e : nI (2 * x) &&& nI (2 ^ 16 - 1) = nI ((2 * x) % 2 ^ 16) := n_mask _ 16
  have e2 : nI (2 * x) &&& 65535 = nI (2 * (x % 32768)) := by
    have : (2 * x) % 2 ^ 16 = 2 * (x % 32768) := by omega
    rw [this] at e
    exact e
  rw [e2, n_or, n_or1 hw]
  congr 1
  omega
section SURVEY
variable {n m l : Nat} {ho pl wy : Nat → Nat} {W : ob_S}
/-- how far the pass is -/
def SV (m l : Nat) (ho pl wy : Nat → Nat) (W : ob_S) (j : Nat) (S : ob_S) : Prop :=
  (∀ k, k ≠ 2 → k ≠ 3 → k ≠ 4 → k ≠ 6 → k ≠ 7 → S k = W k) ∧ (∀ q, q < 64 → S 4 q = nI (hx ho wy j q % 2 ^ l)) ∧ (∀ i, i < j → S 3 i = nI (ky l ho pl wy i)) ∧ (∀ x, x < 16384 → S 2 x = nI (cnt (ky l ho pl wy) wy x 0 j + 65536 * cnt (ky l ho pl wy) wy x 1 j)) ∧ S 6 0 = nI (lmf (ky l ho pl wy) wy j) ∧ S 7 0 = nI (unf (ky l ho pl wy) wy j)
theorem sv_step {S : ob_S} {j : Nat} {own : Int32} {KB : Int32 → Int32 → Int32 → ob_S → Option ob_S} {K : ob_S → Option ob_S} (hl : l ≤ 8) (hm : m ≤ 3000) (hj : j < m) (w5 : W 5 0 = nI m) (hp : pl j < 64) (hw : wy j < 2) (w0 : W 0 j = nI (2 * pl j + wy j)) (hho : ho j = if own = 0 then 0 else pl j) (V : SV m l ho pl wy W j S) :
    ∃ S', rX7_survey_b20 n KB K (nI l) own (nI j) S = KB (nI l) own (nI (j + 1)) S' ∧ SV m l ho pl wy W (j + 1) S' := by
  obtain ⟨v0, v4, v3, v2, v6, v7⟩ := V
  have hh : ho j < 64 := by rw [hho]; split <;> omega
  have h1 := pw_le hl
  have hkl := ky_lt (i := j) (ho := ho) (pl := pl) (wy := wy) hl hp
  have s5 : S 5 0 = nI m := by rw [v0 5 (by decide) (by decide) (by decide) (by decide) (by decide)]; exact w5
  have s0 : S 0 j = nI (2 * pl j + wy j) := by rw [v0 0 (by decide) (by decide) (by decide) (by decide) (by decide)]; exact w0
  have hle : ¬ nI m ≤ nI j := fun q => by
    have := (nI_leI (by omega) (by omega)).mp q
    omega
  have cj : (nI j).toNatClampNeg = j := n_cl (by omega)
  have ij : ∀ {β : Type} (x : Option β), (if jq_in (nI j) 3000 then x else none) = x := fun x => n_ifin (by omega) (by decide)
  have ch : (nI (ho j)).toNatClampNeg = ho j := n_cl (by omega)
  have ih : ∀ {β : Type} (x : Option β), (if jq_in (nI (ho j)) 64 then x else none) = x := fun x => n_ifin hh (by decide)
  have ep : nI (2 * pl j + wy j) >>> ((1 : Int32) &&& 31) = nI (pl j) := by
    have e2 : nI (2 * pl j + wy j) >>> ((1 : Int32) &&& 31) = nI ((2 * pl j + wy j) / 2 ^ 1) := n_shr (k := 1) (by omega) (by decide)
    have e3 : (2 * pl j + wy j) / 2 ^ 1 = pl j := by omega
    rw [e2, e3]
  have ew : nI (2 * pl j + wy j) &&& 1 = nI (wy j) := by
    have e2 : nI (2 * pl j + wy j) &&& 1 = nI ((2 * pl j + wy j) % 2 ^ 1) := n_mask _ 1
    have e3 : (2 * pl j + wy j) % 2 ^ 1 = wy j := by omega
    rw [e2, e3]
  have ekey : (nI (pl j) <<< (nI l &&& 31)) ||| nI (hx ho wy j (ho j) % 2 ^ l) = nI (ky l ho pl wy j) := n_key hl hp (Nat.mod_lt _ (Nat.two_pow_pos l))
  obtain ⟨S1, hS1⟩ : ∃ y, y = u2 S 3 j (nI (ky l ho pl wy j)) := ⟨_, rfl⟩
  have t3 : S1 3 j = nI (ky l ho pl wy j) := by rw [hS1, u2_at]
  have t2 : S1 2 (ky l ho pl wy j) = nI (cnt (ky l ho pl wy) wy (ky l ho pl wy j) 0 j + 65536 * cnt (ky l ho pl wy) wy (ky l ho pl wy j) 1 j) := by
    rw [hS1, u2_ne (by decide)]
    exact v2 _ hkl
  have hcc := cnt2_le (pl := ky l ho pl wy) (wy := wy) (p := ky l ho pl wy j) j
  obtain ⟨S2, y1, y2, y6, y7, yk⟩ := C_tally (n := n) (w := wy j) hkl t2 (by omega) hw
  have y4 : S2 4 (ho j) = nI (hx ho wy j (ho j) % 2 ^ l) := by
    rw [yk 4 (by decide) (by decide) (by decide), hS1, u2_ne (by decide)]
    exact v4 _ hh
  have b52 : rX7_survey_b52 n KB K (nI l) own (nI j) (nI (pl j)) (nI (wy j)) (nI (ho j)) S = KB (nI l) own (nI (j + 1)) (u2 S2 4 (ho j) (nI ((2 * hx ho wy j (ho j) + wy j) % 65536 % 2 ^ l))) := by
    unfold rX7_survey_b52
    simp only [jq_l, ih, ch, v4 _ hh, ij, cj, ekey]
    rw [← hS1, t3, y1, Option.bind_some]
    simp only [y4, n_hl hl hw, na1]
  refine ⟨u2 S2 4 (ho j) (nI ((2 * hx ho wy j (ho j) + wy j) % 65536 % 2 ^ l)), ?_, ?_, ?_, ?_, ?_, ?_, ?_⟩
  · rw [← b52]
    unfold rX7_survey_b20 rX7_placeOf rX7_wayOf
    simp only [jq_l, s5, if_neg hle, ij, cj, s0, ep, ew, Option.bind_some]
    by_cases ho0 : own = 0
    · rw [if_pos ho0] at hho ⊢
      rw [hho]
      rfl
    · rw [if_neg ho0] at hho ⊢
      rw [hho]
  · intro k z2 z3 z4 z6 z7
    rw [u2_ne z4, yk k z2 z6 z7, hS1, u2_ne z3]
    exact v0 k z2 z3 z4 z6 z7
  · intro q hq
    show u2 S2 4 (ho j) _ 4 q = nI ((if q = ho j then (2 * hx ho wy j q + wy j) % 65536 else hx ho wy j q) % 2 ^ l)
    rw [u2_eq]
    by_cases e : q = ho j
    · rw [if_pos e, e, pk_us]
    · rw [if_neg e, pk_un e, yk 4 (by decide) (by decide) (by decide), hS1, u2_ne (by decide)]
      exact v4 q hq
  · intro i hi
    rw [u2_ne (by decide), yk 3 (by decide) (by decide) (by decide), hS1, u2_eq]
    by_cases e : i = j
    · rw [e, pk_us]
    · rw [pk_un e]
      exact v3 i (by omega)
  · intro x hx
    rw [u2_ne (by decide), y2, hS1]
    by_cases e : x = ky l ho pl wy j
    · subst e
      rw [pk_us, cnt_at, cnt_at]
    · rw [pk_un e, u2_ne (by decide), v2 x hx, cnt_next hw e, cnt_next hw e]
  · rw [u2_ne (by decide), y6, hS1, u2_ne (by decide), v6, nI_add]
    rfl
  · rw [u2_ne (by decide), y7, hS1, u2_ne (by decide), v7, nI_add]
    rfl
theorem sv_loop {own : Int32} {K : ob_S → Option ob_S} (hl : l ≤ 8) (hm : m ≤ 3000) (w5 : W 5 0 = nI m) (hr : ∀ i, i < m → pl i < 64 ∧ wy i < 2 ∧ W 0 i = nI (2 * pl i + wy i)) (hho : ∀ i, i < m → ho i = if own = 0 then 0 else pl i) :
    ∀ (k j : Nat) (S : ob_S), SV m l ho pl wy W j S → j ≤ m → m < j + k → ∃ S', rX7_survey_l20 n K k (nI l) own (nI j) S = K S' ∧ SV m l ho pl wy W m S' := by
  intro k
  induction k with
  | zero => intro j S _ h1 h2; exfalso; omega
  | succ k ih =>
    intro j S V h1 h2
    by_cases hj : m ≤ j
    · have e : j = m := by omega
      subst e
      refine ⟨S, ?_, V⟩
      show rX7_survey_b20 n (rX7_survey_l20 n K k) K _ _ _ _ = _
      unfold rX7_survey_b20
      have s5 : S 5 0 = nI j := by rw [V.1 5 (by decide) (by decide) (by decide) (by decide) (by decide)]; exact w5
      simp only [jq_l, s5]
      rw [if_pos (Int32.le_refl _)]
    · obtain ⟨b1, b2, b3⟩ := hr j (by omega)
      obtain ⟨S1, z1, z2⟩ := sv_step (n := n) (KB := rX7_survey_l20 n K k) (K := K) hl hm (show j < m by omega) w5 b1 b2 b3 (hho j (by omega)) V
      obtain ⟨S2, y1, y2⟩ := ih (j + 1) S1 z2 (by omega) (by omega)
      exact ⟨S2, by rw [← y1]; exact z1, y2⟩
/-- the touched ones are cleared -/
theorem cl_loop {K : ob_S → Option ob_S} {kk : Nat → Nat} (hm : m ≤ 3000) (hkk : ∀ i, i < m → kk i < 16384) : ∀ (k j : Nat) (S : ob_S), S 5 0 = nI m → (∀ i, i < m → S 3 i = nI (kk i)) → (∀ x, x < 16384 → (∀ i, j ≤ i → i < m → kk i ≠ x) → S 2 x = 0) → j ≤ m → m < j + k →
    ∃ S', rX7_survey_l116 n K k (nI j) S = K S' ∧ (∀ x, x < 16384 → S' 2 x = 0) ∧ ∀ k, k ≠ 2 → S' k = S k := by
  intro k
  induction k with
  | zero => intro j S _ _ _ h1 h2; exfalso; omega
  | succ k ih =>
    intro j S s5 s3 s2 h1 h2
    by_cases hj : m ≤ j
    · have e : j = m := by omega
      subst e
      refine ⟨S, ?_, fun x hx => s2 x hx (fun i q1 q2 => by omega), fun _ _ => rfl⟩
      show rX7_survey_b116 n (rX7_survey_l116 n K k) K _ _ = _
      unfold rX7_survey_b116
      simp only [jq_l, s5]
      rw [if_pos (Int32.le_refl _)]
    · have hle : ¬ nI m ≤ nI j := fun q => hj ((nI_leI (by omega) (by omega)).mp q)
      have hk := hkk j (by omega)
      have cj : (nI j).toNatClampNeg = j := n_cl (by omega)
      have ij : ∀ {β : Type} (x : Option β), (if jq_in (nI j) 3000 then x else none) = x := fun x => n_ifin (by omega) (by decide)
      have ck : (nI (kk j)).toNatClampNeg = kk j := n_cl (by omega)
      have ik : ∀ {β : Type} (x : Option β), (if jq_in (nI (kk j)) 16384 then x else none) = x := fun x => n_ifin hk (by decide)
      obtain ⟨S', z1, z2, z3⟩ := ih (j + 1) (u2 S 2 (kk j) 0) (by rw [u2_ne (by decide)]; exact s5) (fun i hi => by rw [u2_ne (by decide)]; exact s3 i hi) (fun x hx q => by
        rw [u2_eq]
        by_cases e : x = kk j
        · rw [e, pk_us]
        · rw [pk_un e]
          refine s2 x hx (fun i q1 q2 => ?_)
          by_cases e2 : i = j
          · rw [e2]
            exact fun z => e z.symm
          · exact q i (by omega) q2) (by omega) (by omega)
      refine ⟨S', ?_, z2, fun k hk => by rw [z3 k hk, u2_ne hk]⟩
      rw [← z1]
      show rX7_survey_b116 n (rX7_survey_l116 n K k) K _ _ = _
      unfold rX7_survey_b116
      simp only [jq_l, s5, if_neg hle, ij, cj, s3 j (by omega), ik, ck, na1]
theorem cnt_none {k wy : Nat → Nat} {x w : Nat} : ∀ m, (∀ i, i < m → k i ≠ x) → cnt k wy x w m = 0
  | 0, _ => rfl
  | m + 1, h => by
    show cnt k wy x w m + _ = 0
    rw [cnt_none m (fun i hi => h i (by omega)), if_neg (fun q => h m (by omega) q.1)]
theorem C_survey {own : Int32} {R : ob_S} (hn : 3000 < n) (hl : l ≤ 8) (Q : RWq m pl wy W R) (hho : ∀ i, i < m → ho i = if own = 0 then 0 else pl i) :
    ∃ W', rX7_survey n W (nI l) own = some W' ∧ RWq m pl wy W' R ∧ W' 6 0 = nI (lmf (ky l ho pl wy) wy m) ∧ W' 7 0 = nI (unf (ky l ho pl wy) wy m) := by
  obtain ⟨hm, r9, w5, hr, w1, w2⟩ := Q
  have V0 : SV m l ho pl wy W 0 (u2 (u2 (ob_fill W 4 64 0) 6 0 0) 7 0 0) := by
    refine ⟨fun k z2 z3 z4 z6 z7 => ?_, fun q hq => ?_, fun i hi => by omega, fun x hx => ?_, ?_, ?_⟩
    · rw [u2_ne z7, u2_ne z6]
      unfold ob_fill
      rw [us_ne z4]
    · rw [u2_ne (by decide), u2_ne (by decide)]
      unfold ob_fill
      rw [us_eq, if_pos hq]
      show (0 : Int32) = nI (0 % 2 ^ l)
      rw [Nat.zero_mod]
      rfl
    · rw [u2_ne (by decide), u2_ne (by decide)]
      unfold ob_fill
      rw [us_ne (by decide)]
      exact w2 x hx
    · rw [u2_ne (by decide), u2_at]
      rfl
    · rw [u2_at]
      rfl
  obtain ⟨S1, z1, v0, v4, v3, v2, v6, v7⟩ := sv_loop (n := n) (own := own) (K := fun SS => rX7_survey_b114 n SS) hl hm w5 (fun i hi => ⟨(hr i hi).1, (hr i hi).2.1, (hr i hi).2.2.2.2⟩) hho n 0 _ V0 (by omega) (by omega)
  have hkk : ∀ i, i < m → ky l ho pl wy i < 16384 := fun i hi => ky_lt hl (hr i hi).1
  obtain ⟨S2, y1, y2, y3⟩ := cl_loop (n := n) (K := fun SS => rX7_survey_b142 n SS) hm hkk n 0 S1 (by rw [v0 5 (by decide) (by decide) (by decide) (by decide) (by decide)]; exact w5) v3 (fun x hx q => by
    rw [v2 x hx, cnt_none m (fun i hi => q i (by omega) hi), cnt_none m (fun i hi => q i (by omega) hi)]
    rfl) (by omega) (by omega)
  have f : ∀ k, k ≠ 2 → k ≠ 3 → k ≠ 4 → k ≠ 6 → k ≠ 7 → S2 k = W k := fun k q2 q3 q4 q6 q7 => by rw [y3 k q2, v0 k q2 q3 q4 q6 q7]
  refine ⟨S2, ?_, ⟨hm, r9, ?_, fun i hi => ?_, fun p w hp hw => ?_, y2⟩, ?_, ?_⟩
  · unfold rX7_survey
    rw [if_pos (by omega)]
    simp only [jq_l]
    exact z1.trans y1
  · rw [f 5 (by decide) (by decide) (by decide) (by decide) (by decide)]
    exact w5
  · rw [f 0 (by decide) (by decide) (by decide) (by decide) (by decide)]
    exact hr i hi
  · rw [f 1 (by decide) (by decide) (by decide) (by decide) (by decide)]
    exact w1 p w hp hw
  · rw [y3 6 (by decide)]
    exact v6
  · rw [y3 7 (by decide)]
    exact v7
end SURVEY
