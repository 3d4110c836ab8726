/-! ===== the reference's numbers of one guesser: a block of 812 ===== -/
def bset (S : ob_S) (g : Nat) (nb : Nat → Int32) : ob_S := us S 18 (fun i => if 812 * g ≤ i ∧ i < 812 * g + 812 then nb (i - 812 * g) else S 18 i)
theorem bset_at {S : ob_S} {g k : Nat} {nb : Nat → Int32} (hk : k < 812) : bset S g nb 18 (812 * g + k) = nb k := by
  unfold bset
  rw [us_eq]
  rw [if_pos (by omega), Nat.add_sub_cancel_left]
theorem bset_ne {S : ob_S} {g j : Nat} {nb : Nat → Int32} (hj : j ≠ 18) : bset S g nb j = S j := us_ne hj
theorem bset_other {S : ob_S} {g g' k : Nat} {nb : Nat → Int32} (hg : g' ≠ g) (hk : k < 812) : bset S g nb 18 (812 * g' + k) = S 18 (812 * g' + k) := by
  unfold bset
  rw [us_eq]
  rw [if_neg (by omega)]
theorem bset_u2 {S : ob_S} {g k : Nat} {nb : Nat → Int32} {x : Int32} (hk : k < 812) : u2 (bset S g nb) 18 (812 * g + k) x = bset S g (upd nb k x) := by
  funext j i
  by_cases hj : j = 18
  · subst hj
    unfold u2 bset
    rw [us_eq, us_eq]
    simp only [true_and]
    by_cases hi : i = 812 * g + k
    · rw [if_pos hi, if_pos (by omega)]
      have : i - 812 * g = k := by omega
      rw [this]
      simp [upd]
    · rw [if_neg hi]
      by_cases hb : 812 * g ≤ i ∧ i < 812 * g + 812
      · rw [if_pos hb, if_pos hb]
        have : i - 812 * g ≠ k := by omega
        simp [upd, this]
      · rw [if_neg hb, if_neg hb]
  · rw [u2_ne hj, bset_ne hj, bset_ne hj]
theorem bset_bset {S : ob_S} {g : Nat} {x y : Nat → Int32} : bset (bset S g x) g y = bset S g y := by
  funext j i
  by_cases hj : j = 18
  · subst hj
    unfold bset
    rw [us_eq, us_eq, us_eq]
    by_cases hb : 812 * g ≤ i ∧ i < 812 * g + 812
    · rw [if_pos hb, if_pos hb]
    · rw [if_neg hb, if_neg hb, if_neg hb]
  · rw [bset_ne hj, bset_ne hj, bset_ne hj]
def nbS (S : ob_S) (g : Nat) : Nat → Int32 := fun k => S 18 (812 * g + k)
theorem bset_id (S : ob_S) (g : Nat) : bset S g (nbS S g) = S := by
  funext j i
  by_cases hj : j = 18
  · subst hj
    unfold bset nbS
    rw [us_eq]
    by_cases hb : 812 * g ≤ i ∧ i < 812 * g + 812
    · rw [if_pos hb]
      congr 1
      omega
    · rw [if_neg hb]
  · rw [bset_ne hj]
theorem bset_congr {S : ob_S} {g : Nat} {x y : Nat → Int32} (h : ∀ k, k < 812 → x k = y k) : bset S g x = bset S g y := by
  funext j i
  by_cases hj : j = 18
  · subst hj
    unfold bset
    rw [us_eq, us_eq]
    by_cases hb : 812 * g ≤ i ∧ i < 812 * g + 812
    · rw [if_pos hb, if_pos hb, h _ (by omega)]
    · rw [if_neg hb, if_neg hb]
  · rw [bset_ne hj, bset_ne hj]
/-- which counter: of kind kd with numbers a, b, c, at the place p, in the table t -/
def sp_ctr (kd a b c : Nat) (nb : Nat → Int32) (p t : Nat) : Nat :=
  if kd = 1 then p % 2 ^ a else if kd = 2 then (p ^^^ ((nb 808).toNatClampNeg % 2 ^ b)) % 2 ^ a else
  if kd = 3 then (((nb (384 + p)).toNatClampNeg % 2 ^ b) ^^^ (c * p)) % 2 ^ a else
  if kd = 4 then 128 * t + ((5 * p) ^^^ ((nb 808).toNatClampNeg % 2 ^ (t * b))) % 2 ^ a else if kd = 5 then p % 2 ^ a else p % 2 ^ c
/-- the guesser's kind and numbers, as the reference has them: those that the kind has are as told -/
def gkOK (kd a b c : Nat) : Prop := kd < 8 ∧ (kd = 0 → a < 3) ∧ (kd = 1 → a ≤ 6) ∧ (kd = 2 → a ≤ 8 ∧ b ≤ 8) ∧ (kd = 3 → a ≤ 8 ∧ b ≤ 8 ∧ c ≤ 1) ∧ (kd = 4 → 1 ≤ a ∧ a ≤ 7 ∧ 1 ≤ b ∧ b ≤ 4) ∧ (kd = 5 → a ≤ 4 ∧ 1 ≤ b ∧ b ≤ 8 ∧ c ≤ 50) ∧ (kd = 6 → 1 ≤ a ∧ a ≤ 3) ∧ (kd = 7 → c ≤ 6)
/-- S has them for g -/
def gkS (S : ob_S) (g kd a b c : Nat) : Prop := S 13 g = nI kd ∧ (kd ≠ 8 → S 14 g = nI a) ∧ (kd = 2 ∨ kd = 3 ∨ kd = 4 ∨ kd = 5 ∨ kd = 7 → S 15 g = nI b) ∧ (kd = 3 ∨ kd = 5 ∨ kd = 7 → S 16 g = nI c)
/-- histories are below 2 to the 16 -/
def hisOK (nb : Nat → Int32) : Prop := isN (nb 808) 65536 ∧ ∀ p, p < 64 → isN (nb (384 + p)) 65536
theorem isN.cl {x : Int32} {n : Nat} (h : isN x n) (hn : n ≤ 2 ^ 31) : x = nI x.toNatClampNeg ∧ x.toNatClampNeg < n := by
  obtain ⟨k, hk, rfl⟩ := h
  rw [n_cl (by omega)]
  exact ⟨rfl, hk⟩
set_option maxHeartbeats 4000000 in
theorem L_counter {n g p t kd a b c : Nat} {S : ob_S} {nb : Nat → Int32} (hg : g < 8) (hp : p < 64) (ht : t < 3) (hk : gkOK kd a b c) (hS : gkS S g kd a b c) (hh : hisOK nb) (h0 : kd ≠ 0) (h6 : kd ≠ 6) :
    rX11_counter n (bset S g nb) (nI g) (nI p) (nI t) = some (nI (sp_ctr kd a b c nb p t), bset S g nb) := by
  obtain ⟨k8, -, k1, k2, k3, k4, k5, -, k7⟩ := hk
  obtain ⟨s13, s14, s15, s16⟩ := hS
  obtain ⟨e8, l8⟩ := hh.1.cl (by decide)
  obtain ⟨ep, lp⟩ := (hh.2 p hp).cl (by decide)
  have c1 : (nI g).toNatClampNeg = g := n_cl (by omega)
  have c2 : (nI (812 * g + 808)).toNatClampNeg = 812 * g + 808 := n_cl (by omega)
  have c3 : (nI (812 * g + 384 + p)).toNatClampNeg = 812 * g + (384 + p) := by rw [n_cl (by omega)]; omega
  have i1 : ∀ {β : Type} (x : Option β), (if jq_in (nI g) 8 then x else none) = x := fun x => n_ifin hg (by decide)
  have i2 : ∀ {β : Type} (x : Option β), (if jq_in (nI (812 * g + 808)) 6496 then x else none) = x := fun x => n_ifin (by omega) (by decide)
  have i3 : ∀ {β : Type} (x : Option β), (if jq_in (nI (812 * g + 384 + p)) 6496 then x else none) = x := fun x => n_ifin (by omega) (by decide)
  have b1 : bset S g nb 18 (812 * g + 808) = nb 808 := bset_at (by decide)
  have b2 : bset S g nb 18 (812 * g + (384 + p)) = nb (384 + p) := bset_at (by omega)
  have b13 : bset S g nb 13 g = nI kd := by rw [bset_ne (by decide)]; exact s13
  unfold rX11_counter sp_ctr
  simp only [jq_l, nm812, na808, na384, nI_add, i1, i2, i3, c1, c2, c3, b1, b2, b13]
  rcases (show kd = 1 ∨ kd = 2 ∨ kd = 3 ∨ kd = 4 ∨ kd = 5 ∨ kd = 7 by omega) with rfl | rfl | rfl | rfl | rfl | rfl
  · simp only [tq_1_0, tq_1_1, tq_1_2, tq_1_3, tq_1_4, tq_1_5, tq_1_6, tq_1_7, if_true, if_false, Nat.reduceEqDiff]
    rw [bset_ne (by decide), s14 (by decide), n_low (by omega)]
  · simp only [tq_2_0, tq_2_1, tq_2_2, tq_2_3, tq_2_4, tq_2_5, tq_2_6, tq_2_7, if_true, if_false, Nat.reduceEqDiff]
    rw [bset_ne (by decide), bset_ne (by decide), s14 (by decide), s15 (by decide), e8, n_low (by omega), n_xor, n_low (by omega), n_cl (by omega)]
  · simp only [tq_3_0, tq_3_1, tq_3_2, tq_3_3, tq_3_4, tq_3_5, tq_3_6, tq_3_7, if_true, if_false, Nat.reduceEqDiff]
    rw [bset_ne (by decide), bset_ne (by decide), bset_ne (by decide), s14 (by decide), s15 (by decide), s16 (by decide), ep, n_low (by omega), pk_mul, n_xor, n_low (by omega), n_cl (by omega)]
  · simp only [tq_4_0, tq_4_1, tq_4_2, tq_4_3, tq_4_4, tq_4_5, tq_4_6, tq_4_7, if_true, if_false, Nat.reduceEqDiff]
    rw [bset_ne (by decide), bset_ne (by decide), s14 (by decide), s15 (by decide), e8, pk_mul, n_low (by have : t * b ≤ 2 * 4 := Nat.mul_le_mul (by omega) (by omega); omega), nm5, n_xor, n_low (by omega), nm128, nI_add, n_cl (by omega)]
  · simp only [tq_5_0, tq_5_1, tq_5_2, tq_5_3, tq_5_4, tq_5_5, tq_5_6, tq_5_7, if_true, if_false, Nat.reduceEqDiff]
    rw [bset_ne (by decide), s14 (by decide), n_low (by omega)]
  · simp only [tq_7_0, tq_7_1, tq_7_2, tq_7_3, tq_7_4, tq_7_5, tq_7_6, tq_7_7, if_true, if_false, Nat.reduceEqDiff]
    rw [bset_ne (by decide), s16 (by decide), n_low (by omega)]
