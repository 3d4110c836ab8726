/-! ===== numbers ===== -/
theorem na1 (a : Nat) : nI a + 1 = nI (a + 1) := nI_add a 1
theorem na2 (a : Nat) : nI a + 2 = nI (a + 2) := nI_add a 2
theorem na3 (a : Nat) : nI a + 3 = nI (a + 3) := nI_add a 3
theorem na6 (a : Nat) : nI a + 6 = nI (a + 6) := nI_add a 6
theorem na7 (a : Nat) : nI a + 7 = nI (a + 7) := nI_add a 7
theorem na9 (a : Nat) : nI a + 9 = nI (a + 9) := nI_add a 9
theorem na40 (a : Nat) : nI a + 40 = nI (a + 40) := nI_add a 40
theorem na64 (a : Nat) : nI a + 64 = nI (a + 64) := nI_add a 64
theorem na128 (a : Nat) : nI a + 128 = nI (a + 128) := nI_add a 128
theorem na384 (a : Nat) : nI a + 384 = nI (a + 384) := nI_add a 384
theorem na448 (a : Nat) : nI a + 448 = nI (a + 448) := nI_add a 448
theorem na512 (a : Nat) : nI a + 512 = nI (a + 512) := nI_add a 512
theorem na768 (a : Nat) : nI a + 768 = nI (a + 768) := nI_add a 768
theorem na808 (a : Nat) : nI a + 808 = nI (a + 808) := nI_add a 808
theorem na809 (a : Nat) : nI a + 809 = nI (a + 809) := nI_add a 809
theorem na810 (a : Nat) : nI a + 810 = nI (a + 810) := nI_add a 810
theorem na811 (a : Nat) : nI a + 811 = nI (a + 811) := nI_add a 811
theorem na812 (a : Nat) : nI a + 812 = nI (a + 812) := nI_add a 812
theorem nm2 (a : Nat) : 2 * nI a = nI (2 * a) := pk_mul 2 a
theorem nm3 (a : Nat) : 3 * nI a = nI (3 * a) := pk_mul 3 a
theorem nm5 (a : Nat) : 5 * nI a = nI (5 * a) := pk_mul 5 a
theorem nm9 (a : Nat) : 9 * nI a = nI (9 * a) := pk_mul 9 a
theorem nm64 (a : Nat) : 64 * nI a = nI (64 * a) := pk_mul 64 a
theorem nm128 (a : Nat) : 128 * nI a = nI (128 * a) := pk_mul 128 a
theorem nm256 (a : Nat) : 256 * nI a = nI (256 * a) := pk_mul 256 a
theorem nm812 (a : Nat) : 812 * nI a = nI (812 * a) := pk_mul 812 a
theorem n_and (a b : Nat) : nI a &&& nI b = nI (a &&& b) := by
  apply Int32.toBitVec_inj.1
  show BitVec.ofNat 32 a &&& BitVec.ofNat 32 b = BitVec.ofNat 32 (a &&& b)
  apply BitVec.eq_of_getLsbD_eq
  intro i hi
  simp [hi]
theorem n_or (a b : Nat) : nI a ||| nI b = nI (a ||| b) := by
  apply Int32.toBitVec_inj.1
  show BitVec.ofNat 32 a ||| BitVec.ofNat 32 b = BitVec.ofNat 32 (a ||| b)
  apply BitVec.eq_of_getLsbD_eq
  intro i hi
  simp [hi]
theorem n_xor (a b : Nat) : nI a ^^^ nI b = nI (a ^^^ b) := by
  apply Int32.toBitVec_inj.1
  show BitVec.ofNat 32 a ^^^ BitVec.ofNat 32 b = BitVec.ofNat 32 (a ^^^ b)
  apply BitVec.eq_of_getLsbD_eq
  intro i hi
  simp [hi]
theorem n_mask (n k : Nat) : nI n &&& nI (2 ^ k - 1) = nI (n % 2 ^ k) := by rw [n_and, Nat.and_two_pow_sub_one_eq_mod]
theorem n_lb : ∀ k, k < 17 → ((1 : Int32) <<< (nI k &&& 31)) - 1 = nI (2 ^ k - 1) := by decide +kernel
theorem n_low {v k : Nat} (hk : k < 17) : pf_low (nI v) (nI k) = nI (v % 2 ^ k) := by
  unfold pf_low
  rw [n_lb k hk, n_mask]
theorem n_shl1 {x : Nat} (h : x < 2 ^ 30) : nI x <<< ((1 : Int32) &&& 31) = nI (2 * x) := by
  rw [pk_shlN ((1 : Int32) &&& 31) 1 (by decide) (by omega), Nat.mul_comm]
theorem n_or1 {x w : Nat} (hw : w < 2) : 2 * x ||| w = 2 * x + w := by
  have h := Nat.two_pow_add_eq_or_of_lt (i := 1) (b := w) (by omega) x
  simp only [Nat.pow_one] at h
  exact h.symm
theorem n_h16 {x w : Nat} (hx : x < 65536) (hw : w < 2) : ((nI x <<< ((1 : Int32) &&& 31)) ||| nI w) &&& 65535 = nI ((2 * x + w) % 65536) := by
  rw [n_shl1 (by omega), n_or, n_or1 hw]
  exact n_mask (2 * x + w) 16
theorem n_h8 {x w : Nat} (hx : x < 65536) (hw : w < 2) : ((nI x <<< ((1 : Int32) &&& 31)) ||| nI w) &&& (((1 : Int32) <<< (8 &&& 31)) - 1) = nI ((2 * x + w) % 256) := by
  rw [n_shl1 (by omega), n_or, n_or1 hw]
  exact n_mask (2 * x + w) 8
theorem n_shr {x k : Nat} (hx : x < 2 ^ 31) (hk : k < 32) : nI x >>> (nI k &&& 31) = nI (x / 2 ^ k) := pk_shrN hx _ k (by revert hk; revert k; decide +kernel)
theorem n_bit {x k : Nat} (hx : x < 2 ^ 31) (hk : k < 32) : (nI x >>> (nI k &&& 31)) &&& 1 = nI (x / 2 ^ k % 2) := by
  rw [n_shr hx hk]
  exact n_mask _ 1
theorem n_ifin {β : Type} {k n : Nat} {x : Option β} (h : k < n) (hn : n < 2 ^ 31) : (if jq_in (nI k) n then x else none) = x := if_pos (jq_inN' h hn)
theorem n_cl {k : Nat} (h : k < 2 ^ 31) : (nI k).toNatClampNeg = k := nI_clamp h
/-- a number below a bound -/
def isN (x : Int32) (n : Nat) : Prop := ∃ k, k < n ∧ x = nI k
theorem pf_in_of {v : Int32} {m : Nat} (hm : m < 2 ^ 31) (h : ¬ pf_in v 0 (nI m) = 0) : ∃ k, k ≤ m ∧ v = nI k := by
  unfold pf_in at h
  split at h
  · rename_i hh
    obtain ⟨k, hk, rfl⟩ := nI_of (x := v) (Int32.not_lt.mpr hh.1)
    exact ⟨k, (nI_leI hk hm).mp hh.2, rfl⟩
  · exact absurd rfl h
theorem pf_in_yes {k m : Nat} (h : k ≤ m) (hm : m < 2 ^ 31) : pf_in (nI k) 0 (nI m) = 1 := by
  unfold pf_in
  rw [if_pos ⟨nI_pos' (by omega), nI_le h hm⟩]

theorem tq_0_0 : (nI 0 = (0 : Int32)) = True := eq_true rfl
theorem tq_0_1 : (nI 0 = (1 : Int32)) = False := eq_false (by decide)
theorem tq_0_2 : (nI 0 = (2 : Int32)) = False := eq_false (by decide)
theorem tq_0_3 : (nI 0 = (3 : Int32)) = False := eq_false (by decide)
theorem tq_0_4 : (nI 0 = (4 : Int32)) = False := eq_false (by decide)
theorem tq_0_5 : (nI 0 = (5 : Int32)) = False := eq_false (by decide)
theorem tq_0_6 : (nI 0 = (6 : Int32)) = False := eq_false (by decide)
theorem tq_0_7 : (nI 0 = (7 : Int32)) = False := eq_false (by decide)
theorem tq_0_8 : (nI 0 = (8 : Int32)) = False := eq_false (by decide)
theorem tq_0_9 : (nI 0 = (9 : Int32)) = False := eq_false (by decide)
theorem tq_0_10 : (nI 0 = (10 : Int32)) = False := eq_false (by decide)
theorem tq_0_11 : (nI 0 = (11 : Int32)) = False := eq_false (by decide)
theorem tq_0_12 : (nI 0 = (12 : Int32)) = False := eq_false (by decide)
theorem tq_1_0 : (nI 1 = (0 : Int32)) = False := eq_false (by decide)
theorem tq_1_1 : (nI 1 = (1 : Int32)) = True := eq_true rfl
theorem tq_1_2 : (nI 1 = (2 : Int32)) = False := eq_false (by decide)
theorem tq_1_3 : (nI 1 = (3 : Int32)) = False := eq_false (by decide)
theorem tq_1_4 : (nI 1 = (4 : Int32)) = False := eq_false (by decide)
theorem tq_1_5 : (nI 1 = (5 : Int32)) = False := eq_false (by decide)
theorem tq_1_6 : (nI 1 = (6 : Int32)) = False := eq_false (by decide)
theorem tq_1_7 : (nI 1 = (7 : Int32)) = False := eq_false (by decide)
theorem tq_1_8 : (nI 1 = (8 : Int32)) = False := eq_false (by decide)
theorem tq_1_9 : (nI 1 = (9 : Int32)) = False := eq_false (by decide)
theorem tq_1_10 : (nI 1 = (10 : Int32)) = False := eq_false (by decide)
theorem tq_1_11 : (nI 1 = (11 : Int32)) = False := eq_false (by decide)
theorem tq_1_12 : (nI 1 = (12 : Int32)) = False := eq_false (by decide)
theorem tq_2_0 : (nI 2 = (0 : Int32)) = False := eq_false (by decide)
theorem tq_2_1 : (nI 2 = (1 : Int32)) = False := eq_false (by decide)
theorem tq_2_2 : (nI 2 = (2 : Int32)) = True := eq_true rfl
theorem tq_2_3 : (nI 2 = (3 : Int32)) = False := eq_false (by decide)
theorem tq_2_4 : (nI 2 = (4 : Int32)) = False := eq_false (by decide)
theorem tq_2_5 : (nI 2 = (5 : Int32)) = False := eq_false (by decide)
theorem tq_2_6 : (nI 2 = (6 : Int32)) = False := eq_false (by decide)
theorem tq_2_7 : (nI 2 = (7 : Int32)) = False := eq_false (by decide)
theorem tq_2_8 : (nI 2 = (8 : Int32)) = False := eq_false (by decide)
theorem tq_2_9 : (nI 2 = (9 : Int32)) = False := eq_false (by decide)
theorem tq_2_10 : (nI 2 = (10 : Int32)) = False := eq_false (by decide)
theorem tq_2_11 : (nI 2 = (11 : Int32)) = False := eq_false (by decide)
theorem tq_2_12 : (nI 2 = (12 : Int32)) = False := eq_false (by decide)
theorem tq_3_0 : (nI 3 = (0 : Int32)) = False := eq_false (by decide)
theorem tq_3_1 : (nI 3 = (1 : Int32)) = False := eq_false (by decide)
theorem tq_3_2 : (nI 3 = (2 : Int32)) = False := eq_false (by decide)
theorem tq_3_3 : (nI 3 = (3 : Int32)) = True := eq_true rfl
theorem tq_3_4 : (nI 3 = (4 : Int32)) = False := eq_false (by decide)
theorem tq_3_5 : (nI 3 = (5 : Int32)) = False := eq_false (by decide)
theorem tq_3_6 : (nI 3 = (6 : Int32)) = False := eq_false (by decide)
theorem tq_3_7 : (nI 3 = (7 : Int32)) = False := eq_false (by decide)
theorem tq_3_8 : (nI 3 = (8 : Int32)) = False := eq_false (by decide)
theorem tq_3_9 : (nI 3 = (9 : Int32)) = False := eq_false (by decide)
theorem tq_3_10 : (nI 3 = (10 : Int32)) = False := eq_false (by decide)
theorem tq_3_11 : (nI 3 = (11 : Int32)) = False := eq_false (by decide)
theorem tq_3_12 : (nI 3 = (12 : Int32)) = False := eq_false (by decide)
theorem tq_4_0 : (nI 4 = (0 : Int32)) = False := eq_false (by decide)
theorem tq_4_1 : (nI 4 = (1 : Int32)) = False := eq_false (by decide)
theorem tq_4_2 : (nI 4 = (2 : Int32)) = False := eq_false (by decide)
theorem tq_4_3 : (nI 4 = (3 : Int32)) = False := eq_false (by decide)
theorem tq_4_4 : (nI 4 = (4 : Int32)) = True := eq_true rfl
theorem tq_4_5 : (nI 4 = (5 : Int32)) = False := eq_false (by decide)
theorem tq_4_6 : (nI 4 = (6 : Int32)) = False := eq_false (by decide)
theorem tq_4_7 : (nI 4 = (7 : Int32)) = False := eq_false (by decide)
theorem tq_4_8 : (nI 4 = (8 : Int32)) = False := eq_false (by decide)
theorem tq_4_9 : (nI 4 = (9 : Int32)) = False := eq_false (by decide)
theorem tq_4_10 : (nI 4 = (10 : Int32)) = False := eq_false (by decide)
theorem tq_4_11 : (nI 4 = (11 : Int32)) = False := eq_false (by decide)
theorem tq_4_12 : (nI 4 = (12 : Int32)) = False := eq_false (by decide)
theorem tq_5_0 : (nI 5 = (0 : Int32)) = False := eq_false (by decide)
theorem tq_5_1 : (nI 5 = (1 : Int32)) = False := eq_false (by decide)
theorem tq_5_2 : (nI 5 = (2 : Int32)) = False := eq_false (by decide)
theorem tq_5_3 : (nI 5 = (3 : Int32)) = False := eq_false (by decide)
theorem tq_5_4 : (nI 5 = (4 : Int32)) = False := eq_false (by decide)
theorem tq_5_5 : (nI 5 = (5 : Int32)) = True := eq_true rfl
theorem tq_5_6 : (nI 5 = (6 : Int32)) = False := eq_false (by decide)
theorem tq_5_7 : (nI 5 = (7 : Int32)) = False := eq_false (by decide)
theorem tq_5_8 : (nI 5 = (8 : Int32)) = False := eq_false (by decide)
theorem tq_5_9 : (nI 5 = (9 : Int32)) = False := eq_false (by decide)
theorem tq_5_10 : (nI 5 = (10 : Int32)) = False := eq_false (by decide)
theorem tq_5_11 : (nI 5 = (11 : Int32)) = False := eq_false (by decide)
theorem tq_5_12 : (nI 5 = (12 : Int32)) = False := eq_false (by decide)
theorem tq_6_0 : (nI 6 = (0 : Int32)) = False := eq_false (by decide)
theorem tq_6_1 : (nI 6 = (1 : Int32)) = False := eq_false (by decide)
theorem tq_6_2 : (nI 6 = (2 : Int32)) = False := eq_false (by decide)
theorem tq_6_3 : (nI 6 = (3 : Int32)) = False := eq_false (by decide)
theorem tq_6_4 : (nI 6 = (4 : Int32)) = False := eq_false (by decide)
theorem tq_6_5 : (nI 6 = (5 : Int32)) = False := eq_false (by decide)
theorem tq_6_6 : (nI 6 = (6 : Int32)) = True := eq_true rfl
theorem tq_6_7 : (nI 6 = (7 : Int32)) = False := eq_false (by decide)
theorem tq_6_8 : (nI 6 = (8 : Int32)) = False := eq_false (by decide)
theorem tq_6_9 : (nI 6 = (9 : Int32)) = False := eq_false (by decide)
theorem tq_6_10 : (nI 6 = (10 : Int32)) = False := eq_false (by decide)
theorem tq_6_11 : (nI 6 = (11 : Int32)) = False := eq_false (by decide)
theorem tq_6_12 : (nI 6 = (12 : Int32)) = False := eq_false (by decide)
theorem tq_7_0 : (nI 7 = (0 : Int32)) = False := eq_false (by decide)
theorem tq_7_1 : (nI 7 = (1 : Int32)) = False := eq_false (by decide)
theorem tq_7_2 : (nI 7 = (2 : Int32)) = False := eq_false (by decide)
theorem tq_7_3 : (nI 7 = (3 : Int32)) = False := eq_false (by decide)
theorem tq_7_4 : (nI 7 = (4 : Int32)) = False := eq_false (by decide)
theorem tq_7_5 : (nI 7 = (5 : Int32)) = False := eq_false (by decide)
theorem tq_7_6 : (nI 7 = (6 : Int32)) = False := eq_false (by decide)
theorem tq_7_7 : (nI 7 = (7 : Int32)) = True := eq_true rfl
theorem tq_7_8 : (nI 7 = (8 : Int32)) = False := eq_false (by decide)
theorem tq_7_9 : (nI 7 = (9 : Int32)) = False := eq_false (by decide)
theorem tq_7_10 : (nI 7 = (10 : Int32)) = False := eq_false (by decide)
theorem tq_7_11 : (nI 7 = (11 : Int32)) = False := eq_false (by decide)
theorem tq_7_12 : (nI 7 = (12 : Int32)) = False := eq_false (by decide)
theorem tq_8_0 : (nI 8 = (0 : Int32)) = False := eq_false (by decide)
theorem tq_8_1 : (nI 8 = (1 : Int32)) = False := eq_false (by decide)
theorem tq_8_2 : (nI 8 = (2 : Int32)) = False := eq_false (by decide)
theorem tq_8_3 : (nI 8 = (3 : Int32)) = False := eq_false (by decide)
theorem tq_8_4 : (nI 8 = (4 : Int32)) = False := eq_false (by decide)
theorem tq_8_5 : (nI 8 = (5 : Int32)) = False := eq_false (by decide)
theorem tq_8_6 : (nI 8 = (6 : Int32)) = False := eq_false (by decide)
theorem tq_8_7 : (nI 8 = (7 : Int32)) = False := eq_false (by decide)
theorem tq_8_8 : (nI 8 = (8 : Int32)) = True := eq_true rfl
theorem tq_8_9 : (nI 8 = (9 : Int32)) = False := eq_false (by decide)
theorem tq_8_10 : (nI 8 = (10 : Int32)) = False := eq_false (by decide)
theorem tq_8_11 : (nI 8 = (11 : Int32)) = False := eq_false (by decide)
theorem tq_8_12 : (nI 8 = (12 : Int32)) = False := eq_false (by decide)
theorem tq_9_0 : (nI 9 = (0 : Int32)) = False := eq_false (by decide)
theorem tq_9_1 : (nI 9 = (1 : Int32)) = False := eq_false (by decide)
theorem tq_9_2 : (nI 9 = (2 : Int32)) = False := eq_false (by decide)
theorem tq_9_3 : (nI 9 = (3 : Int32)) = False := eq_false (by decide)
theorem tq_9_4 : (nI 9 = (4 : Int32)) = False := eq_false (by decide)
theorem tq_9_5 : (nI 9 = (5 : Int32)) = False := eq_false (by decide)
theorem tq_9_6 : (nI 9 = (6 : Int32)) = False := eq_false (by decide)
theorem tq_9_7 : (nI 9 = (7 : Int32)) = False := eq_false (by decide)
theorem tq_9_8 : (nI 9 = (8 : Int32)) = False := eq_false (by decide)
theorem tq_9_9 : (nI 9 = (9 : Int32)) = True := eq_true rfl
theorem tq_9_10 : (nI 9 = (10 : Int32)) = False := eq_false (by decide)
theorem tq_9_11 : (nI 9 = (11 : Int32)) = False := eq_false (by decide)
theorem tq_9_12 : (nI 9 = (12 : Int32)) = False := eq_false (by decide)
theorem tq_10_0 : (nI 10 = (0 : Int32)) = False := eq_false (by decide)
theorem tq_10_1 : (nI 10 = (1 : Int32)) = False := eq_false (by decide)
theorem tq_10_2 : (nI 10 = (2 : Int32)) = False := eq_false (by decide)
theorem tq_10_3 : (nI 10 = (3 : Int32)) = False := eq_false (by decide)
theorem tq_10_4 : (nI 10 = (4 : Int32)) = False := eq_false (by decide)
theorem tq_10_5 : (nI 10 = (5 : Int32)) = False := eq_false (by decide)
theorem tq_10_6 : (nI 10 = (6 : Int32)) = False := eq_false (by decide)
theorem tq_10_7 : (nI 10 = (7 : Int32)) = False := eq_false (by decide)
theorem tq_10_8 : (nI 10 = (8 : Int32)) = False := eq_false (by decide)
theorem tq_10_9 : (nI 10 = (9 : Int32)) = False := eq_false (by decide)
theorem tq_10_10 : (nI 10 = (10 : Int32)) = True := eq_true rfl
theorem tq_10_11 : (nI 10 = (11 : Int32)) = False := eq_false (by decide)
theorem tq_10_12 : (nI 10 = (12 : Int32)) = False := eq_false (by decide)
theorem tq_11_0 : (nI 11 = (0 : Int32)) = False := eq_false (by decide)
theorem tq_11_1 : (nI 11 = (1 : Int32)) = False := eq_false (by decide)
theorem tq_11_2 : (nI 11 = (2 : Int32)) = False := eq_false (by decide)
theorem tq_11_3 : (nI 11 = (3 : Int32)) = False := eq_false (by decide)
theorem tq_11_4 : (nI 11 = (4 : Int32)) = False := eq_false (by decide)
theorem tq_11_5 : (nI 11 = (5 : Int32)) = False := eq_false (by decide)
theorem tq_11_6 : (nI 11 = (6 : Int32)) = False := eq_false (by decide)
theorem tq_11_7 : (nI 11 = (7 : Int32)) = False := eq_false (by decide)
theorem tq_11_8 : (nI 11 = (8 : Int32)) = False := eq_false (by decide)
theorem tq_11_9 : (nI 11 = (9 : Int32)) = False := eq_false (by decide)
theorem tq_11_10 : (nI 11 = (10 : Int32)) = False := eq_false (by decide)
theorem tq_11_11 : (nI 11 = (11 : Int32)) = True := eq_true rfl
theorem tq_11_12 : (nI 11 = (12 : Int32)) = False := eq_false (by decide)
theorem tq_12_0 : (nI 12 = (0 : Int32)) = False := eq_false (by decide)
theorem tq_12_1 : (nI 12 = (1 : Int32)) = False := eq_false (by decide)
theorem tq_12_2 : (nI 12 = (2 : Int32)) = False := eq_false (by decide)
theorem tq_12_3 : (nI 12 = (3 : Int32)) = False := eq_false (by decide)
theorem tq_12_4 : (nI 12 = (4 : Int32)) = False := eq_false (by decide)
theorem tq_12_5 : (nI 12 = (5 : Int32)) = False := eq_false (by decide)
theorem tq_12_6 : (nI 12 = (6 : Int32)) = False := eq_false (by decide)
theorem tq_12_7 : (nI 12 = (7 : Int32)) = False := eq_false (by decide)
theorem tq_12_8 : (nI 12 = (8 : Int32)) = False := eq_false (by decide)
theorem tq_12_9 : (nI 12 = (9 : Int32)) = False := eq_false (by decide)
theorem tq_12_10 : (nI 12 = (10 : Int32)) = False := eq_false (by decide)
theorem tq_12_11 : (nI 12 = (11 : Int32)) = False := eq_false (by decide)
theorem tq_12_12 : (nI 12 = (12 : Int32)) = True := eq_true rfl