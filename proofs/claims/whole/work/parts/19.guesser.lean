/-! ===== a guesser's object and what it asks ===== -/
def ob_cov (w : Nat) (sh : ob_Sh) : Prop := ∀ j : Nat, j < w → j = 0 ∨ ∃ (k t n : Nat), sh[k]? = some (t + 1, j, n)
theorem cov_L (nc ns : Nat) : ob_cov 6 (sh_L nc ns) := by
  intro j hj
  rcases (show j = 0 ∨ j = 1 ∨ j = 2 ∨ j = 3 ∨ j = 4 ∨ j = 5 by omega) with rfl | rfl | rfl | rfl | rfl | rfl
  · exact Or.inl rfl
  · exact Or.inr ⟨2, 0, 64, rfl⟩
  · exact Or.inr ⟨3, 0, 64, rfl⟩
  · exact Or.inr ⟨4, 0, 40, rfl⟩
  · exact Or.inr ⟨0, 0, nc, rfl⟩
  · exact Or.inr ⟨1, 0, ns, rfl⟩
/-- the same numbers: the same heap -/
theorem OF.eq {a w ci : Nat} {sh : ob_Sh} {h h' : jq_H} {S : ob_S} (O : OF a w ci sh h S h') (O0 : OB h a ci sh S) (cov : ob_cov w sh) : h' = h := by
  refine Prod.ext O.2.1 ?_
  funext b
  by_cases hb : b < a ∨ a + w ≤ b
  · exact O.2.2 b hb
  · obtain ⟨j, rfl⟩ : ∃ j, b = a + j := ⟨b - a, by omega⟩
    rcases cov j (by omega) with rfl | ⟨k, t, n, hk⟩
    · rw [Nat.add_zero, O.1.1, O0.1]
    · rw [O.1.2 k t j n hk, O0.2 k t j n hk]
theorem rdI {h : jq_H} {ga ci k : Nat} {fs : List Value} {cs : List Nat} {x : Int32} (hG : h.2 ga = some (.inr (ci, fs))) (hc : ci ∈ cs) (hk : fs[k]? = some (.int x)) : jq_gI cs k h ga = some x := by
  unfold jq_gI jq_f
  rw [hG]
  simp only
  rw [if_pos hc, hk]
theorem rdR {h : jq_H} {ga ci k q : Nat} {fs : List Value} {cs : List Nat} (hG : h.2 ga = some (.inr (ci, fs))) (hc : ci ∈ cs) (hk : fs[k]? = some (.ref q)) : jq_gR cs k h ga = some q := by
  unfold jq_gR jq_f
  rw [hG]
  simp only
  rw [if_pos hc, hk]
theorem rdC {h : jq_H} {ga ci : Nat} {fs : List Value} (hG : h.2 ga = some (.inr (ci, fs))) : jq_ci h ga = ci := by
  unfold jq_ci
  rw [hG]
theorem rdL {h : jq_H} {q n : Nat} {f : Nat → Int32} {i : Nat} (hq : h.2 q = some (.inl (0, n, .inl f))) (hi : i < n) (hn : n < 2 ^ 31) : jq_ldI 0 h q (nI i) = some (f i) := by
  unfold jq_ldI
  rw [hq]
  simp only
  rw [if_pos ⟨trivial, jq_inN' hi hn⟩, n_cl (by omega)]
def gk_ci (kd : Nat) : Nat := if kd = 0 then 2 else if kd = 4 then 7 else if kd = 5 then 8 else if kd = 6 then 4 else if kd = 7 then 0 else 1
def gk_tb (kd a : Nat) : Nat := if kd = 0 then 0 else if kd = 4 then 3 else if kd = 5 then 2 ^ a else if kd = 6 then 64 else 1
def gk_wd (kd a b c : Nat) : Nat := if kd = 0 then 0 else if kd = 5 then b + 1 else if kd = 6 then 3 else if kd = 7 then 2 ^ c else 2 ^ a
def gk_nc (kd a b c : Nat) : Nat := gk_tb kd a * gk_wd kd a b c
def gk_ns (kd a c : Nat) : Nat := if sp_cl kd = true then (if kd = 7 then 2 ^ c else 2 ^ a) else 0
def gk_asks (a b : Nat) : Int32 := (1 <<< (nI a &&& 31)) ||| (1 <<< (nI b &&& 31))
def gk_ext (kd a b c mc oa ob : Nat) : List Value :=
  if kd = 0 then [.ref mc, .int (nI a)] else if kd = 4 then [.int (nI (2 ^ a - 1)), .int (nI b)] else if kd = 5 then [.int (nI (2 ^ a - 1)), .int (nI c)] else
  if kd = 6 then [.int (nI a)] else if kd = 7 then [.ref oa, .ref ob, .int (gk_asks a b), .int (nI (2 ^ c - 1))] else
  [.int (nI (2 ^ a - 1)), .int (nI (2 ^ (if kd = 1 then 0 else b) - 1)), .int (if kd = 3 then 1 else 0), .int (nI (if kd = 3 then c else 1))]
def GO (h : jq_H) (ga kd a b c mc oa ob : Nat) (said : Int32) : Prop := h.2 ga = some (.inr (gk_ci kd, .ref (ga + 1) :: .ref (ga + 2) :: .ref (ga + 3) :: .ref (ga + 9) :: .int (nI (gk_tb kd a)) :: .int (nI (gk_wd kd a b c)) :: .int said :: gk_ext kd a b c mc oa ob))
abbrev gcs : List Nat := [0, 1, 2, 4, 7, 8]
theorem gk_in (kd : Nat) : gk_ci kd ∈ gcs := by
  unfold gk_ci
  split
  · decide
  · split
    · decide
    · split
      · decide
      · split
        · decide
        · split <;> decide
/-- where the reference has what the class has in a cell -/
def gk_ix (kd a b j : Nat) : Nat := if kd = 4 then 128 * (j / 2 ^ a) + j % 2 ^ a else if kd = 5 then 9 * (j / (b + 1)) + j % (b + 1) else j
/-- the class's numbers against a block -/
def LR (kd a b c : Nat) (nb : Nat → Int32) (S : ob_S) : Prop :=
  (∀ j, j < gk_nc kd a b c → S 0 j = nb (gk_ix kd a b j)) ∧ (∀ s, s < gk_ns kd a c → S 1 s = lv6 (nb (512 + s))) ∧ (∀ p, p < 64 → S 2 p = nI ((nb (384 + p)).toNatClampNeg % 256)) ∧ (∀ p, p < 64 → S 3 p = nb (448 + p)) ∧ (∀ i, i < 40 → S 4 i = nb (768 + i)) ∧
  S 5 0 = nI ((nb 808).toNatClampNeg % 256) ∧ S 6 0 = nb 809 ∧ S 7 0 = bx_sum (fun p => nb (448 + p)) 64 ∧ S 8 0 = nb 810 ∧ S 9 0 = nb 811
/-- the ranges of a block's cells -/
def cellOK (kd : Nat) (nb : Nat → Int32) : Prop :=
  (kd ≠ 0 ∧ kd ≠ 5 ∧ kd ≠ 6 → ∀ j, j < 384 → isN (nb j) 4) ∧ (kd = 5 → ∀ j, j < 384 → -64 ≤ nb j ∧ nb j ≤ 63) ∧ (kd = 6 → ∀ p, p < 64 → isN (nb (3 * p)) 256 ∧ isN (nb (3 * p + 2)) 4)
def BW (kd : Nat) (nb : Nat → Int32) : Prop := hisOK nb ∧ isN (nb 811) 41 ∧ (∀ s, s < 256 → lastOK (nb (512 + s))) ∧ cellOK kd nb
theorem mod256 {x b : Nat} (hb : b ≤ 8) : x % 256 % 2 ^ b = x % 2 ^ b := Nat.mod_mod_of_dvd x (Nat.pow_dvd_pow 2 hb : 2 ^ b ∣ 2 ^ 8)
theorem n_cnt {x y cc p a B : Nat} (hx : x % 256 = y) (hB : B ≤ 8) : ((nI y &&& nI (2 ^ B - 1)) ^^^ (nI cc * nI p)) &&& nI (2 ^ a - 1) = nI ((x % 2 ^ B ^^^ cc * p) % 2 ^ a) := by
  subst hx
  rw [n_mask, pk_mul, n_xor, n_mask, mod256 hB]
section GSL
variable {n ga kd a b c mc oa ob p : Nat} {h : jq_H} {said : Int32} {S : ob_S} {nb : Nat → Int32}
theorem slot_cntS (hp : p < 64) (hk : gkOK kd a b c) (h123 : kd = 1 ∨ kd = 2 ∨ kd = 3) (G : GO h ga kd a b c mc oa ob said) (O : OB h (ga + 9) 3 (sh_L (gk_nc kd a b c) (gk_ns kd a c)) S) (h5 : S 5 0 = nI ((nb 808).toNatClampNeg % 256)) (h2 : S 2 p = nI ((nb (384 + p)).toNatClampNeg % 256)) :
    X1_slotOf n h ga (nI p) = some (nI (sp_ctr kd a b c nb p 0), h) := by
  obtain ⟨k8, -, k1, k2, k3, -⟩ := hk
  unfold GO at G
  have o5 := ob_gI (cs := [3]) O (k := 5) rfl (by decide)
  have o2 := ob_gR (cs := [3]) O (k := 2) rfl (by decide)
  have ol : jq_ldI 0 h (ga + 9 + 1) (nI p) = some (S 2 p) := by
    have := ob_ld O (k := 2) rfl (jq_inN' hp (by decide))
    rw [n_cl (by omega)] at this
    exact this
  rw [h5] at o5
  rw [h2] at ol
  unfold X1_slotOf X1_slotOf_b26
  rcases h123 with rfl | rfl | rfl
  · rw [rdI (x := 0) G (by decide) rfl, Option.bind_some, if_pos rfl, rdR (q := ga + 9) G (by decide) rfl, Option.bind_some, o5, Option.bind_some, rdI (x := nI (2 ^ 0 - 1)) G (by decide) rfl, Option.bind_some, rdI (x := nI 1) G (by decide) rfl, Option.bind_some, rdI (x := nI (2 ^ a - 1)) G (by decide) rfl, Option.bind_some, n_cnt rfl (by omega)]
    simp [sp_ctr, Nat.mod_one]
  · rw [rdI (x := 0) G (by decide) rfl, Option.bind_some, if_pos rfl, rdR (q := ga + 9) G (by decide) rfl, Option.bind_some, o5, Option.bind_some, rdI (x := nI (2 ^ b - 1)) G (by decide) rfl, Option.bind_some, rdI (x := nI 1) G (by decide) rfl, Option.bind_some, rdI (x := nI (2 ^ a - 1)) G (by decide) rfl, Option.bind_some, n_cnt rfl (by omega)]
    simp [sp_ctr, Nat.xor_comm]
  · rw [rdI (x := 1) G (by decide) rfl, Option.bind_some, if_neg (by decide), rdR (q := ga + 9) G (by decide) rfl, Option.bind_some, o2, Option.bind_some, ol, Option.bind_some, rdI (x := nI (2 ^ b - 1)) G (by decide) rfl, Option.bind_some, rdI (x := nI c) G (by decide) rfl, Option.bind_some, rdI (x := nI (2 ^ a - 1)) G (by decide) rfl, Option.bind_some, n_cnt rfl (by omega)]
    simp [sp_ctr]
theorem slot_cnt (hp : p < 64) (hk : gkOK kd a b c) (h123 : kd = 1 ∨ kd = 2 ∨ kd = 3) (G : GO h ga kd a b c mc oa ob said) (O : OB h (ga + 9) 3 (sh_L (gk_nc kd a b c) (gk_ns kd a c)) S) (R : LR kd a b c nb S) :
    X1_slotOf n h ga (nI p) = some (nI (sp_ctr kd a b c nb p 0), h) := slot_cntS hp hk h123 G O R.2.2.2.2.2.1 (R.2.2.1 p hp)
theorem slot_0 (G : GO h ga 7 a b c mc oa ob said) : X0_slotOf n h ga (nI p) = some (nI (sp_ctr 7 a b c nb p 0), h) := by
  unfold GO at G
  unfold X0_slotOf
  rw [rdI (x := nI (2 ^ c - 1)) G (by decide) rfl, Option.bind_some, n_mask]
  simp [sp_ctr]
theorem slot_9 (G : GO h ga 5 a b c mc oa ob said) : X9_slotOf n h ga (nI p) = some (nI (sp_ctr 5 a b c nb p 0), h) := by
  unfold GO at G
  unfold X9_slotOf
  rw [rdI (x := nI (2 ^ a - 1)) G (by decide) rfl, Option.bind_some, n_mask]
  simp [sp_ctr]
theorem V_slotS (hp : p < 64) (hk : gkOK kd a b c) (G : GO h ga kd a b c mc oa ob said) (O : OB h (ga + 9) 3 (sh_L (gk_nc kd a b c) (gk_ns kd a c)) S) (h5 : S 5 0 = nI ((nb 808).toNatClampNeg % 256)) (h2 : S 2 p = nI ((nb (384 + p)).toNatClampNeg % 256)) :
    V_slotOf n h ga (nI p) = some ((if sp_cl kd = true then nI (sp_ctr kd a b c nb p 0) else -1), h) := by
  have h8 := hk.1
  have hci : jq_ci h ga = gk_ci kd := rdC G
  unfold V_slotOf
  rw [hci]
  rcases (show kd = 0 ∨ kd = 1 ∨ kd = 2 ∨ kd = 3 ∨ kd = 4 ∨ kd = 5 ∨ kd = 6 ∨ kd = 7 by omega) with rfl | rfl | rfl | rfl | rfl | rfl | rfl | rfl
  · rfl
  · exact slot_cntS hp hk (by decide) G O h5 h2
  · exact slot_cntS hp hk (by decide) G O h5 h2
  · exact slot_cntS hp hk (by decide) G O h5 h2
  · rfl
  · exact slot_9 (n := n) (nb := nb) G
  · rfl
  · exact slot_0 (n := n) (nb := nb) G
end GSL
