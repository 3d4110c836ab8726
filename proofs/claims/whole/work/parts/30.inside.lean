/-! ===== inside ===== -/
section INS
variable {n ax c : Nat} {ev : Int32} {M W R : ob_S} {G : Nat → gd} {rf : Nat → Option Nat} {h : jq_H} {a1 a2 a3 : Int32} {g : Nat}
def sp_in (kd a b c : Nat) (nb : Nat → Int32) (x y : Int32) : Int32 := if pf_in x 0 (nI (gk_tb kd a - 1)) = 0 then -1000 else if pf_in y 0 (nI (gk_wd kd a b c - 1)) = 0 then -1000 else nb (gk_ix kd a b (x.toNatClampNeg * gk_wd kd a b c + y.toNatClampNeg))
theorem tb_pos {kd a : Nat} (h0 : kd ≠ 0) : 0 < gk_tb kd a := by
  unfold gk_tb
  rw [if_neg h0]
  split
  · decide
  · split
    · exact Nat.two_pow_pos _
    · split <;> decide
theorem wd_pos {kd a b c : Nat} (h0 : kd ≠ 0) : 0 < gk_wd kd a b c := by
  unfold gk_wd
  rw [if_neg h0]
  split
  · omega
  · split
    · decide
    · split <;> exact Nat.two_pow_pos _
theorem nI_dec {k : Nat} (h : 0 < k) : nI k - 1 = nI (k - 1) := by
  obtain ⟨j, rfl⟩ : ∃ j, k = j + 1 := ⟨k - 1, by omega⟩
  rw [nI_pred]
  rfl
theorem look_3 {ga kd a b c mc oa ob : Nat} {said : Int32} {S : ob_S} {nb : Nat → Int32} (hk : gkOK kd a b c) (h0 : kd ≠ 0) (G : GO h ga kd a b c mc oa ob said) (O : OB h (ga + 9) 3 (sh_L (gk_nc kd a b c) (gk_ns kd a c)) S) (R : LR kd a b c nb S) (x y : Int32) :
    X3_look n h ga x y = some (sp_in kd a b c nb x y, h) := by
  have hnc := nc_lt hk
  have ht := tb_pos (a := a) h0
  have hw := wd_pos (a := a) (b := b) (c := c) h0
  have htw : gk_tb kd a ≤ gk_nc kd a b c := Nat.le_mul_of_pos_right _ hw
  have hww : gk_wd kd a b c ≤ gk_nc kd a b c := Nat.le_mul_of_pos_left _ ht
  have e1 : jq_gI [0, 1, 2, 4, 7, 8] 4 h ga = some (nI (gk_tb kd a)) := rdI G (gk_in kd) rfl
  have e2 : jq_gI [0, 1, 2, 4, 7, 8] 5 h ga = some (nI (gk_wd kd a b c)) := rdI G (gk_in kd) rfl
  have e3 : jq_gR [0, 1, 2, 4, 7, 8] 3 h ga = some (ga + 9) := rdR G (gk_in kd) rfl
  have e4 : jq_gR [3] 0 h (ga + 9) = some (ga + 9 + 4) := ob_gR (t := 0) O (k := 0) rfl (by decide)
  unfold X3_look X3_look_b28 sp_in
  rw [e1, Option.bind_some, p_within, Option.bind_some, nI_dec ht]
  rcases pf_lim (gk_tb kd a - 1) (by omega) x with h1 | ⟨h1, i, hi, rfl⟩
  · simp only [h1, if_true]
  · simp only [h1, one0, if_false, e2, Option.bind_some, p_within, nI_dec hw]
    rcases pf_lim (gk_wd kd a b c - 1) (by omega) y with h2 | ⟨h2, j, hj, rfl⟩
    · simp only [h2, if_true]
    · have hb : i * gk_wd kd a b c + j < gk_nc kd a b c := by
        have q1 : (i + 1) * gk_wd kd a b c ≤ gk_tb kd a * gk_wd kd a b c := Nat.mul_le_mul_right _ (by omega)
        rw [Nat.succ_mul] at q1
        show _ < gk_tb kd a * gk_wd kd a b c
        omega
      have e5 : jq_ldI 0 h (ga + 9 + 4) (nI (i * gk_wd kd a b c + j)) = some (nb (gk_ix kd a b (i * gk_wd kd a b c + j))) := by
        rw [ld_c O hb (by omega), R.1 _ hb]
      have c1 : (nI i).toNatClampNeg = i := n_cl (by omega)
      have c2 : (nI j).toNatClampNeg = j := n_cl (by omega)
      simp only [h2, one0, if_false, e3, e4, Option.bind_some, pk_mul, nI_add, e5, c1, c2]
theorem pf_00 (x : Int32) : pf_in x 0 (nI 0) = if x = 0 then 1 else 0 := by
  rcases pf_lim 0 (by decide) x with h1 | ⟨h1, i, hi, rfl⟩
  · rw [h1, if_neg]
    rintro rfl
    exact absurd h1 (by decide)
  · have : i = 0 := by omega
    subst this
    rw [h1, if_pos nI_0]
/-- the kinds with one table -/
theorem in_1 {kd a b c j : Nat} {nb : Nat → Int32} {x y : Int32} (h : kd = 1 ∨ kd = 2 ∨ kd = 3 ∨ kd = 7) (hj : gk_wd kd a b c = 2 ^ j) : sp_in kd a b c nb x y = if x = 0 then (if pf_in y 0 (nI (2 ^ j - 1)) = 0 then -1000 else nb y.toNatClampNeg) else -1000 := by
  have ht : gk_tb kd a = 1 := by rcases h with rfl | rfl | rfl | rfl <;> rfl
  have hx : ∀ q, gk_ix kd a b q = q := by intro q; rcases h with rfl | rfl | rfl | rfl <;> rfl
  unfold sp_in
  rw [ht, hj]
  simp only [hx]
  show (if pf_in x 0 (nI 0) = 0 then (-1000 : Int32) else _) = _
  by_cases h0 : x = 0
  · subst h0
    rw [if_pos rfl, if_neg (by decide)]
    have : (0 : Int32).toNatClampNeg = 0 := rfl
    rw [this, Nat.zero_mul, Nat.zero_add]
  · rw [if_neg h0, pf_00, if_pos (if_neg h0)]
theorem ix4_at {a b i j : Nat} (hj : j < 2 ^ a) : gk_ix 4 a b (i * 2 ^ a + j) = 128 * i + j := by
  show 128 * ((i * 2 ^ a + j) / 2 ^ a) + (i * 2 ^ a + j) % 2 ^ a = _
  rw [Nat.mul_comm i, Nat.mul_add_div (Nat.two_pow_pos a), Nat.div_eq_of_lt hj, Nat.mul_add_mod, Nat.mod_eq_of_lt hj, Nat.add_zero]
def rin (n : Nat) (S : ob_S) (g : Nat) (x y : Int32) : Option (Int32 × ob_S) := rX11_inside n S (nI g) x y
set_option maxHeartbeats 1000000 in
theorem L_inside {kd a b c cc g : Nat} {S : ob_S} {x y : Int32} (hg : g < cc) (h8 : cc ≤ 8) (hk : gkOK kd a b c) (hS : gkS S g kd a b c) (h12 : S 12 0 = nI cc) :
    rX11_inside n S (nI g) x y = some ((if kd = 0 then -1001 else sp_in kd a b c (nbS S g) x y), S) := by
  obtain ⟨k8, -, k1, k2, k3, k4, k5, -, k7⟩ := hk
  obtain ⟨s13, s14, s15, s16⟩ := hS
  have hin : pf_in (nI g) 0 (nI cc - 1) = 1 := by
    rw [nI_dec (by omega)]
    exact pf_in_yes (by omega) (by omega)
  have c1 : (nI g).toNatClampNeg = g := n_cl (by omega)
  have i1 : ∀ {β : Type} (x : Option β), (if jq_in (nI g) 8 then x else none) = x := fun x => n_ifin (by omega) (by decide)
  unfold rX11_inside
  rw [L_isG h12, Option.bind_some]
  simp only [hin, one0, if_false, jq_l, i1, c1, s13]
  have key : ∀ (j : Nat), j ≤ 8 → (kd = 1 ∨ kd = 2 ∨ kd = 3 ∨ kd = 7) → gk_wd kd a b c = 2 ^ j → (if x = 0 then (if pf_in y 0 (nI (2 ^ j - 1)) = 0 then some ((-1000 : Int32), S) else (if jq_in (812 * nI g + y) 6496 then some (S 18 (812 * nI g + y).toNatClampNeg, S) else none)) else some ((-1000 : Int32), S)) = some (sp_in kd a b c (nbS S g) x y, S) := by
    intro j hj h1237 hw
    have h2 := two_lt hj
    rw [in_1 h1237 hw]
    by_cases h0 : x = 0
    · rw [if_pos h0, if_pos h0]
      rcases pf_lim (2 ^ j - 1) (by omega) y with h1 | ⟨h1, i, hi, rfl⟩
      · rw [if_pos h1, if_pos h1]
      · simp only [h1, one0, if_false]
        rw [nm812, nI_add, n_ifin (by omega) (by decide), n_cl (by omega), n_cl (by omega)]
        rfl
    · rw [if_neg h0, if_neg h0]
  rcases (show kd = 0 ∨ kd = 1 ∨ kd = 2 ∨ kd = 3 ∨ kd = 4 ∨ kd = 5 ∨ kd = 6 ∨ kd = 7 by omega) with rfl | rfl | rfl | rfl | rfl | rfl | rfl | rfl
  · simp only [tq_0_0, if_true]
  · simp only [tq_1_0, tq_1_1, if_true, if_false, Nat.reduceEqDiff]
    rw [← key a (by omega) (by decide) rfl]
    simp only [rX11_inside_b252, rX11_inside_b286, rX11_inside_b289, jq_l, i1, c1, s14 (by decide), n_lb a (by omega)]
  · simp only [tq_2_0, tq_2_1, tq_2_2, if_true, if_false, Nat.reduceEqDiff]
    rw [← key a (by omega) (by decide) rfl]
    simp only [rX11_inside_b252, rX11_inside_b286, rX11_inside_b289, jq_l, i1, c1, s14 (by decide), n_lb a (by omega)]
  · simp only [tq_3_0, tq_3_1, tq_3_2, tq_3_3, if_true, if_false, Nat.reduceEqDiff]
    rw [← key a (by omega) (by decide) rfl]
    simp only [rX11_inside_b252, rX11_inside_b286, rX11_inside_b289, jq_l, i1, c1, s14 (by decide), n_lb a (by omega)]
  · simp only [tq_4_0, tq_4_1, tq_4_2, tq_4_3, tq_4_4, if_true, if_false, Nat.reduceEqDiff]
    have h2 := two_lt (show a ≤ 8 by omega)
    have h7 : 2 ^ a ≤ 2 ^ 7 := Nat.pow_le_pow_right (by decide) (by omega)
    have h128 : (2 : Nat) ^ 7 = 128 := by decide
    have h0a := Nat.two_pow_pos a
    have et : sp_in 4 a b c (nbS S g) x y = if pf_in x 0 2 = 0 then -1000 else if pf_in y 0 (nI (2 ^ a - 1)) = 0 then -1000 else nbS S g (gk_ix 4 a b (x.toNatClampNeg * 2 ^ a + y.toNatClampNeg)) := rfl
    rw [et]
    simp only [rX11_inside_b121, rX11_inside_b124, s14 (by decide), n_lb a (by omega)]
    rcases pf_lim 2 (by decide) x with h1 | ⟨h1, i, hi, rfl⟩
    · have h1' : pf_in x 0 2 = 0 := h1
      simp only [h1', if_true]
    · have h1' : pf_in (nI i) 0 2 = 1 := h1
      simp only [h1', one0, if_false]
      rcases pf_lim (2 ^ a - 1) (by omega) y with h3 | ⟨h3, j, hj, rfl⟩
      · simp only [h3, if_true]
      · simp only [h3, one0, if_false]
        have e : 812 * nI g + 128 * nI i + nI j = nI (812 * g + (128 * i + j)) := by rw [nm812, nm128, nI_add, nI_add, Nat.add_assoc]
        rw [e, n_ifin (by omega) (by decide), n_cl (by omega), n_cl (by omega), n_cl (by omega), ix4_at (by omega)]
        rfl
  · simp only [tq_5_0, tq_5_1, tq_5_2, tq_5_3, tq_5_4, tq_5_5, if_true, if_false, Nat.reduceEqDiff]
    have h7 : 2 ^ a ≤ 2 ^ 4 := Nat.pow_le_pow_right (by decide) (by omega)
    have h128 : (2 : Nat) ^ 4 = 16 := by decide
    have et : sp_in 5 a b c (nbS S g) x y = if pf_in x 0 (nI (2 ^ a - 1)) = 0 then -1000 else if pf_in y 0 (nI b) = 0 then -1000 else nbS S g (gk_ix 5 a b (x.toNatClampNeg * (b + 1) + y.toNatClampNeg)) := rfl
    rw [et]
    simp only [rX11_inside_b174, rX11_inside_b177, s14 (by decide), s15 (by decide), n_lb a (by omega)]
    rcases pf_lim (2 ^ a - 1) (by omega) x with h1 | ⟨h1, i, hi, rfl⟩
    · simp only [h1, if_true]
    · simp only [h1, one0, if_false]
      rcases pf_lim b (by omega) y with h3 | ⟨h3, j, hj, rfl⟩
      · simp only [h3, if_true]
      · simp only [h3, one0, if_false]
        have e : 812 * nI g + 9 * nI i + nI j = nI (812 * g + (9 * i + j)) := by rw [nm812, nm9, nI_add, nI_add, Nat.add_assoc]
        rw [e, n_ifin (by omega) (by decide), n_cl (by omega), n_cl (by omega), n_cl (by omega), ix5 hj]
        rfl
  · simp only [tq_6_0, tq_6_1, tq_6_2, tq_6_3, tq_6_4, tq_6_5, tq_6_6, if_true, if_false, Nat.reduceEqDiff]
    have et : sp_in 6 a b c (nbS S g) x y = if pf_in x 0 63 = 0 then -1000 else if pf_in y 0 2 = 0 then -1000 else nbS S g (x.toNatClampNeg * 3 + y.toNatClampNeg) := rfl
    rw [et]
    simp only [rX11_inside_b210, rX11_inside_b213]
    rcases pf_63 x with h1 | ⟨h1, i, hi, rfl⟩
    · simp only [h1, if_true]
    · simp only [h1, one0, if_false]
      rcases pf_lim 2 (by decide) y with h3 | ⟨h3, j, hj, rfl⟩
      · have h3' : pf_in y 0 2 = 0 := h3
        simp only [h3', if_true]
      · have h3' : pf_in (nI j) 0 2 = 1 := h3
        simp only [h3', one0, if_false]
        have e : 812 * nI g + 3 * nI i + nI j = nI (812 * g + (i * 3 + j)) := by
          rw [nm812, nm3, nI_add, nI_add, Nat.add_assoc, Nat.mul_comm 3 i]
        rw [e, n_ifin (by omega) (by decide), n_cl (by omega), n_cl (by omega), n_cl (by omega)]
        rfl
  · simp only [tq_7_0, tq_7_1, tq_7_2, tq_7_3, tq_7_4, tq_7_5, tq_7_6, tq_7_7, if_true, if_false, Nat.reduceEqDiff]
    rw [← key c (by omega) (by decide) rfl]
    simp only [rX11_inside_b248, rX11_inside_b251, s16 (by decide), n_lb c (by omega)]
theorem CI.look (n : Nat) (H : CI h ax c ev M W G rf R) (Q : REL c ev M W G R) (hg : g < c) (x y : Int32) : V_look n h (g_ga (G g)) x y = some ((if g_kd (G g) = 0 then -1001 else sp_in (g_kd (G g)) (g_a (G g)) (g_b (G g)) (g_c (G g)) (nbS R g) x y), h) := by
  have hq := Q.gq hg
  have h8 := hq.1.1
  have hci : jq_ci h (g_ga (G g)) = gk_ci (g_kd (G g)) := rdC (H.go hg)
  by_cases h0 : g_kd (G g) = 0
  · rw [if_pos h0]
    unfold V_look
    rw [hci, h0]
    rfl
  · rw [if_neg h0, ← look_3 (n := n) hq.1 h0 (H.go hg) (H.ob hg) hq.2.2.2.2.1 x y]
    unfold V_look
    rw [hci]
    generalize g_kd (G g) = kd at h8 h0
    rcases (show kd = 1 ∨ kd = 2 ∨ kd = 3 ∨ kd = 4 ∨ kd = 5 ∨ kd = 6 ∨ kd = 7 by omega) with rfl | rfl | rfl | rfl | rfl | rfl | rfl <;> rfl
theorem S_inside (H : CI h ax c ev M W G rf R) (Q : REL c ev M W G R) : SIMq ax (fun h a => X10_inside n h a a1 a2 a3) (fun S => rX11_inside n S a1 a2 a3) h R := by
  have h8 := H.c8
  rcases pf_g (x := a1) H.c8 with ⟨h1, -⟩ | ⟨h1, g, hg, rfl⟩
  · exact SIMq.same H Q (r := -1000) (by simp only [X10_inside, X10_inside_b25, H.isG', Option.bind_some, h1, if_true]) (by simp only [rX11_inside, Q.isG, Option.bind_some, h1, if_true])
  · have hq := Q.gq hg
    refine SIMq.same H Q (r := if g_kd (G g) = 0 then -1001 else sp_in (g_kd (G g)) (g_a (G g)) (g_b (G g)) (g_c (G g)) (nbS R g) a2 a3) ?_ (L_inside hg h8 hq.1 hq.2.1 Q.2.2.2.2.1)
    simp only [X10_inside, X10_inside_b25, H.isG', Option.bind_some, h1, one0, if_false, H.gg, H.ld hg, H.look n Q hg]
end INS
