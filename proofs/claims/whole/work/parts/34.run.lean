/-! ===== the machine's steps ===== -/
theorem u2_comm {S : ob_S} {k i k' i' : Nat} {x y : Int32} (h : k ≠ k') : u2 (u2 S k i x) k' i' y = u2 (u2 S k' i' y) k i x := by
  funext j l
  unfold u2
  by_cases h1 : j = k' ∧ l = i'
  · rw [if_pos h1, if_neg (by omega), if_pos h1]
  · rw [if_neg h1]
    by_cases h2 : j = k ∧ l = i
    · rw [if_pos h2, if_pos h2]
    · rw [if_neg h2, if_neg h2, if_neg h1]
theorem u2_cg {M R : ob_S} {k0 i : Nat} {x : Int32} (h : ∀ k, k < 8 → M k = R k) : ∀ k, k < 8 → u2 M k0 i x k = u2 R k0 i x k := by
  intro k hk
  funext l
  unfold u2
  rw [h k hk]
def rk (S : ob_S) (k r s : Nat) (v : Int32) : Nat × Nat × Int32 :=
  if k = 1 then (4, r, v) else if k = 2 then (4, r, S 4 r + S 4 s) else if k = 3 then (4, r, S 4 r - S 4 s) else if k = 4 then (4, r, S 4 r * S 4 s) else if k = 5 then (4, r, S 4 r &&& S 4 s) else
  if k = 6 then (4, r, ((S 4 r).toUInt32 >>> (Int32.toUInt32 1 &&& Int32.toUInt32 31)).toInt32) else if k = 7 then (4, r, S 5 (S 4 s &&& 31).toNatClampNeg) else (5, (S 4 s &&& 31).toNatClampNeg, S 4 r)
def rku (S T : ob_S) (k r s : Nat) (v : Int32) : ob_S := u2 S (rk T k r s v).1 (rk T k r s v).2.1 (rk T k r s v).2.2
theorem rk_slot {S : ob_S} {k r s : Nat} {v : Int32} : (rk S k r s v).1 = 4 ∨ (rk S k r s v).1 = 5 := by
  unfold rk
  repeat' split
  all_goals first | exact Or.inl rfl | exact Or.inr rfl
theorem rk_congr {S T : ob_S} {k r s : Nat} {v : Int32} (h4 : S 4 = T 4) (h5 : S 5 = T 5) : rk S k r s v = rk T k r s v := by
  unfold rk
  rw [h4, h5]
theorem in31 (x : Int32) : jq_in (x &&& 31) 32 := pk_andIn x 5 (by decide) (by decide)
theorem if31 {β : Type} (x : Int32) (y : Option β) : (if jq_in (x &&& 31) 32 then y else none) = y := if_pos (in31 x)
section STEP
variable {n k r s p : Nat} {S : ob_S} {v : Int32}
theorem C_reckon (hk : 1 ≤ k ∧ k ≤ 8) (hr : r < 8) (hs : s < 8) : rX6_reckon n S (nI k) (nI r) (nI s) v = some (rku S S k r s v) := by
  have c1 : (nI r).toNatClampNeg = r := n_cl (by omega)
  have i1 : ∀ {β : Type} (x : Option β), (if jq_in (nI r) 8 then x else none) = x := fun x => n_ifin hr (by decide)
  have c2 : (nI s).toNatClampNeg = s := n_cl (by omega)
  have i2 : ∀ {β : Type} (x : Option β), (if jq_in (nI s) 8 then x else none) = x := fun x => n_ifin hs (by decide)
  unfold rX6_reckon rX6_reckon_b188
  simp only [jq_l, i1, i2, c1, c2, if31]
  rcases (show k = 1 ∨ k = 2 ∨ k = 3 ∨ k = 4 ∨ k = 5 ∨ k = 6 ∨ k = 7 ∨ k = 8 by omega) with rfl | rfl | rfl | rfl | rfl | rfl | rfl | rfl
  · simp only [tq_1_1, if_true, if_false]
    rfl
  · simp only [tq_2_1, tq_2_2, if_true, if_false]
    rfl
  · simp only [tq_3_1, tq_3_2, tq_3_3, if_true, if_false]
    rfl
  · simp only [tq_4_1, tq_4_2, tq_4_3, tq_4_4, if_true, if_false]
    rfl
  · simp only [tq_5_1, tq_5_2, tq_5_3, tq_5_4, tq_5_5, if_true, if_false]
    rfl
  · simp only [tq_6_1, tq_6_2, tq_6_3, tq_6_4, tq_6_5, tq_6_6, if_true, if_false]
    rfl
  · simp only [tq_7_1, tq_7_2, tq_7_3, tq_7_4, tq_7_5, tq_7_6, tq_7_7, if_true, if_false]
    rfl
  · simp only [tq_8_1, tq_8_2, tq_8_3, tq_8_4, tq_8_5, tq_8_6, tq_8_7, tq_8_8, if_true, if_false]
    rfl
/-- a class's step, by kinds -/
abbrev M2 (S : ob_S) (p : Nat) : ob_S := u2 (u2 S 7 0 (S 7 0 + 1)) 6 0 ((nI p + 1) &&& 63)
theorem C_step0 (hp : p < 64) (h6 : S 6 0 = nI p) (h0 : S 0 p = nI 0) : rX6_step n S = some (-1, S) := by
  have c1 : (nI p).toNatClampNeg = p := n_cl (by omega)
  have i1 : ∀ {β : Type} (x : Option β), (if jq_in (nI p) 64 then x else none) = x := fun x => n_ifin hp (by decide)
  unfold rX6_step
  simp only [jq_l, h6, i1, c1, h0]
  rw [if_pos (by decide)]
theorem C_stepA (hp : p < 64) (h6 : S 6 0 = nI p) (hk : 1 ≤ k ∧ k ≤ 8) (h0 : S 0 p = nI k) (h1 : S 1 p = nI r) (hr : r < 8) (h2 : S 2 p = nI s) (hs : s < 8) : rX6_step n S = some (2, rku (M2 S p) S k r s (S 3 p)) := by
  have c1 : (nI p).toNatClampNeg = p := n_cl (by omega)
  have i1 : ∀ {β : Type} (x : Option β), (if jq_in (nI p) 64 then x else none) = x := fun x => n_ifin hp (by decide)
  have y1 : u2 (u2 S 7 0 (S 7 0 + 1)) 6 0 ((nI p + 1) &&& 63) 1 p = nI r := by rw [u2_ne (by decide), u2_ne (by decide)]; exact h1
  have y2 : u2 (u2 S 7 0 (S 7 0 + 1)) 6 0 ((nI p + 1) &&& 63) 2 p = nI s := by rw [u2_ne (by decide), u2_ne (by decide)]; exact h2
  have y3 : u2 (u2 S 7 0 (S 7 0 + 1)) 6 0 ((nI p + 1) &&& 63) 3 p = S 3 p := by rw [u2_ne (by decide), u2_ne (by decide)]
  have z0 : ¬ nI k = 0 := nI_ne0 (by omega) (by omega)
  have z9 : ¬ (9 : Int32) ≤ nI k := fun q => by
    have := (nI_leI (a := 9) (by decide) (by omega)).mp q
    omega
  have e : rku (M2 S p) (M2 S p) k r s (S 3 p) = rku (M2 S p) S k r s (S 3 p) := by
    unfold rku
    rw [rk_congr (S := M2 S p) (T := S) (by unfold M2; rw [u2_ne (by decide), u2_ne (by decide)]) (by unfold M2; rw [u2_ne (by decide), u2_ne (by decide)])]
  unfold rX6_step
  simp only [jq_l, h6, i1, c1, h0, if_neg z0, if_neg z9, y1, y2, y3, C_reckon (n := n) (S := M2 S p) (v := S 3 p) hk hr hs, Option.bind_some, e]
theorem C_stepJ (hp : p < 64) (h6 : S 6 0 = nI p) (h0 : S 0 p = nI 12) : rX6_step n S = some (2, u2 (M2 S p) 6 0 (S 3 p &&& 63)) := by
  have c1 : (nI p).toNatClampNeg = p := n_cl (by omega)
  have i1 : ∀ {β : Type} (x : Option β), (if jq_in (nI p) 64 then x else none) = x := fun x => n_ifin hp (by decide)
  have y3 : u2 (u2 S 7 0 (S 7 0 + 1)) 6 0 ((nI p + 1) &&& 63) 3 p = S 3 p := by rw [u2_ne (by decide), u2_ne (by decide)]
  have z9 : (9 : Int32) ≤ nI 12 := by decide
  unfold rX6_step
  simp only [jq_l, h6, i1, c1, h0, tq_12_0, tq_12_12, if_true, if_false, if_pos z9, rX6_step_b104, rX6_step_b109, rX6_step_b127, one0, y3]
theorem pf_h01 (x y z : Int32) : pf_holds x y z = 0 ∨ pf_holds x y z = 1 := by
  unfold pf_holds
  repeat' split
  all_goals first | exact Or.inl rfl | exact Or.inr rfl
theorem C_stepB (hp : p < 64) (h6 : S 6 0 = nI p) (hk : k = 9 ∨ k = 10 ∨ k = 11) (h0 : S 0 p = nI k) (h1 : S 1 p = nI r) (hr : r < 8) (h2 : S 2 p = nI s) (hs : s < 8) : rX6_step n S = some (pf_holds (nI k) (S 4 r) (S 4 s), if pf_holds (nI k) (S 4 r) (S 4 s) = 0 then M2 S p else u2 (M2 S p) 6 0 (S 3 p &&& 63)) := by
  have c1 : (nI p).toNatClampNeg = p := n_cl (by omega)
  have i1 : ∀ {β : Type} (x : Option β), (if jq_in (nI p) 64 then x else none) = x := fun x => n_ifin hp (by decide)
  have cr : (nI r).toNatClampNeg = r := n_cl (by omega)
  have ir : ∀ {β : Type} (x : Option β), (if jq_in (nI r) 8 then x else none) = x := fun x => n_ifin hr (by decide)
  have cs : (nI s).toNatClampNeg = s := n_cl (by omega)
  have is : ∀ {β : Type} (x : Option β), (if jq_in (nI s) 8 then x else none) = x := fun x => n_ifin hs (by decide)
  have y1 : u2 (u2 S 7 0 (S 7 0 + 1)) 6 0 ((nI p + 1) &&& 63) 1 p = nI r := by rw [u2_ne (by decide), u2_ne (by decide)]; exact h1
  have y2 : u2 (u2 S 7 0 (S 7 0 + 1)) 6 0 ((nI p + 1) &&& 63) 2 p = nI s := by rw [u2_ne (by decide), u2_ne (by decide)]; exact h2
  have y3 : u2 (u2 S 7 0 (S 7 0 + 1)) 6 0 ((nI p + 1) &&& 63) 3 p = S 3 p := by rw [u2_ne (by decide), u2_ne (by decide)]
  have y4 : u2 (u2 S 7 0 (S 7 0 + 1)) 6 0 ((nI p + 1) &&& 63) 4 = S 4 := by rw [u2_ne (by decide), u2_ne (by decide)]
  have z0 : ¬ nI k = 0 := nI_ne0 (by omega) (by omega)
  have z12 : ¬ nI k = 12 := fun q => by
    have := (nI_eq (b := 12) (by omega) (by decide)).mp q
    omega
  have z9 : (9 : Int32) ≤ nI k := (nI_leI (a := 9) (by decide) (by omega)).mpr (by omega)
  unfold rX6_step
  simp only [jq_l, h6, i1, c1, h0, if_neg z0, if_pos z9, if_neg z12, y1, ir, cr, y4, y2, is, cs]
  rcases pf_h01 (nI k) (S 4 r) (S 4 s) with q | q
  · simp only [q, if_true, rX6_step_b109, rX6_step_b127, rX6_step_b144, if_neg z12]
  · simp only [q, one0, if_false, rX6_step_b104, rX6_step_b109, rX6_step_b127, rX6_step_b144, if_neg z12, i1, c1, jq_l, y3]
/-- the reference's step, by kinds -/
theorem pf_911 {k : Nat} (hk : k ≤ 12) : pf_in (nI k) 9 11 = if 9 ≤ k ∧ k ≤ 11 then 1 else 0 := by
  unfold pf_in
  have e1 : ((9 : Int32) ≤ nI k) = (9 ≤ k) := propext (nI_leI (a := 9) (by decide) (by omega))
  have e2 : (nI k ≤ 11) = (k ≤ 11) := propext (nI_leI (b := 11) (by omega) (by decide))
  simp only [e1, e2]
theorem L_stepA (hp : p < 64) (h6 : S 6 0 = nI p) (hk : 1 ≤ k ∧ k ≤ 8) (h0 : S 0 p = nI k) (h1 : S 1 p = nI r) (hr : r < 8) (h2 : S 2 p = nI s) (hs : s < 8) : rX11_step n S = some (u2 (u2 (rku S S k r s (S 3 p)) 6 0 ((nI p + 1) &&& 63)) 7 0 (S 7 0 + 1)) := by
  have c1 : (nI p).toNatClampNeg = p := n_cl (by omega)
  have i1 : ∀ {β : Type} (x : Option β), (if jq_in (nI p) 64 then x else none) = x := fun x => n_ifin hp (by decide)
  have cr : (nI r).toNatClampNeg = r := n_cl (by omega)
  have ir : ∀ {β : Type} (x : Option β), (if jq_in (nI r) 8 then x else none) = x := fun x => n_ifin hr (by decide)
  have cs : (nI s).toNatClampNeg = s := n_cl (by omega)
  have is : ∀ {β : Type} (x : Option β), (if jq_in (nI s) 8 then x else none) = x := fun x => n_ifin hs (by decide)
  have key : rX11_step_b274 n (nI p) 0 (rku S S k r s (S 3 p)) = some (u2 (u2 (rku S S k r s (S 3 p)) 6 0 ((nI p + 1) &&& 63)) 7 0 (S 7 0 + 1)) := by
    have hsl := rk_slot (S := S) (k := k) (r := r) (s := s) (v := S 3 p)
    have y0 : rku S S k r s (S 3 p) 0 p = nI k := by
      unfold rku
      rw [u2_ne (by omega)]
      exact h0
    have y7 : u2 (rku S S k r s (S 3 p)) 6 0 ((nI p + 1) &&& 63) 7 0 = S 7 0 := by
      rw [u2_ne (by decide)]
      unfold rku
      rw [u2_ne (by omega)]
    unfold rX11_step_b274 rX11_step_b305 rX11_step_b326
    simp only [jq_l, i1, c1, y0, pf_911 (show k ≤ 12 by omega), if_neg (show ¬ (9 ≤ k ∧ k ≤ 11) by omega), if_true, y7]
  rw [← key]
  unfold rX11_step
  simp only [jq_l, h6, i1, c1, h1, h2, ir, cr, is, cs, h0, if31]
  rcases (show k = 1 ∨ k = 2 ∨ k = 3 ∨ k = 4 ∨ k = 5 ∨ k = 6 ∨ k = 7 ∨ k = 8 by omega) with rfl | rfl | rfl | rfl | rfl | rfl | rfl | rfl
  · simp only [tq_1_1, if_true, if_false]
    rfl
  · simp only [tq_2_1, tq_2_2, if_true, if_false]
    rfl
  · simp only [tq_3_1, tq_3_2, tq_3_3, if_true, if_false]
    rfl
  · simp only [tq_4_1, tq_4_2, tq_4_3, tq_4_4, if_true, if_false]
    rfl
  · simp only [tq_5_1, tq_5_2, tq_5_3, tq_5_4, tq_5_5, if_true, if_false]
    rfl
  · simp only [tq_6_1, tq_6_2, tq_6_3, tq_6_4, tq_6_5, tq_6_6, if_true, if_false]
    rfl
  · simp only [tq_7_1, tq_7_2, tq_7_3, tq_7_4, tq_7_5, tq_7_6, tq_7_7, if_true, if_false]
    rfl
  · simp only [tq_8_1, tq_8_2, tq_8_3, tq_8_4, tq_8_5, tq_8_6, tq_8_7, tq_8_8, if_true, if_false]
    rfl
theorem L_stepJ (hp : p < 64) (h6 : S 6 0 = nI p) (h0 : S 0 p = nI 12) (h1 : S 1 p = nI r) (hr : r < 8) (h2 : S 2 p = nI s) (hs : s < 8) : rX11_step n S = some (u2 (u2 S 6 0 (S 3 p)) 7 0 (S 7 0 + 1)) := by
  have c1 : (nI p).toNatClampNeg = p := n_cl (by omega)
  have i1 : ∀ {β : Type} (x : Option β), (if jq_in (nI p) 64 then x else none) = x := fun x => n_ifin hp (by decide)
  have ir : ∀ {β : Type} (x : Option β), (if jq_in (nI r) 8 then x else none) = x := fun x => n_ifin hr (by decide)
  have is : ∀ {β : Type} (x : Option β), (if jq_in (nI s) 8 then x else none) = x := fun x => n_ifin hs (by decide)
  have y7 : u2 S 6 0 (S 3 p) 7 0 = S 7 0 := by rw [u2_ne (by decide)]
  have y9 : pf_in (nI 12) 9 11 = 0 := by decide
  unfold rX11_step rX11_step_b274 rX11_step_b305 rX11_step_b326
  simp only [jq_l, h6, i1, c1, h1, h2, ir, is, h0, tq_12_1, tq_12_2, tq_12_3, tq_12_4, tq_12_5, tq_12_6, tq_12_7, tq_12_8, tq_12_9, tq_12_10, tq_12_11, if_false, y9, if_true, one0, y7]
theorem L_stepB {R' : ob_S} {g : Int32} (hp : p < 64) (h6 : S 6 0 = nI p) (hk : k = 9 ∨ k = 10 ∨ k = 11) (h0 : S 0 p = nI k) (h1 : S 1 p = nI r) (hr : r < 8) (h2 : S 2 p = nI s) (hs : s < 8) (hgo : g = pf_holds (nI k) (S 4 r) (S 4 s)) (hc : rX11_comes n S (nI p) g = some R') (hR : ∀ k, k < 8 → R' k = S k) :
    rX11_step n S = some (u2 (u2 R' 6 0 (if g = 0 then ((nI p + 1) &&& 63) else S 3 p)) 7 0 (S 7 0 + 1)) := by
  have c1 : (nI p).toNatClampNeg = p := n_cl (by omega)
  have i1 : ∀ {β : Type} (x : Option β), (if jq_in (nI p) 64 then x else none) = x := fun x => n_ifin hp (by decide)
  have cr : (nI r).toNatClampNeg = r := n_cl (by omega)
  have ir : ∀ {β : Type} (x : Option β), (if jq_in (nI r) 8 then x else none) = x := fun x => n_ifin hr (by decide)
  have cs : (nI s).toNatClampNeg = s := n_cl (by omega)
  have is : ∀ {β : Type} (x : Option β), (if jq_in (nI s) 8 then x else none) = x := fun x => n_ifin hs (by decide)
  have key : rX11_step_b274 n (nI p) g S = some (u2 (u2 R' 6 0 (if g = 0 then ((nI p + 1) &&& 63) else S 3 p)) 7 0 (S 7 0 + 1)) := by
    have y7 : ∀ x, u2 R' 6 0 x 7 0 = S 7 0 := by
      intro x
      rw [u2_ne (by decide), hR 7 (by decide)]
    have y9 : pf_in (nI k) 9 11 = 1 := by
      rw [pf_911 (by omega), if_pos (by omega)]
    have y3 : R' 3 p = S 3 p := by rw [hR 3 (by decide)]
    unfold rX11_step_b274 rX11_step_b302 rX11_step_b305 rX11_step_b326
    rcases (show g = 0 ∨ g = 1 by rw [hgo]; exact pf_h01 _ _ _) with q | q
    · subst q
      simp only [jq_l, i1, c1, h0, y9, one0, if_false, if_true, hc, Option.bind_some, y7]
    · subst q
      simp only [jq_l, i1, c1, h0, y9, one0, if_false, hc, Option.bind_some, y7, y3]
  rw [← key]
  unfold rX11_step rX11_step_b234 rX11_step_b251 rX11_step_b266
  simp only [jq_l, h6, i1, c1, h1, h2, ir, cr, is, cs, h0]
  rcases hk with rfl | rfl | rfl
  · simp only [tq_9_1, tq_9_2, tq_9_3, tq_9_4, tq_9_5, tq_9_6, tq_9_7, tq_9_8, tq_9_9, if_true, if_false]
    have e : g = if S 4 r < S 4 s then 1 else 0 := by rw [hgo]; unfold pf_holds; rw [if_pos (show nI 9 = 9 from rfl)]
    rw [e]
    by_cases q : S 4 s ≤ S 4 r
    · rw [if_pos q, if_neg (Int32.not_lt.mpr q)]
    · rw [if_neg q, if_pos (Int32.not_le.mp q)]
  · simp only [tq_10_1, tq_10_2, tq_10_3, tq_10_4, tq_10_5, tq_10_6, tq_10_7, tq_10_8, tq_10_9, tq_10_10, if_true, if_false]
    have e : g = if S 4 r = S 4 s then 1 else 0 := by rw [hgo]; unfold pf_holds; rw [if_neg (by decide), if_pos (show nI 10 = 10 from rfl)]
    rw [e]
    by_cases q : S 4 r = S 4 s
    · rw [if_pos q, if_pos q]
    · rw [if_neg q, if_neg q]
  · simp only [tq_11_1, tq_11_2, tq_11_3, tq_11_4, tq_11_5, tq_11_6, tq_11_7, tq_11_8, tq_11_9, tq_11_10, tq_11_11, if_true, if_false]
    have e : g = if S 4 r = 0 then 0 else 1 := by rw [hgo]; unfold pf_holds; rw [if_neg (by decide), if_neg (by decide)]
    rw [e]
    by_cases q : S 4 r = 0
    · rw [if_pos q, if_pos q]
    · rw [if_neg q, if_neg q]
end STEP
