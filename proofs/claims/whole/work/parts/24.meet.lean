/-! ===== what a guesser does at a branch ===== -/
theorem own_congr {kd a b c p : Nat} {nb nb' : Nat → Int32} {opv oA oB : Int32} (hk : gkOK kd a b c) (hp : p < 64) (hc : ∀ i, i < 448 → nb' i = nb i) (h8 : nb' 808 = nb 808) : sp_own kd a b c nb' opv p oA oB = sp_own kd a b c nb opv p oA oB := by
  have hct : ∀ kd t, sp_ctr kd a b c nb' p t = sp_ctr kd a b c nb p t := fun kd t => ctr_congr h8 (hc _ (by omega))
  have hsum : kd = 5 → ∀ H k, k ≤ 8 → sp_sum nb' (p % 2 ^ a) H k = sp_sum nb (p % 2 ^ a) H k := by
    intro h5 H k
    subst h5
    have hr := (r_lt (p := p) hk).2
    induction k with
    | zero => intro _; exact hc _ (by omega)
    | succ k ih =>
      intro hk
      show sp_sum nb' (p % 2 ^ a) H k + _ = sp_sum nb (p % 2 ^ a) H k + _
      rw [ih (by omega), hc _ (by omega)]
  have hl : ∀ t, t < 3 → kd ≠ 0 → kd ≠ 6 → nb' (sp_ctr kd a b c nb p t) = nb (sp_ctr kd a b c nb p t) := fun t ht h0 h6 => hc _ (by have := ctr_lt (nb := nb) (p := p) hk h0 h6 ht; omega)
  unfold sp_own
  simp only [hct, h8]
  have h8k := hk.1
  rcases (show kd = 0 ∨ kd = 1 ∨ kd = 2 ∨ kd = 3 ∨ kd = 4 ∨ kd = 5 ∨ kd = 6 ∨ kd = 7 by omega) with rfl | rfl | rfl | rfl | rfl | rfl | rfl | rfl
  · simp only [if_true]
  · simp only [hl 0 (by decide) (by decide) (by decide), if_true, if_false, Nat.reduceEqDiff]
  · simp only [hl 0 (by decide) (by decide) (by decide), if_true, if_false, Nat.reduceEqDiff]
  · simp only [hl 0 (by decide) (by decide) (by decide), if_true, if_false, Nat.reduceEqDiff]
  · simp only [if_true, if_false, Nat.reduceEqDiff]
    unfold sp_vote
    simp only [hl 0 (by decide) (by decide) (by decide), hl 1 (by decide) (by decide) (by decide), hl 2 (by decide) (by decide) (by decide), if_true, if_false, Nat.reduceEqDiff]
  · have hb := (hk.2.2.2.2.2.2.1 rfl).2.2.1
    simp only [hsum rfl _ b hb, if_true, if_false, Nat.reduceEqDiff]
  · simp only [hc (3 * p + 2) (by omega), hc (3 * p) (by omega), hc (3 * p + 1) (by omega), if_true, if_false, Nat.reduceEqDiff]
  · simp only [hl 0 (by decide) (by decide) (by decide), if_true, if_false, Nat.reduceEqDiff]
theorem so_0 {a b c p : Nat} {nb : Nat → Int32} {opv oA oB : Int32} : sp_own 0 a b c nb opv p oA oB = if a < 2 then nI a else if opv ≤ nI p then 1 else 0 := by
  unfold sp_own
  simp only [if_true]
theorem so_c {kd a b c p : Nat} {nb : Nat → Int32} {opv oA oB : Int32} (h : kd = 1 ∨ kd = 2 ∨ kd = 3) : sp_own kd a b c nb opv p oA oB = if nb (sp_ctr kd a b c nb p 0) ≤ 1 then 0 else 1 := by
  unfold sp_own
  rw [if_neg (show ¬ kd = 0 by omega), if_neg (show ¬ kd = 4 by omega), if_neg (show ¬ kd = 5 by omega), if_neg (show ¬ kd = 6 by omega), if_neg (show ¬ kd = 7 by omega)]
theorem so_4 {a b c p : Nat} {nb : Nat → Int32} {opv oA oB : Int32} : sp_own 4 a b c nb opv p oA oB = if sp_vote nb (sp_ctr 4 a b c nb p 0) + sp_vote nb (sp_ctr 4 a b c nb p 1) + sp_vote nb (sp_ctr 4 a b c nb p 2) ≤ 1 then 0 else 1 := by
  unfold sp_own
  simp only [if_true, if_false, Nat.reduceEqDiff]
theorem so_5 {a b c p : Nat} {nb : Nat → Int32} {opv oA oB : Int32} : sp_own 5 a b c nb opv p oA oB = if sp_sum nb (p % 2 ^ a) (nb 808).toNatClampNeg b < 0 then 0 else 1 := by
  unfold sp_own
  simp only [if_true, if_false, Nat.reduceEqDiff]
theorem so_6 {a b c p : Nat} {nb : Nat → Int32} {opv oA oB : Int32} : sp_own 6 a b c nb opv p oA oB = if nb (3 * p + 2) < nI a then 1 else if nb (3 * p) = nb (3 * p + 1) then 0 else 1 := by
  unfold sp_own
  simp only [if_true, if_false, Nat.reduceEqDiff]
theorem so_7 {a b c p : Nat} {nb : Nat → Int32} {opv oA oB : Int32} : sp_own 7 a b c nb opv p oA oB = if nb (sp_ctr 7 a b c nb p 0) ≤ 1 then oA else oB := by
  unfold sp_own
  simp only [if_true, if_false, Nat.reduceEqDiff]
section MEET
variable {n ga kd a b c mc oa ob p w : Nat} {h : jq_H} {said : Int32} {S M : ob_S} {nb : Nat → Int32} {opv oA oB : Int32}
theorem V_own (hn : 20 < n) (hp : p < 64) (hk : gkOK kd a b c) (G : GO h ga kd a b c mc oa ob said) (O : OB h (ga + 9) 3 (sh_L (gk_nc kd a b c) (gk_ns kd a c)) S) (R : LR kd a b c nb S) (B : cellOK kd nb) (hM : kd = 0 → OB h mc 5 sh_M M ∧ M 3 p = opv) (hA : kd = 7 → jq_gI gcs 6 h oa = some oA ∧ jq_gI gcs 6 h ob = some oB) :
    V_ownWay n h ga (nI p) = some (sp_own kd a b c nb opv p oA oB, h) := by
  have h8 := hk.1
  have hci : jq_ci h ga = gk_ci kd := rdC G
  unfold V_ownWay
  rw [hci]
  rcases (show kd = 0 ∨ kd = 1 ∨ kd = 2 ∨ kd = 3 ∨ kd = 4 ∨ kd = 5 ∨ kd = 6 ∨ kd = 7 by omega) with rfl | rfl | rfl | rfl | rfl | rfl | rfl | rfl
  · simp only [show gk_ci 0 = 2 from rfl, if_true, if_false, Nat.reduceEqDiff]
    rw [so_0, ← (hM rfl).2]
    exact own_0 (n := n) hp hk G (hM rfl).1
  · simp only [show gk_ci 1 = 1 from rfl, if_true, if_false, Nat.reduceEqDiff]
    rw [so_c (by decide)]
    exact own_cnt hp hk (by decide) G O R B
  · simp only [show gk_ci 2 = 1 from rfl, if_true, if_false, Nat.reduceEqDiff]
    rw [so_c (by decide)]
    exact own_cnt hp hk (by decide) G O R B
  · simp only [show gk_ci 3 = 1 from rfl, if_true, if_false, Nat.reduceEqDiff]
    rw [so_c (by decide)]
    exact own_cnt hp hk (by decide) G O R B
  · simp only [show gk_ci 4 = 7 from rfl, if_true, if_false, Nat.reduceEqDiff]
    rw [so_4]
    exact own_4 hn hp hk G O R B
  · simp only [show gk_ci 5 = 8 from rfl, if_true, if_false, Nat.reduceEqDiff]
    rw [so_5]
    exact own_5 hn hk G O R
  · simp only [show gk_ci 6 = 4 from rfl, if_true, if_false, Nat.reduceEqDiff]
    rw [so_6]
    exact own_6 hp hk G O R
  · simp only [show gk_ci 7 = 0 from rfl, if_true, if_false, Nat.reduceEqDiff]
    rw [so_7]
    exact own_7 hp hk G O R B (hA rfl).1 (hA rfl).2
theorem V_lrn (hn : 20 < n) (hp : p < 64) (hw : w < 2) (hk : gkOK kd a b c) (hh : hisOK nb) (G : GO h ga kd a b c mc oa ob said) (O : OB h (ga + 9) 3 (sh_L (gk_nc kd a b c) (gk_ns kd a c)) S) (R : LR kd a b c nb S) (B : cellOK kd nb) (hA : kd = 7 → jq_gI gcs 6 h oa = some oA ∧ jq_gI gcs 6 h ob = some oB) :
    ∃ h', V_learn n h ga (nI p) (nI w) = some h' ∧ LRN ga kd a b c (sp_cells kd a b c nb p w oA oB) S h h' := by
  have h8 := hk.1
  have hci : jq_ci h ga = gk_ci kd := rdC G
  unfold V_learn
  rw [hci]
  rcases (show kd = 0 ∨ kd = 1 ∨ kd = 2 ∨ kd = 3 ∨ kd = 4 ∨ kd = 5 ∨ kd = 6 ∨ kd = 7 by omega) with rfl | rfl | rfl | rfl | rfl | rfl | rfl | rfl
  · exact ⟨h, rfl, lrn_same O R⟩
  · exact learn_cnt hp hw hk (by decide) G O R B
  · exact learn_cnt hp hw hk (by decide) G O R B
  · exact learn_cnt hp hw hk (by decide) G O R B
  · exact learn_4 hn hp hw hk G O R B
  · exact learn_5 hn hw hk hh G O R B
  · exact learn_6 hp hw hk G O R B
  · exact learn_7 hp hw hk G O R B (hA rfl).1 (hA rfl).2
/-- what it says is written into the object -/
theorem say_put {v : Int32} (G : GO h ga kd a b c mc oa ob said) : ∃ h', jq_p gcs 6 h ga (.int v) = some h' ∧ GO h' ga kd a b c mc oa ob v ∧ h'.1 = h.1 ∧ ∀ x, x ≠ ga → h'.2 x = h.2 x := by
  refine ⟨(h.1, va_up h.2 ga (some (.inr (gk_ci kd, .ref (ga + 1) :: .ref (ga + 2) :: .ref (ga + 3) :: .ref (ga + 9) :: .int (nI (gk_tb kd a)) :: .int (nI (gk_wd kd a b c)) :: .int v :: gk_ext kd a b c mc oa ob)))), ?_, up_at, rfl, fun x hx => up_ne hx⟩
  unfold GO at G
  unfold jq_p
  rw [G]
  simp only
  rw [if_pos ⟨gk_in kd, by simp⟩]
  rfl
def hintOK (x : Int32) : Prop := x = -1 ∨ isN x 2
theorem X_say {hf : Nat → Int32} (hn : 20 < n) (hp : p < 64) (hk : gkOK kd a b c) (G : GO h ga kd a b c mc oa ob said) (hH : h.2 (ga + 1) = some (.inl (0, 64, .inl hf))) (hfo : hintOK (hf p)) (O : OB h (ga + 9) 3 (sh_L (gk_nc kd a b c) (gk_ns kd a c)) S) (R : LR kd a b c nb S) (B : cellOK kd nb) (hM : kd = 0 → OB h mc 5 sh_M M ∧ M 3 p = opv) (hA : kd = 7 → jq_gI gcs 6 h oa = some oA ∧ jq_gI gcs 6 h ob = some oB) :
    ∃ h', X3_say n h ga (nI p) = some h' ∧ GO h' ga kd a b c mc oa ob (sp_say kd a b c nb (hf p) opv p oA oB) ∧ h'.1 = h.1 ∧ ∀ x, x ≠ ga → h'.2 x = h.2 x := by
  have r0 : jq_gR gcs 0 h ga = some (ga + 1) := rdR G (gk_in kd) rfl
  have ld := rdL hH hp (by decide)
  have ho := V_own hn hp hk G O R B hM hA
  obtain ⟨h', e1, g1, g2, g3⟩ := say_put (v := sp_say kd a b c nb (hf p) opv p oA oB) G
  refine ⟨h', ?_, g1, g2, g3⟩
  unfold X3_say X3_say_b25
  rw [r0, Option.bind_some, ld, Option.bind_some]
  unfold sp_say at e1
  rcases hfo with hm | ⟨k, hk2, ek⟩
  · rw [if_pos hm, ho, Option.bind_some]
    rw [hm, if_pos (by decide)] at e1
    dsimp only
    rw [e1, Option.bind_some]
  · rw [if_neg (by rw [ek]; exact nI_ne_m1 (by omega)), Option.bind_some, ld, Option.bind_some]
    rw [if_neg (by rw [ek]; exact nI_pos (by omega))] at e1
    rw [e1, Option.bind_some]
theorem V_sayE (hk : gkOK kd a b c) (G : GO h ga kd a b c mc oa ob said) {x : Int32} : V_say n h ga x = X3_say n h ga x := by
  have h8 := hk.1
  have hci : jq_ci h ga = gk_ci kd := rdC G
  unfold V_say
  rw [hci]
  rcases (show kd = 0 ∨ kd = 1 ∨ kd = 2 ∨ kd = 3 ∨ kd = 4 ∨ kd = 5 ∨ kd = 6 ∨ kd = 7 by omega) with rfl | rfl | rfl | rfl | rfl | rfl | rfl | rfl <;> rfl
theorem V_meetE (hk : gkOK kd a b c) (G : GO h ga kd a b c mc oa ob said) {x y : Int32} : V_meetBranch n h ga x y = X3_meetBranch n h ga x y := by
  have h8 := hk.1
  have hci : jq_ci h ga = gk_ci kd := rdC G
  unfold V_meetBranch
  rw [hci]
  rcases (show kd = 0 ∨ kd = 1 ∨ kd = 2 ∨ kd = 3 ∨ kd = 4 ∨ kd = 5 ∨ kd = 6 ∨ kd = 7 by omega) with rfl | rfl | rfl | rfl | rfl | rfl | rfl | rfl <;> rfl
end MEET
theorem bx_up {nb : Nat → Int32} {p : Nat} {x : Int32} : ∀ m, bx_sum (fun q => upd nb (448 + p) (nb (448 + p) + x) (448 + q)) m = (if p < m then bx_sum (fun q => nb (448 + q)) m + x else bx_sum (fun q => nb (448 + q)) m)
  | 0 => by rw [if_neg (by omega)]; rfl
  | m + 1 => by
    show bx_sum _ m + upd nb (448 + p) (nb (448 + p) + x) (448 + m) = _
    rw [bx_up m]
    by_cases h1 : p < m
    · rw [if_pos h1, if_pos (by omega), pk_un (by omega)]
      show _ = bx_sum (fun q => nb (448 + q)) m + nb (448 + m) + x
      rw [Int32.add_assoc, Int32.add_comm x, ← Int32.add_assoc]
    · rw [if_neg h1]
      by_cases h2 : p = m
      · subst h2
        rw [if_pos (by omega), pk_us]
        show _ = bx_sum (fun q => nb (448 + q)) p + nb (448 + p) + x
        rw [Int32.add_assoc]
      · rw [if_neg (by omega), pk_un (by omega)]
        rfl
