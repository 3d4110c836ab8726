/-! ===== an object with its own arrays, as one function: slot, place -> number ===== -/
abbrev ob_S : Type := Nat → Nat → Int32
abbrev ob_Sh : Type := List (Nat × Nat × Nat)
/-- one number is another -/
def u2 (S : ob_S) (k i : Nat) (x : Int32) : ob_S := fun k' i' => if k' = k ∧ i' = i then x else S k' i'
def ob_v (a : Nat) (S : ob_S) (k : Nat) (q : Nat × Nat × Nat) : Value := if q.1 = 0 then .int (S k 0) else .ref (a + q.2.1)
def ob_fs (a : Nat) (S : ob_S) (sh : ob_Sh) : List Value := sh.mapIdx (fun k q => ob_v a S k q)
/-- a slot is (0, _, _): an int; (1, o, n): an int array of n at a + o; (2, o, n): a boolean one -/
def OB (h : jq_H) (a ci : Nat) (sh : ob_Sh) (S : ob_S) : Prop := h.2 a = some (.inr (ci, ob_fs a S sh)) ∧ ∀ (k t o n : Nat), sh[k]? = some (t + 1, o, n) → h.2 (a + o) = some (.inl (t, n, .inl (S k)))
def ob_ok (w : Nat) (sh : ob_Sh) : Prop := ∀ (k t o n : Nat), sh[k]? = some (t + 1, o, n) → 0 < o ∧ o < w ∧ ∀ (k' t' o' n' : Nat), sh[k']? = some (t' + 1, o', n') → o' = o → k' = k
def ob_okB (w : Nat) (sh : ob_Sh) : Bool := sh.zipIdx.all (fun p => p.1.1 == 0 || (decide (0 < p.1.2.1) && decide (p.1.2.1 < w) && sh.zipIdx.all (fun q => q.1.1 == 0 || !(q.1.2.1 == p.1.2.1) || q.2 == p.2)))
theorem ob_mem {α : Type} {l : List α} {k : Nat} {x : α} (h : l[k]? = some x) : (x, k) ∈ l.zipIdx := by
  rw [List.mem_zipIdx_iff_getElem?]
  exact h
theorem ob_okB_ok {w : Nat} {sh : ob_Sh} (h : ob_okB w sh = true) : ob_ok w sh := by
  intro k t o n hk
  have h1 := List.all_eq_true.mp h _ (ob_mem hk)
  simp only [Bool.or_eq_true, Bool.and_eq_true, beq_iff_eq, decide_eq_true_eq, Nat.add_eq_zero_iff, Nat.succ_ne_zero, and_false, false_or] at h1
  obtain ⟨⟨h2, h3⟩, h4⟩ := h1
  refine ⟨h2, h3, fun k' t' o' n' hk' ho => ?_⟩
  have h5 := List.all_eq_true.mp h4 _ (ob_mem hk')
  simp only [Bool.or_eq_true, beq_iff_eq, Nat.add_eq_zero_iff, Nat.succ_ne_zero, and_false, false_or, Bool.not_eq_true', beq_eq_false_iff_ne] at h5
  rcases h5 with h5 | h5
  · exact absurd ho h5
  · exact h5
theorem ob_fs_get {a : Nat} {S : ob_S} {sh : ob_Sh} {k : Nat} {q : Nat × Nat × Nat} (h : sh[k]? = some q) : (ob_fs a S sh)[k]? = some (ob_v a S k q) := by
  unfold ob_fs
  rw [List.getElem?_mapIdx, h]
  rfl
theorem ob_fs_len {a : Nat} {S : ob_S} {sh : ob_Sh} : (ob_fs a S sh).length = sh.length := by
  unfold ob_fs
  rw [List.length_mapIdx]
theorem u2_ne {S : ob_S} {k i : Nat} {x : Int32} {k' : Nat} (h : k' ≠ k) : u2 S k i x k' = S k' := by
  funext i'
  simp [u2, h]
theorem u2_eq {S : ob_S} {k i : Nat} {x : Int32} : u2 S k i x k = upd (S k) i x := by
  funext i'
  simp [u2, upd]
theorem u2_at {S : ob_S} {k i : Nat} {x : Int32} : u2 S k i x k i = x := by simp [u2]
theorem ob_fs_arr {a : Nat} {S : ob_S} {sh : ob_Sh} {k t o n i : Nat} {x : Int32} (h : sh[k]? = some (t + 1, o, n)) : ob_fs a (u2 S k i x) sh = ob_fs a S sh := by
  apply List.ext_getElem?
  intro j
  unfold ob_fs
  rw [List.getElem?_mapIdx, List.getElem?_mapIdx]
  cases hj : sh[j]? with
  | none => rfl
  | some q =>
    simp only [Option.map_some, ob_v]
    by_cases hq : q.1 = 0
    · rw [if_pos hq, if_pos hq]
      have hne : j ≠ k := by
        intro e
        rw [e, h] at hj
        cases hj
        exact absurd hq (Nat.succ_ne_zero t)
      rw [u2_ne hne]
    · rw [if_neg hq, if_neg hq]
theorem ob_fs_int {a : Nat} {S : ob_S} {sh : ob_Sh} {k o n : Nat} {x : Int32} (h : sh[k]? = some (0, o, n)) : ob_fs a (u2 S k 0 x) sh = (ob_fs a S sh).set k (.int x) := by
  have hk : k < sh.length := (List.getElem?_eq_some_iff.mp h).1
  apply List.ext_getElem?
  intro j
  by_cases hj : j = k
  · subst hj
    rw [ob_fs_get h, List.getElem?_set_self (by rw [ob_fs_len]; exact hk)]
    simp [ob_v, u2_at]
  · rw [List.getElem?_set_ne (Ne.symm hj)]
    unfold ob_fs
    rw [List.getElem?_mapIdx, List.getElem?_mapIdx]
    cases hq : sh[j]? with
    | none => rfl
    | some q => simp only [Option.map_some, ob_v, u2_ne hj]
/-- the object, and that all else is as in h0 -/
def OF (a w ci : Nat) (sh : ob_Sh) (h0 : jq_H) (S : ob_S) (h : jq_H) : Prop := OB h a ci sh S ∧ h.1 = h0.1 ∧ ∀ b, (b < a ∨ a + w ≤ b) → h.2 b = h0.2 b
theorem OB.f {h : jq_H} {a w ci : Nat} {sh : ob_Sh} {S : ob_S} (O : OB h a ci sh S) : OF a w ci sh h S h := ⟨O, rfl, fun _ _ => rfl⟩
theorem OB.ci {h : jq_H} {a ci : Nat} {sh : ob_Sh} {S : ob_S} (O : OB h a ci sh S) : jq_ci h a = ci := by
  unfold jq_ci
  rw [O.1]
/-- an object is looked at cell by cell only -/
theorem OB.kept {h h' : jq_H} {a ci w : Nat} {sh : ob_Sh} {S : ob_S} (O : OB h a ci sh S) (ok : ob_ok w sh) (hw : 0 < w) (hk : ∀ b, a ≤ b → b < a + w → h'.2 b = h.2 b) : OB h' a ci sh S := by
  refine ⟨by rw [hk a (Nat.le_refl _) (by omega)]; exact O.1, fun k t o n hh => ?_⟩
  have h1 := ok k t o n hh
  rw [hk (a + o) (by omega) (by omega)]
  exact O.2 k t o n hh
abbrev jq_in (i : Int32) (n : Nat) : Prop := ¬ (i < 0 ∨ n ≤ i.toNatClampNeg)
section OBS
variable {ρ : Type} {Post : ρ → Prop} {h h0 : jq_H} {a w ci : Nat} {sh : ob_Sh} {S : ob_S} {cs : List Nat} {k t o n : Nat}
theorem s_l {α : Type} {x y : α} {K : α → Option ρ} (hx : y = x) (kk : ∃ z, K y = some z ∧ Post z) : ∃ z, jq_l x K = some z ∧ Post z := by
  subst hx
  exact kk
theorem s_t {c : Prop} {i : Decidable c} {x y : Option ρ} (hc : c) (kk : ∃ z, x = some z ∧ Post z) : ∃ z, (@ite _ c i x y) = some z ∧ Post z := by
  rw [if_pos hc]; exact kk
theorem s_n {c : Prop} {i : Decidable c} {x y : Option ρ} (hc : ¬ c) (kk : ∃ z, y = some z ∧ Post z) : ∃ z, (@ite _ c i x y) = some z ∧ Post z := by
  rw [if_neg hc]; exact kk
theorem s_b {α : Type} {f : Option α} {v : α} {K : α → Option ρ} (hf : f = some v) (kk : ∃ z, K v = some z ∧ Post z) : ∃ z, Option.bind f K = some z ∧ Post z := by
  subst hf
  exact kk
theorem ob_gR (O : OB h a ci sh S) (hk : sh[k]? = some (t + 1, o, n)) (hc : ci ∈ cs) : jq_gR cs k h a = some (a + o) := by
  unfold jq_gR jq_f
  rw [O.1]
  simp only
  rw [if_pos hc, ob_fs_get hk]
  simp [ob_v]
theorem ob_gI (O : OB h a ci sh S) (hk : sh[k]? = some (0, o, n)) (hc : ci ∈ cs) : jq_gI cs k h a = some (S k 0) := by
  unfold jq_gI jq_f
  rw [O.1]
  simp only
  rw [if_pos hc, ob_fs_get hk]
  simp [ob_v]
theorem ob_ld (O : OB h a ci sh S) (hk : sh[k]? = some (t + 1, o, n)) {i : Int32} (hi : jq_in i n) : jq_ldI t h (a + o) i = some (S k i.toNatClampNeg) := by
  unfold jq_ldI
  rw [O.2 k t o n hk]
  simp only
  rw [if_pos ⟨trivial, hi⟩]
theorem ob_len (O : OB h a ci sh S) (hk : sh[k]? = some (t + 1, o, n)) (ht : t < 4) : jq_len h (a + o) = some (Int32.ofNat n) := by
  unfold jq_len
  rw [O.2 k t o n hk]
  simp only
  rw [if_pos ht]
theorem ob_put (O : OF a w ci sh h0 S h) (ok : ob_ok w sh) (hk : sh[k]? = some (t + 1, o, n)) {i : Nat} {x : Int32} : OF a w ci sh h0 (u2 S k i x) (h.1, va_up h.2 (a + o) (some (.inl (t, n, .inl (upd (S k) i x))))) := by
  have h1 := ok k t o n hk
  refine ⟨⟨?_, fun k' t' o' n' hk' => ?_⟩, O.2.1, fun b hb => ?_⟩
  · show va_up h.2 (a + o) _ a = _
    rw [va_up, if_neg (by omega), ob_fs_arr hk]
    exact O.1.1
  · show va_up h.2 (a + o) _ (a + o') = _
    by_cases he : o' = o
    · have hkk : k' = k := h1.2.2 k' t' o' n' hk' he
      subst hkk
      rw [hk] at hk'
      cases hk'
      rw [va_up, if_pos rfl, u2_eq]
    · have hkk : k' ≠ k := by
        intro e
        rw [e, hk] at hk'
        cases hk'
        exact he rfl
      rw [va_up, if_neg (by omega), u2_ne hkk]
      exact O.1.2 k' t' o' n' hk'
  · show va_up h.2 (a + o) _ b = _
    rw [va_up, if_neg (by omega)]
    exact O.2.2 b hb
theorem ob_st (O : OF a w ci sh h0 S h) (ok : ob_ok w sh) (hk : sh[k]? = some (1, o, n)) {i x : Int32} (hi : jq_in i n) : ∃ h', jq_stI h (a + o) i x = some h' ∧ OF a w ci sh h0 (u2 S k i.toNatClampNeg x) h' := by
  refine ⟨_, ?_, ob_put (t := 0) O ok hk⟩
  unfold jq_stI
  rw [O.1.2 k 0 o n hk]
  simp only
  rw [if_pos ⟨trivial, hi⟩]
theorem ob_stZ (O : OF a w ci sh h0 S h) (ok : ob_ok w sh) (hk : sh[k]? = some (2, o, n)) {i x : Int32} (hi : jq_in i n) (hx : x = 0 ∨ x = 1) : ∃ h', jq_stZ h (a + o) i x = some h' ∧ OF a w ci sh h0 (u2 S k i.toNatClampNeg x) h' := by
  refine ⟨_, ?_, ob_put (t := 1) O ok hk⟩
  unfold jq_stZ
  rw [O.1.2 k 1 o n hk]
  simp only
  rw [if_pos ⟨trivial, hi, hx⟩]
theorem ob_pI (O : OF a w ci sh h0 S h) (ok : ob_ok w sh) (hw : 0 < w) (hk : sh[k]? = some (0, o, n)) (hc : ci ∈ cs) {x : Int32} : ∃ h', jq_p cs k h a (.int x) = some h' ∧ OF a w ci sh h0 (u2 S k 0 x) h' := by
  refine ⟨(h.1, va_up h.2 a (some (.inr (ci, ob_fs a (u2 S k 0 x) sh)))), ?_, ⟨?_, fun k' t' o' n' hk' => ?_⟩, O.2.1, fun b hb => ?_⟩
  · unfold jq_p
    rw [O.1.1]
    simp only
    rw [if_pos ⟨hc, by rw [ob_fs_len]; exact (List.getElem?_eq_some_iff.mp hk).1⟩, ob_fs_int hk]
  · show va_up h.2 a _ a = _
    rw [va_up, if_pos rfl]
  · show va_up h.2 a _ (a + o') = _
    have h1 := ok k' t' o' n' hk'
    have hkk : k' ≠ k := by
      intro e
      rw [e, hk] at hk'
      cases hk'
    rw [va_up, if_neg (by omega), u2_ne hkk]
    exact O.1.2 k' t' o' n' hk'
  · show va_up h.2 a _ b = _
    rw [va_up, if_neg (by omega)]
    exact O.2.2 b hb
end OBS
/-! the shapes -/
def sh_R : ob_Sh := [(1, 1, 64), (1, 2, 64), (1, 3, 64), (1, 4, 64), (1, 5, 8), (1, 6, 32), (0, 0, 0), (0, 0, 0), (0, 0, 0), (0, 0, 0), (1, 7, 3000), (1, 8, 3000), (0, 0, 0), (1, 9, 8), (1, 10, 8), (1, 11, 8), (1, 12, 8), (1, 13, 512), (1, 14, 6496), (1, 15, 12992), (2, 16, 16), (1, 17, 8), (1, 18, 8), (1, 19, 32768), (1, 20, 64)]
def sh_M : ob_Sh := [(1, 1, 64), (1, 2, 64), (1, 3, 64), (1, 4, 64), (1, 5, 8), (1, 6, 32), (0, 0, 0), (0, 0, 0)]
def sh_W : ob_Sh := [(1, 1, 3000), (1, 2, 128), (1, 3, 16384), (1, 4, 3000), (1, 5, 64), (0, 0, 0), (0, 0, 0), (0, 0, 0)]
def sh_L (nc ns : Nat) : ob_Sh := [(1, 4, nc), (1, 5, ns), (1, 1, 64), (1, 2, 64), (1, 3, 40), (0, 0, 0), (0, 0, 0), (0, 0, 0), (0, 0, 0), (0, 0, 0)]
theorem ok_R : ob_ok 21 sh_R := ob_okB_ok (by decide +kernel)
theorem ok_M : ob_ok 7 sh_M := ob_okB_ok (by decide +kernel)
theorem ok_W : ob_ok 6 sh_W := ob_okB_ok (by decide +kernel)
theorem ok_L (nc ns : Nat) : ob_ok 6 (sh_L nc ns) := ob_okB_ok rfl
/-! static functions -/
def pf_in (v lo hi : Int32) : Int32 := if lo ≤ v ∧ v ≤ hi then 1 else 0
def pf_low (v k : Int32) : Int32 := v &&& ((1 <<< (k &&& 31)) - 1)
def pf_isIn (g k : Int32) : Int32 := if ((g >>> (k &&& 31)) &&& 1) = 1 then 1 else 0
def pf_isWay (w : Int32) : Int32 := if w = 0 ∨ w = 1 then 1 else 0
def pf_holds (k x y : Int32) : Int32 := if k = 9 then (if x < y then 1 else 0) else if k = 10 then (if x = y then 1 else 0) else if x = 0 then 0 else 1
theorem jq_z0 (h : jq_H) : jq_z 0 h = some (0, h) := rfl
theorem jq_z1 (h : jq_H) : jq_z 1 h = some (1, h) := rfl
theorem pf_in01 (v lo hi : Int32) : pf_in v lo hi = 0 ∨ pf_in v lo hi = 1 := by unfold pf_in; split; exact Or.inr rfl; exact Or.inl rfl
theorem jq_zin (v lo hi : Int32) (h : jq_H) : jq_z (pf_in v lo hi) h = some (pf_in v lo hi, h) := by unfold jq_z; rw [if_pos (pf_in01 v lo hi)]
theorem p_within (n : Nat) (h : jq_H) (v lo hi : Int32) : X10_within n h v lo hi = some (pf_in v lo hi, h) := by
  unfold X10_within X10_within_b14 X10_within_b15 pf_in
  by_cases h1 : v < lo
  · rw [if_pos h1, if_neg (fun (q : lo ≤ v ∧ v ≤ hi) => Int32.lt_irrefl (Int32.lt_of_lt_of_le h1 q.1))]; rfl
  · rw [if_neg h1]
    by_cases h2 : hi < v
    · rw [if_pos h2, if_neg (fun (q : lo ≤ v ∧ v ≤ hi) => Int32.lt_irrefl (Int32.lt_of_lt_of_le h2 q.2))]; rfl
    · rw [if_neg h2, if_pos ⟨Int32.not_lt.mp h1, Int32.not_lt.mp h2⟩]; rfl
theorem p_in (n : Nat) (h : jq_H) (v lo hi : Int32) : X11_in n h v lo hi = some (pf_in v lo hi, h) := by
  unfold X11_in X11_in_b14 X11_in_b15 pf_in
  by_cases h1 : v < lo
  · rw [if_pos h1, if_neg (fun (q : lo ≤ v ∧ v ≤ hi) => Int32.lt_irrefl (Int32.lt_of_lt_of_le h1 q.1))]; rfl
  · rw [if_neg h1]
    by_cases h2 : hi < v
    · rw [if_pos h2, if_neg (fun (q : lo ≤ v ∧ v ≤ hi) => Int32.lt_irrefl (Int32.lt_of_lt_of_le h2 q.2))]; rfl
    · rw [if_neg h2, if_pos ⟨Int32.not_lt.mp h1, Int32.not_lt.mp h2⟩]; rfl
theorem p_isPlace (n : Nat) (h : jq_H) (v : Int32) : X10_isPlace n h v = some (pf_in v 0 63, h) := by
  unfold X10_isPlace; rw [p_within]; exact jq_zin _ _ _ _
theorem p_isRegister (n : Nat) (h : jq_H) (v : Int32) : X10_isRegister n h v = some (pf_in v 0 7, h) := by
  unfold X10_isRegister; rw [p_within]; exact jq_zin _ _ _ _
theorem p_isData (n : Nat) (h : jq_H) (v : Int32) : X10_isData n h v = some (pf_in v 0 31, h) := by
  unfold X10_isData; rw [p_within]; exact jq_zin _ _ _ _
theorem p_isPlaceR (n : Nat) (h : jq_H) (v : Int32) : X11_isPlace n h v = some (pf_in v 0 63, h) := by
  unfold X11_isPlace; rw [p_in]; exact jq_zin _ _ _ _
theorem p_isIn (n : Nat) (h : jq_H) (g k : Int32) : X10_isIn n h g k = some (pf_isIn g k, h) := by
  unfold X10_isIn X10_isIn_b14 pf_isIn
  split <;> rfl
theorem p_isWay (n : Nat) (h : jq_H) (w : Int32) : X10_isWay n h w = some (pf_isWay w, h) := by
  unfold X10_isWay X10_isWay_b9 X10_isWay_b14 pf_isWay
  by_cases h1 : w = 0
  · rw [if_pos h1, if_pos (Or.inl h1)]; rfl
  · rw [if_neg h1]
    by_cases h2 : w = 1
    · rw [if_pos h2, if_pos (Or.inr h2)]; rfl
    · rw [if_neg h2, if_neg (fun q => q.elim h1 h2)]; rfl
theorem p_lowBits (n : Nat) (h : jq_H) (k : Int32) : X10_lowBits n h k = some ((1 <<< (k &&& 31)) - 1, h) := rfl
theorem p_low (n : Nat) (h : jq_H) (v k : Int32) : X11_low n h v k = some (pf_low v k, h) := rfl
theorem p_holds (n : Nat) (h : jq_H) (k x y : Int32) : X6_holds n h k x y = some (pf_holds k x y, h) := by
  unfold X6_holds X6_holds_b43 X6_holds_b33 X6_holds_b16 pf_holds
  by_cases h1 : k = 9
  · rw [if_pos h1, if_pos h1]
    by_cases h2 : y ≤ x
    · rw [if_pos h2, if_neg (Int32.not_lt.mpr h2)]; rfl
    · rw [if_neg h2, if_pos (Int32.not_le.mp h2)]; rfl
  · rw [if_neg h1, if_neg h1]
    by_cases h2 : k = 10
    · rw [if_pos h2, if_pos h2]
      split <;> rfl
    · rw [if_neg h2, if_neg h2]
      split <;> rfl
def pf_fits (k x y z : Int32) : Int32 :=
  if k = 0 then pf_in x 0 2 else if k = 1 then pf_in x 0 6 else if k = 2 then (if pf_in x 0 8 = 0 then 0 else pf_in y 0 8) else
  if k = 3 then (if pf_in x 0 8 = 0 then 0 else if pf_in y 0 8 = 0 then 0 else pf_in z 0 1) else if k = 4 then (if pf_in x 1 7 = 0 then 0 else pf_in y 1 4) else
  if k = 5 then (if pf_in x 0 4 = 0 then 0 else if pf_in y 1 8 = 0 then 0 else pf_in z 0 50) else if k = 6 then pf_in x 1 3 else if k = 7 then pf_in z 0 6 else 0
