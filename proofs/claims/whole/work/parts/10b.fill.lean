/-- one slot's numbers are others -/
def us (S : ob_S) (k : Nat) (g : Nat → Int32) : ob_S := fun k' => if k' = k then g else S k'
theorem us_eq {S : ob_S} {k : Nat} {g : Nat → Int32} : us S k g k = g := by simp [us]
theorem us_ne {S : ob_S} {k : Nat} {g : Nat → Int32} {k' : Nat} (h : k' ≠ k) : us S k g k' = S k' := by simp [us, h]
theorem ob_fs_us {a : Nat} {S : ob_S} {sh : ob_Sh} {k t o n : Nat} {g : Nat → Int32} (h : sh[k]? = some (t + 1, o, n)) : ob_fs a (us S k g) sh = ob_fs a S sh := by
  apply List.ext_getElem?
  intro j
  unfold ob_fs
  rw [List.getElem?_mapIdx, List.getElem?_mapIdx]
  cases hj : sh[j]? with
  | none => rfl
  | some q =>
    simp only [Option.map_some, ob_v]
    by_cases hq : q.1 = 0
    · rw [if_pos hq, if_pos hq]
      have hne : j ≠ k := by
        intro e
        rw [e, h] at hj
        cases hj
        exact absurd hq (Nat.succ_ne_zero t)
      rw [us_ne hne]
    · rw [if_neg hq, if_neg hq]
theorem ob_putf {h h0 : jq_H} {a w ci : Nat} {sh : ob_Sh} {S : ob_S} {k t o n : Nat} (O : OF a w ci sh h0 S h) (ok : ob_ok w sh) (hk : sh[k]? = some (t + 1, o, n)) {g : Nat → Int32} : OF a w ci sh h0 (us S k g) (h.1, va_up h.2 (a + o) (some (.inl (t, n, .inl g)))) := by
  have h1 := ok k t o n hk
  refine ⟨⟨?_, fun k' t' o' n' hk' => ?_⟩, O.2.1, fun b hb => ?_⟩
  · show va_up h.2 (a + o) _ a = _
    rw [va_up, if_neg (by omega), ob_fs_us hk]
    exact O.1.1
  · show va_up h.2 (a + o) _ (a + o') = _
    by_cases he : o' = o
    · have hkk : k' = k := h1.2.2 k' t' o' n' hk' he
      subst hkk
      rw [hk] at hk'
      cases hk'
      rw [va_up, if_pos rfl, us_eq]
    · have hkk : k' ≠ k := by
        intro e
        rw [e, hk] at hk'
        cases hk'
        exact he rfl
      rw [va_up, if_neg (by omega), us_ne hkk]
      exact O.1.2 k' t' o' n' hk'
  · show va_up h.2 (a + o) _ b = _
    rw [va_up, if_neg (by omega)]
    exact O.2.2 b hb
theorem up_same {f : Nat → Option jq_E} {q : Nat} {e : Option jq_E} (h : f q = e) : va_up f q e = f := by
  funext b
  unfold va_up
  split
  · rename_i hb
    rw [hb, h]
  · rfl
theorem up_up {f : Nat → Option jq_E} {q : Nat} {e e' : Option jq_E} : va_up (va_up f q e) q e' = va_up f q e' := by
  funext b
  unfold va_up
  split <;> rfl
theorem up_at {f : Nat → Option jq_E} {q : Nat} {e : Option jq_E} : va_up f q e q = e := by simp [va_up]
theorem up_ne {f : Nat → Option jq_E} {q b : Nat} {e : Option jq_E} (h : b ≠ q) : va_up f q e b = f b := by simp [va_up, h]
theorem clampI {j : Nat} (h : j < 2 ^ 31) : (nI j).toNatClampNeg = j := nI_clamp h
theorem jq_inN' {j n : Nat} (h : j < n) (hn : n < 2 ^ 31) : jq_in (nI j) n := vp_in_nI h hn
theorem fill_loop {n len q : Nat} {x : Int32} {K : jq_H → Option jq_H} (hl : len < 2 ^ 31) :
    ∀ (k j : Nat) (h : jq_H) (f : Nat → Int32), h.2 q = some (.inl (0, len, .inl f)) → j ≤ len → len < j + k →
      J7_fill_53178_l5 n K k q x (nI j) (nI len) h = K (h.1, va_up h.2 q (some (.inl (0, len, .inl (fun i => if j ≤ i ∧ i < len then x else f i))))) := by
  intro k
  induction k with
  | zero => intro j h f hq h1 h2; exfalso; omega
  | succ k ih =>
    intro j h f hq h1 h2
    show J7_fill_53178_b5 n (J7_fill_53178_l5 n K k) K q x (nI j) (nI len) h = _
    unfold J7_fill_53178_b5
    by_cases hc : nI len ≤ nI j
    · rw [if_pos hc]
      have hj : len ≤ j := (nI_leI (by omega) (by omega)).mp hc
      congr 1
      refine Prod.ext rfl ?_
      show h.2 = va_up h.2 q _
      rw [up_same]
      rw [hq]
      congr 5
      funext i
      rw [if_neg (by omega)]
    · rw [if_neg hc]
      have hj : j < len := Nat.not_le.mp fun z => hc ((nI_leI (by omega) (by omega)).mpr z)
      have hst : jq_stI h q (nI j) x = some (h.1, va_up h.2 q (some (.inl (0, len, .inl (upd f j x))))) := by
        unfold jq_stI
        rw [hq]
        simp only
        rw [if_pos ⟨trivial, jq_inN' hj hl⟩, clampI (by omega)]
      rw [hst, Option.bind_some]
      simp only [jq_l]
      rw [nI_1, ih (j + 1) (h.1, va_up h.2 q (some (.inl (0, len, .inl (upd f j x))))) (upd f j x) up_at (by omega) (by omega)]
      congr 1
      refine Prod.ext rfl ?_
      show va_up (va_up h.2 q _) q _ = _
      rw [up_up]
      congr 6
      funext i
      by_cases hi : i = j
      · subst hi
        rw [if_neg (by omega), if_pos (by omega)]
        simp [upd]
      · by_cases hi2 : j + 1 ≤ i ∧ i < len
        · rw [if_pos hi2, if_pos (by omega)]
        · rw [if_neg hi2, if_neg (by omega)]
          simp [upd, hi]
theorem fill_raw {n len q : Nat} {x : Int32} {h : jq_H} {f : Nat → Int32} (hq : h.2 q = some (.inl (0, len, .inl f))) (hn : len < n) (hl : len < 2 ^ 31) :
    J7_fill_53178 n h q x = some (h.1, va_up h.2 q (some (.inl (0, len, .inl (fun i => if i < len then x else f i))))) := by
  unfold J7_fill_53178
  have h1 : jq_len h q = some (nI len) := by
    unfold jq_len
    rw [hq]
    rfl
  rw [h1]
  show J7_fill_53178_l5 n _ n q x (nI 0) (nI len) h = _
  rw [fill_loop hl n 0 h f hq (Nat.zero_le _) (by omega)]
  unfold J7_fill_53178_b20
  simp
def ob_fill (S : ob_S) (k len : Nat) (x : Int32) : ob_S := us S k (fun i => if i < len then x else S k i)
theorem p_fill {h h0 : jq_H} {a w ci : Nat} {sh : ob_Sh} {S : ob_S} {k o len n : Nat} {x : Int32} (O : OF a w ci sh h0 S h) (ok : ob_ok w sh) (hk : sh[k]? = some (1, o, len)) (hn : len < n) (hl : len < 2 ^ 31) : ∃ h', J7_fill_53178 n h (a + o) x = some h' ∧ OF a w ci sh h0 (ob_fill S k len x) h' :=
  ⟨_, fill_raw (O.1.2 k 0 o len hk) hn hl, ob_putf (t := 0) O ok hk⟩
theorem pf_in_ne {v lo hi : Int32} (h : ¬ pf_in v lo hi = 0) : pf_in v lo hi = 1 := (pf_in01 v lo hi).resolve_left h
theorem p_fits (n : Nat) (h : jq_H) (k x y z : Int32) : X10_fits n h k x y z = some (pf_fits k x y z, h) := by
  unfold X10_fits X10_fits_b183 X10_fits_b182 X10_fits_b183 X10_fits_b148 X10_fits_b147 X10_fits_b148 X10_fits_b123 X10_fits_b122 X10_fits_b123 X10_fits_b88 X10_fits_b87 X10_fits_b88 pf_fits
  simp only [p_within, Option.bind_some, jq_zin, jq_z0, jq_z1]
  repeat' split
  all_goals first | rfl | (simp_all [pf_in_ne]; done) | (rename_i q; rw [pf_in_ne q])
theorem p_fitsR (n : Nat) (h : jq_H) (k x y z : Int32) : X11_fits n h k x y z = some (pf_fits k x y z, h) := by
  unfold X11_fits X11_fits_b183 X11_fits_b182 X11_fits_b183 X11_fits_b148 X11_fits_b147 X11_fits_b148 X11_fits_b123 X11_fits_b122 X11_fits_b123 X11_fits_b88 X11_fits_b87 X11_fits_b88 pf_fits
  simp only [p_in, Option.bind_some, jq_zin, jq_z0, jq_z1]
  repeat' split
  all_goals first | rfl | (simp_all [pf_in_ne]; done) | (rename_i q; rw [pf_in_ne q])
