/-! ===== the two constructors ===== -/
def shB (sh : ob_Sh) (L : List (Nat × Nat)) : Bool := sh.all (fun q => q.1 == 0 || (decide (0 < q.2.1) && (L[q.2.1 - 1]? == some (q.1 - 1, q.2.2))))
theorem AB.ob {hb h : jq_H} {a ci : Nat} {fs : List Value} {L : List (Nat × Nat)} {sh : ob_Sh} (A : AB hb h a ci fs L) (hfs : fs = ob_fs a S00 sh) (hsh : shB sh L = true) : OB h a ci sh S00 := by
  obtain ⟨a1, a2, a3, a4⟩ := A
  refine ⟨by rw [a2, hfs], fun k t o n hk => ?_⟩
  have h1 := List.all_eq_true.mp hsh _ (List.mem_of_getElem? hk)
  simp only [Bool.or_eq_true, Bool.and_eq_true, beq_iff_eq, decide_eq_true_eq, Nat.add_eq_zero_iff, Nat.succ_ne_zero, and_false, false_or, Nat.add_sub_cancel] at h1
  obtain ⟨h2, h3⟩ := h1
  have h4 := a3 (o - 1) (t, n) h3
  have h5 : a + 1 + (o - 1) = a + o := by omega
  rw [h5] at h4
  exact h4
theorem X_initM {n a : Nat} {hb h : jq_H} (A : AB hb h a 5 [.null, .null, .null, .null, .null, .null, .int 0, .int 0] []) : ∃ h', X6_init n h a = some h' ∧ (h'.1 = a + 7 ∧ OB h' a 5 sh_M S00 ∧ ∀ y, y < a → h'.2 y = hb.2 y) := by
  unfold X6_init
  refine A.step 64 rfl (Nat.le_refl _) (by decide) (by decide) (Nat.le_of_ble_eq_true rfl) (fun h A => ?_)
  have A : AB hb h a 5 [.ref (a + 1), .null, .null, .null, .null, .null, .int 0, .int 0] [(0, 64)] := A
  refine A.step 64 rfl (Nat.le_refl _) (by decide) (by decide) (Nat.le_of_ble_eq_true rfl) (fun h A => ?_)
  have A : AB hb h a 5 [.ref (a + 1), .ref (a + 2), .null, .null, .null, .null, .int 0, .int 0] [(0, 64), (0, 64)] := A
  refine A.step 64 rfl (Nat.le_refl _) (by decide) (by decide) (Nat.le_of_ble_eq_true rfl) (fun h A => ?_)
  have A : AB hb h a 5 [.ref (a + 1), .ref (a + 2), .ref (a + 3), .null, .null, .null, .int 0, .int 0] [(0, 64), (0, 64), (0, 64)] := A
  refine A.step 64 rfl (Nat.le_refl _) (by decide) (by decide) (Nat.le_of_ble_eq_true rfl) (fun h A => ?_)
  have A : AB hb h a 5 [.ref (a + 1), .ref (a + 2), .ref (a + 3), .ref (a + 4), .null, .null, .int 0, .int 0] [(0, 64), (0, 64), (0, 64), (0, 64)] := A
  refine A.step 8 rfl (Nat.le_refl _) (by decide) (by decide) (Nat.le_of_ble_eq_true rfl) (fun h A => ?_)
  have A : AB hb h a 5 [.ref (a + 1), .ref (a + 2), .ref (a + 3), .ref (a + 4), .ref (a + 5), .null, .int 0, .int 0] [(0, 64), (0, 64), (0, 64), (0, 64), (0, 8)] := A
  refine A.step 32 rfl (Nat.le_refl _) (by decide) (by decide) (Nat.le_of_ble_eq_true rfl) (fun h A => ?_)
  have A : AB hb h a 5 [.ref (a + 1), .ref (a + 2), .ref (a + 3), .ref (a + 4), .ref (a + 5), .ref (a + 6), .int 0, .int 0] [(0, 64), (0, 64), (0, 64), (0, 64), (0, 8), (0, 32)] := A
  exact ⟨h, rfl, A.1, A.ob rfl (by decide +kernel), A.2.2.2⟩
theorem X_initW {n a : Nat} {hb h : jq_H} (A : AB hb h a 6 [.null, .null, .null, .null, .null, .int 0, .int 0, .int 0] []) : ∃ h', X7_init n h a = some h' ∧ (h'.1 = a + 6 ∧ OB h' a 6 sh_W S00 ∧ ∀ y, y < a → h'.2 y = hb.2 y) := by
  unfold X7_init
  refine A.step 3000 rfl (Nat.le_refl _) (by decide) (by decide) (Nat.le_of_ble_eq_true rfl) (fun h A => ?_)
  have A : AB hb h a 6 [.ref (a + 1), .null, .null, .null, .null, .int 0, .int 0, .int 0] [(0, 3000)] := A
  refine A.step 128 rfl (Nat.le_refl _) (by decide) (by decide) (Nat.le_of_ble_eq_true rfl) (fun h A => ?_)
  have A : AB hb h a 6 [.ref (a + 1), .ref (a + 2), .null, .null, .null, .int 0, .int 0, .int 0] [(0, 3000), (0, 128)] := A
  refine A.step 16384 rfl (Nat.le_refl _) (by decide) (by decide) (Nat.le_of_ble_eq_true rfl) (fun h A => ?_)
  have A : AB hb h a 6 [.ref (a + 1), .ref (a + 2), .ref (a + 3), .null, .null, .int 0, .int 0, .int 0] [(0, 3000), (0, 128), (0, 16384)] := A
  refine A.step 3000 rfl (Nat.le_refl _) (by decide) (by decide) (Nat.le_of_ble_eq_true rfl) (fun h A => ?_)
  have A : AB hb h a 6 [.ref (a + 1), .ref (a + 2), .ref (a + 3), .ref (a + 4), .null, .int 0, .int 0, .int 0] [(0, 3000), (0, 128), (0, 16384), (0, 3000)] := A
  refine A.step 64 rfl (Nat.le_refl _) (by decide) (by decide) (Nat.le_of_ble_eq_true rfl) (fun h A => ?_)
  have A : AB hb h a 6 [.ref (a + 1), .ref (a + 2), .ref (a + 3), .ref (a + 4), .ref (a + 5), .int 0, .int 0, .int 0] [(0, 3000), (0, 128), (0, 16384), (0, 3000), (0, 64)] := A
  exact ⟨h, rfl, A.1, A.ob rfl (by decide +kernel), A.2.2.2⟩
theorem fsR (a : Nat) : [.ref (a + 1), .ref (a + 2), .ref (a + 3), .ref (a + 4), .ref (a + 5), .ref (a + 6), .int 0, .int 0, .int 0, .int 0, .ref (a + 7), .ref (a + 8), .int 0, .ref (a + 9), .ref (a + 10), .ref (a + 11), .ref (a + 12), .ref (a + 13), .ref (a + 14), .ref (a + 15), .ref (a + 16), .ref (a + 17), .ref (a + 18), .ref (a + 19), .ref (a + 20)] = ob_fs a S00 sh_R := by
  unfold ob_fs sh_R
  simp only [List.mapIdx_cons, List.mapIdx_nil]
  rfl
set_option maxHeartbeats 400000 in
theorem X_initR {n a : Nat} {hb h : jq_H} (A : AB hb h a 10 [.null, .null, .null, .null, .null, .null, .int 0, .int 0, .int 0, .int 0, .null, .null, .int 0, .null, .null, .null, .null, .null, .null, .null, .null, .null, .null, .null, .null] []) : ∃ h', X11_init n h a = some h' ∧ (h'.1 = a + 21 ∧ OB h' a 10 sh_R S00 ∧ ∀ y, y < a → h'.2 y = hb.2 y) := by
  unfold X11_init
  refine A.step 64 rfl (Nat.le_refl _) (by decide) (by decide) (Nat.le_of_ble_eq_true rfl) (fun h A => ?_)
  have A : AB hb h a 10 [.ref (a + 1), .null, .null, .null, .null, .null, .int 0, .int 0, .int 0, .int 0, .null, .null, .int 0, .null, .null, .null, .null, .null, .null, .null, .null, .null, .null, .null, .null] [(0, 64)] := A
  refine A.step 64 rfl (Nat.le_refl _) (by decide) (by decide) (Nat.le_of_ble_eq_true rfl) (fun h A => ?_)
  have A : AB hb h a 10 [.ref (a + 1), .ref (a + 2), .null, .null, .null, .null, .int 0, .int 0, .int 0, .int 0, .null, .null, .int 0, .null, .null, .null, .null, .null, .null, .null, .null, .null, .null, .null, .null] [(0, 64), (0, 64)] := A
  refine A.step 64 rfl (Nat.le_refl _) (by decide) (by decide) (Nat.le_of_ble_eq_true rfl) (fun h A => ?_)
  have A : AB hb h a 10 [.ref (a + 1), .ref (a + 2), .ref (a + 3), .null, .null, .null, .int 0, .int 0, .int 0, .int 0, .null, .null, .int 0, .null, .null, .null, .null, .null, .null, .null, .null, .null, .null, .null, .null] [(0, 64), (0, 64), (0, 64)] := A
  refine A.step 64 rfl (Nat.le_refl _) (by decide) (by decide) (Nat.le_of_ble_eq_true rfl) (fun h A => ?_)
  have A : AB hb h a 10 [.ref (a + 1), .ref (a + 2), .ref (a + 3), .ref (a + 4), .null, .null, .int 0, .int 0, .int 0, .int 0, .null, .null, .int 0, .null, .null, .null, .null, .null, .null, .null, .null, .null, .null, .null, .null] [(0, 64), (0, 64), (0, 64), (0, 64)] := A
  refine A.step 8 rfl (Nat.le_refl _) (by decide) (by decide) (Nat.le_of_ble_eq_true rfl) (fun h A => ?_)
  have A : AB hb h a 10 [.ref (a + 1), .ref (a + 2), .ref (a + 3), .ref (a + 4), .ref (a + 5), .null, .int 0, .int 0, .int 0, .int 0, .null, .null, .int 0, .null, .null, .null, .null, .null, .null, .null, .null, .null, .null, .null, .null] [(0, 64), (0, 64), (0, 64), (0, 64), (0, 8)] := A
  refine A.step 32 rfl (Nat.le_refl _) (by decide) (by decide) (Nat.le_of_ble_eq_true rfl) (fun h A => ?_)
  have A : AB hb h a 10 [.ref (a + 1), .ref (a + 2), .ref (a + 3), .ref (a + 4), .ref (a + 5), .ref (a + 6), .int 0, .int 0, .int 0, .int 0, .null, .null, .int 0, .null, .null, .null, .null, .null, .null, .null, .null, .null, .null, .null, .null] [(0, 64), (0, 64), (0, 64), (0, 64), (0, 8), (0, 32)] := A
  refine A.step 3000 rfl (Nat.le_refl _) (by decide) (by decide) (Nat.le_of_ble_eq_true rfl) (fun h A => ?_)
  have A : AB hb h a 10 [.ref (a + 1), .ref (a + 2), .ref (a + 3), .ref (a + 4), .ref (a + 5), .ref (a + 6), .int 0, .int 0, .int 0, .int 0, .ref (a + 7), .null, .int 0, .null, .null, .null, .null, .null, .null, .null, .null, .null, .null, .null, .null] [(0, 64), (0, 64), (0, 64), (0, 64), (0, 8), (0, 32), (0, 3000)] := A
  refine A.step 3000 rfl (Nat.le_refl _) (by decide) (by decide) (Nat.le_of_ble_eq_true rfl) (fun h A => ?_)
  have A : AB hb h a 10 [.ref (a + 1), .ref (a + 2), .ref (a + 3), .ref (a + 4), .ref (a + 5), .ref (a + 6), .int 0, .int 0, .int 0, .int 0, .ref (a + 7), .ref (a + 8), .int 0, .null, .null, .null, .null, .null, .null, .null, .null, .null, .null, .null, .null] [(0, 64), (0, 64), (0, 64), (0, 64), (0, 8), (0, 32), (0, 3000), (0, 3000)] := A
  refine A.step 8 rfl (Nat.le_refl _) (by decide) (by decide) (Nat.le_of_ble_eq_true rfl) (fun h A => ?_)
  have A : AB hb h a 10 [.ref (a + 1), .ref (a + 2), .ref (a + 3), .ref (a + 4), .ref (a + 5), .ref (a + 6), .int 0, .int 0, .int 0, .int 0, .ref (a + 7), .ref (a + 8), .int 0, .ref (a + 9), .null, .null, .null, .null, .null, .null, .null, .null, .null, .null, .null] [(0, 64), (0, 64), (0, 64), (0, 64), (0, 8), (0, 32), (0, 3000), (0, 3000), (0, 8)] := A
  refine A.step 8 rfl (Nat.le_refl _) (by decide) (by decide) (Nat.le_of_ble_eq_true rfl) (fun h A => ?_)
  have A : AB hb h a 10 [.ref (a + 1), .ref (a + 2), .ref (a + 3), .ref (a + 4), .ref (a + 5), .ref (a + 6), .int 0, .int 0, .int 0, .int 0, .ref (a + 7), .ref (a + 8), .int 0, .ref (a + 9), .ref (a + 10), .null, .null, .null, .null, .null, .null, .null, .null, .null, .null] [(0, 64), (0, 64), (0, 64), (0, 64), (0, 8), (0, 32), (0, 3000), (0, 3000), (0, 8), (0, 8)] := A
  refine A.step 8 rfl (Nat.le_refl _) (by decide) (by decide) (Nat.le_of_ble_eq_true rfl) (fun h A => ?_)
  have A : AB hb h a 10 [.ref (a + 1), .ref (a + 2), .ref (a + 3), .ref (a + 4), .ref (a + 5), .ref (a + 6), .int 0, .int 0, .int 0, .int 0, .ref (a + 7), .ref (a + 8), .int 0, .ref (a + 9), .ref (a + 10), .ref (a + 11), .null, .null, .null, .null, .null, .null, .null, .null, .null] [(0, 64), (0, 64), (0, 64), (0, 64), (0, 8), (0, 32), (0, 3000), (0, 3000), (0, 8), (0, 8), (0, 8)] := A
  refine A.step 8 rfl (Nat.le_refl _) (by decide) (by decide) (Nat.le_of_ble_eq_true rfl) (fun h A => ?_)
  have A : AB hb h a 10 [.ref (a + 1), .ref (a + 2), .ref (a + 3), .ref (a + 4), .ref (a + 5), .ref (a + 6), .int 0, .int 0, .int 0, .int 0, .ref (a + 7), .ref (a + 8), .int 0, .ref (a + 9), .ref (a + 10), .ref (a + 11), .ref (a + 12), .null, .null, .null, .null, .null, .null, .null, .null] [(0, 64), (0, 64), (0, 64), (0, 64), (0, 8), (0, 32), (0, 3000), (0, 3000), (0, 8), (0, 8), (0, 8), (0, 8)] := A
  refine A.step 512 rfl (Nat.le_refl _) (by decide) (by decide) (Nat.le_of_ble_eq_true rfl) (fun h A => ?_)
  have A : AB hb h a 10 [.ref (a + 1), .ref (a + 2), .ref (a + 3), .ref (a + 4), .ref (a + 5), .ref (a + 6), .int 0, .int 0, .int 0, .int 0, .ref (a + 7), .ref (a + 8), .int 0, .ref (a + 9), .ref (a + 10), .ref (a + 11), .ref (a + 12), .ref (a + 13), .null, .null, .null, .null, .null, .null, .null] [(0, 64), (0, 64), (0, 64), (0, 64), (0, 8), (0, 32), (0, 3000), (0, 3000), (0, 8), (0, 8), (0, 8), (0, 8), (0, 512)] := A
  refine A.step 6496 rfl (Nat.le_refl _) (by decide) (by decide) (Nat.le_of_ble_eq_true rfl) (fun h A => ?_)
  have A : AB hb h a 10 [.ref (a + 1), .ref (a + 2), .ref (a + 3), .ref (a + 4), .ref (a + 5), .ref (a + 6), .int 0, .int 0, .int 0, .int 0, .ref (a + 7), .ref (a + 8), .int 0, .ref (a + 9), .ref (a + 10), .ref (a + 11), .ref (a + 12), .ref (a + 13), .ref (a + 14), .null, .null, .null, .null, .null, .null] [(0, 64), (0, 64), (0, 64), (0, 64), (0, 8), (0, 32), (0, 3000), (0, 3000), (0, 8), (0, 8), (0, 8), (0, 8), (0, 512), (0, 6496)] := A
  refine A.step 12992 rfl (Nat.le_refl _) (by decide) (by decide) (Nat.le_of_ble_eq_true rfl) (fun h A => ?_)
  have A : AB hb h a 10 [.ref (a + 1), .ref (a + 2), .ref (a + 3), .ref (a + 4), .ref (a + 5), .ref (a + 6), .int 0, .int 0, .int 0, .int 0, .ref (a + 7), .ref (a + 8), .int 0, .ref (a + 9), .ref (a + 10), .ref (a + 11), .ref (a + 12), .ref (a + 13), .ref (a + 14), .ref (a + 15), .null, .null, .null, .null, .null] [(0, 64), (0, 64), (0, 64), (0, 64), (0, 8), (0, 32), (0, 3000), (0, 3000), (0, 8), (0, 8), (0, 8), (0, 8), (0, 512), (0, 6496), (0, 12992)] := A
  refine A.step 16 rfl (Nat.le_refl _) (by decide) (by decide) (Nat.le_of_ble_eq_true rfl) (fun h A => ?_)
  have A : AB hb h a 10 [.ref (a + 1), .ref (a + 2), .ref (a + 3), .ref (a + 4), .ref (a + 5), .ref (a + 6), .int 0, .int 0, .int 0, .int 0, .ref (a + 7), .ref (a + 8), .int 0, .ref (a + 9), .ref (a + 10), .ref (a + 11), .ref (a + 12), .ref (a + 13), .ref (a + 14), .ref (a + 15), .ref (a + 16), .null, .null, .null, .null] [(0, 64), (0, 64), (0, 64), (0, 64), (0, 8), (0, 32), (0, 3000), (0, 3000), (0, 8), (0, 8), (0, 8), (0, 8), (0, 512), (0, 6496), (0, 12992), (1, 16)] := A
  refine A.step 8 rfl (Nat.le_refl _) (by decide) (by decide) (Nat.le_of_ble_eq_true rfl) (fun h A => ?_)
  have A : AB hb h a 10 [.ref (a + 1), .ref (a + 2), .ref (a + 3), .ref (a + 4), .ref (a + 5), .ref (a + 6), .int 0, .int 0, .int 0, .int 0, .ref (a + 7), .ref (a + 8), .int 0, .ref (a + 9), .ref (a + 10), .ref (a + 11), .ref (a + 12), .ref (a + 13), .ref (a + 14), .ref (a + 15), .ref (a + 16), .ref (a + 17), .null, .null, .null] [(0, 64), (0, 64), (0, 64), (0, 64), (0, 8), (0, 32), (0, 3000), (0, 3000), (0, 8), (0, 8), (0, 8), (0, 8), (0, 512), (0, 6496), (0, 12992), (1, 16), (0, 8)] := A
  refine A.step 8 rfl (Nat.le_refl _) (by decide) (by decide) (Nat.le_of_ble_eq_true rfl) (fun h A => ?_)
  have A : AB hb h a 10 [.ref (a + 1), .ref (a + 2), .ref (a + 3), .ref (a + 4), .ref (a + 5), .ref (a + 6), .int 0, .int 0, .int 0, .int 0, .ref (a + 7), .ref (a + 8), .int 0, .ref (a + 9), .ref (a + 10), .ref (a + 11), .ref (a + 12), .ref (a + 13), .ref (a + 14), .ref (a + 15), .ref (a + 16), .ref (a + 17), .ref (a + 18), .null, .null] [(0, 64), (0, 64), (0, 64), (0, 64), (0, 8), (0, 32), (0, 3000), (0, 3000), (0, 8), (0, 8), (0, 8), (0, 8), (0, 512), (0, 6496), (0, 12992), (1, 16), (0, 8), (0, 8)] := A
  refine A.step 32768 rfl (Nat.le_refl _) (by decide) (by decide) (Nat.le_of_ble_eq_true rfl) (fun h A => ?_)
  have A : AB hb h a 10 [.ref (a + 1), .ref (a + 2), .ref (a + 3), .ref (a + 4), .ref (a + 5), .ref (a + 6), .int 0, .int 0, .int 0, .int 0, .ref (a + 7), .ref (a + 8), .int 0, .ref (a + 9), .ref (a + 10), .ref (a + 11), .ref (a + 12), .ref (a + 13), .ref (a + 14), .ref (a + 15), .ref (a + 16), .ref (a + 17), .ref (a + 18), .ref (a + 19), .null] [(0, 64), (0, 64), (0, 64), (0, 64), (0, 8), (0, 32), (0, 3000), (0, 3000), (0, 8), (0, 8), (0, 8), (0, 8), (0, 512), (0, 6496), (0, 12992), (1, 16), (0, 8), (0, 8), (0, 32768)] := A
  refine A.step 64 rfl (Nat.le_refl _) (by decide) (by decide) (Nat.le_of_ble_eq_true rfl) (fun h A => ?_)
  have A : AB hb h a 10 [.ref (a + 1), .ref (a + 2), .ref (a + 3), .ref (a + 4), .ref (a + 5), .ref (a + 6), .int 0, .int 0, .int 0, .int 0, .ref (a + 7), .ref (a + 8), .int 0, .ref (a + 9), .ref (a + 10), .ref (a + 11), .ref (a + 12), .ref (a + 13), .ref (a + 14), .ref (a + 15), .ref (a + 16), .ref (a + 17), .ref (a + 18), .ref (a + 19), .ref (a + 20)] [(0, 64), (0, 64), (0, 64), (0, 64), (0, 8), (0, 32), (0, 3000), (0, 3000), (0, 8), (0, 8), (0, 8), (0, 8), (0, 512), (0, 6496), (0, 12992), (1, 16), (0, 8), (0, 8), (0, 32768), (0, 64)] := A
  exact ⟨h, rfl, A.1, A.ob (fsR a) (by decide +kernel), A.2.2.2⟩
abbrev GD0 : gd := ((0, 0, 0, 0, 0), (fun _ => 0), 0, S00, S00, (fun _ => none), (fun _ => S00))
theorem REL0 {G : Nat → gd} : REL 0 0 S00 S00 G S00 := by
  refine ⟨⟨fun _ _ => rfl, ⟨0, by decide, rfl⟩, fun p hp => ⟨⟨0, by decide, rfl⟩, ⟨0, by decide, rfl⟩, ⟨0, by decide, rfl⟩, fun q => ?_⟩⟩, ⟨0, fun _ => 0, fun _ => 0, ?_⟩, fun g hg => by omega, rfl, rfl, fun _ _ _ => rfl⟩
  · exact absurd q (show ¬ (9 : Int32) ≤ 0 by decide)
  · exact ⟨by omega, rfl, rfl, fun i hi => by omega, fun _ _ _ _ => rfl, fun _ _ => rfl⟩
set_option maxHeartbeats 1000000 in
theorem X_begin {n : Nat} (h0 : jq_H) : ∃ h1 h2, X10_init n (jq_newO 9 [.null, .null, .null, .int 0, .int 0] h0).2 (jq_newO 9 [.null, .null, .null, .int 0, .int 0] h0).1 = some h1 ∧ X11_init n (jq_newO 10 [.null, .null, .null, .null, .null, .null, .int 0, .int 0, .int 0, .int 0, .null, .null, .int 0, .null, .null, .null, .null, .null, .null, .null, .null, .null, .null, .null, .null] h1).2 (jq_newO 10 [.null, .null, .null, .null, .null, .null, .int 0, .int 0, .int 0, .int 0, .null, .null, .int 0, .null, .null, .null, .null, .null, .null, .null, .null, .null, .null, .null, .null] h1).1 = some h2 ∧ h1.1 = h0.1 + 15 ∧ INV h0.1 h2 := by
  obtain ⟨ax, hax⟩ : ∃ ax, ax = h0.1 := ⟨_, rfl⟩
  have A0 := AB.new (ci := 9) (fs := [.null, .null, .null, .int 0, .int 0]) (h := h0)
  have y0 : (jq_newO 9 [.null, .null, .null, .int 0, .int 0] h0).1 = ax := hax.symm
  rw [← hax]
  rw [y0] at A0 ⊢
  generalize (jq_newO 9 [.null, .null, .null, .int 0, .int 0] h0).2 = hA at A0 ⊢
  obtain ⟨a1, a2, -, a4⟩ := A0
  have z0 : hA.1 = ax + 1 := a1
  have A1 := AB.new (ci := 5) (fs := [.null, .null, .null, .null, .null, .null, .int 0, .int 0]) (h := hA)
  have y1 : (jq_newO 5 [.null, .null, .null, .null, .null, .null, .int 0, .int 0] hA).1 = ax + 1 := z0
  rw [y1] at A1
  obtain ⟨h2, e2, s2, O2, f2⟩ := X_initM (n := n) A1
  obtain ⟨h3, e3, s3, n3, f3⟩ := pt_v (h := h2) (q := ax) (k := 0) (cs := [9]) (v := .ref (ax + 1)) (by rw [f2 _ (by omega)]; exact a2) (by decide) (Nat.le_of_ble_eq_true rfl)
  have A4 := AB.new (ci := 6) (fs := [.null, .null, .null, .null, .null, .int 0, .int 0, .int 0]) (h := h3)
  have y4 : (jq_newO 6 [.null, .null, .null, .null, .null, .int 0, .int 0, .int 0] h3).1 = ax + 8 := by
    show h3.1 = _
    rw [s3, s2]
  rw [y4] at A4
  obtain ⟨h5, e5, s5, O5, f5⟩ := X_initW (n := n) A4
  obtain ⟨h6, e6, s6, n6, f6⟩ := pt_v (h := h5) (q := ax) (k := 1) (cs := [9]) (v := .ref (ax + 8)) (by rw [f5 _ (by omega)]; exact n3) (by decide) (Nat.le_of_ble_eq_true rfl)
  obtain ⟨h7, e7, s7, n7, f7⟩ := nw_R (h := h6) (t := 2) (x := 8) (m := 8) (B := 8) rfl (by decide) (by decide)
  have z6 : h6.1 = ax + 14 := by rw [s6, s5]
  rw [z6] at e7 s7 n7 f7
  obtain ⟨h8, e8, s8, n8, f8⟩ := pt_v (h := h7) (q := ax) (k := 2) (cs := [9]) (v := .ref (ax + 14)) (by rw [f7 _ (by omega)]; exact n6) (by decide) (Nat.le_of_ble_eq_true rfl)
  have z8 : h8.1 = ax + 15 := by rw [s8, s7]
  have A9 := AB.new (ci := 10) (fs := [.null, .null, .null, .null, .null, .null, .int 0, .int 0, .int 0, .int 0, .null, .null, .int 0, .null, .null, .null, .null, .null, .null, .null, .null, .null, .null, .null, .null]) (h := h8)
  have y9 : (jq_newO 10 [.null, .null, .null, .null, .null, .null, .int 0, .int 0, .int 0, .int 0, .null, .null, .int 0, .null, .null, .null, .null, .null, .null, .null, .null, .null, .null, .null, .null] h8).1 = ax + 15 := z8
  rw [y9] at A9
  obtain ⟨h10, e10, s10, O10, f10⟩ := X_initR (n := n) A9
  refine ⟨h8, h10, ?_, by rw [y9]; exact e10, z8, 0, 0, S00, S00, fun _ => GD0, fun _ => none, S00, ⟨?_, ?_, ?_, O10, ⟨?_, fun g hg => by omega, fun g hg => by omega, fun g y hg => by omega, fun g g' y hg => by omega, fun g hg => by omega⟩, by omega, by omega⟩, REL0⟩
  · unfold X10_init
    rw [jq_lE, y1, e2, Option.bind_some, e3, Option.bind_some, jq_lE, y4, e5, Option.bind_some, e6, Option.bind_some, e7, Option.bind_some]
    dsimp only
    rw [e8, Option.bind_some]
  · rw [f10 _ (by omega)]
    exact n8
  · exact O2.kept ok_M (by decide) (fun y q1 q2 => by rw [f10 y (by omega), f8 y (by omega), f7 y (by omega), f6 y (by omega), f5 y (by omega), f3 y (by omega)])
  · exact O5.kept ok_W (by decide) (fun y q1 q2 => by rw [f10 y (by omega), f8 y (by omega), f7 y (by omega), f6 y (by omega)])
  · rw [f10 _ (by omega), f8 _ (by omega)]
    exact n7
theorem sim_to {ax c : Nat} {ev : Int32} {M W R : ob_S} {G : Nat → gd} {rf : Nat → Option Nat} {h : jq_H} {f g : jq_H → Nat → Option (Int32 × jq_H)} {rg : ob_S → Option (Int32 × ob_S)} (H : CI h ax c ev M W G rf R) (S : SIMq ax f rg h R)
    (hN : ∀ (h0 : jq_H) (S : ob_S) (h : jq_H) (zs : Int32 × ob_S), OF (ax + 15) 21 10 sh_R h0 S h → rg S = some zs → ∃ z, g h (ax + 15) = some z ∧ (z.1 = zs.1 ∧ OF (ax + 15) 21 10 sh_R h0 zs.2 z.2)) : jq_sim (INV ax) ax (ax + 15) f g h := sim_of H hN S
theorem whole_good {n ax : Nat} (hn : 32768 < n) : jq_good n ax (ax + 15) (INV ax) := by
  intro h hI a1 a2 a3 a4 a5
  obtain ⟨c, ev, M, W, G, rf, R, H, Q⟩ := hI
  refine ⟨?_, ?_, ?_, ?_, ?_, ?_, ?_, ?_, ?_, ?_, ?_, ?_, ?_, ?_, ?_, ?_, ?_, ?_, ?_, ?_, ?_, ?_, ?_, ?_, ?_, ?_, ?_, ?_⟩
  · exact sim_to H (S_op H Q) (fun h0 S h zs O he => N_X11_op O he)
  · exact sim_to H (S_register H Q) (fun h0 S h zs O he => N_X11_register O he)
  · exact sim_to H (S_value H Q) (fun h0 S h zs O he => N_X11_value O he)
  · exact sim_to H (S_data H Q) (fun h0 S h zs O he => N_X11_data O he)
  · exact sim_to H (S_stored H Q) (fun h0 S h zs O he => N_X11_stored O he)
  · exact sim_to H (S_stand H Q) (fun h0 S h zs O he => N_X11_stand O he)
  · exact sim_to H (S_run (by omega) H Q) (fun h0 S h zs O he => N_X11_run O he)
  · exact sim_to H (S_branch (by omega) H Q) (fun h0 S h zs O he => N_X11_branch O he)
  · exact sim_to H (S_at H Q) (fun h0 S h zs O he => N_X11_at O he)
  · exact sim_to H (S_guesser (by omega) H Q) (fun h0 S h zs O he => N_X11_guesser O he)
  · exact sim_to H (S_guess (by omega) H Q) (fun h0 S h zs O he => N_X11_guess O he)
  · exact sim_to H (S_hint H Q) (fun h0 S h zs O he => N_X11_hint O he)
  · exact sim_to H (S_profile (by omega) H Q) (fun h0 S h zs O he => N_X11_profile O he)
  · exact sim_to H (S_misses (by omega) H Q) (fun h0 S h zs O he => N_X11_misses O he)
  · exact sim_to H (S_asked H Q) (fun h0 S h zs O he => N_X11_asked O he)
  · exact sim_to H (S_clashes H Q) (fun h0 S h zs O he => N_X11_clashes O he)
  · exact sim_to H (S_pair H Q) (fun h0 S h zs O he => N_X11_pair O he)
  · exact sim_to H (S_inside H Q) (fun h0 S h zs O he => N_X11_inside O he)
  · exact sim_to H (S_fresh (by omega) H Q) (fun h0 S h zs O he => N_X11_fresh O he)
  · exact sim_to H (S_again (by omega) H Q) (fun h0 S h zs O he => N_X11_again O he)
  · exact sim_to H (S_keep (by omega) H Q) (fun h0 S h zs O he => N_X11_keep O he)
  · exact sim_to H (S_back (by omega) H Q) (fun h0 S h zs O he => N_X11_back O he)
  · exact sim_to H (S_best hn H Q) (fun h0 S h zs O he => N_X11_best O he)
  · exact sim_to H (S_seen hn H Q) (fun h0 S h zs O he => N_X11_seen O he)
  · exact sim_to H (S_often (by omega) H Q) (fun h0 S h zs O he => N_X11_often O he)
  · exact sim_to H (S_ticks (by omega) H Q) (fun h0 S h zs O he => N_X11_ticks O he)
  · exact sim_to H (S_told H Q) (fun h0 S h zs O he => N_X11_told O he)
  · exact sim_to H (S_empty (by omega) H Q) (fun h0 S h zs O he => N_X11_empty O he)
/-- from the entry, for every script of at most 3072 ints, the law comes to its end with true -/
theorem whole_start {p : Program} {e : Env} {s : State} {m : MethodId} {below : List Frame} {meth : Method} {c : Code} (l : Launch) {b L : Nat} {xs : Nat → Int32} (hL : L ≤ 3072) (C0 : lw_At p s m meth c b L xs) : W p l e room_1 s m #[Value.ref b] below meth c s.heap [] 0 0 (lw_Z below #[Value.ref b] s) (entryFrame m ([Value.ref b] : List Value).toArray 4) := by
  obtain ⟨D, ct, C⟩ := lw_ctx C0
  obtain ⟨hx, hb, hr, hml, hown, hts, hX, hbl, hlocks, hgv⟩ := id C0
  have hl := lv_entry ([.ref b]) (n := 4) (Nat.le_of_ble_eq_true rfl)
  rw [lg_entry_eq]
  generalize (lg_sl ([.ref b]) ++ List.replicate (4 - (lg_sl ([.ref b])).length) Slot.unset).toArray = ls at hl ⊢
  have hl : lv_has ls 4 [(0, .ref b)] := hl
  obtain ⟨n, hn⟩ : ∃ n : Nat, 32768 < n := ⟨40000, by decide⟩
  obtain ⟨h1, h2, e1, e2, z1, I⟩ := X_begin (n := n) ((s.heap.size, fun _ => none) : jq_H)
  have X0 : jq_X s.heap.size D ct s.heap ((s.heap.size, fun _ => none) : jq_H) s.heap [] := ⟨⟨rfl, fun a x h => by cases h⟩, va_S.rf⟩
  refine law_begin (n := n) C hX hbl (Nat.not_le.mpr hbl) X0 hl e1 e2 (fun H1 locs1 ls1 X1 hl1 => ?_)
  rw [z1] at hl1
  exact law_loop (n := n) (ax := s.heap.size) (am := s.heap.size + 15) (Inv := INV s.heap.size) C hX hbl (Nat.not_le.mpr hbl) hL (whole_good hn) hlocks hr (Nat.le_refl _) 513 0 h2 H1 locs1 ls1 0 (by omega) (by decide) (Nat.zero_le _) I X1 hl1
