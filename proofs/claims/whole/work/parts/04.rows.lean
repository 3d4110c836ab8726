section JR
variable {p : Program} {l : Launch} {e : Env} {R : Room} {s : State} {m : MethodId} {args : Array Value} {below : List Frame} {meth : Method} {c : Code} {H : Heap} {locs : List Loc} {cells slots : Nat} {Q : State → Prop} {cc : ByteArray} {nL : Nat} {own : String} {D : va_G} {ct : Nat → ClassId} {bs pc : Nat} {ls : Array Slot} {rest : List Value} {h : jq_H} {ρ : Type} {res : ρ}
/-! ===== arrays ===== -/
theorem jq_rldI (C : jq_C p s m args c cc nL own D ct bs) (X : jq_X bs D ct s.heap h H locs) {a : Nat} {i : Int32} {K : Int32 → Option ρ} (he : (jq_ldI 0 h a i).bind K = some res) (hdg : decode cc pc = .ok (.iaload, 1))
    (kk : ∀ x, K x = some res → W p l e R s m args below meth c H locs cells slots Q (F0 m (pc + 1) ls (.int x :: rest))) : W p l e R s m args below meth c H locs cells slots Q (F0 m pc ls (.int i :: .ref a :: rest)) := by
  obtain ⟨hx, hb, -, -, -, hK, -, -⟩ := C
  obtain ⟨x, h1, h2⟩ := jq_b he
  unfold jq_ldI at h1
  split at h1
  · rename_i t' n f ho
    split at h1
    · rename_i hm
      obtain ⟨rfl, hin⟩ := hm
      cases h1
      exact va_iald hx hb hK (jq_one (X.1.2 a _ ho).2) 0 0 rfl rfl hin hdg (kk _ h2)
    · cases h1
  · cases h1
theorem jq_rldZ (C : jq_C p s m args c cc nL own D ct bs) (X : jq_X bs D ct s.heap h H locs) {a : Nat} {i : Int32} {K : Int32 → Option ρ} (he : (jq_ldI 1 h a i).bind K = some res) (hdg : decode cc pc = .ok (.baload, 1))
    (kk : ∀ x, K x = some res → W p l e R s m args below meth c H locs cells slots Q (F0 m (pc + 1) ls (.int x :: rest))) : W p l e R s m args below meth c H locs cells slots Q (F0 m pc ls (.int i :: .ref a :: rest)) := by
  obtain ⟨hx, hb, -, -, -, hK, -, -⟩ := C
  obtain ⟨x, h1, h2⟩ := jq_b he
  unfold jq_ldI at h1
  split at h1
  · rename_i t' n f ho
    split at h1
    · rename_i hm
      obtain ⟨rfl, hin⟩ := hm
      cases h1
      exact va_zald hx hb hK (jq_one (X.1.2 a _ ho).2) 0 1 rfl rfl hin hdg (kk _ h2)
    · cases h1
  · cases h1
theorem jq_rstI (C : jq_C p s m args c cc nL own D ct bs) (X : jq_X bs D ct s.heap h H locs) {a : Nat} {i x : Int32} {K : jq_H → Option ρ} (he : (jq_stI h a i x).bind K = some res) (hdg : decode cc pc = .ok (.iastore, 1))
    (kk : ∀ h1 H1 locs1, K h1 = some res → jq_X bs D ct s.heap h1 H1 locs1 → W p l e R s m args below meth c H1 locs1 cells slots Q (F0 m (pc + 1) ls rest)) : W p l e R s m args below meth c H locs cells slots Q (F0 m pc ls (.int x :: .int i :: .ref a :: rest)) := by
  obtain ⟨hx, hb, -, -, -, hK, -, -⟩ := C
  obtain ⟨h1, e1, e2⟩ := jq_b he
  unfold jq_stI at e1
  split at e1
  · rename_i t' n f ho
    split at e1
    · rename_i hm
      obtain ⟨rfl, hin⟩ := hm
      cases e1
      obtain ⟨hbs, hcell⟩ := X.1.2 a _ ho
      refine W.iast hx hb hcell ((hK.2 0 _ rfl).1 n (fun j => .int (f j))) (fun q => by cases q) (by show ¬ (i < 0 ∨ (arrV _ _ _).slots.size ≤ _); rw [arrV_size]; exact hin) rfl rfl hdg fun H1 g1 z oq => ?_
      refine kk _ H1 _ e2 ⟨X.1.set ho ?_ z oq, X.2.put z oq hbs⟩
      show H1[a]? = some (vp_cell _ _)
      rw [g1]
      rw [vp_cell_i, vp_cell_i, arrV_store]
      congr 2
      funext q
      by_cases hq : q = i.toNatClampNeg
      · subst hq
        simp [updV, upd]
      · simp [updV, upd, hq]
    · cases e1
  · cases e1
theorem jq_nar {x : Int32} (h : x = 0 ∨ x = 1) : narrow .boolean (.int x) = .int x := by
  rcases h with rfl | rfl <;> rfl
theorem jq_rstZ (C : jq_C p s m args c cc nL own D ct bs) (X : jq_X bs D ct s.heap h H locs) {a : Nat} {i x : Int32} {K : jq_H → Option ρ} (he : (jq_stZ h a i x).bind K = some res) (hdg : decode cc pc = .ok (.bastore, 1))
    (kk : ∀ h1 H1 locs1, K h1 = some res → jq_X bs D ct s.heap h1 H1 locs1 → W p l e R s m args below meth c H1 locs1 cells slots Q (F0 m (pc + 1) ls rest)) : W p l e R s m args below meth c H locs cells slots Q (F0 m pc ls (.int x :: .int i :: .ref a :: rest)) := by
  obtain ⟨hx, hb, -, -, -, hK, -, -⟩ := C
  obtain ⟨h1, e1, e2⟩ := jq_b he
  unfold jq_stZ at e1
  split at e1
  · rename_i t' n f ho
    split at e1
    · rename_i hm
      obtain ⟨rfl, hin, hz⟩ := hm
      cases e1
      obtain ⟨hbs, hcell⟩ := X.1.2 a _ ho
      refine W.zast hx hb hcell ((hK.2 1 _ rfl).1 n (fun j => .int (f j))) (fun q => by cases q) (by show ¬ (i < 0 ∨ (arrV _ _ _).slots.size ≤ _); rw [arrV_size]; exact hin) rfl rfl hdg fun H1 g1 z oq => ?_
      refine kk _ H1 _ e2 ⟨X.1.set ho ?_ z oq, X.2.put z oq hbs⟩
      show H1[a]? = some (vp_cell _ _)
      rw [g1, jq_nar hz]
      rw [vp_cell_i, vp_cell_i, arrV_store]
      congr 2
      funext q
      by_cases hq : q = i.toNatClampNeg
      · subst hq
        simp [updV, upd]
      · simp [updV, upd, hq]
    · cases e1
  · cases e1
theorem jq_tyR {ct : Nat → ClassId} {t : Nat} {C : String} (hC : (t = 2 ∧ C = "WayGuesses$Guesser") ∨ (t = 3 ∧ C = "WayGuesses$Learnt")) : (jq_tys ct)[t]? = some (ct t, .object C) := by
  rcases hC with ⟨rfl, rfl⟩ | ⟨rfl, rfl⟩ <;> rfl
theorem jq_rldR (C : jq_C p s m args c cc nL own D ct bs) (X : jq_X bs D ct s.heap h H locs) {t : Nat} {E : String} (hE : (t = 2 ∧ E = "WayGuesses$Guesser") ∨ (t = 3 ∧ E = "WayGuesses$Learnt")) {a : Nat} {i : Int32} {K : Option Nat → Option ρ} (he : (jq_ldR t h a i).bind K = some res) (hdg : decode cc pc = .ok (.aaload, 1))
    (kk : ∀ x, K x = some res → W p l e R s m args below meth c H locs cells slots Q (F0 m (pc + 1) ls (va_rf x :: rest))) : W p l e R s m args below meth c H locs cells slots Q (F0 m pc ls (.int i :: .ref a :: rest)) := by
  obtain ⟨hx, hb, -, -, -, hK, -, -⟩ := C
  obtain ⟨x, h1, h2⟩ := jq_b he
  unfold jq_ldR at h1
  split at h1
  · rename_i t' n f ho
    split at h1
    · rename_i hm
      obtain ⟨rfl, hin⟩ := hm
      cases h1
      exact va_aldq hx hb hK (jq_one (X.1.2 a _ ho).2) 0 t' rfl (jq_tyR hE) hin hdg (kk _ h2)
    · cases h1
  · cases h1
theorem jq_rldN (C : jq_C p s m args c cc nL own D ct bs) (X : jq_X bs D ct s.heap h H locs) {t : Nat} {E : String} (hE : (t = 2 ∧ E = "WayGuesses$Guesser") ∨ (t = 3 ∧ E = "WayGuesses$Learnt")) {a : Nat} {i : Int32} {K : Nat → Option ρ} (he : (jq_ldN t h a i).bind K = some res) (hdg : decode cc pc = .ok (.aaload, 1))
    (kk : ∀ x, K x = some res → W p l e R s m args below meth c H locs cells slots Q (F0 m (pc + 1) ls (.ref x :: rest))) : W p l e R s m args below meth c H locs cells slots Q (F0 m pc ls (.int i :: .ref a :: rest)) := by
  obtain ⟨x, h1, h2⟩ := jq_b he
  unfold jq_ldN at h1
  split at h1
  · rename_i q hq
    cases h1
    have hb : (jq_ldR t h a i).bind (fun o => if o = some x then some x else none) = some x := by rw [hq]; simp
    refine jq_rldR C X hE hb hdg (fun y hy => ?_)
    split at hy
    · rename_i hyx
      rw [hyx]
      exact kk x h2
    · cases hy
  · cases h1
theorem jq_rstR (C : jq_C p s m args c cc nL own D ct bs) (X : jq_X bs D ct s.heap h H locs) {t : Nat} {cs : List Nat} {E : String} (hE : (t = 2 ∧ E = "WayGuesses$Guesser") ∨ (t = 3 ∧ E = "WayGuesses$Learnt")) (hcs : ∀ ci ∈ cs, ∃ r : vw_C, vwCl[ci]? = some r ∧ (r.1 = E ∨ Cond.castable r.1 E ∈ jq_N)) {a v : Nat} {i : Int32} {K : jq_H → Option ρ} (he : (jq_stR t cs h a i v).bind K = some res) (hdg : decode cc pc = .ok (.aastore, 1))
    (kk : ∀ h1 H1 locs1, K h1 = some res → jq_X bs D ct s.heap h1 H1 locs1 → W p l e R s m args below meth c H1 locs1 cells slots Q (F0 m (pc + 1) ls rest)) : W p l e R s m args below meth c H locs cells slots Q (F0 m pc ls (.ref v :: .int i :: .ref a :: rest)) := by
  obtain ⟨hx, hb, -, -, -, hK, hN, -⟩ := C
  obtain ⟨h1, e1, e2⟩ := jq_b he
  unfold jq_stR at e1
  split at e1
  · rename_i t' n f o ho hv
    split at e1
    · rename_i hm
      obtain ⟨rfl, hin, hmem⟩ := hm
      cases e1
      have hlt : i.toNatClampNeg < n := Nat.not_le.mp fun q => hin (Or.inr q)
      have h0 : ¬ i < 0 := fun q => hin (Or.inl q)
      obtain ⟨hbs, hcell⟩ := X.1.2 a _ ho
      obtain ⟨-, r', hr', cellV, g1, g2, g3, -⟩ := X.1.2 v _ hv
      obtain ⟨r, hr, hca⟩ := hcs _ hmem
      have hcls := (hK.1 o.1 r hr).2
      obtain ⟨kA, comp, k1, k2, k3, -⟩ := (hK.2 t' _ (jq_tyR hE)).2
      obtain ⟨kE, hkE, -⟩ := Vm.findClass_spec k3
      obtain ⟨kC, hkC, -⟩ := id hcls.2
      have hasg : s.vm.assignable (D.1 o.1) comp = true := by
        rcases hca with hca | hca
        · have : comp = D.1 o.1 := Option.some.inj (k3.symm.trans (by rw [← hca]; exact hcls.1))
          rw [this]
          exact va_assign hcls
        · obtain ⟨c0, t1, f1, f2, f3⟩ := Cond.castable_spec (va_Nw.use (A := args) rfl (hN _ hca))
          cases hcls.1.symm.trans f1
          cases k3.symm.trans f2
          exact f3
      refine W.aast hx hb hcell (fun q h => by cases h) (fun h => by cases h) k1 k2 rfl hkE ⟨h0, by show _ < (arrV _ _ _).slots.size; rw [arrV_size]; exact hlt⟩ g1 (fun q h => by rw [g3] at h; cases h) (by rw [g2]; exact hkC) (by rw [g2]; exact hasg) rfl rfl hdg fun H1 g4 z oq => ?_
      refine kk _ H1 _ e2 ⟨X.1.set ho ?_ z oq, X.2.put z oq hbs⟩
      show H1[a]? = some (vp_cell _ _)
      rw [g4]
      rw [vp_cell_q, vp_cell_q, arrV_store]
      congr 2
      funext q
      by_cases hq : q = i.toNatClampNeg
      · subst hq
        simp [updV, va_up, va_rf]
      · simp [updV, va_up, hq]
    · cases e1
  · cases e1
theorem jq_rlen (C : jq_C p s m args c cc nL own D ct bs) (X : jq_X bs D ct s.heap h H locs) {a : Nat} {K : Int32 → Option ρ} (he : (jq_len h a).bind K = some res) (hdg : decode cc pc = .ok (.arraylength, 1))
    (kk : ∀ x, K x = some res → W p l e R s m args below meth c H locs cells slots Q (F0 m (pc + 1) ls (.int x :: rest))) : W p l e R s m args below meth c H locs cells slots Q (F0 m pc ls (.ref a :: rest)) := by
  obtain ⟨hx, hb, -, -, -, hK, -, -⟩ := C
  obtain ⟨x, h1, h2⟩ := jq_b he
  unfold jq_len at h1
  split at h1
  · rename_i y ho
    split at h1
    · rename_i hm
      cases h1
      have hq : ∃ ty, (jq_tys ct)[y.1]? = some (ct y.1, ty) := by
        rcases (show y.1 = 0 ∨ y.1 = 1 ∨ y.1 = 2 ∨ y.1 = 3 by omega) with q | q | q | q <;> rw [q] <;> exact ⟨_, rfl⟩
      obtain ⟨ty, hty⟩ := hq
      exact va_alen hx hb hK (jq_one (X.1.2 a _ ho).2) 0 y.1 rfl hty rfl hdg (kk _ h2)
    · cases h1
  · cases h1
theorem jq_rnewI (C : jq_C p s m args c cc nL own D ct bs) (X : jq_X bs D ct s.heap h H locs) {t B : Nat} {aty : ArrayType} {n : Int32} (hty : (t = 0 ∧ newarray.typeOf aty = .int) ∨ (t = 1 ∧ newarray.typeOf aty = .boolean)) (harr : Cond.arrayClass (newarray.typeOf aty) ∈ jq_G) (hB : B ≤ 100000000) {K : Nat × jq_H → Option ρ} (he : (jq_newI t B h n).bind K = some res) (hcells : cells + 1 ≤ R.cells) (hslots : slots + B ≤ R.slots) (hdg : decode cc pc = .ok (.newarray aty, 2))
    (kk : ∀ z H1, K z = some res → jq_X bs D ct s.heap z.2 H1 locs → W p l e R s m args below meth c H1 locs (cells + 1) (slots + B) Q (F0 m (pc + 2) ls (.ref z.1 :: rest))) : W p l e R s m args below meth c H locs cells slots Q (F0 m pc ls (.int n :: rest)) := by
  obtain ⟨hx, hb, -, -, hts, hK, -, hbs0⟩ := C
  obtain ⟨z, e1, e2⟩ := jq_b he
  unfold jq_newI at e1
  split at e1
  · cases e1
  · rename_i hn
    have hn0 : ¬ n < 0 := fun q => hn (Or.inl q)
    have hnB : n.toNatClampNeg ≤ B := Nat.not_lt.mp fun q => hn (Or.inr q)
    cases e1
    have hbs : bs ≤ h.1 := by rw [← X.1.1]; exact Nat.le_trans hbs0 X.2.1
    have hcb : componentBytes (newarray.typeOf aty) ≤ 4 := by
      rcases hty with ⟨-, q⟩ | ⟨-, q⟩ <;> rw [q] <;> decide
    refine va_newaK hx hb (hts _ harr) rfl hdg rfl hn0 rfl (Nat.le_trans (Nat.mul_le_mul (Nat.le_trans hnB hB) hcb) (by decide)) hcells (by omega) X.1.1 fun H1 cA g1 z1 o1 hAr hNm => ?_
    refine W.widen (k := cells + 1) (n := slots + B) (Nat.le_refl _) (by omega) ?_
    refine kk _ H1 e2 ⟨X.1.push hbs ?_ z1 o1, Nat.le_trans X.2.1 (by rw [z1, ← X.1.1]; omega), fun q q1 q2 => (o1 q (by rw [← X.1.1]; exact Nat.lt_of_lt_of_le q1 X.2.1)).trans (X.2.2.1 q q1 q2), X.2.2.2⟩
    show H1[h.1]? = some (vp_cell _ _)
    rw [g1, vp_cell_i]
    have hcA : cA = ct t := by
      rcases hty with ⟨rfl, q⟩ | ⟨rfl, q⟩
      · have h5 := (hK.2 0 _ rfl).2
        rw [q] at hNm
        exact Option.some.inj (hNm.symm.trans h5)
      · have h5 := (hK.2 1 _ rfl).2
        rw [q] at hNm
        exact Option.some.inj (hNm.symm.trans h5)
    rw [hcA]
    rcases hty with ⟨-, q⟩ | ⟨-, q⟩ <;> rw [q] <;> rfl
theorem jq_rnewR (C : jq_C p s m args c cc nL own D ct bs) (X : jq_X bs D ct s.heap h H locs) {t B idx : Nat} {E : String} {n : Int32} (hE : (t = 2 ∧ E = "WayGuesses$Guesser") ∨ (t = 3 ∧ E = "WayGuesses$Learnt")) (hcl : Cond.classLink own idx E ∈ jq_G) (hov : Cond.arrayOver (.object E) ∈ jq_N) (hB : B ≤ 100000000) {K : Nat × jq_H → Option ρ} (he : (jq_newR t B h n).bind K = some res) (hcells : cells + 1 ≤ R.cells) (hslots : slots + B ≤ R.slots) (hdg : decode cc pc = .ok (.anewarray idx, 3))
    (kk : ∀ z H1, K z = some res → jq_X bs D ct s.heap z.2 H1 locs → W p l e R s m args below meth c H1 locs (cells + 1) (slots + B) Q (F0 m (pc + 3) ls (.ref z.1 :: rest))) : W p l e R s m args below meth c H locs cells slots Q (F0 m pc ls (.int n :: rest)) := by
  obtain ⟨hx, hb, -, hown, hts, hK, hN, hbs0⟩ := C
  obtain ⟨z, e1, e2⟩ := jq_b he
  unfold jq_newR at e1
  split at e1
  · cases e1
  · rename_i hn
    have hn0 : ¬ n < 0 := fun q => hn (Or.inl q)
    have hnB : n.toNatClampNeg ≤ B := Nat.not_lt.mp fun q => hn (Or.inr q)
    cases e1
    have hbs : bs ≤ h.1 := by rw [← X.1.1]; exact Nat.le_trans hbs0 X.2.1
    refine W.anew hx hb hown (hts _ hcl) (va_AO.use (hN _ hov)) rfl hdg rfl hn0 (by omega) hcells (by omega) fun cA kA comp f1 f2 f3 f4 => ?_
    refine W.widen (k := cells + 1) (n := slots + B) (Nat.le_refl _) (by omega) ?_
    generalize hH1 : H.push ({ cls := cA, slots := Array.replicate n.toNatClampNeg .null, vm := .none } : Cell) = H1
    have z1 : H1.size = H.size + 1 := by rw [← hH1, Array.size_push]
    have g1 : H1[H.size]? = some (arrV cA n.toNatClampNeg (fun _ => .null)) := by rw [← hH1, Array.getElem?_push_size, ← arrV_new]
    have o1 : ∀ q : Nat, q < H.size → H1[q]? = H[q]? := fun q hq => by rw [← hH1, Array.getElem?_push, if_neg (Nat.ne_of_lt hq)]
    have hcA : cA = ct t := by
      obtain ⟨_, _, -, -, -, h5⟩ := (hK.2 t _ (jq_tyR hE)).2
      exact Option.some.inj (f1.symm.trans h5)
    rw [X.1.1] at z1 g1 o1 ⊢
    refine kk (h.1, _) H1 e2 ⟨X.1.push hbs ?_ z1 o1, Nat.le_trans X.2.1 (by rw [z1, ← X.1.1]; omega), fun q q1 q2 => (o1 q (by rw [← X.1.1]; exact Nat.lt_of_lt_of_le q1 X.2.1)).trans (X.2.2.1 q q1 q2), X.2.2.2⟩
    show H1[h.1]? = some (vp_cell _ _)
    rw [g1, vp_cell_q, hcA]
    rfl
theorem jq_rnewO (C : jq_C p s m args c cc nL own D ct bs) (X : jq_X bs D ct s.heap h H locs) {ci idx : Nat} {E : String} {T : u_T} {N : Nat} {ty : Nat → FieldType} (F : jq_CF ci E T N ty) (hcl : Cond.classLink own idx E ∈ jq_G) (hinst : Cond.instantiable E N ∈ jq_G) (hini : Cond.initialized E ∈ jq_G) {fs : List Value} (hfs : ∀ j, j < N → defaultValue (ty j) = vp_V fs j) {K : Nat × jq_H → Option ρ} (he : jq_l (jq_newO ci fs h) K = some res) (hcells : cells + 1 ≤ R.cells) (hslots : slots + N ≤ R.slots) (hdg : decode cc pc = .ok (.new idx, 3))
    (kk : ∀ z H1, K z = some res → jq_X bs D ct s.heap z.2 H1 locs → W p l e R s m args below meth c H1 locs (cells + 1) (slots + N) Q (F0 m (pc + 3) ls (.ref z.1 :: rest))) : W p l e R s m args below meth c H locs cells slots Q (F0 m pc ls rest) := by
  obtain ⟨hx, hb, -, hown, hts, hK, hN, hbs0⟩ := C
  obtain ⟨hc, hin, hty, hnm⟩ := F
  have hKn := hK.1 ci _ hc
  have hbs : bs ≤ h.1 := by rw [← X.1.1]; exact Nat.le_trans hbs0 X.2.1
  refine W.newcK hx hb hown (hts _ hcl) (hts _ hinst) (hts _ hini) rfl hdg hcells hslots hKn.2.1 X.1.1 fun H1 kC hkC g1 z1 o1 => ?_
  refine kk (h.1, (h.1 + 1, va_up h.2 h.1 (some (.inr (ci, fs))))) H1 he ⟨X.1.push hbs ?_ z1 o1, Nat.le_trans X.2.1 (by rw [z1, ← X.1.1]; omega), fun q q1 q2 => (o1 q (by rw [← X.1.1]; exact Nat.lt_of_lt_of_le q1 X.2.1)).trans (X.2.2.1 q q1 q2), X.2.2.2⟩
  exact ⟨_, hc, (u_born ty hts hin hKn hkC g1 hty).to hfs⟩
theorem jq_rcpy (C : jq_C p s m args c cc nL own D ct bs) (X : jq_X bs D ct s.heap h H locs) {idx : Nat} (hsz : ls.size = nL) (hlink : Cond.methodLink own idx arraycopyName ∈ jq_G) (hnat : Cond.native arraycopyName ∈ jq_G) (hstat : Cond.static arraycopyName ∈ jq_G) (hini : Cond.initialized "java/lang/System" ∈ jq_G) {a0 a1 : Nat} {sp dp n : Int32} {K : jq_H → Option ρ} (he : (jq_cpy h a0 sp a1 dp n).bind K = some res)
    (hframes : 1 ≤ R.frames) (hlocals : (rest.map fun v => v.category).sum + (nativeFrameWords "java/lang/System" "arraycopy" 5 + 11) ≤ R.locals) (hdg : decode cc pc = .ok (.invokestatic idx, 3))
    (kk : ∀ h1 H1 locs1, K h1 = some res → jq_X bs D ct s.heap h1 H1 locs1 → W p l e R s m args below meth c H1 locs1 cells slots Q (F0 m (pc + 3) ls rest)) : W p l e R s m args below meth c H locs cells slots Q (F0 m pc ls (.int n :: .int dp :: .ref a1 :: .int sp :: .ref a0 :: rest)) := by
  obtain ⟨hx, hb, hml, hown, hts, hK, hN, -⟩ := C
  obtain ⟨h1, e1, e2⟩ := jq_b he
  unfold jq_cpy at e1
  split at e1
  · rename_i t0 n0 f t1 n1 g ha0 ha1
    split at e1
    · rename_i hm
      obtain ⟨rfl, rfl, c1, c2, c3, c4, c5⟩ := hm
      cases e1
      have hc0 : H[a0]? = some (vp_cell (ct 0) (n0, .inl f)) := (X.1.2 a0 _ ha0).2
      obtain ⟨hbs, hc1'⟩ := X.1.2 a1 _ ha1
      have hc1 : H[a1]? = some (vp_cell (ct 0) (n1, .inl g)) := hc1'
      have nn : ∀ z : Int32, ¬ z < 0 → z.toInt = (z.toNatClampNeg : Int) := by
        intro z hz
        have hz0 : (0 : Int) ≤ z.toInt := by
          have := Int32.not_lt.mp hz
          simpa using Int32.le_iff_toInt_le.mp this
        show z.toInt = ((z.toInt.toNat : Nat) : Int)
        omega
      intro T hT Xs
      obtain ⟨-, k0, hk0, cm0, hkk0⟩ := (hK.2 0 _ rfl).1 n0 (fun j => .int (f j))
      obtain ⟨-, k1, hk1, cm1, hkk1⟩ := (hK.2 0 _ rfl).1 n1 (fun j => .int (g j))
      obtain ⟨vm', X', step⟩ := Xs.arraycopy hx hown (hts _ hlink) (hts _ hnat) (hts _ hstat) (hts _ hini) (src := a0) (dst := a1) (cs := vp_cell (ct 0) (n0, .inl f)) (cd := vp_cell (ct 0) (n1, .inl g)) (srcPos := sp) (destPos := dp) (n := n) (by rw [hT]; exact hc0) (by rw [hT]; exact hc1)
        (fun _ h => by cases h) (fun _ h => by cases h) (fun h => by cases h) (fun h => by cases h) hk0 hk1 hkk0 hkk1 (by simp [show refKind FieldType.int = false from rfl]) c1 c2 c3
        (by rw [nn sp c1, nn n c3]; show ¬ _ > ((arrV (ct 0) n0 (fun j => .int (f j))).slots.size : Int); rw [arrV_size]; omega)
        (by rw [nn dp c2, nn n c3]; show ¬ _ > ((arrV (ct 0) n1 (fun j => .int (g j))).slots.size : Int); rw [arrV_size]; omega)
        (fun vm₁ _ i hi => by
          have e : (vp_cell (ct 0) (n0, .inl f)).slots.getD (sp.toNatClampNeg + i) .null = .int (f (sp.toNatClampNeg + i)) := by
            show (arrV (ct 0) n0 (fun j => .int (f j))).slots.getD _ _ = _
            rw [Array.getD_eq_getD_getElem?, arrV_read _ _ (by omega)]
            rfl
          refine ⟨?_, ?_⟩
          · rw [e]
            rfl
          · rw [e]
            exact trivial)
        (g := F0 m pc ls (.int n :: .int dp :: .ref a1 :: .int sp :: .ref a0 :: rest)) rfl (by rw [hml]; exact hsz) (rest := rest) rfl (by rw [hb]; exact hdg) hframes (by show 2 * 0 + _ + _ ≤ _; omega)
      have e1 : copied (vp_cell (ct 0) (n0, .inl f)) (vp_cell (ct 0) (n1, .inl g)) sp dp n = vp_cell (ct 0) (n1, .inl (va_cpy f g sp.toNatClampNeg dp.toNatClampNeg n.toNatClampNeg)) := va_copied (fun z => .int z) (ct 0) (ct 0) f g c4
      rw [e1] at X' step
      have hl : a1 < H.size := (Array.getElem?_eq_some_iff.mp hc1).1
      have hheap : ((T.setVm vm').setCell a1 (vp_cell (ct 0) (n1, .inl (va_cpy f g sp.toNatClampNeg dp.toNatClampNeg n.toNatClampNeg)))).heap = H.setIfInBounds a1 (vp_cell (ct 0) (n1, .inl (va_cpy f g sp.toNatClampNeg dp.toNatClampNeg n.toNatClampNeg))) := by rw [← hT]; rfl
      have oq : ∀ q : Nat, q ≠ a1 → (H.setIfInBounds a1 (vp_cell (ct 0) (n1, .inl (va_cpy f g sp.toNatClampNeg dp.toNatClampNeg n.toNatClampNeg))))[q]? = H[q]? := fun q hq => by simp [Array.getElem?_setIfInBounds, Ne.symm hq]
      obtain ⟨t, b1, b2⟩ := kk _ _ _ e2 ⟨X.1.set ha1 (show (H.setIfInBounds a1 _)[a1]? = some _ by simp [Array.getElem?_setIfInBounds, hl]) (by simp) oq, by simp; exact X.2.1, fun q g1 g2 => by
          rw [oq q (fun e => g2 (by rw [e]; exact hbs))]
          exact X.2.2.1 q g1 g2, fun q hq => by
          rcases List.mem_append.mp hq with h | h
          · exact X.2.2.2 q h
          · obtain ⟨z, -, hz⟩ := List.mem_map.mp h
            rw [← hz]
            exact hbs⟩ _ hheap X'
      exact ⟨t, step t b1, b2⟩
    · cases e1
  · cases e1
end JR
