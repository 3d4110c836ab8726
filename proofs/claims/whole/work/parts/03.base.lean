/-! the abstract heap: its size, and what each address from the law's start on holds; array types by number (0 int, 1 boolean, 2 Guesser, 3 Learnt), classes by their place in vwCl -/
abbrev jq_E : Type := (Nat × vp_A) ⊕ (Nat × List Value)
abbrev jq_H : Type := Nat × (Nat → Option jq_E)
def jq_to (ct : Nat → ClassId) (x : jq_E) : va_E := match x with
  | .inl t => .inl (ct t.1, t.2)
  | .inr o => .inr o
def jq_tys (ct : Nat → ClassId) : List (ClassId × FieldType) := [(ct 0, .int), (ct 1, .boolean), (ct 2, .object "WayGuesses$Guesser"), (ct 3, .object "WayGuesses$Learnt")]
def jq_W (bs : Nat) (D : va_G) (ct : Nat → ClassId) (h : jq_H) (H : Heap) : Prop := H.size = h.1 ∧ ∀ (a : Nat) (x : jq_E), h.2 a = some x → bs ≤ a ∧ va_at D vwCl (a, jq_to ct x) H
def jq_X (bs : Nat) (D : va_G) (ct : Nat → ClassId) (H0 : Heap) (h : jq_H) (H : Heap) (locs : List Loc) : Prop := jq_W bs D ct h H ∧ va_S (fun q => bs ≤ q) H0 H locs
/-! words: those that every state keeps, and those of nest mates and their like -/
def jq_nk (w : Cond) : Bool := match w with
  | .fieldLinkNest _ _ _ _ _ _ => true
  | .methodLinkNest _ _ _ _ => true
  | .declares _ => true
  | .castable _ _ => true
  | .arrayOver (.object _) => true
  | _ => false
def jq_N : List Cond := tables_1.filter jq_nk
def jq_G : List Cond := lw_tbl.filter goodWord
theorem jq_inG {w : Cond} (k : Nat) (h : tables_1[k]? = some w) (hg : goodWord w = true) : w ∈ jq_G := List.mem_filter.mpr ⟨List.mem_append_right _ (List.mem_of_getElem? h), hg⟩
theorem jq_inS {w : Cond} (k : Nat) (h : (k2_sels lw_privs)[k]? = some w) (hg : goodWord w = true) : w ∈ jq_G := List.mem_filter.mpr ⟨List.mem_append_left _ (List.mem_of_getElem? h), hg⟩
theorem jq_inN {w : Cond} (k : Nat) (h : tables_1[k]? = some w) (hg : jq_nk w = true) : w ∈ jq_N := List.mem_filter.mpr ⟨List.mem_of_getElem? h, hg⟩
theorem jq_goodG (w : Cond) (h : w ∈ jq_G) : (w.onTables && w.keeps) = true ∨ ∃ ty, w = .arrayClass ty := good_of_word (List.mem_filter.mp h).2
theorem jq_goodIn {a : Cond} {ws : List Cond} (h : ∀ w ∈ ws, w ∈ jq_G) : GoodIn (a :: jq_G) ws := fun w hw => ⟨List.mem_cons_of_mem _ (h w hw), jq_goodG w (h w hw)⟩
theorem jq_goodIn0 {ws : List Cond} (h : ∀ w ∈ ws, w ∈ jq_G) : GoodIn jq_G ws := fun w hw => ⟨h w hw, jq_goodG w (h w hw)⟩
theorem jq_Nwarm {s U : State} (hW : s.WarmedH U.vm) (h : ∀ w ∈ jq_N, va_Nw w s) : ∀ w ∈ jq_N, va_Nw w U := by
  intro w hw
  have h1 := h w hw
  have h2 := (List.mem_filter.mp hw).2
  unfold jq_nk at h2
  split at h2
  · exact va_Nw.warmF hW h1
  · exact va_Nw.warmM hW h1
  · exact va_Nw.warmD hW h1
  · exact va_Nw.warmC hW h1
  · exact va_AO.moved hW.alike h1
  · cases h2
theorem jq_Nsame {s U : State} (hv : s.vm = U.vm) (h : ∀ w ∈ jq_N, va_Nw w s) : ∀ w ∈ jq_N, va_Nw w U := by
  intro w hw
  have h1 := h w hw
  have h2 := (List.mem_filter.mp hw).2
  unfold jq_nk at h2
  split at h2
  · exact va_Nw.same rfl hv h1
  · exact va_Nw.same rfl hv h1
  · exact va_Nw.same rfl hv h1
  · exact va_Nw.same rfl hv h1
  · exact va_AO.moved (by rw [hv]; exact Vm.Alike.refl U.vm) h1
  · cases h2
/-- what a method's walk stands on -/
def jq_C (p : Program) (s : State) (m : MethodId) (args : Array Value) (c : Code) (cc : ByteArray) (nL : Nat) (own : String) (D : va_G) (ct : Nat → ClassId) (bs : Nat) : Prop :=
  p.tables.exec = Jvm.exec ∧ c.code = cc ∧ c.maxLocals = nL ∧ s.vm.findClass own = some m.cls ∧ (∀ w ∈ jq_G, w.before args s = true) ∧ va_K D vwCl (jq_tys ct) s ∧ (∀ w ∈ jq_N, va_Nw w s) ∧ bs ≤ s.heap.size
theorem jq_one {D : va_G} {cl : List vw_C} {q : Nat × va_E} {H : Heap} (h : va_at D cl q H) : va_P D cl [q] H := by
  intro k x hx
  match k, hx with
  | 0, hx => cases hx; exact h
  | k + 1, hx => simp at hx
theorem jq_W.lt {bs : Nat} {D : va_G} {ct : Nat → ClassId} {h : jq_H} {H : Heap} (w : jq_W bs D ct h H) {a : Nat} {x : jq_E} (hh : h.2 a = some x) : a < h.1 := by
  have h1 := (w.2 a x hh).2.lt
  rw [w.1] at h1
  exact h1
theorem jq_W.set {bs : Nat} {D : va_G} {ct : Nat → ClassId} {h : jq_H} {H H1 : Heap} (w : jq_W bs D ct h H) {a : Nat} {x0 x : jq_E} (hh : h.2 a = some x0) (he : va_at D vwCl (a, jq_to ct x) H1) (z : H1.size = H.size) (oq : ∀ q : Nat, q ≠ a → H1[q]? = H[q]?) : jq_W bs D ct (h.1, va_up h.2 a (some x)) H1 := by
  refine ⟨by rw [z]; exact w.1, fun b y hy => ?_⟩
  by_cases hb : b = a
  · subst hb
    simp only [va_up, if_true] at hy
    cases hy
    exact ⟨(w.2 b _ hh).1, he⟩
  · simp only [va_up, if_neg hb] at hy
    exact ⟨(w.2 b y hy).1, (w.2 b y hy).2.kept (oq b hb)⟩
theorem jq_W.push {bs : Nat} {D : va_G} {ct : Nat → ClassId} {h : jq_H} {H H1 : Heap} (w : jq_W bs D ct h H) {x : jq_E} (hbs : bs ≤ h.1) (he : va_at D vwCl (h.1, jq_to ct x) H1) (z : H1.size = h.1 + 1) (o : ∀ q : Nat, q < h.1 → H1[q]? = H[q]?) : jq_W bs D ct (h.1 + 1, va_up h.2 h.1 (some x)) H1 := by
  refine ⟨z, fun b y hy => ?_⟩
  by_cases hb : b = h.1
  · subst hb
    simp only [va_up, if_true] at hy
    cases hy
    exact ⟨hbs, he⟩
  · simp only [va_up, if_neg hb] at hy
    exact ⟨(w.2 b y hy).1, (w.2 b y hy).2.kept (o b (w.lt hy))⟩
theorem jq_b {α β : Type} {o : Option α} {K : α → Option β} {r : β} (h : o.bind K = some r) : ∃ x, o = some x ∧ K x = some r := by
  cases o with
  | none => cases h
  | some x => exact ⟨x, rfl, h⟩
theorem jq_t {β : Type} {c : Prop} {i : Decidable c} {x y r : β} (hc : c) (h : (@ite _ c i x y) = r) : x = r := by rw [if_pos hc] at h; exact h
theorem jq_n {β : Type} {c : Prop} {i : Decidable c} {x y r : β} (hc : ¬ c) (h : (@ite _ c i x y) = r) : y = r := by rw [if_neg hc] at h; exact h
/-! ===== what the heap's operations are ===== -/
def jq_f (cs : List Nat) (k : Nat) (h : jq_H) (a : Nat) : Option Value := match h.2 a with
  | some (.inr o) => if o.1 ∈ cs then o.2[k]? else none
  | _ => none
def jq_gI (cs : List Nat) (k : Nat) (h : jq_H) (a : Nat) : Option Int32 := match jq_f cs k h a with
  | some (.int x) => some x
  | _ => none
def jq_gR (cs : List Nat) (k : Nat) (h : jq_H) (a : Nat) : Option Nat := match jq_f cs k h a with
  | some (.ref x) => some x
  | _ => none
def jq_p (cs : List Nat) (k : Nat) (h : jq_H) (a : Nat) (v : Value) : Option jq_H := match h.2 a with
  | some (.inr o) => if o.1 ∈ cs ∧ k < o.2.length then some (h.1, va_up h.2 a (some (.inr (o.1, o.2.set k v)))) else none
  | _ => none
def jq_ldI (t : Nat) (h : jq_H) (a : Nat) (i : Int32) : Option Int32 := match h.2 a with
  | some (.inl (t', n, .inl f)) => if t' = t ∧ ¬ (i < 0 ∨ n ≤ i.toNatClampNeg) then some (f i.toNatClampNeg) else none
  | _ => none
def jq_stI (h : jq_H) (a : Nat) (i : Int32) (x : Int32) : Option jq_H := match h.2 a with
  | some (.inl (t', n, .inl f)) => if t' = 0 ∧ ¬ (i < 0 ∨ n ≤ i.toNatClampNeg) then some (h.1, va_up h.2 a (some (.inl (0, n, .inl (upd f i.toNatClampNeg x))))) else none
  | _ => none
def jq_stZ (h : jq_H) (a : Nat) (i : Int32) (x : Int32) : Option jq_H := match h.2 a with
  | some (.inl (t', n, .inl f)) => if t' = 1 ∧ ¬ (i < 0 ∨ n ≤ i.toNatClampNeg) ∧ (x = 0 ∨ x = 1) then some (h.1, va_up h.2 a (some (.inl (1, n, .inl (upd f i.toNatClampNeg x))))) else none
  | _ => none
def jq_ldR (t : Nat) (h : jq_H) (a : Nat) (i : Int32) : Option (Option Nat) := match h.2 a with
  | some (.inl (t', n, .inr (.inr (.inr (.inr f))))) => if t' = t ∧ ¬ (i < 0 ∨ n ≤ i.toNatClampNeg) then some (f i.toNatClampNeg) else none
  | _ => none
def jq_ldN (t : Nat) (h : jq_H) (a : Nat) (i : Int32) : Option Nat := match jq_ldR t h a i with
  | some (some q) => some q
  | _ => none
def jq_stR (t : Nat) (cs : List Nat) (h : jq_H) (a : Nat) (i : Int32) (v : Nat) : Option jq_H := match h.2 a, h.2 v with
  | some (.inl (t', n, .inr (.inr (.inr (.inr f))))), some (.inr o) => if t' = t ∧ ¬ (i < 0 ∨ n ≤ i.toNatClampNeg) ∧ o.1 ∈ cs then some (h.1, va_up h.2 a (some (.inl (t, n, .inr (.inr (.inr (.inr (va_up f i.toNatClampNeg (some v))))))))) else none
  | _, _ => none
def jq_len (h : jq_H) (a : Nat) : Option Int32 := match h.2 a with
  | some (.inl x) => if x.1 < 4 then some (Int32.ofNat x.2.1) else none
  | _ => none
def jq_newI (t B : Nat) (h : jq_H) (n : Int32) : Option (Nat × jq_H) := if n < 0 ∨ B < n.toNatClampNeg then none else some (h.1, (h.1 + 1, va_up h.2 h.1 (some (.inl (t, n.toNatClampNeg, .inl (fun _ => 0))))))
def jq_newR (t B : Nat) (h : jq_H) (n : Int32) : Option (Nat × jq_H) := if n < 0 ∨ B < n.toNatClampNeg then none else some (h.1, (h.1 + 1, va_up h.2 h.1 (some (.inl (t, n.toNatClampNeg, .inr (.inr (.inr (.inr (fun _ => none)))))))))
def jq_newO (ci : Nat) (fs : List Value) (h : jq_H) : Nat × jq_H := (h.1, (h.1 + 1, va_up h.2 h.1 (some (.inr (ci, fs)))))
def jq_cpy (h : jq_H) (a0 : Nat) (sp : Int32) (a1 : Nat) (dp : Int32) (n : Int32) : Option jq_H := match h.2 a0, h.2 a1 with
  | some (.inl (t0, n0, .inl f)), some (.inl (t1, n1, .inl g)) => if t0 = 0 ∧ t1 = 0 ∧ ¬ sp < 0 ∧ ¬ dp < 0 ∧ ¬ n < 0 ∧ sp.toNatClampNeg + n.toNatClampNeg ≤ n0 ∧ dp.toNatClampNeg + n.toNatClampNeg ≤ n1 then some (h.1, va_up h.2 a1 (some (.inl (0, n1, .inl (va_cpy f g sp.toNatClampNeg dp.toNatClampNeg n.toNatClampNeg))))) else none
  | _, _ => none
/-- a name for a number -/
def jq_l {α β : Type} (x : α) (K : α → β) : β := K x
/-- which class an object is of -/
def jq_ci (h : jq_H) (a : Nat) : Nat := match h.2 a with
  | some (.inr o) => o.1
  | _ => 1000
/-! ===== field sites ===== -/
def jq_CF (ci : Nat) (C : String) (T : u_T) (N : Nat) (ty : Nat → FieldType) : Prop := vwCl[ci]? = some (C, T, N) ∧ (∀ w ∈ u_ws C T N, w ∈ jq_G) ∧ (∀ k, k < N → parseFieldDescriptor (T k).2.2.1 = some (ty k)) ∧ (∀ a, a < N → ∀ b, b < N → a ≠ b → (T a).2.1 ≠ (T b).2.1)
def jq_FS (own : String) (idx : Nat) (cs : List Nat) (k : Nat) (dcl ds : String) (fin : Bool) : Prop := ∃ (ref nm : String), (Cond.fieldLink own idx ref nm ds ∈ jq_G ∨ ∃ host, Cond.fieldLinkNest own idx ref nm ds host ∈ jq_N) ∧ (ref = dcl ∨ Cond.sameField ref dcl nm ds ∈ jq_G) ∧
  ∀ ci ∈ cs, ∃ (C : String) (T : u_T) (N : Nat) (ty : Nat → FieldType), jq_CF ci C T N ty ∧ k < N ∧ T k = (dcl, nm, ds, fin)
section JQ
variable {p : Program} {l : Launch} {e : Env} {R : Room} {s : State} {m : MethodId} {args : Array Value} {below : List Frame} {meth : Method} {c : Code} {H : Heap} {locs : List Loc} {cells slots : Nat} {Q : State → Prop} {cc : ByteArray} {nL : Nat} {own : String} {D : va_G} {ct : Nat → ClassId} {bs pc : Nat} {ls : Array Slot} {rest : List Value} {h : jq_H} {ρ : Type} {res : ρ}
theorem jq_rf (C : jq_C p s m args c cc nL own D ct bs) (X : jq_X bs D ct s.heap h H locs) {idx : Nat} {cs : List Nat} {k : Nat} {dcl ds : String} {fin : Bool} (F : jq_FS own idx cs k dcl ds fin) {a : Nat} {v : Value} (hf : jq_f cs k h a = some v) (hdg : decode cc pc = .ok (.getfield idx, 3))
    (kk : W p l e R s m args below meth c H locs cells slots Q (F0 m (pc + 3) ls (v :: rest))) : W p l e R s m args below meth c H locs cells slots Q (F0 m pc ls (.ref a :: rest)) := by
  obtain ⟨hx, hb, -, hown, hts, hK, hN, -⟩ := C
  unfold jq_f at hf
  split at hf
  · rename_i o ho
    split at hf
    · rename_i hm
      obtain ⟨ref, nm, hlk, hsm, hci⟩ := F
      obtain ⟨C0, T, N, ty, ⟨hc, hin, -, -⟩, hk, hT⟩ := hci _ hm
      have hat := (X.1.2 a _ ho).2
      have hP := jq_one hat
      have hsame : ∀ x, s.fieldFound? (T k).1 (T k).2.1 (T k).2.2.1 = some x → s.fieldFound? ref (T k).2.1 (T k).2.2.1 = some x := by
        rw [hT]
        rcases hsm with rfl | hsm
        · exact fun _ q => q
        · exact fun x q => u_same (hts _ hsm) x q
      rcases hlk with hlk | ⟨host, hlk⟩
      · exact va_get (D := D) (ci := o.1) (fs := o.2) hx hb hts hin hown hK hP 0 rfl hc k hk (by rw [hT]; exact hts _ hlk) hsame hf hdg kk
      · exact va_getN (D := D) (ci := o.1) (fs := o.2) hx hb hts hin hown hK hP 0 rfl hc k hk (by rw [hT]; exact va_Nw.use rfl (hN _ hlk)) hsame hf hdg kk
    · cases hf
  · cases hf
theorem jq_rgI (C : jq_C p s m args c cc nL own D ct bs) (X : jq_X bs D ct s.heap h H locs) {idx : Nat} {cs : List Nat} {k : Nat} {dcl ds : String} {fin : Bool} (F : jq_FS own idx cs k dcl ds fin) {a : Nat} {K : Int32 → Option ρ} (he : (jq_gI cs k h a).bind K = some res) (hdg : decode cc pc = .ok (.getfield idx, 3))
    (kk : ∀ x, K x = some res → W p l e R s m args below meth c H locs cells slots Q (F0 m (pc + 3) ls (.int x :: rest))) : W p l e R s m args below meth c H locs cells slots Q (F0 m pc ls (.ref a :: rest)) := by
  obtain ⟨x, h1, h2⟩ := jq_b he
  unfold jq_gI at h1
  split at h1
  · rename_i y hy
    cases h1
    exact jq_rf C X F hy hdg (kk _ h2)
  · cases h1
theorem jq_rgR (C : jq_C p s m args c cc nL own D ct bs) (X : jq_X bs D ct s.heap h H locs) {idx : Nat} {cs : List Nat} {k : Nat} {dcl ds : String} {fin : Bool} (F : jq_FS own idx cs k dcl ds fin) {a : Nat} {K : Nat → Option ρ} (he : (jq_gR cs k h a).bind K = some res) (hdg : decode cc pc = .ok (.getfield idx, 3))
    (kk : ∀ x, K x = some res → W p l e R s m args below meth c H locs cells slots Q (F0 m (pc + 3) ls (.ref x :: rest))) : W p l e R s m args below meth c H locs cells slots Q (F0 m pc ls (.ref a :: rest)) := by
  obtain ⟨x, h1, h2⟩ := jq_b he
  unfold jq_gR at h1
  split at h1
  · rename_i y hy
    cases h1
    exact jq_rf C X F hy hdg (kk _ h2)
  · cases h1
theorem jq_rp (C : jq_C p s m args c cc nL own D ct bs) (X : jq_X bs D ct s.heap h H locs) {idx : Nat} {cs : List Nat} {k : Nat} {dcl ds : String} (F : jq_FS own idx cs k dcl ds false) {a : Nat} {v : Value} {ty : FieldType} (hd : parseFieldDescriptor ds = some ty) (hn : narrow ty v = v) (hfit : fits ty v = true) {K : jq_H → Option ρ} (he : (jq_p cs k h a v).bind K = some res) (hdg : decode cc pc = .ok (.putfield idx, 3))
    (kk : ∀ h1 H1 locs1, K h1 = some res → jq_X bs D ct s.heap h1 H1 locs1 → W p l e R s m args below meth c H1 locs1 cells slots Q (F0 m (pc + 3) ls rest)) : W p l e R s m args below meth c H locs cells slots Q (F0 m pc ls (v :: .ref a :: rest)) := by
  obtain ⟨hx, hb, -, hown, hts, hK, hN, -⟩ := C
  obtain ⟨h1, e1, e2⟩ := jq_b he
  unfold jq_p at e1
  split at e1
  · rename_i o ho
    split at e1
    · rename_i hm
      cases e1
      obtain ⟨ref, nm, hlk, hsm, hci⟩ := F
      obtain ⟨C0, T, N, ty0, ⟨hc, hin, hty, hnm⟩, hk, hT⟩ := hci _ hm.1
      obtain ⟨hbs, r, hr0, cell, q1, q2, q3, q4⟩ := X.1.2 a _ ho
      have hap := va_apart (own := own) hts hin ty0 hty hnm hK hc
      have hr : r = (C0, T, N) := Option.some.inj (hr0.symm.trans hc)
      subst hr
      obtain ⟨hS, hfc, kC, hkC, hkind⟩ := hK.1 o.1 _ hc
      obtain ⟨cf, kf, fi, f, hi, hsl⟩ := hS k hk
      have hlay := hts _ (hin _ (u_in_lay hk))
      unfold u_lay at hlay
      rw [if_neg (by rw [hT]; exact Bool.false_ne_true)] at hlay
      have hst := (u_facts hfc hkC (u_lays hts hin hk) hi).1
      have h6 := u_store hfc hkC hkind hlay hi (by rw [hT]; exact hd) hn hfit
      have hsame : ∀ x, s.fieldFound? (T k).1 (T k).2.1 (T k).2.2.1 = some x → s.fieldFound? ref (T k).2.1 (T k).2.2.1 = some x := by
        rw [hT]
        rcases hsm with rfl | hsm
        · exact fun _ q => q
        · exact fun x q => u_same (hts _ hsm) x q
      have fin : ∀ H' : Heap, H'[a]? = some (cell.setSlot f.slot v) → H'.size = H.size → (∀ q, q ≠ a → H'[q]? = H[q]?) → W p l e R s m args below meth c H' (locs ++ [⟨a, f.slot⟩]) cells slots Q (F0 m (pc + 3) ls rest) := by
        intro H' g1 g2 g3
        rw [hsl] at g1 ⊢
        exact kk _ H' _ e2 ⟨X.1.set ho ⟨_, hc, t_OB.to (V := updV (vp_V o.2) k v) ⟨_, g1, q2, q3, t_set q4 hap hk v⟩ (fun j _ => vp_updV_set hm.2 v j)⟩ g2 g3, X.2.put g2 g3 hbs⟩
      rcases hlk with hlk | ⟨host, hlk⟩
      · exact W.putK hx hb (f := f) ⟨hown, hts _ hlk, ⟨_, _, _, by have := hsame _ hi; rw [hT] at this; exact this⟩, hst⟩ (by rw [q2]; exact h6) q1 q3 (by rw [hsl]; exact k2_hasslot (q4 k hk)) rfl rfl hdg fin
      · exact va_WputK hx hb (f := f) hown (va_Nw.use rfl (hN _ hlk)) (by have := hsame _ hi; rw [hT] at this; exact this) hst (by rw [q2]; exact h6) q1 q3 (by rw [hsl]; exact k2_hasslot (q4 k hk)) rfl rfl hdg fin
    · cases e1
  · cases e1
/-- a final field, in a constructor of the class that declares it -/
theorem jq_rpF (C : jq_C p s m args c cc nL own D ct bs) (X : jq_X bs D ct s.heap h H locs) {idx : Nat} {cs : List Nat} {k : Nat} {dcl ds : String} (F : jq_FS own idx cs k dcl ds true) (hin2 : meth.name = "<init>") (hdecl : dcl = own) {a : Nat} {v : Value} {ty : FieldType} (hd : parseFieldDescriptor ds = some ty) (hn : narrow ty v = v) (hfit : fits ty v = true) {K : jq_H → Option ρ} (he : (jq_p cs k h a v).bind K = some res) (hdg : decode cc pc = .ok (.putfield idx, 3))
    (kk : ∀ h1 H1 locs1, K h1 = some res → jq_X bs D ct s.heap h1 H1 locs1 → W p l e R s m args below meth c H1 locs1 cells slots Q (F0 m (pc + 3) ls rest)) : W p l e R s m args below meth c H locs cells slots Q (F0 m pc ls (v :: .ref a :: rest)) := by
  obtain ⟨hx, hb, -, hown, hts, hK, hN, -⟩ := C
  obtain ⟨h1, e1, e2⟩ := jq_b he
  unfold jq_p at e1
  split at e1
  · rename_i o ho
    split at e1
    · rename_i hm
      cases e1
      obtain ⟨ref, nm, hlk, hsm, hci⟩ := F
      obtain ⟨C0, T, N, ty0, ⟨hc, hin, hty, hnm⟩, hk, hT⟩ := hci _ hm.1
      obtain ⟨hbs, r, hr0, cell, q1, q2, q3, q4⟩ := X.1.2 a _ ho
      have hap := va_apart (own := own) hts hin ty0 hty hnm hK hc
      have hr : r = (C0, T, N) := Option.some.inj (hr0.symm.trans hc)
      subst hr
      obtain ⟨hS, hfc, kC, hkC, hkind⟩ := hK.1 o.1 _ hc
      obtain ⟨cf, kf, fi, f, hi, hsl⟩ := hS k hk
      have hlay := hts _ (hin _ (u_in_lay hk))
      unfold u_lay at hlay
      rw [if_pos (by rw [hT])] at hlay
      have hst := (u_facts hfc hkC (u_lays hts hin hk) hi).1
      have hcf : m.cls = cf := by
        obtain ⟨_, _, c', _, _, _, -, -, hf', -, -, -, hown2, -⟩ := Cond.laysFinal_spec hlay
        have e1 : c' = cf := by have := hi.symm.trans hf'; simp at this; exact this.1.symm
        rw [hT, hdecl] at hown2
        rw [← e1]; exact Option.some.inj (hown.symm.trans hown2)
      have h6 := u_fits hfc hkC hkind (Or.inr hlay) hi (by rw [hT]; exact hd) hn hfit
      have hsame : ∀ x, s.fieldFound? (T k).1 (T k).2.1 (T k).2.2.1 = some x → s.fieldFound? ref (T k).2.1 (T k).2.2.1 = some x := by
        rw [hT]
        rcases hsm with rfl | hsm
        · exact fun _ q => q
        · exact fun x q => u_same (hts _ hsm) x q
      have fin : ∀ H' : Heap, H'[a]? = some (cell.setSlot f.slot v) → H'.size = H.size → (∀ q, q ≠ a → H'[q]? = H[q]?) → W p l e R s m args below meth c H' (locs ++ [⟨a, f.slot⟩]) cells slots Q (F0 m (pc + 3) ls rest) := by
        intro H' g1 g2 g3
        rw [hsl] at g1 ⊢
        exact kk _ H' _ e2 ⟨X.1.set ho ⟨_, hc, t_OB.to (V := updV (vp_V o.2) k v) ⟨_, g1, q2, q3, t_set q4 hap hk v⟩ (fun j _ => vp_updV_set hm.2 v j)⟩ g2 g3, X.2.put g2 g3 hbs⟩
      rcases hlk with hlk | ⟨host, hlk⟩
      · exact W.putFinK hx hb hown (hts _ hlk) (by have := hsame _ hi; rw [hT] at this; exact this) hst hcf hin2 (by rw [q2]; exact h6) q1 q3 (by rw [hsl]; exact k2_hasslot (q4 k hk)) rfl rfl hdg fin
      · refine va_Wputf hx hb hown (va_Nw.use rfl (hN _ hlk)) (by have := hsame _ hi; rw [hT] at this; exact this) hst (Or.inr ⟨hcf, hin2⟩) q1 (by rw [q3]; exact fun h => by cases h) (by rw [hsl]; exact k2_hasslot (q4 k hk)) h6.1 (by rw [q3, q2]; exact h6.2) rfl rfl hdg ?_
        have ha : a < H.size := (Array.getElem?_eq_some_iff.mp q1).1
        exact fin _ (by simp [Array.getElem?_setIfInBounds, ha]) (by simp) (fun q hq => by simp [Array.getElem?_setIfInBounds, Ne.symm hq])
    · cases e1
  · cases e1
end JQ
