/-! ===== contracts over the abstract heap ===== -/
def jq_P (av : List Value) (bs : Nat) (D : va_G) (ct : Nat → ClassId) (h : jq_H) : Array Value → State → Prop := fun v U => v = av.toArray ∧ jq_W bs D ct h U.heap ∧ bs ≤ U.heap.size ∧ va_K D vwCl (jq_tys ct) U ∧ ∀ w ∈ jq_N, va_Nw w U
def jq_Qi (bs : Nat) (D : va_G) (ct : Nat → ClassId) (z : Int32 × jq_H) : Array Value → State → Outcome → State → Prop := va_Qi (S := Unit) (fun r _ => r = z.1) (fun _ t => jq_W bs D ct z.2 t.heap) (fun q => bs ≤ q)
def jq_Qv (bs : Nat) (D : va_G) (ct : Nat → ClassId) (z : jq_H) : Array Value → State → Outcome → State → Prop := va_Qv (S := Unit) (fun _ => True) (fun _ t => jq_W bs D ct z t.heap) (fun q => bs ≤ q)
def jq_Qr (bs : Nat) (D : va_G) (ct : Nat → ClassId) (z : Nat × jq_H) : Array Value → State → Outcome → State → Prop := va_Qr (S := Unit) (fun _ => True) (fun _ a t => a = z.1 ∧ jq_W bs D ct z.2 t.heap) (fun q => bs ≤ q)
def jq_M (l : Launch) (y : MethodName) (b : ByteArray) (nL : Nat) (ret : Option FieldType) (rm : Room) (P : Array Value → State → Prop) (Qc : Array Value → State → Outcome → State → Prop) (bs : Nat) : Prop := Met l y (Cond.code y b nL ret :: jq_G) rm P Qc rm.cells rm.slots (fun q => bs ≤ q)
theorem jq_start {l : Launch} {y : MethodName} {b : ByteArray} {nL : Nat} {ret : Option FieldType} {rm : Room} {av : List Value} {bs : Nat} {D : va_G} {ct : Nat → ClassId} {h : jq_H} {Qc : Array Value → State → Outcome → State → Prop} (hy : plainName y.cls = true) (hlen : (lg_sl av).length ≤ nL)
    (body : ∀ (p : Program) (e : Env) (s : State) (m : MethodId) (below : List Frame) (meth : Method) (c : Code) (ls : Array Slot), jq_C p s m av.toArray c b nL y.cls D ct bs → meth.sig.returnType = ret → meth.locks = false → meth.name = y.name → lv_has ls nL (lv_args 0 av) → jq_X bs D ct s.heap h s.heap [] →
      W p l e rm s m av.toArray below meth c s.heap [] 0 0 (MQ below Qc av.toArray s rm.cells rm.slots (fun q => bs ≤ q)) (F0 m 0 ls [])) : jq_M l y b nL ret rm (jq_P av bs D ct h) Qc bs := by
  refine Met.ofW (cc := b) (maxL := nL) (ret := ret) hy rfl ?_
  intro p e s m args below meth c s₁ B hml hv
  obtain ⟨rfl, hW, hbs, hK, hN⟩ := hv
  have hts := atoms_spec (ws := Cond.code y b nL ret :: jq_G) B.pre
  have hl := lv_entry av (n := nL) hlen
  rw [lg_entry_eq]
  generalize (lg_sl av ++ List.replicate (nL - (lg_sl av).length) Slot.unset).toArray = ls at hl ⊢
  exact body p e s m below meth c ls ⟨B.exec, B.bytes, hml, findClass_of_methodNamed B.named, fun w h => hts w (List.mem_cons_of_mem _ h), hK, hN, hbs⟩ B.returns B.notSynchronized (name_of_methodNamed B.named B.method).1 hl ⟨hW, va_S.rf⟩
theorem jq_blind {av : List Value} {bs : Nat} {D : va_G} {ct : Nat → ClassId} {h : jq_H} : FrameBlind (jq_P av bs D ct h) := fun a U g mk q => ⟨q.1, q.2.1, q.2.2.1, va_K.moved (u := U) (U := U.calling g mk a) (Vm.Alike.refl U.vm) q.2.2.2.1, jq_Nsame (s := U) (U := U.calling g mk a) rfl q.2.2.2.2⟩
/-! ===== facts of methods and of call sites ===== -/
def jq_MF (y : MethodName) (b : ByteArray) (nL : Nat) (ret : Option FieldType) (n : Nat) : Prop := Cond.code y b nL ret ∈ jq_G ∧ Cond.initialized y.cls ∈ jq_G ∧ (y.cls ≠ "java/lang/invoke/MethodHandle" ∧ y.cls ≠ "java/lang/invoke/VarHandle" ∧ (parseMethodDescriptor y.desc).map (fun d => d.parameters.length) = some n)
def jq_LK (own : String) (idx : Nat) (y : MethodName) : Prop := Cond.methodLink own idx y ∈ jq_G ∨ ∃ host, Cond.methodLinkNest own idx y host ∈ jq_N
/-- a class by its number, as a receiver's -/
def jq_RC (ci : Nat) (C : String) : Prop := ∃ (T : u_T) (N : Nat), vwCl[ci]? = some (C, T, N)
theorem jq_ite {β : Type} {c : Prop} {i : Decidable c} {x : Option β} {z : β} (h : (@ite _ c i x none) = some z) : c ∧ x = some z := by
  by_cases hc : c
  · rw [if_pos hc] at h; exact ⟨hc, h⟩
  · rw [if_neg hc] at h; cases h
section JC
variable {p : Program} {l : Launch} {e : Env} {R : Room} {s : State} {m : MethodId} {args : Array Value} {below : List Frame} {meth : Method} {c : Code} {H : Heap} {locs : List Loc} {cells slots : Nat} {Q : State → Prop} {cc : ByteArray} {nL : Nat} {own : String} {D : va_G} {ct : Nat → ClassId} {bs pc : Nat} {ls : Array Slot} {rest st : List Value} {h : jq_H}
/-! ===== returns ===== -/
theorem jq_iret (C : jq_C p s m args c cc nL own D ct bs) (X : jq_X bs D ct s.heap h H locs) (hr : meth.sig.returnType = some .int) (hlk : meth.locks = false) {v : Int32} {res : Int32 × jq_H} (he : some (v, h) = some res) {mc ms : Nat} (hc : cells ≤ mc) (hs : slots ≤ ms) (hdg : decode cc pc = .ok (.ireturn, 1)) :
    W p l e R s m args below meth c H locs cells slots (MQ below (jq_Qi bs D ct res) args s mc ms (fun q => bs ≤ q)) (F0 m pc ls [.int v]) := by
  cases he
  refine W.widen hc hs ?_
  exact W.iret C.1 C.2.1 hr (fun t ht hW => ⟨⟨v, (), rfl, rfl, by show jq_W bs D ct h t.heap; rw [ht]; exact X.1⟩, X.2.F ht⟩) X.2.2.2 hdg hlk
/-- a boolean answer: 0 or 1 -/
def jq_z (v : Int32) (h : jq_H) : Option (Int32 × jq_H) := if v = 0 ∨ v = 1 then some (v, h) else none
theorem jq_zret (C : jq_C p s m args c cc nL own D ct bs) (X : jq_X bs D ct s.heap h H locs) (hr : meth.sig.returnType = some .boolean) (hlk : meth.locks = false) {v : Int32} {res : Int32 × jq_H} (he : jq_z v h = some res) {mc ms : Nat} (hc : cells ≤ mc) (hs : slots ≤ ms) (hdg : decode cc pc = .ok (.ireturn, 1)) :
    W p l e R s m args below meth c H locs cells slots (MQ below (jq_Qi bs D ct res) args s mc ms (fun q => bs ≤ q)) (F0 m pc ls [.int v]) := by
  obtain ⟨hv, he⟩ := jq_ite he
  cases he
  refine W.widen hc hs ?_
  exact W.zret C.1 C.2.1 hr (jq_nar hv) (fun t ht hW => ⟨⟨v, (), rfl, rfl, by show jq_W bs D ct h t.heap; rw [ht]; exact X.1⟩, X.2.F ht⟩) X.2.2.2 hdg hlk
theorem jq_vret (C : jq_C p s m args c cc nL own D ct bs) (X : jq_X bs D ct s.heap h H locs) (hr : meth.sig.returnType = none) (hlk : meth.locks = false) {res : jq_H} (he : some h = some res) {mc ms : Nat} (hc : cells ≤ mc) (hs : slots ≤ ms) (hdg : decode cc pc = .ok (.return_, 1)) :
    W p l e R s m args below meth c H locs cells slots (MQ below (jq_Qv bs D ct res) args s mc ms (fun q => bs ≤ q)) (F0 m pc ls []) := by
  cases he
  refine W.widen hc hs ?_
  exact W.vret C.1 C.2.1 hr (fun t ht hW => ⟨⟨(), rfl, trivial, by show jq_W bs D ct h t.heap; rw [ht]; exact X.1⟩, X.2.F ht⟩) X.2.2.2 hdg hlk
theorem jq_aret (C : jq_C p s m args c cc nL own D ct bs) (X : jq_X bs D ct s.heap h H locs) {E : String} (hr : meth.sig.returnType = some (.object E)) (hlk : meth.locks = false) {v : Nat} {res : Nat × jq_H} (he : some (v, h) = some res) {mc ms : Nat} (hc : cells ≤ mc) (hs : slots ≤ ms) (hdg : decode cc pc = .ok (.areturn, 1)) :
    W p l e R s m args below meth c H locs cells slots (MQ below (jq_Qr bs D ct res) args s mc ms (fun q => bs ≤ q)) (F0 m pc ls [.ref v]) := by
  cases he
  refine W.widen hc hs ?_
  exact W.aret C.1 C.2.1 hr (Or.inl ⟨_, rfl⟩) (Or.inr ⟨_, rfl⟩) (fun t ht hW => ⟨⟨(), v, rfl, trivial, rfl, by show jq_W bs D ct h t.heap; rw [ht]; exact X.1⟩, X.2.F ht⟩) X.2.2.2 hdg hlk
/-! ===== behind a call ===== -/
theorem jq_gi {mc ms : Nat} {z : Int32 × jq_H} {a : Array Value} (hr : va_Run p l e R s m args below meth c H locs cells slots mc ms (F0 m pc ls st) rest (jq_Qi bs D ct z a) (fun q => bs ≤ q)) (X : jq_X bs D ct s.heap h H locs)
    (kk : ∀ H1 locs1, jq_X bs D ct s.heap z.2 H1 locs1 → W p l e R s m args below meth c H1 locs1 (cells + mc) (slots + ms) Q (F0 m (pc + 3) ls (.int z.1 :: rest))) : W p l e R s m args below meth c H locs cells slots Q (F0 m pc ls st) :=
  va_calli hr X.2 (fun _ _ q => q) (fun _ q => q) (fun r u t H1 locs1 ht hvm hp hB hz hk hS => by
    have hp' : r = z.1 := hp
    subst hp'
    exact kk H1 locs1 ⟨by rw [← ht]; exact hB, hS⟩)
theorem jq_gv {mc ms : Nat} {z : jq_H} {a : Array Value} (hr : va_Run p l e R s m args below meth c H locs cells slots mc ms (F0 m pc ls st) rest (jq_Qv bs D ct z a) (fun q => bs ≤ q)) (X : jq_X bs D ct s.heap h H locs)
    (kk : ∀ H1 locs1, jq_X bs D ct s.heap z H1 locs1 → W p l e R s m args below meth c H1 locs1 (cells + mc) (slots + ms) Q (F0 m (pc + 3) ls rest)) : W p l e R s m args below meth c H locs cells slots Q (F0 m pc ls st) :=
  va_callv hr X.2 (fun _ _ q => q) (fun _ q => q) (fun u t H1 locs1 ht hvm hp hB hz hk hS => kk H1 locs1 ⟨by rw [← ht]; exact hB, hS⟩)
theorem jq_gr {mc ms : Nat} {z : Nat × jq_H} {a : Array Value} (hr : va_Run p l e R s m args below meth c H locs cells slots mc ms (F0 m pc ls st) rest (jq_Qr bs D ct z a) (fun q => bs ≤ q)) (X : jq_X bs D ct s.heap h H locs)
    (kk : ∀ H1 locs1, jq_X bs D ct s.heap z.2 H1 locs1 → W p l e R s m args below meth c H1 locs1 (cells + mc) (slots + ms) Q (F0 m (pc + 3) ls (.ref z.1 :: rest))) : W p l e R s m args below meth c H locs cells slots Q (F0 m pc ls st) :=
  va_callr hr X.2 (fun _ _ q => q) (fun _ q => q) (fun u a t H1 locs1 ht hvm hp hB hz hk hS => by
    have hB1 : a = z.1 := hB.1
    subst hB1
    exact kk H1 locs1 ⟨by rw [← ht]; exact hB.2, hS⟩)
/-! ===== the runs ===== -/
theorem jq_pre (C : jq_C p s m args c cc nL own D ct bs) (X : jq_X bs D ct s.heap h H locs) (av : List Value) : ∀ U : State, U.heap = H → s.WarmedH U.vm → jq_P av bs D ct h av.toArray U := by
  intro U hU hW
  obtain ⟨-, -, -, -, -, hK, hN, hbs0⟩ := C
  exact ⟨rfl, by rw [hU]; exact X.1, by rw [hU]; exact Nat.le_trans hbs0 X.2.1, va_K.moved hW.alike hK, jq_Nwarm hW hN⟩
theorem jq_recv (C : jq_C p s m args c cc nL own D ct bs) (X : jq_X bs D ct s.heap h H locs) {ci : Nat} {E : String} (hc : jq_RC ci E) {a : Nat} (ha : jq_ci h a = ci) (hne : ci < 1000) : ∃ cell : Cell, H[a]? = some cell ∧ cell.vm.isStatics = false ∧ s.vm.findClass E = some cell.cls := by
  obtain ⟨T, N, hc⟩ := hc
  unfold jq_ci at ha
  split at ha
  · rename_i o ho
    subst ha
    exact va_recv (q0 := 0) (fs := o.2) C.2.2.2.2.2.1 (jq_one (X.1.2 a _ ho).2) hc rfl
  · omega
variable {y : MethodName} {b2 : ByteArray} {maxL n idx : Nat} {ret : Option FieldType} {rm : Room} {Qc : Array Value → State → Outcome → State → Prop} {av : List Value}
theorem jq_runS (C : jq_C p s m args c cc nL own D ct bs) (X : jq_X bs D ct s.heap h H locs) (hM : jq_M l y b2 maxL ret rm (jq_P av bs D ct h) Qc bs) (F : jq_MF y b2 maxL ret n) (hs : Cond.static y ∈ jq_G) (hl : jq_LK own idx y) (hn : av.length = n) (hsz : ls.size = nL) (hst : st = av.reverse ++ rest) (hW : (rest.map fun v => v.category).sum ≤ 8) (hR : rm.frames + 1 ≤ R.frames ∧ 8 + (maxL + 11) + rm.locals ≤ R.locals) (hf : cells + rm.cells ≤ R.cells ∧ slots + rm.slots ≤ R.slots) (hdg : decode cc pc = .ok (.invokestatic idx, 3)) :
    va_Run p l e R s m args below meth c H locs cells slots rm.cells rm.slots (F0 m pc ls st) rest (Qc av.toArray) (fun q => bs ≤ q) := by
  have hp := jq_pre C X av
  obtain ⟨hx, hb, hml, hown, hts, hK, hN, -⟩ := C
  obtain ⟨fc, fi, fd⟩ := F
  have hG : GoodIn jq_G (Cond.code y b2 maxL ret :: jq_G) := jq_goodIn0 (fun w hw => by rcases List.mem_cons.mp hw with rfl | hw; exact fc; exact hw)
  rcases hl with hl | ⟨host, hl⟩
  · exact va_runS ⟨hx, hb, hml, hown, hts⟩ hM ⟨callB_of n hts hG rfl rfl rfl (hts _ fi) (hts _ hl) fd hR, hts _ hs⟩ ⟨jq_blind, hp⟩ rfl hn hsz hst (lv_room hW) hdg hf
  · exact va_runSN ⟨hx, hb, hml, hown, hts⟩ hM ⟨va_cnB n hts hG rfl rfl rfl (hN _ hl) (hts _ fi) fd hR, hts _ hs, trivial⟩ ⟨jq_blind, hp⟩ rfl hn hsz hst (lv_room hW) hdg hf
variable {a : Nat}
theorem jq_runI (C : jq_C p s m args c cc nL own D ct bs) (X : jq_X bs D ct s.heap h H locs) (hM : jq_M l y b2 maxL none rm (jq_P (.ref a :: av) bs D ct h) Qc bs) (F : jq_MF y b2 maxL none n) (hyn : y.name = "<init>") (hi : Cond.instanceMethod y ∈ jq_G) (hl : jq_LK own idx y) (hn : av.length = n) (hsz : ls.size = nL) (hst : st = av.reverse ++ .ref a :: rest) (hW : (rest.map fun v => v.category).sum ≤ 8) (hR : rm.frames + 1 ≤ R.frames ∧ 8 + (maxL + 11) + rm.locals ≤ R.locals) (hf : cells + rm.cells ≤ R.cells ∧ slots + rm.slots ≤ R.slots) (hdg : decode cc pc = .ok (.invokespecial idx, 3)) :
    va_Run p l e R s m args below meth c H locs cells slots rm.cells rm.slots (F0 m pc ls st) rest (Qc (Value.ref a :: av).toArray) (fun q => bs ≤ q) := by
  have hp := jq_pre C X (.ref a :: av)
  obtain ⟨hx, hb, hml, hown, hts, hK, hN, -⟩ := C
  obtain ⟨fc, fi, fd⟩ := F
  have hG : GoodIn jq_G (Cond.code y b2 maxL none :: jq_G) := jq_goodIn0 (fun w hw => by rcases List.mem_cons.mp hw with rfl | hw; exact fc; exact hw)
  rcases hl with hl | ⟨host, hl⟩
  · exact va_runI ⟨hx, hb, hml, hown, hts⟩ hM ⟨callB_of n hts hG rfl rfl rfl (hts _ fi) (hts _ hl) fd hR, hyn, hts _ hi⟩ ⟨jq_blind, hp⟩ rfl hn hsz hst (lv_room hW) hdg hf
  · exact va_runIN ⟨hx, hb, hml, hown, hts⟩ hM ⟨va_cnB n hts hG rfl rfl rfl (hN _ hl) (hts _ fi) fd hR, hyn, hts _ hi⟩ ⟨jq_blind, hp⟩ rfl hn hsz hst (lv_room hW) hdg hf
/-- the receiver's class declares the method -/
theorem jq_runV (C : jq_C p s m args c cc nL own D ct bs) (X : jq_X bs D ct s.heap h H locs) (hM : jq_M l y b2 maxL ret rm (jq_P (.ref a :: av) bs D ct h) Qc bs) (F : jq_MF y b2 maxL ret n) (hi : Cond.instanceMethod y ∈ jq_G) (hse : Cond.selects y.cls y y ∈ jq_G) (hl : jq_LK own idx y) {ci : Nat} (hrc : jq_RC ci y.cls) (hci : jq_ci h a = ci) (hne : ci < 1000) (hn : av.length = n) (hsz : ls.size = nL) (hst : st = av.reverse ++ .ref a :: rest) (hW : (rest.map fun v => v.category).sum ≤ 8) (hR : rm.frames + 1 ≤ R.frames ∧ 8 + (maxL + 11) + rm.locals ≤ R.locals) (hf : cells + rm.cells ≤ R.cells ∧ slots + rm.slots ≤ R.slots) (hdg : decode cc pc = .ok (.invokevirtual idx, 3)) :
    va_Run p l e R s m args below meth c H locs cells slots rm.cells rm.slots (F0 m pc ls st) rest (Qc (Value.ref a :: av).toArray) (fun q => bs ≤ q) := by
  have hp := jq_pre C X (.ref a :: av)
  have hrv := jq_recv C X hrc hci hne
  obtain ⟨hx, hb, hml, hown, hts, hK, hN, -⟩ := C
  obtain ⟨fc, fi, fd⟩ := F
  have hG : GoodIn jq_G (Cond.code y b2 maxL ret :: jq_G) := jq_goodIn0 (fun w hw => by rcases List.mem_cons.mp hw with rfl | hw; exact fc; exact hw)
  rcases hl with hl | ⟨host, hl⟩
  · exact va_runV ⟨hx, hb, hml, hown, hts⟩ hM ⟨callB_of n hts hG rfl rfl rfl (hts _ fi) (hts _ hl) fd hR, hts _ hi, hts _ hse⟩ ⟨jq_blind, hrv, hp⟩ rfl hn hsz hst (lv_room hW) hdg hf
  · exact va_runVN ⟨hx, hb, hml, hown, hts⟩ hM ⟨va_cnB n hts hG rfl rfl rfl (hN _ hl) (hts _ fi) fd hR, hts _ hi, hts _ hse⟩ ⟨jq_blind, hrv, hp⟩ rfl hn hsz hst (lv_room hW) hdg hf
/-- the reference names x, of the class owner; the receiver's class E selects y -/
theorem jq_runU (C : jq_C p s m args c cc nL own D ct bs) (X : jq_X bs D ct s.heap h H locs) {x : MethodName} {owner E : String} (hM : jq_M l y b2 maxL ret rm (jq_P (.ref a :: av) bs D ct h) Qc bs) (F : jq_MF y b2 maxL ret n) (hi : Cond.instanceMethod y ∈ jq_G) (hse : Cond.selects E x y ∈ jq_G) (hl : Cond.methodLink own idx x ∈ jq_G) (hsm : Cond.sameMethod x.cls owner x.name x.desc ∈ jq_G) (hdc : (∃ b0 m0 r0, Cond.instanceMethod ⟨owner, x.name, x.desc⟩ ∈ jq_G ∧ Cond.code ⟨owner, x.name, x.desc⟩ b0 m0 r0 ∈ jq_G) ∨ Cond.declares ⟨owner, x.name, x.desc⟩ ∈ jq_N) (hxd : x.desc = y.desc) (how : owner ≠ "java/lang/invoke/MethodHandle" ∧ owner ≠ "java/lang/invoke/VarHandle") {ci : Nat} (hrc : jq_RC ci E) (hci : jq_ci h a = ci) (hne : ci < 1000) (hn : av.length = n) (hsz : ls.size = nL) (hst : st = av.reverse ++ .ref a :: rest) (hW : (rest.map fun v => v.category).sum ≤ 8) (hR : rm.frames + 1 ≤ R.frames ∧ 8 + (maxL + 11) + rm.locals ≤ R.locals) (hf : cells + rm.cells ≤ R.cells ∧ slots + rm.slots ≤ R.slots) (hdg : decode cc pc = .ok (.invokevirtual idx, 3)) :
    va_Run p l e R s m args below meth c H locs cells slots rm.cells rm.slots (F0 m pc ls st) rest (Qc (Value.ref a :: av).toArray) (fun q => bs ≤ q) := by
  have hp := jq_pre C X (.ref a :: av)
  have hrv := jq_recv C X hrc hci hne
  obtain ⟨hx, hb, hml, hown, hts, hK, hN, -⟩ := C
  obtain ⟨fc, fi, fd⟩ := F
  have hG : GoodIn jq_G (Cond.code y b2 maxL ret :: jq_G) := jq_goodIn0 (fun w hw => by rcases List.mem_cons.mp hw with rfl | hw; exact fc; exact hw)
  have hdcl : va_Decl s ⟨owner, x.name, x.desc⟩ := by
    rcases hdc with ⟨b0, m0, r0, d1, d2⟩ | d
    · exact va_Decl.of (hts _ d1) (hts _ d2)
    · exact va_Decl.abs (hN _ d)
  refine va_runU (owner := owner) (C := E) (x := x) ⟨hx, hb, hml, hown, hts⟩ hM ⟨⟨rfl, rfl, hR.1, hR.2, pay_in hts hG, List.mem_cons_self⟩, hts _ fc, hts _ fi, how, fun sig hsig => ?_, hts _ hl, hts _ hsm, hdcl, hts _ hse, hts _ hi⟩ ⟨jq_blind, hrv, hp⟩ rfl hn hsz hst (lv_room hW) hdg hf
  have h2 := fd.2.2
  rw [hxd] at hsig
  rw [hsig] at h2
  exact (Option.some.inj h2).symm
end JC
theorem jq_ln {α β : Type} {x : α} {K : α → β} {r : β} (h : jq_l x K = r) : ∃ y, y = x ∧ K y = r := ⟨x, rfl, h⟩
def jq_o {β : Type} (o : Option Nat) (x : β) (K : Nat → β) : β := match o with
  | none => x
  | some q => K q
theorem jq_oN {β : Type} {x : β} {K : Nat → β} {r : β} (h : jq_o none x K = r) : x = r := h
theorem jq_oS {β : Type} {q : Nat} {x : β} {K : Nat → β} {r : β} (h : jq_o (some q) x K = r) : K q = r := h
theorem jq_fitZ {x : Int32} (h : x = 0 ∨ x = 1) : fits .boolean (.int x) = true := by
  rcases h with rfl | rfl <;> rfl
section JS
variable {p : Program} {l : Launch} {e : Env} {R : Room} {s : State} {m : MethodId} {args : Array Value} {below : List Frame} {meth : Method} {c : Code} {H : Heap} {locs : List Loc} {cells slots : Nat} {Q : State → Prop} {pc : Nat} {ls : Array Slot} {rest : List Value}
theorem jq_top {x y : Int32} (h : y = x) (k : W p l e R s m args below meth c H locs cells slots Q (F0 m pc ls (.int y :: rest))) : W p l e R s m args below meth c H locs cells slots Q (F0 m pc ls (.int x :: rest)) := h ▸ k
end JS
theorem jq_swo {x : Int32} {lo hi : Int} (h : ∀ k : Int, lo ≤ k → k ≤ hi → ¬ x.toInt = k) : x.toInt < lo ∨ hi < x.toInt := by
  by_cases h1 : x.toInt < lo
  · exact Or.inl h1
  · by_cases h2 : hi < x.toInt
    · exact Or.inr h2
    · exact absurd rfl (h x.toInt (by omega) (by omega))
