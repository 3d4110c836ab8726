/-! ===== class and reference: what is the same ===== -/
def RM (M R : ob_S) : Prop := (∀ k, k < 8 → M k = R k) ∧ isN (R 6 0) 64 ∧ (∀ p, p < 64 → isN (R 0 p) 13 ∧ isN (R 1 p) 8 ∧ isN (R 2 p) 8 ∧ (9 ≤ R 0 p → isN (R 3 p) 64))
/-- a block at its beginning -/
def nb0 (kd : Nat) : Nat → Int32 := fun k => if k < 384 then (if kd = 5 then 0 else if kd = 6 then (if k % 3 = 1 then -1 else 0) else 1) else if 512 ≤ k ∧ k < 768 then -1 else 0
def kbS (R : ob_S) (g k : Nat) : Nat → Int32 := fun i => R 19 (812 * (2 * g + k) + i)
def RGq (R : ob_S) (g : Nat) (x : gd) : Prop :=
  gkOK (g_kd x) (g_a x) (g_b x) (g_c x) ∧ gkS R g (g_kd x) (g_a x) (g_b x) (g_c x) ∧ (g_kd x = 7 → g_a x < g ∧ g_b x < g) ∧ (∀ p, p < 64 → g_hf x p = R 17 (64 * g + p) ∧ hintOK (g_hf x p)) ∧
  LR (g_kd x) (g_a x) (g_b x) (g_c x) (nbS R g) (g_L x) ∧ BW (g_kd x) (nbS R g) ∧ LR (g_kd x) (g_a x) (g_b x) (g_c x) (nb0 (g_kd x)) (g_F x) ∧
  (∀ k, k < 2 → (g_ka x k = none ∧ R 20 (2 * g + k) = 0) ∨ (∃ q, g_ka x k = some q ∧ R 20 (2 * g + k) = 1 ∧ LR (g_kd x) (g_a x) (g_b x) (g_c x) (kbS R g k) (g_K x k) ∧ BW (g_kd x) (kbS R g k)))
def cnt (pl wy : Nat → Nat) (p w : Nat) : Nat → Nat
  | 0 => 0
  | m + 1 => cnt pl wy p w m + (if pl m = p ∧ wy m = w then 1 else 0)
def RWq (m : Nat) (pl wy : Nat → Nat) (W R : ob_S) : Prop :=
  m ≤ 3000 ∧ R 9 0 = nI m ∧ W 5 0 = nI m ∧ (∀ i, i < m → pl i < 64 ∧ wy i < 2 ∧ R 10 i = nI (pl i) ∧ R 11 i = nI (wy i) ∧ W 0 i = nI (2 * pl i + wy i)) ∧ (∀ p w, p < 64 → w < 2 → W 1 (2 * p + w) = nI (cnt pl wy p w m)) ∧ ∀ j, j < 16384 → W 2 j = 0
def REL (c : Nat) (ev : Int32) (M W : ob_S) (G : Nat → gd) (R : ob_S) : Prop :=
  RM M R ∧ (∃ m pl wy, RWq m pl wy W R) ∧ (∀ g, g < c → RGq R g (G g)) ∧ R 8 0 = ev ∧ R 12 0 = nI c ∧ (∀ j, 2 * c ≤ j → j < 16 → R 20 j = 0)
theorem RGq.of {R R' : ob_S} {g : Nat} {x : gd} (H : RGq R g x) (h : ∀ k, 13 ≤ k → k ≤ 20 → R' k = R k) : RGq R' g x := by
  obtain ⟨h1, ⟨s1, s2, s3, s4⟩, h3, h4, h5, h6, h7, h8⟩ := H
  have e : nbS R' g = nbS R g := by
    unfold nbS
    rw [h 18 (by decide) (by decide)]
  have e2 : ∀ k, kbS R' g k = kbS R g k := by
    intro k
    unfold kbS
    rw [h 19 (by decide) (by decide)]
  refine ⟨h1, ⟨by rw [h 13 (by decide) (by decide)]; exact s1, by rw [h 14 (by decide) (by decide)]; exact s2, by rw [h 15 (by decide) (by decide)]; exact s3, by rw [h 16 (by decide) (by decide)]; exact s4⟩, h3, fun p hp => by rw [h 17 (by decide) (by decide)]; exact h4 p hp, by rw [e]; exact h5, by rw [e]; exact h6, h7, fun k hk => ?_⟩
  rw [h 20 (by decide) (by decide), e2]
  exact h8 k hk
theorem RWq.of {m : Nat} {pl wy : Nat → Nat} {W R R' : ob_S} (H : RWq m pl wy W R) (h : ∀ k, 9 ≤ k → k ≤ 11 → R' k = R k) : RWq m pl wy W R' := by
  obtain ⟨h1, h2, h3, h4, h5⟩ := H
  refine ⟨h1, by rw [h 9 (by decide) (by decide)]; exact h2, h3, fun i hi => ?_, h5⟩
  rw [h 10 (by decide) (by decide), h 11 (by decide) (by decide)]
  exact h4 i hi
theorem RM.of {M R R' : ob_S} (H : RM M R) (h : ∀ k, k < 8 → R' k = R k) : RM M R' := by
  obtain ⟨h1, h2, h3⟩ := H
  refine ⟨fun k hk => by rw [h k hk]; exact h1 k hk, by rw [h 6 (by decide)]; exact h2, fun p hp => ?_⟩
  rw [h 0 (by decide), h 1 (by decide), h 2 (by decide), h 3 (by decide)]
  exact h3 p hp
def INV (ax : Nat) (h : jq_H) : Prop := ∃ c ev M W G rf R, CI h ax c ev M W G rf R ∧ REL c ev M W G R
def SIMq (ax : Nat) (f : jq_H → Nat → Option (Int32 × jq_H)) (rg : ob_S → Option (Int32 × ob_S)) (h : jq_H) (R : ob_S) : Prop :=
  ∃ r h' c' ev' M' W' G' rf' R', f h ax = some (r, h') ∧ CI h' ax c' ev' M' W' G' rf' R ∧ rg R = some (r, R') ∧ REL c' ev' M' W' G' R'
theorem SIMq.same {ax c : Nat} {ev : Int32} {M W R : ob_S} {G : Nat → gd} {rf : Nat → Option Nat} {h : jq_H} {f : jq_H → Nat → Option (Int32 × jq_H)} {rg : ob_S → Option (Int32 × ob_S)} (H : CI h ax c ev M W G rf R) (Q : REL c ev M W G R) {r : Int32} (e1 : f h ax = some (r, h)) (e2 : rg R = some (r, R)) : SIMq ax f rg h R :=
  ⟨r, h, c, ev, M, W, G, rf, R, e1, H, e2, Q⟩
def jq_sim' (Inv : jq_H → Prop) (ax am : Nat) (f g : jq_H → Nat → Option (Int32 × jq_H)) (h : jq_H) : Prop := ∃ (r : Int32) (hA hB : jq_H), jq_ci h ax = 9 ∧ f h ax = some (r, hA) ∧ jq_ci hA am = 10 ∧ g hA am = some (r, hB) ∧ Inv hB
theorem sim_of {ax c : Nat} {ev : Int32} {M W R : ob_S} {G : Nat → gd} {rf : Nat → Option Nat} {h : jq_H} {f g : jq_H → Nat → Option (Int32 × jq_H)} {rg : ob_S → Option (Int32 × ob_S)} (H : CI h ax c ev M W G rf R)
    (hN : ∀ (h0 : jq_H) (S : ob_S) (h : jq_H) (zs : Int32 × ob_S), OF (ax + 15) 21 10 sh_R h0 S h → rg S = some zs → ∃ z, g h (ax + 15) = some z ∧ (z.1 = zs.1 ∧ OF (ax + 15) 21 10 sh_R h0 zs.2 z.2)) (S : SIMq ax f rg h R) : jq_sim' (INV ax) ax (ax + 15) f g h := by
  obtain ⟨r, h', c', ev', M', W', G', rf', R', e1, C1, e2, Q1⟩ := S
  obtain ⟨z, z1, z2, z3⟩ := hN h' R h' _ C1.2.2.2.1.f e2
  refine ⟨r, h', z.2, H.ci, e1, C1.cr, ?_, c', ev', M', W', G', rf', R', C1.ref z3, Q1⟩
  have z2' : z.1 = r := z2
  rw [z1, ← z2']
theorem one0 : ((1 : Int32) = 0) = False := eq_false (by decide)
theorem pf_lim (m : Nat) (hm : m < 2 ^ 31) (x : Int32) : pf_in x 0 (nI m) = 0 ∨ (pf_in x 0 (nI m) = 1 ∧ ∃ p, p ≤ m ∧ x = nI p) := by
  by_cases hz : pf_in x 0 (nI m) = 0
  · exact Or.inl hz
  · exact Or.inr ⟨pf_in_ne hz, pf_in_of hm hz⟩
theorem pf_63 (x : Int32) : pf_in x 0 63 = 0 ∨ (pf_in x 0 63 = 1 ∧ ∃ p, p ≤ 63 ∧ x = nI p) := pf_lim 63 (by decide) x
theorem pf_31 (x : Int32) : pf_in x 0 31 = 0 ∨ (pf_in x 0 31 = 1 ∧ ∃ p, p ≤ 31 ∧ x = nI p) := pf_lim 31 (by decide) x
theorem pf_7 (x : Int32) : pf_in x 0 7 = 0 ∨ (pf_in x 0 7 = 1 ∧ ∃ p, p ≤ 7 ∧ x = nI p) := pf_lim 7 (by decide) x
theorem pf_8 (x : Int32) : pf_in x 0 8 = 0 ∨ (pf_in x 0 8 = 1 ∧ ∃ p, p ≤ 8 ∧ x = nI p) := pf_lim 8 (by decide) x
theorem pf_12 (x : Int32) : pf_in x 0 12 = 0 ∨ (pf_in x 0 12 = 1 ∧ ∃ p, p ≤ 12 ∧ x = nI p) := pf_lim 12 (by decide) x
theorem pf_1 (x : Int32) : pf_in x 0 1 = 0 ∨ (pf_in x 0 1 = 1 ∧ ∃ p, p ≤ 1 ∧ x = nI p) := pf_lim 1 (by decide) x
theorem pf_100 (x : Int32) : pf_in x 0 100 = 0 ∨ (pf_in x 0 100 = 1 ∧ ∃ p, p ≤ 100 ∧ x = nI p) := pf_lim 100 (by decide) x
theorem pf_2000 (x : Int32) : pf_in x 0 2000 = 0 ∨ (pf_in x 0 2000 = 1 ∧ ∃ p, p ≤ 2000 ∧ x = nI p) := pf_lim 2000 (by decide) x
section SMALL
variable {n ax c : Nat} {ev : Int32} {M W R : ob_S} {G : Nat → gd} {rf : Nat → Option Nat} {h : jq_H} {a1 a2 a3 a4 a5 : Int32}
theorem CI.mld {k o len i : Nat} (H : CI h ax c ev M W G rf R) (hk : sh_M[k]? = some (1, o, len)) (hi : i < len) (hl : len < 2 ^ 31) : jq_ldI 0 h (ax + 1 + o) (nI i) = some (M k i) := by
  have := ob_ld (t := 0) H.2.1 hk (jq_inN' hi hl)
  rw [n_cl (by omega)] at this
  exact this
theorem CI.mst {k o len i : Nat} {x : Int32} (H : CI h ax c ev M W G rf R) (hk : sh_M[k]? = some (1, o, len)) (hi : i < len) (hl : len < 2 ^ 31) : ∃ h', jq_stI h (ax + 1 + o) (nI i) x = some h' ∧ CI h' ax c ev (u2 M k i x) W G rf R := by
  obtain ⟨h', e, O⟩ := ob_st (H.2.1.f (w := 7)) ok_M hk (jq_inN' hi hl) (x := x)
  rw [n_cl (by omega)] at O
  exact ⟨h', e, H.mach O⟩
/-- the machine's numbers are changed alike on both sides -/
theorem REL.mach {k i : Nat} {x : Int32} (Q : REL c ev M W G R) (hk : k < 8) (h6 : isN (u2 R k i x 6 0) 64) (hp : ∀ p, p < 64 → isN (u2 R k i x 0 p) 13 ∧ isN (u2 R k i x 1 p) 8 ∧ isN (u2 R k i x 2 p) 8 ∧ (9 ≤ u2 R k i x 0 p → isN (u2 R k i x 3 p) 64)) : REL c ev (u2 M k i x) W G (u2 R k i x) := by
  obtain ⟨⟨q1, -⟩, ⟨m, pl, wy, qw⟩, qg, q8, q12, q20⟩ := Q
  refine ⟨⟨fun j hj => ?_, h6, hp⟩, ⟨m, pl, wy, qw.of (fun j q1 q2 => u2_ne (by omega))⟩, fun g hg => (qg g hg).of (fun j q1 q2 => u2_ne (by omega)), by rw [u2_ne (by omega)]; exact q8, by rw [u2_ne (by omega)]; exact q12, fun j q1 q2 => by rw [u2_ne (by omega)]; exact q20 j q1 q2⟩
  by_cases e : j = k
  · subst e
    rw [u2_eq, u2_eq, q1 j hj]
  · rw [u2_ne e, u2_ne e, q1 j hj]
theorem S_register (H : CI h ax c ev M W G rf R) (Q : REL c ev M W G R) : SIMq ax (fun h a => X10_register n h a a1 a2) (fun S => rX11_register n S a1 a2) h R := by
  rcases pf_7 a1 with h1 | ⟨h1, r, hr, rfl⟩
  · refine SIMq.same H Q (r := -2) ?_ ?_
    · simp only [X10_register, p_isRegister, Option.bind_some, h1, if_true]
    · simp only [rX11_register, jq_l, h1, if_true]
  · obtain ⟨h', e, H'⟩ := H.mst (k := 4) (x := a2) (i := r) rfl (by omega) (by decide)
    refine ⟨1, h', c, ev, u2 M 4 r a2, W, G, rf, u2 R 4 r a2, ?_, H', ?_, Q.mach (by decide) ?_ ?_⟩
    · have e0 : jq_gR [5] 4 h (ax + 1) = some (ax + 1 + 5) := ob_gR (t := 0) H.2.1 rfl (by decide)
      simp only [X10_register, p_isRegister, Option.bind_some, h1, one0, if_false, H.gm, e0, e]
    · have i1 : ∀ {β : Type} (x : Option β), (if jq_in (nI r) 8 then x else none) = x := fun x => n_ifin (by omega) (by decide)
      have c1 : (nI r).toNatClampNeg = r := n_cl (by omega)
      simp only [rX11_register, jq_l, h1, one0, if_false, i1, c1]
    · rw [u2_ne (by decide)]; exact Q.1.2.1
    · intro p hp
      rw [u2_ne (by decide), u2_ne (by decide), u2_ne (by decide), u2_ne (by decide)]; exact Q.1.2.2 p hp
theorem S_data (H : CI h ax c ev M W G rf R) (Q : REL c ev M W G R) : SIMq ax (fun h a => X10_data n h a a1 a2) (fun S => rX11_data n S a1 a2) h R := by
  rcases pf_31 a1 with h1 | ⟨h1, r, hr, rfl⟩
  · refine SIMq.same H Q (r := -2) ?_ ?_
    · simp only [X10_data, p_isData, Option.bind_some, h1, if_true]
    · simp only [rX11_data, jq_l, h1, if_true]
  · obtain ⟨h', e, H'⟩ := H.mst (k := 5) (x := a2) (i := r) rfl (by omega) (by decide)
    refine ⟨1, h', c, ev, u2 M 5 r a2, W, G, rf, u2 R 5 r a2, ?_, H', ?_, Q.mach (by decide) ?_ ?_⟩
    · have e0 : jq_gR [5] 5 h (ax + 1) = some (ax + 1 + 6) := ob_gR (t := 0) H.2.1 rfl (by decide)
      simp only [X10_data, p_isData, Option.bind_some, h1, one0, if_false, H.gm, e0, e]
    · have i1 : ∀ {β : Type} (x : Option β), (if jq_in (nI r) 32 then x else none) = x := fun x => n_ifin (by omega) (by decide)
      have c1 : (nI r).toNatClampNeg = r := n_cl (by omega)
      simp only [rX11_data, jq_l, h1, one0, if_false, i1, c1]
    · rw [u2_ne (by decide)]; exact Q.1.2.1
    · intro p hp
      rw [u2_ne (by decide), u2_ne (by decide), u2_ne (by decide), u2_ne (by decide)]; exact Q.1.2.2 p hp
theorem S_value (H : CI h ax c ev M W G rf R) (Q : REL c ev M W G R) : SIMq ax (fun h a => X10_value n h a a1) (fun S => rX11_value n S a1) h R := by
  rcases pf_7 a1 with h1 | ⟨h1, r, hr, rfl⟩
  · refine SIMq.same H Q (r := 0) ?_ ?_
    · simp only [X10_value, X10_value_b20, p_isRegister, Option.bind_some, h1, if_true]
    · simp only [rX11_value, rX11_value_b20, jq_l, h1, if_true]
  · refine SIMq.same H Q (r := R 4 r) ?_ ?_
    · have e0 : jq_gR [5] 4 h (ax + 1) = some (ax + 1 + 5) := ob_gR (t := 0) H.2.1 rfl (by decide)
      have e1 : jq_ldI 0 h (ax + 1 + 5) (nI r) = some (R 4 r) := by
        rw [H.mld (k := 4) rfl (by omega) (by decide), Q.1.1 4 (by decide)]
      simp only [X10_value, X10_value_b20, p_isRegister, Option.bind_some, h1, one0, if_false, H.gm, e0, e1]
    · have i1 : ∀ {β : Type} (x : Option β), (if jq_in (nI r) 8 then x else none) = x := fun x => n_ifin (by omega) (by decide)
      have c1 : (nI r).toNatClampNeg = r := n_cl (by omega)
      simp only [rX11_value, rX11_value_b20, jq_l, h1, one0, if_false, i1, c1]
theorem S_stored (H : CI h ax c ev M W G rf R) (Q : REL c ev M W G R) : SIMq ax (fun h a => X10_stored n h a a1) (fun S => rX11_stored n S a1) h R := by
  rcases pf_31 a1 with h1 | ⟨h1, r, hr, rfl⟩
  · refine SIMq.same H Q (r := 0) ?_ ?_
    · simp only [X10_stored, X10_stored_b20, p_isData, Option.bind_some, h1, if_true]
    · simp only [rX11_stored, rX11_stored_b20, jq_l, h1, if_true]
  · refine SIMq.same H Q (r := R 5 r) ?_ ?_
    · have e0 : jq_gR [5] 5 h (ax + 1) = some (ax + 1 + 6) := ob_gR (t := 0) H.2.1 rfl (by decide)
      have e1 : jq_ldI 0 h (ax + 1 + 6) (nI r) = some (R 5 r) := by
        rw [H.mld (k := 5) rfl (by omega) (by decide), Q.1.1 5 (by decide)]
      simp only [X10_stored, X10_stored_b20, p_isData, Option.bind_some, h1, one0, if_false, H.gm, e0, e1]
    · have i1 : ∀ {β : Type} (x : Option β), (if jq_in (nI r) 32 then x else none) = x := fun x => n_ifin (by omega) (by decide)
      have c1 : (nI r).toNatClampNeg = r := n_cl (by omega)
      simp only [rX11_stored, rX11_stored_b20, jq_l, h1, one0, if_false, i1, c1]
theorem S_stand (H : CI h ax c ev M W G rf R) (Q : REL c ev M W G R) : SIMq ax (fun h a => X10_stand n h a a1) (fun S => rX11_stand n S a1) h R := by
  rcases pf_63 a1 with h1 | ⟨h1, r, hr, rfl⟩
  · refine SIMq.same H Q (r := -1) ?_ ?_
    · simp only [X10_stand, p_isPlace, Option.bind_some, h1, if_true]
    · simp only [rX11_stand, jq_l, h1, if_true]
  · obtain ⟨h', e, O⟩ := ob_pI (H.2.1.f (w := 7)) ok_M (by decide) (k := 6) rfl (show 5 ∈ [5] by decide) (x := nI r)
    refine ⟨R 6 0, h', c, ev, u2 M 6 0 (nI r), W, G, rf, u2 R 6 0 (nI r), ?_, H.mach O, ?_, Q.mach (by decide) ?_ ?_⟩
    · have e0 : jq_gI [5] 6 h (ax + 1) = some (R 6 0) := by
        rw [ob_gI H.2.1 (k := 6) rfl (by decide), Q.1.1 6 (by decide)]
      simp only [X10_stand, p_isPlace, Option.bind_some, h1, one0, if_false, H.gm, e0, e]
    · simp only [rX11_stand, jq_l, h1, one0, if_false]
    · rw [u2_at]; exact ⟨r, by omega, rfl⟩
    · intro p hp
      rw [u2_ne (by decide), u2_ne (by decide), u2_ne (by decide), u2_ne (by decide)]; exact Q.1.2.2 p hp
theorem S_told (H : CI h ax c ev M W G rf R) (Q : REL c ev M W G R) : SIMq ax (fun h a => X10_told n h a a1) (fun S => rX11_told n S a1) h R := by
  obtain ⟨m, pl, wy, -, r9, w5, -⟩ := Q.2.1
  have e6 : jq_gI [5] 6 h (ax + 1) = some (R 6 0) := by
    rw [ob_gI H.2.1 (k := 6) rfl (by decide), Q.1.1 6 (by decide)]
  have e7 : jq_gI [5] 7 h (ax + 1) = some (R 7 0) := by
    rw [ob_gI H.2.1 (k := 7) rfl (by decide), Q.1.1 7 (by decide)]
  have e5 : jq_gI [6] 5 h (ax + 8) = some (R 9 0) := by
    rw [ob_gI H.2.2.1 (k := 5) rfl (by decide), w5, r9]
  have e3 : jq_gI [9] 3 h ax = some (R 12 0) := by rw [H.gc, Q.2.2.2.2.1]
  have e4 : jq_gI [9] 4 h ax = some (R 8 0) := by rw [H.ge, Q.2.2.2.1]
  by_cases h0 : a1 = 0
  · exact SIMq.same H Q (r := R 6 0) (by simp only [X10_told, h0, if_true, H.gm, e6, Option.bind_some]) (by simp only [rX11_told, h0, if_true, jq_l])
  by_cases h1 : a1 = 1
  · subst h1
    exact SIMq.same H Q (r := R 7 0) (by simp only [X10_told, h0, if_true, if_false, H.gm, e7, Option.bind_some]) (by simp only [rX11_told, h0, if_true, if_false, jq_l])
  by_cases h2 : a1 = 2
  · exact SIMq.same H Q (r := R 8 0) (by simp only [X10_told, h0, h1, if_pos h2, if_false, e4, Option.bind_some]) (by simp only [rX11_told, h0, h1, if_pos h2, if_false, jq_l])
  by_cases h3 : a1 = 3
  · exact SIMq.same H Q (r := R 9 0) (by simp only [X10_told, h0, h1, h2, if_pos h3, if_false, e5, H.gw, Option.bind_some]) (by simp only [rX11_told, h0, h1, h2, if_pos h3, if_false, jq_l])
  by_cases h4 : a1 = 4
  · exact SIMq.same H Q (r := R 12 0) (by simp only [X10_told, h0, h1, h2, h3, if_pos h4, if_false, e3, Option.bind_some]) (by simp only [rX11_told, h0, h1, h2, h3, if_pos h4, if_false, jq_l])
  · exact SIMq.same H Q (r := -2) (by simp only [X10_told, h0, h1, h2, h3, h4, if_false]) (by simp only [rX11_told, h0, h1, h2, h3, h4, if_false])
theorem S_op (H : CI h ax c ev M W G rf R) (Q : REL c ev M W G R) : SIMq ax (fun h a => X10_op n h a a1 a2 a3 a4 a5) (fun S => rX11_op n S a1 a2 a3 a4 a5) h R := by
  rcases pf_63 a1 with h1 | ⟨h1, p, hp, rfl⟩
  · refine SIMq.same H Q (r := -1) ?_ ?_
    · simp only [X10_op, p_isPlace, Option.bind_some, h1, if_true]
    · simp only [rX11_op, jq_l, h1, if_true]
  rcases pf_12 a2 with h2 | ⟨h2, k, hk, rfl⟩
  · refine SIMq.same H Q (r := -2) ?_ ?_
    · simp only [X10_op, X10_op_b34, p_isPlace, p_within, Option.bind_some, h1, one0, if_false, h2, if_true]
    · simp only [rX11_op, rX11_op_b54, jq_l, h1, one0, if_false, h2, if_true]
  rcases pf_7 a3 with h3 | ⟨h3, r, hr, rfl⟩
  · refine SIMq.same H Q (r := -2) ?_ ?_
    · simp only [X10_op, X10_op_b34, p_isPlace, p_within, p_isRegister, Option.bind_some, h1, one0, if_false, h2, h3, if_true]
    · simp only [rX11_op, rX11_op_b54, jq_l, h1, one0, if_false, h2, h3, if_true]
  rcases pf_7 a4 with h4 | ⟨h4, s, hs, rfl⟩
  · refine SIMq.same H Q (r := -2) ?_ ?_
    · simp only [X10_op, X10_op_b34, p_isPlace, p_within, p_isRegister, Option.bind_some, h1, one0, if_false, h2, h3, h4, if_true]
    · simp only [rX11_op, rX11_op_b54, jq_l, h1, one0, if_false, h2, h3, h4, if_true]
  have i1 : ∀ {β : Type} (x : Option β), (if jq_in (nI p) 64 then x else none) = x := fun x => n_ifin (by omega) (by decide)
  have c1 : (nI p).toNatClampNeg = p := n_cl (by omega)
  have q9 : (nI k < 9) = (k ≤ 8) := propext ((nI_ltI (b := 9) (by omega) (by decide)).trans (by omega))
  have q8 : (nI k ≤ 8) = (k ≤ 8) := propext (nI_leI (b := 8) (by omega) (by decide))
  have fin : (9 ≤ nI k → isN a5 64) → SIMq ax (fun h a => X10_op_b54 n a (nI p) (nI k) (nI r) (nI s) a5 h) (fun S => rX11_op_b57 n (nI p) (nI k) (nI r) (nI s) a5 S) h R := by
    intro hv
    have ew : rX6_write n M (nI p) (nI k) (nI r) (nI s) a5 = some (u2 (u2 (u2 (u2 M 0 p (nI k)) 1 p (nI r)) 2 p (nI s)) 3 p a5) := by
      simp only [rX6_write, jq_l, i1, c1]
    obtain ⟨h', e, O⟩ := N_X6_write (n := n) (H.2.1.f (w := 7)) ew
    have e0 : jq_gR [5] 0 h (ax + 1) = some (ax + 1 + 1) := ob_gR (t := 0) H.2.1 rfl (by decide)
    have e1 : jq_ldI 0 h (ax + 1 + 1) (nI p) = some (R 0 p) := by
      rw [H.mld (k := 0) rfl (by omega) (by decide), Q.1.1 0 (by decide)]
    obtain ⟨⟨q1, q6, qp⟩, ⟨m, pl, wy, qw⟩, qg, q8, q12, q20⟩ := Q
    refine ⟨R 0 p, h', c, ev, _, W, G, rf, u2 (u2 (u2 (u2 R 0 p (nI k)) 1 p (nI r)) 2 p (nI s)) 3 p a5, ?_, H.mach O, ?_, ⟨fun j hj => ?_, ?_, ?_⟩, ⟨m, pl, wy, qw.of (fun j q1 q2 => ?_)⟩, fun g hg => (qg g hg).of (fun j q1 q2 => ?_), ?_, ?_, fun j z1 z2 => ?_⟩
    · simp only [X10_op_b54, H.gm, e0, e1, Option.bind_some, if_pos H.2.1.ci, e]
    · simp only [rX11_op_b57, jq_l, i1, c1]
    · funext i
      unfold u2
      rw [q1 j hj]
    · rw [u2_ne (by decide), u2_ne (by decide), u2_ne (by decide), u2_ne (by decide)]
      exact q6
    · intro x hx
      have z0 : u2 (u2 (u2 (u2 R 0 p (nI k)) 1 p (nI r)) 2 p (nI s)) 3 p a5 0 x = if x = p then nI k else R 0 x := by
        rw [u2_ne (by decide), u2_ne (by decide), u2_ne (by decide), u2_eq]
        rfl
      have z1 : u2 (u2 (u2 (u2 R 0 p (nI k)) 1 p (nI r)) 2 p (nI s)) 3 p a5 1 x = if x = p then nI r else R 1 x := by
        rw [u2_ne (by decide), u2_ne (by decide), u2_eq, u2_ne (by decide)]
        rfl
      have z2 : u2 (u2 (u2 (u2 R 0 p (nI k)) 1 p (nI r)) 2 p (nI s)) 3 p a5 2 x = if x = p then nI s else R 2 x := by
        rw [u2_ne (by decide), u2_eq, u2_ne (by decide), u2_ne (by decide)]
        rfl
      have z3 : u2 (u2 (u2 (u2 R 0 p (nI k)) 1 p (nI r)) 2 p (nI s)) 3 p a5 3 x = if x = p then a5 else R 3 x := by
        rw [u2_eq, u2_ne (by decide), u2_ne (by decide), u2_ne (by decide)]
        rfl
      rw [z0, z1, z2, z3]
      by_cases hx2 : x = p
      · simp only [if_pos hx2]
        exact ⟨⟨k, by omega, rfl⟩, ⟨r, by omega, rfl⟩, ⟨s, by omega, rfl⟩, hv⟩
      · simp only [if_neg hx2]
        exact qp x hx
    all_goals rw [u2_ne (by omega), u2_ne (by omega), u2_ne (by omega), u2_ne (by omega)]
    · exact q8
    · exact q12
    · exact q20 j z1 z2
  by_cases k8 : k ≤ 8
  · have k9 : ¬ 9 ≤ nI k := fun q => by
      have := (nI_leI (a := 9) (by decide) (by omega)).mp q
      omega
    obtain ⟨r', h', c', ev', M', W', G', rf', R', e1, C1, e2, Q1⟩ := fin (fun q => absurd q k9)
    refine ⟨r', h', c', ev', M', W', G', rf', R', ?_, C1, ?_, Q1⟩
    · simp only [X10_op, p_isPlace, p_within, p_isRegister, Option.bind_some, h1, one0, if_false, h2, h3, h4, q9, if_pos k8]
      exact e1
    · simp only [rX11_op, jq_l, h1, one0, if_false, h2, h3, h4, q8, if_pos k8]
      exact e2
  · rcases pf_63 a5 with h5 | ⟨h5, v, hv, rfl⟩
    · refine SIMq.same H Q (r := -2) ?_ ?_
      · simp only [X10_op, p_isPlace, p_within, p_isRegister, Option.bind_some, h1, one0, if_false, h2, h3, h4, q9, if_neg k8, h5, if_true]
      · simp only [rX11_op, rX11_op_b54, jq_l, h1, one0, if_false, h2, h3, h4, q8, if_neg k8, h5, if_true]
    · obtain ⟨r', h', c', ev', M', W', G', rf', R', e1, C1, e2, Q1⟩ := fin (fun q => ⟨v, by omega, rfl⟩)
      refine ⟨r', h', c', ev', M', W', G', rf', R', ?_, C1, ?_, Q1⟩
      · simp only [X10_op, p_isPlace, p_within, p_isRegister, Option.bind_some, h1, one0, if_false, h2, h3, h4, q9, if_neg k8, h5]
        exact e1
      · simp only [rX11_op, jq_l, h1, one0, if_false, h2, h3, h4, q8, if_neg k8, h5]
        exact e2
end SMALL
