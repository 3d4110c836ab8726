/-! ===== what the reference does to one block ===== -/
def sp_turn (v : Int32) (w : Nat) : Int32 := if w = 1 then (if 3 ≤ v then 3 else v + 1) else (if v ≤ 0 then 0 else v - 1)
theorem na0 (a : Nat) : nI a + 0 = nI (a + 0) := nI_add a 0
theorem nI_w1 {w : Nat} (hw : w < 2) : (nI w = 1) ↔ w = 1 := nI_eq (by omega) (by decide)
theorem nI_w0 {w : Nat} (hw : w < 2) : (nI w = 0) ↔ w = 0 := nI_eq (by omega) (by decide)
theorem L_turn {n g k w : Nat} {S : ob_S} {nb : Nat → Int32} (hg : g < 8) (hk : k < 812) (hw : w < 2) : rX11_turn n (bset S g nb) (nI (812 * g + k)) (nI w) = some (bset S g (upd nb k (sp_turn (nb k) w))) := by
  have c1 : (nI (812 * g + k)).toNatClampNeg = 812 * g + k := n_cl (by omega)
  have i1 : ∀ {β : Type} (x : Option β), (if jq_in (nI (812 * g + k)) 6496 then x else none) = x := fun x => n_ifin (by omega) (by decide)
  have b1 : bset S g nb 18 (812 * g + k) = nb k := bset_at hk
  unfold rX11_turn rX11_turn_b43 sp_turn
  simp only [jq_l, i1, c1, b1, bset_u2 hk, nI_w1 hw]
  split <;> split <;> rfl
/-- the bits of a history, and the sum of a row of weights -/
def sp_bit (H k : Nat) : Nat := H / 2 ^ k % 2
def sp_sum (nb : Nat → Int32) (r H : Nat) : Nat → Int32
  | 0 => nb (9 * r)
  | k + 1 => sp_sum nb r H k + (if sp_bit H k = 1 then nb (9 * r + 1 + k) else -(nb (9 * r + 1 + k)))
theorem sum_loop {n g r b H : Nat} {S : ob_S} {nb : Nat → Int32} {K : Int32 → ob_S → Option (Int32 × ob_S)} (hg : g < 8) (hr : r < 16) (hb : b ≤ 8) (hS : S 15 g = nI b) (hH : nb 808 = nI H) (hH2 : H < 65536) :
    ∀ (k j : Nat), j ≤ b → b < j + k → rX11_sum_l28 n K k (nI g) (nI (812 * g + 9 * r)) (sp_sum nb r H j) (nI j) (bset S g nb) = K (sp_sum nb r H b) (bset S g nb) := by
  intro k
  induction k with
  | zero => intro j h1 h2; exfalso; omega
  | succ k ih =>
    intro j h1 h2
    have c1 : (nI g).toNatClampNeg = g := n_cl (by omega)
    have i1 : ∀ {β : Type} (x : Option β), (if jq_in (nI g) 8 then x else none) = x := fun x => n_ifin hg (by decide)
    have c2 : (nI (812 * g + 808)).toNatClampNeg = 812 * g + 808 := n_cl (by omega)
    have i2 : ∀ {β : Type} (x : Option β), (if jq_in (nI (812 * g + 808)) 6496 then x else none) = x := fun x => n_ifin (by omega) (by decide)
    have b1 : bset S g nb 18 (812 * g + 808) = nI H := by rw [bset_at (by decide)]; exact hH
    have b15 : bset S g nb 15 g = nI b := by rw [bset_ne (by decide)]; exact hS
    show rX11_sum_b28 n (rX11_sum_l28 n K k) K _ _ _ _ _ = _
    unfold rX11_sum_b28
    simp only [jq_l, i1, c1, b15, nm812, na808, i2, c2, b1]
    by_cases hj : b ≤ j
    · rw [if_pos ((nI_leI (by omega) (by omega)).mpr hj)]
      have : j = b := by omega
      rw [this]
    · rw [if_neg (fun q => hj ((nI_leI (by omega) (by omega)).mp q))]
      have c3 : (nI (812 * g + 9 * r + 1 + j)).toNatClampNeg = 812 * g + (9 * r + 1 + j) := by rw [n_cl (by omega)]; omega
      have i3 : ∀ {β : Type} (x : Option β), (if jq_in (nI (812 * g + 9 * r + 1 + j)) 6496 then x else none) = x := fun x => n_ifin (by omega) (by decide)
      have b3 : bset S g nb 18 (812 * g + (9 * r + 1 + j)) = nb (9 * r + 1 + j) := bset_at (by omega)
      have hs : sp_sum nb r H (j + 1) = sp_sum nb r H j + (if sp_bit H j = 1 then nb (9 * r + 1 + j) else -(nb (9 * r + 1 + j))) := rfl
      have ih' := ih (j + 1) (by omega) (by omega)
      rw [n_bit (by omega) (by omega)]
      unfold rX11_sum_b67 rX11_sum_b102
      simp only [jq_l, na1, nI_add, i3, c3, b3]
      by_cases hbit : H / 2 ^ j % 2 = 1
      · rw [if_pos (by rw [hbit]; rfl), if_neg (by decide)]
        rw [hs, if_pos (show sp_bit H j = 1 from hbit)] at ih'
        exact ih'
      · have hb0 : H / 2 ^ j % 2 = 0 := by omega
        rw [if_neg (by rw [hb0]; decide), if_pos trivial]
        rw [hs, if_neg (show ¬ sp_bit H j = 1 by unfold sp_bit; omega)] at ih'
        exact ih'
theorem L_sum {n g p a b c : Nat} {S : ob_S} {nb : Nat → Int32} (hn : 20 < n) (hg : g < 8) (hp : p < 64) (hk : gkOK 5 a b c) (hS : gkS S g 5 a b c) (hh : hisOK nb) :
    rX11_sum n (bset S g nb) (nI g) (nI p) = some (sp_sum nb (p % 2 ^ a) (nb 808).toNatClampNeg b, bset S g nb) := by
  obtain ⟨e8, l8⟩ := hh.1.cl (by decide)
  have ha := hk.2.2.2.2.2.2.1 rfl
  have hr : p % 2 ^ a < 16 := Nat.lt_of_lt_of_le (Nat.mod_lt _ (Nat.two_pow_pos a)) (Nat.pow_le_pow_right (by decide) ha.1 : 2 ^ a ≤ 2 ^ 4)
  have hc : rX11_counter n (bset S g nb) (nI g) (nI p) 0 = some (nI (p % 2 ^ a), bset S g nb) := L_counter (n := n) (t := 0) hg hp (by decide) hk hS hh (by decide) (by decide)
  unfold rX11_sum
  rw [hc, Option.bind_some]
  generalize p % 2 ^ a = r at hr ⊢
  have c1 : (nI (812 * g + 9 * r)).toNatClampNeg = 812 * g + 9 * r := n_cl (by omega)
  have i1 : ∀ {β : Type} (x : Option β), (if jq_in (nI (812 * g + 9 * r)) 6496 then x else none) = x := fun x => n_ifin (by omega) (by decide)
  have b1 : bset S g nb 18 (812 * g + 9 * r) = nb (9 * r) := bset_at (by omega)
  simp only [jq_l, nm812, nm9, nI_add, i1, c1, b1]
  exact sum_loop hg hr ha.2.2.1 (hS.2.2.1 (by decide)) e8 l8 n 0 (Nat.zero_le _) (by omega)
/-- the way that it would guess, without a hint -/
def sp_vote (nb : Nat → Int32) (i : Nat) : Nat := if nb i ≤ 1 then 0 else 1
def sp_own (kd a b c : Nat) (nb : Nat → Int32) (opv : Int32) (p : Nat) (oA oB : Int32) : Int32 :=
  if kd = 0 then (if a < 2 then nI a else if opv ≤ nI p then 1 else 0) else
  if kd = 4 then (if sp_vote nb (sp_ctr 4 a b c nb p 0) + sp_vote nb (sp_ctr 4 a b c nb p 1) + sp_vote nb (sp_ctr 4 a b c nb p 2) ≤ 1 then 0 else 1) else
  if kd = 5 then (if sp_sum nb (p % 2 ^ a) (nb 808).toNatClampNeg b < 0 then 0 else 1) else
  if kd = 6 then (if nb (3 * p + 2) < nI a then 1 else if nb (3 * p) = nb (3 * p + 1) then 0 else 1) else
  if kd = 7 then (if nb (sp_ctr 7 a b c nb p 0) ≤ 1 then oA else oB) else
  (if nb (sp_ctr kd a b c nb p 0) ≤ 1 then 0 else 1)
theorem ctr_lt {kd a b c p t : Nat} {nb : Nat → Int32} (hk : gkOK kd a b c) (h0 : kd ≠ 0) (h6 : kd ≠ 6) (ht : t < 3) : sp_ctr kd a b c nb p t < 384 := by
  obtain ⟨k8, -, k1, k2, k3, k4, k5, -, k7⟩ := hk
  have key : ∀ x m : Nat, m ≤ 8 → x % 2 ^ m < 256 := fun x m hm => Nat.lt_of_lt_of_le (Nat.mod_lt _ (Nat.two_pow_pos m)) (Nat.pow_le_pow_right (by decide) hm : 2 ^ m ≤ 2 ^ 8)
  have key7 : ∀ x m : Nat, m ≤ 7 → x % 2 ^ m < 128 := fun x m hm => Nat.lt_of_lt_of_le (Nat.mod_lt _ (Nat.two_pow_pos m)) (Nat.pow_le_pow_right (by decide) hm : 2 ^ m ≤ 2 ^ 7)
  unfold sp_ctr
  rcases (show kd = 1 ∨ kd = 2 ∨ kd = 3 ∨ kd = 4 ∨ kd = 5 ∨ kd = 7 by omega) with rfl | rfl | rfl | rfl | rfl | rfl
  · have := key p a (by omega); simp; omega
  · have := key (p ^^^ (nb 808).toNatClampNeg % 2 ^ b) a (by omega); simp; omega
  · have := key ((nb (384 + p)).toNatClampNeg % 2 ^ b ^^^ c * p) a (by omega); simp; omega
  · have := key7 (5 * p ^^^ (nb 808).toNatClampNeg % 2 ^ (t * b)) a (by omega); simp; omega
  · have := key p a (by omega); simp; omega
  · have := key p c (by omega); simp; omega
theorem own_loop {n g p a b c : Nat} {S : ob_S} {nb : Nat → Int32} {K : Int32 → ob_S → Option (Int32 × ob_S)} (hg : g < 8) (hp : p < 64) (hk : gkOK 4 a b c) (hS : gkS S g 4 a b c) (hh : hisOK nb) (v : Nat → Nat) (hv : ∀ t, t < 3 → v (t + 1) = v t + sp_vote nb (sp_ctr 4 a b c nb p t)) :
    ∀ (k t : Nat), t ≤ 3 → 3 < t + k → rX11_own_l101 n K k (nI g) (nI p) (nI (812 * g)) (nI (v t)) (nI t) (bset S g nb) = K (nI (v 3)) (bset S g nb) := by
  intro k
  induction k with
  | zero => intro t h1 h2; exfalso; omega
  | succ k ih =>
    intro t h1 h2
    show rX11_own_b101 n (rX11_own_l101 n K k) K _ _ _ _ _ _ = _
    unfold rX11_own_b101
    by_cases ht : 3 ≤ t
    · rw [if_pos (show (3 : Int32) ≤ nI t from (nI_leI (by decide) (by omega)).mpr ht)]
      have : t = 3 := by omega
      rw [this]
    · rw [if_neg (show ¬ (3 : Int32) ≤ nI t from fun q => ht ((nI_leI (by decide) (by omega)).mp q))]
      have hc := L_counter (n := n) (t := t) hg hp (by omega) hk hS hh (by decide) (by decide)
      have hl := ctr_lt (nb := nb) (p := p) (t := t) hk (by decide) (by decide) (by omega)
      have hvt := hv t (by omega)
      have ih' := ih (t + 1) (by omega) (by omega)
      rw [hc, Option.bind_some]
      rw [hvt] at ih'
      unfold sp_vote at ih'
      generalize sp_ctr 4 a b c nb p t = r at hl ih' ⊢
      have c1 : (nI (812 * g + r)).toNatClampNeg = 812 * g + r := n_cl (by omega)
      have i1 : ∀ {β : Type} (x : Option β), (if jq_in (nI (812 * g + r)) 6496 then x else none) = x := fun x => n_ifin (by omega) (by decide)
      have b1 : bset S g nb 18 (812 * g + r) = nb r := bset_at (by omega)
      unfold rX11_own_b134
      simp only [jq_l, nI_add, i1, c1, b1, na1, na0]
      by_cases hq : nb r ≤ 1
      · rw [if_pos hq] at ih' ⊢
        exact ih'
      · rw [if_neg hq] at ih' ⊢
        exact ih'
set_option maxHeartbeats 4000000 in
theorem L_own0 {n g p a b c : Nat} {S : ob_S} {nb : Nat → Int32} {oA oB : Int32} (hn : 20 < n) (hg : g < 8) (hp : p < 64) (hk : gkOK 0 a b c) (hS : gkS S g 0 a b c) (hh : hisOK nb) :
    rX11_own n (bset S g nb) (nI g) (nI p) oA oB = some (sp_own 0 a b c nb (S 3 p) p oA oB, bset S g nb) := by
  have c1 : (nI g).toNatClampNeg = g := n_cl (by omega)
  have c2 : (nI p).toNatClampNeg = p := n_cl (by omega)
  have i1 : ∀ {β : Type} (x : Option β), (if jq_in (nI g) 8 then x else none) = x := fun x => n_ifin hg (by decide)
  have i2 : ∀ {β : Type} (x : Option β), (if jq_in (nI p) 64 then x else none) = x := fun x => n_ifin hp (by decide)
  have b13 : bset S g nb 13 g = nI 0 := by rw [bset_ne (by decide)]; exact hS.1
  have b3 : bset S g nb 3 p = S 3 p := by rw [bset_ne (by decide)]
  have i3 : ∀ (k : Nat), k < 812 → ∀ {β : Type} (x : Option β), (if jq_in (nI (812 * g + k)) 6496 then x else none) = x := fun k hk β x => n_ifin (by omega) (by decide)
  have c3 : ∀ (k : Nat), k < 812 → (nI (812 * g + k)).toNatClampNeg = 812 * g + k := fun k hk => n_cl (by omega)
  have hctr : ∀ q : 0 ≠ 0 ∧ 0 ≠ 6, rX11_counter n (bset S g nb) (nI g) (nI p) 0 = some (nI (sp_ctr 0 a b c nb p 0), bset S g nb) := fun q => L_counter (n := n) (t := 0) hg hp (by decide) hk hS hh q.1 q.2
  have hcl : ∀ q : 0 ≠ 0 ∧ 0 ≠ 6, sp_ctr 0 a b c nb p 0 < 384 := fun q => ctr_lt hk q.1 q.2 (by decide)
  unfold rX11_own
  simp only [jq_l, i1, c1, b13, nm812]
  have hkk := hk
  obtain ⟨k8, k0, k1, k2, k3, k4, k5, k6, k7⟩ := hkk
  simp only [tq_0_0, tq_0_1, tq_0_2, tq_0_3, tq_0_4, tq_0_5, tq_0_6, tq_0_7, if_true, if_false]
  have b14 : bset S g nb 14 g = nI a := by rw [bset_ne (by decide)]; exact hS.2.1 (by decide)
  have ha := k0 rfl
  unfold rX11_own_b94
  simp only [b14, i2, c2, b3]
  have e2 : ((2 : Int32) ≤ nI a) = (2 ≤ a) := propext (nI_leI (a := 2) (by decide) (by omega))
  have e3 : (nI p < S 3 p) = (¬ S 3 p ≤ nI p) := propext Int32.not_le.symm
  unfold sp_own
  rw [if_pos rfl]
  simp only [e2, e3]
  by_cases h2 : a < 2
  · rw [if_neg (show ¬ 2 ≤ a by omega), if_pos h2]
  · rw [if_pos (show 2 ≤ a by omega), if_neg h2]
    by_cases h3 : S 3 p ≤ nI p
    · rw [if_neg (fun q => q h3), if_pos h3]
    · rw [if_pos h3, if_neg h3]
set_option maxHeartbeats 4000000 in
theorem L_own1 {n g p a b c : Nat} {S : ob_S} {nb : Nat → Int32} {oA oB : Int32} (hn : 20 < n) (hg : g < 8) (hp : p < 64) (hk : gkOK 1 a b c) (hS : gkS S g 1 a b c) (hh : hisOK nb) :
    rX11_own n (bset S g nb) (nI g) (nI p) oA oB = some (sp_own 1 a b c nb (S 3 p) p oA oB, bset S g nb) := by
  have c1 : (nI g).toNatClampNeg = g := n_cl (by omega)
  have c2 : (nI p).toNatClampNeg = p := n_cl (by omega)
  have i1 : ∀ {β : Type} (x : Option β), (if jq_in (nI g) 8 then x else none) = x := fun x => n_ifin hg (by decide)
  have i2 : ∀ {β : Type} (x : Option β), (if jq_in (nI p) 64 then x else none) = x := fun x => n_ifin hp (by decide)
  have b13 : bset S g nb 13 g = nI 1 := by rw [bset_ne (by decide)]; exact hS.1
  have b3 : bset S g nb 3 p = S 3 p := by rw [bset_ne (by decide)]
  have i3 : ∀ (k : Nat), k < 812 → ∀ {β : Type} (x : Option β), (if jq_in (nI (812 * g + k)) 6496 then x else none) = x := fun k hk β x => n_ifin (by omega) (by decide)
  have c3 : ∀ (k : Nat), k < 812 → (nI (812 * g + k)).toNatClampNeg = 812 * g + k := fun k hk => n_cl (by omega)
  have hctr : ∀ q : 1 ≠ 0 ∧ 1 ≠ 6, rX11_counter n (bset S g nb) (nI g) (nI p) 0 = some (nI (sp_ctr 1 a b c nb p 0), bset S g nb) := fun q => L_counter (n := n) (t := 0) hg hp (by decide) hk hS hh q.1 q.2
  have hcl : ∀ q : 1 ≠ 0 ∧ 1 ≠ 6, sp_ctr 1 a b c nb p 0 < 384 := fun q => ctr_lt hk q.1 q.2 (by decide)
  have h263 : ∀ q : 1 ≠ 0 ∧ 1 ≠ 6, rX11_own_b263 n (nI g) (nI p) (nI (812 * g)) (bset S g nb) = some ((if nb (sp_ctr 1 a b c nb p 0) ≤ 1 then 0 else 1), bset S g nb) := by
    intro q
    have hc := hctr q
    have hl := hcl q
    unfold rX11_own_b263 rX11_own_b287
    rw [hc, Option.bind_some]
    simp only [jq_l, nI_add, i3 _ (show sp_ctr 1 a b c nb p 0 < 812 by omega), c3 _ (show sp_ctr 1 a b c nb p 0 < 812 by omega), bset_at (show sp_ctr 1 a b c nb p 0 < 812 by omega)]
    split <;> rfl
  unfold rX11_own
  simp only [jq_l, i1, c1, b13, nm812]
  have hkk := hk
  obtain ⟨k8, k0, k1, k2, k3, k4, k5, k6, k7⟩ := hkk
  simp only [tq_1_0, tq_1_1, tq_1_2, tq_1_3, tq_1_4, tq_1_5, tq_1_6, tq_1_7, if_true, if_false]
  exact h263 (by decide)
set_option maxHeartbeats 4000000 in
theorem L_own2 {n g p a b c : Nat} {S : ob_S} {nb : Nat → Int32} {oA oB : Int32} (hn : 20 < n) (hg : g < 8) (hp : p < 64) (hk : gkOK 2 a b c) (hS : gkS S g 2 a b c) (hh : hisOK nb) :
    rX11_own n (bset S g nb) (nI g) (nI p) oA oB = some (sp_own 2 a b c nb (S 3 p) p oA oB, bset S g nb) := by
  have c1 : (nI g).toNatClampNeg = g := n_cl (by omega)
  have c2 : (nI p).toNatClampNeg = p := n_cl (by omega)
  have i1 : ∀ {β : Type} (x : Option β), (if jq_in (nI g) 8 then x else none) = x := fun x => n_ifin hg (by decide)
  have i2 : ∀ {β : Type} (x : Option β), (if jq_in (nI p) 64 then x else none) = x := fun x => n_ifin hp (by decide)
  have b13 : bset S g nb 13 g = nI 2 := by rw [bset_ne (by decide)]; exact hS.1
  have b3 : bset S g nb 3 p = S 3 p := by rw [bset_ne (by decide)]
  have i3 : ∀ (k : Nat), k < 812 → ∀ {β : Type} (x : Option β), (if jq_in (nI (812 * g + k)) 6496 then x else none) = x := fun k hk β x => n_ifin (by omega) (by decide)
  have c3 : ∀ (k : Nat), k < 812 → (nI (812 * g + k)).toNatClampNeg = 812 * g + k := fun k hk => n_cl (by omega)
  have hctr : ∀ q : 2 ≠ 0 ∧ 2 ≠ 6, rX11_counter n (bset S g nb) (nI g) (nI p) 0 = some (nI (sp_ctr 2 a b c nb p 0), bset S g nb) := fun q => L_counter (n := n) (t := 0) hg hp (by decide) hk hS hh q.1 q.2
  have hcl : ∀ q : 2 ≠ 0 ∧ 2 ≠ 6, sp_ctr 2 a b c nb p 0 < 384 := fun q => ctr_lt hk q.1 q.2 (by decide)
  have h263 : ∀ q : 2 ≠ 0 ∧ 2 ≠ 6, rX11_own_b263 n (nI g) (nI p) (nI (812 * g)) (bset S g nb) = some ((if nb (sp_ctr 2 a b c nb p 0) ≤ 1 then 0 else 1), bset S g nb) := by
    intro q
    have hc := hctr q
    have hl := hcl q
    unfold rX11_own_b263 rX11_own_b287
    rw [hc, Option.bind_some]
    simp only [jq_l, nI_add, i3 _ (show sp_ctr 2 a b c nb p 0 < 812 by omega), c3 _ (show sp_ctr 2 a b c nb p 0 < 812 by omega), bset_at (show sp_ctr 2 a b c nb p 0 < 812 by omega)]
    split <;> rfl
  unfold rX11_own
  simp only [jq_l, i1, c1, b13, nm812]
  have hkk := hk
  obtain ⟨k8, k0, k1, k2, k3, k4, k5, k6, k7⟩ := hkk
  simp only [tq_2_0, tq_2_1, tq_2_2, tq_2_3, tq_2_4, tq_2_5, tq_2_6, tq_2_7, if_true, if_false]
  exact h263 (by decide)
set_option maxHeartbeats 4000000 in
theorem L_own3 {n g p a b c : Nat} {S : ob_S} {nb : Nat → Int32} {oA oB : Int32} (hn : 20 < n) (hg : g < 8) (hp : p < 64) (hk : gkOK 3 a b c) (hS : gkS S g 3 a b c) (hh : hisOK nb) :
    rX11_own n (bset S g nb) (nI g) (nI p) oA oB = some (sp_own 3 a b c nb (S 3 p) p oA oB, bset S g nb) := by
  have c1 : (nI g).toNatClampNeg = g := n_cl (by omega)
  have c2 : (nI p).toNatClampNeg = p := n_cl (by omega)
  have i1 : ∀ {β : Type} (x : Option β), (if jq_in (nI g) 8 then x else none) = x := fun x => n_ifin hg (by decide)
  have i2 : ∀ {β : Type} (x : Option β), (if jq_in (nI p) 64 then x else none) = x := fun x => n_ifin hp (by decide)
  have b13 : bset S g nb 13 g = nI 3 := by rw [bset_ne (by decide)]; exact hS.1
  have b3 : bset S g nb 3 p = S 3 p := by rw [bset_ne (by decide)]
  have i3 : ∀ (k : Nat), k < 812 → ∀ {β : Type} (x : Option β), (if jq_in (nI (812 * g + k)) 6496 then x else none) = x := fun k hk β x => n_ifin (by omega) (by decide)
  have c3 : ∀ (k : Nat), k < 812 → (nI (812 * g + k)).toNatClampNeg = 812 * g + k := fun k hk => n_cl (by omega)
  have hctr : ∀ q : 3 ≠ 0 ∧ 3 ≠ 6, rX11_counter n (bset S g nb) (nI g) (nI p) 0 = some (nI (sp_ctr 3 a b c nb p 0), bset S g nb) := fun q => L_counter (n := n) (t := 0) hg hp (by decide) hk hS hh q.1 q.2
  have hcl : ∀ q : 3 ≠ 0 ∧ 3 ≠ 6, sp_ctr 3 a b c nb p 0 < 384 := fun q => ctr_lt hk q.1 q.2 (by decide)
  have h263 : ∀ q : 3 ≠ 0 ∧ 3 ≠ 6, rX11_own_b263 n (nI g) (nI p) (nI (812 * g)) (bset S g nb) = some ((if nb (sp_ctr 3 a b c nb p 0) ≤ 1 then 0 else 1), bset S g nb) := by
    intro q
    have hc := hctr q
    have hl := hcl q
    unfold rX11_own_b263 rX11_own_b287
    rw [hc, Option.bind_some]
    simp only [jq_l, nI_add, i3 _ (show sp_ctr 3 a b c nb p 0 < 812 by omega), c3 _ (show sp_ctr 3 a b c nb p 0 < 812 by omega), bset_at (show sp_ctr 3 a b c nb p 0 < 812 by omega)]
    split <;> rfl
  unfold rX11_own
  simp only [jq_l, i1, c1, b13, nm812]
  have hkk := hk
  obtain ⟨k8, k0, k1, k2, k3, k4, k5, k6, k7⟩ := hkk
  simp only [tq_3_0, tq_3_1, tq_3_2, tq_3_3, tq_3_4, tq_3_5, tq_3_6, tq_3_7, if_true, if_false]
  exact h263 (by decide)
set_option maxHeartbeats 4000000 in
theorem L_own4 {n g p a b c : Nat} {S : ob_S} {nb : Nat → Int32} {oA oB : Int32} (hn : 20 < n) (hg : g < 8) (hp : p < 64) (hk : gkOK 4 a b c) (hS : gkS S g 4 a b c) (hh : hisOK nb) :
    rX11_own n (bset S g nb) (nI g) (nI p) oA oB = some (sp_own 4 a b c nb (S 3 p) p oA oB, bset S g nb) := by
  have c1 : (nI g).toNatClampNeg = g := n_cl (by omega)
  have c2 : (nI p).toNatClampNeg = p := n_cl (by omega)
  have i1 : ∀ {β : Type} (x : Option β), (if jq_in (nI g) 8 then x else none) = x := fun x => n_ifin hg (by decide)
  have i2 : ∀ {β : Type} (x : Option β), (if jq_in (nI p) 64 then x else none) = x := fun x => n_ifin hp (by decide)
  have b13 : bset S g nb 13 g = nI 4 := by rw [bset_ne (by decide)]; exact hS.1
  have b3 : bset S g nb 3 p = S 3 p := by rw [bset_ne (by decide)]
  have i3 : ∀ (k : Nat), k < 812 → ∀ {β : Type} (x : Option β), (if jq_in (nI (812 * g + k)) 6496 then x else none) = x := fun k hk β x => n_ifin (by omega) (by decide)
  have c3 : ∀ (k : Nat), k < 812 → (nI (812 * g + k)).toNatClampNeg = 812 * g + k := fun k hk => n_cl (by omega)
  have hctr : ∀ q : 4 ≠ 0 ∧ 4 ≠ 6, rX11_counter n (bset S g nb) (nI g) (nI p) 0 = some (nI (sp_ctr 4 a b c nb p 0), bset S g nb) := fun q => L_counter (n := n) (t := 0) hg hp (by decide) hk hS hh q.1 q.2
  have hcl : ∀ q : 4 ≠ 0 ∧ 4 ≠ 6, sp_ctr 4 a b c nb p 0 < 384 := fun q => ctr_lt hk q.1 q.2 (by decide)
  unfold rX11_own
  simp only [jq_l, i1, c1, b13, nm812]
  have hkk := hk
  obtain ⟨k8, k0, k1, k2, k3, k4, k5, k6, k7⟩ := hkk
  simp only [tq_4_0, tq_4_1, tq_4_2, tq_4_3, tq_4_4, tq_4_5, tq_4_6, tq_4_7, if_true, if_false]
  have hl := own_loop (n := n) (K := fun w6 SS => rX11_own_b143 n w6 SS) hg hp hk hS hh (fun t => if t = 0 then 0 else if t = 1 then sp_vote nb (sp_ctr 4 a b c nb p 0) else if t = 2 then sp_vote nb (sp_ctr 4 a b c nb p 0) + sp_vote nb (sp_ctr 4 a b c nb p 1) else sp_vote nb (sp_ctr 4 a b c nb p 0) + sp_vote nb (sp_ctr 4 a b c nb p 1) + sp_vote nb (sp_ctr 4 a b c nb p 2)) (by
    intro t ht
    rcases (show t = 0 ∨ t = 1 ∨ t = 2 by omega) with rfl | rfl | rfl <;> simp) n 0 (by omega) (by omega)
  refine Eq.trans hl ?_
  show rX11_own_b143 n (nI (sp_vote nb (sp_ctr 4 a b c nb p 0) + sp_vote nb (sp_ctr 4 a b c nb p 1) + sp_vote nb (sp_ctr 4 a b c nb p 2))) _ = some ((if sp_vote nb (sp_ctr 4 a b c nb p 0) + sp_vote nb (sp_ctr 4 a b c nb p 1) + sp_vote nb (sp_ctr 4 a b c nb p 2) ≤ 1 then 0 else 1), bset S g nb)
  have hv : ∀ i, sp_vote nb i ≤ 1 := fun i => by unfold sp_vote; split <;> omega
  have hv0 := hv (sp_ctr 4 a b c nb p 0)
  have hv1 := hv (sp_ctr 4 a b c nb p 1)
  have hv2 := hv (sp_ctr 4 a b c nb p 2)
  have hv3 : sp_vote nb (sp_ctr 4 a b c nb p 0) + sp_vote nb (sp_ctr 4 a b c nb p 1) + sp_vote nb (sp_ctr 4 a b c nb p 2) ≤ 3 := by omega
  clear hl
  generalize sp_vote nb (sp_ctr 4 a b c nb p 0) + sp_vote nb (sp_ctr 4 a b c nb p 1) + sp_vote nb (sp_ctr 4 a b c nb p 2) = v at hv3 ⊢
  unfold rX11_own_b143 rX11_own_b154
  by_cases h1 : v ≤ 1
  · rw [if_pos (show nI v ≤ (1 : Int32) from (nI_leI (by omega) (by decide)).mpr h1), if_pos h1]
  · rw [if_neg (show ¬ nI v ≤ (1 : Int32) from fun q => h1 ((nI_leI (by omega) (by decide)).mp (q : nI v ≤ nI 1))), if_neg h1]
set_option maxHeartbeats 4000000 in
theorem L_own5 {n g p a b c : Nat} {S : ob_S} {nb : Nat → Int32} {oA oB : Int32} (hn : 20 < n) (hg : g < 8) (hp : p < 64) (hk : gkOK 5 a b c) (hS : gkS S g 5 a b c) (hh : hisOK nb) :
    rX11_own n (bset S g nb) (nI g) (nI p) oA oB = some (sp_own 5 a b c nb (S 3 p) p oA oB, bset S g nb) := by
  have c1 : (nI g).toNatClampNeg = g := n_cl (by omega)
  have c2 : (nI p).toNatClampNeg = p := n_cl (by omega)
  have i1 : ∀ {β : Type} (x : Option β), (if jq_in (nI g) 8 then x else none) = x := fun x => n_ifin hg (by decide)
  have i2 : ∀ {β : Type} (x : Option β), (if jq_in (nI p) 64 then x else none) = x := fun x => n_ifin hp (by decide)
  have b13 : bset S g nb 13 g = nI 5 := by rw [bset_ne (by decide)]; exact hS.1
  have b3 : bset S g nb 3 p = S 3 p := by rw [bset_ne (by decide)]
  have i3 : ∀ (k : Nat), k < 812 → ∀ {β : Type} (x : Option β), (if jq_in (nI (812 * g + k)) 6496 then x else none) = x := fun k hk β x => n_ifin (by omega) (by decide)
  have c3 : ∀ (k : Nat), k < 812 → (nI (812 * g + k)).toNatClampNeg = 812 * g + k := fun k hk => n_cl (by omega)
  have hctr : ∀ q : 5 ≠ 0 ∧ 5 ≠ 6, rX11_counter n (bset S g nb) (nI g) (nI p) 0 = some (nI (sp_ctr 5 a b c nb p 0), bset S g nb) := fun q => L_counter (n := n) (t := 0) hg hp (by decide) hk hS hh q.1 q.2
  have hcl : ∀ q : 5 ≠ 0 ∧ 5 ≠ 6, sp_ctr 5 a b c nb p 0 < 384 := fun q => ctr_lt hk q.1 q.2 (by decide)
  unfold rX11_own
  simp only [jq_l, i1, c1, b13, nm812]
  have hkk := hk
  obtain ⟨k8, k0, k1, k2, k3, k4, k5, k6, k7⟩ := hkk
  simp only [tq_5_0, tq_5_1, tq_5_2, tq_5_3, tq_5_4, tq_5_5, tq_5_6, tq_5_7, if_true, if_false]
  rw [L_sum hn hg hp hk hS hh, Option.bind_some]
  unfold rX11_own_b169
  show _ = some ((if sp_sum nb (p % 2 ^ a) (nb 808).toNatClampNeg b < 0 then 0 else 1), bset S g nb)
  split <;> rfl
set_option maxHeartbeats 4000000 in
theorem L_own6 {n g p a b c : Nat} {S : ob_S} {nb : Nat → Int32} {oA oB : Int32} (hn : 20 < n) (hg : g < 8) (hp : p < 64) (hk : gkOK 6 a b c) (hS : gkS S g 6 a b c) (hh : hisOK nb) :
    rX11_own n (bset S g nb) (nI g) (nI p) oA oB = some (sp_own 6 a b c nb (S 3 p) p oA oB, bset S g nb) := by
  have c1 : (nI g).toNatClampNeg = g := n_cl (by omega)
  have c2 : (nI p).toNatClampNeg = p := n_cl (by omega)
  have i1 : ∀ {β : Type} (x : Option β), (if jq_in (nI g) 8 then x else none) = x := fun x => n_ifin hg (by decide)
  have i2 : ∀ {β : Type} (x : Option β), (if jq_in (nI p) 64 then x else none) = x := fun x => n_ifin hp (by decide)
  have b13 : bset S g nb 13 g = nI 6 := by rw [bset_ne (by decide)]; exact hS.1
  have b3 : bset S g nb 3 p = S 3 p := by rw [bset_ne (by decide)]
  have i3 : ∀ (k : Nat), k < 812 → ∀ {β : Type} (x : Option β), (if jq_in (nI (812 * g + k)) 6496 then x else none) = x := fun k hk β x => n_ifin (by omega) (by decide)
  have c3 : ∀ (k : Nat), k < 812 → (nI (812 * g + k)).toNatClampNeg = 812 * g + k := fun k hk => n_cl (by omega)
  have hctr : ∀ q : 6 ≠ 0 ∧ 6 ≠ 6, rX11_counter n (bset S g nb) (nI g) (nI p) 0 = some (nI (sp_ctr 6 a b c nb p 0), bset S g nb) := fun q => L_counter (n := n) (t := 0) hg hp (by decide) hk hS hh q.1 q.2
  have hcl : ∀ q : 6 ≠ 0 ∧ 6 ≠ 6, sp_ctr 6 a b c nb p 0 < 384 := fun q => ctr_lt hk q.1 q.2 (by decide)
  unfold rX11_own
  simp only [jq_l, i1, c1, b13, nm812]
  have hkk := hk
  obtain ⟨k8, k0, k1, k2, k3, k4, k5, k6, k7⟩ := hkk
  simp only [tq_6_0, tq_6_1, tq_6_2, tq_6_3, tq_6_4, tq_6_5, tq_6_6, tq_6_7, if_true, if_false]
  have b14 : bset S g nb 14 g = nI a := by rw [bset_ne (by decide)]; exact hS.2.1 (by decide)
  unfold rX11_own_b223 rX11_own_b224 rX11_own_b236
  simp only [nm3, nI_add, na2, na1, b14, show 812 * g + 3 * p + 2 = 812 * g + (3 * p + 2) by omega, show 812 * g + 3 * p + 1 = 812 * g + (3 * p + 1) by omega, i3 _ (show 3 * p + 2 < 812 by omega), c3 _ (show 3 * p + 2 < 812 by omega), bset_at (show 3 * p + 2 < 812 by omega), i3 _ (show 3 * p + 1 < 812 by omega), c3 _ (show 3 * p + 1 < 812 by omega), bset_at (show 3 * p + 1 < 812 by omega), i3 _ (show 3 * p < 812 by omega), c3 _ (show 3 * p < 812 by omega), bset_at (show 3 * p < 812 by omega)]
  show _ = some ((if nb (3 * p + 2) < nI a then 1 else if nb (3 * p) = nb (3 * p + 1) then 0 else 1), bset S g nb)
  split
  · rfl
  · split <;> rfl
set_option maxHeartbeats 4000000 in
theorem L_own7 {n g p a b c : Nat} {S : ob_S} {nb : Nat → Int32} {oA oB : Int32} (hn : 20 < n) (hg : g < 8) (hp : p < 64) (hk : gkOK 7 a b c) (hS : gkS S g 7 a b c) (hh : hisOK nb) :
    rX11_own n (bset S g nb) (nI g) (nI p) oA oB = some (sp_own 7 a b c nb (S 3 p) p oA oB, bset S g nb) := by
  have c1 : (nI g).toNatClampNeg = g := n_cl (by omega)
  have c2 : (nI p).toNatClampNeg = p := n_cl (by omega)
  have i1 : ∀ {β : Type} (x : Option β), (if jq_in (nI g) 8 then x else none) = x := fun x => n_ifin hg (by decide)
  have i2 : ∀ {β : Type} (x : Option β), (if jq_in (nI p) 64 then x else none) = x := fun x => n_ifin hp (by decide)
  have b13 : bset S g nb 13 g = nI 7 := by rw [bset_ne (by decide)]; exact hS.1
  have b3 : bset S g nb 3 p = S 3 p := by rw [bset_ne (by decide)]
  have i3 : ∀ (k : Nat), k < 812 → ∀ {β : Type} (x : Option β), (if jq_in (nI (812 * g + k)) 6496 then x else none) = x := fun k hk β x => n_ifin (by omega) (by decide)
  have c3 : ∀ (k : Nat), k < 812 → (nI (812 * g + k)).toNatClampNeg = 812 * g + k := fun k hk => n_cl (by omega)
  have hctr : ∀ q : 7 ≠ 0 ∧ 7 ≠ 6, rX11_counter n (bset S g nb) (nI g) (nI p) 0 = some (nI (sp_ctr 7 a b c nb p 0), bset S g nb) := fun q => L_counter (n := n) (t := 0) hg hp (by decide) hk hS hh q.1 q.2
  have hcl : ∀ q : 7 ≠ 0 ∧ 7 ≠ 6, sp_ctr 7 a b c nb p 0 < 384 := fun q => ctr_lt hk q.1 q.2 (by decide)
  unfold rX11_own
  simp only [jq_l, i1, c1, b13, nm812]
  have hkk := hk
  obtain ⟨k8, k0, k1, k2, k3, k4, k5, k6, k7⟩ := hkk
  simp only [tq_7_0, tq_7_1, tq_7_2, tq_7_3, tq_7_4, tq_7_5, tq_7_6, tq_7_7, if_true, if_false]
  have hc := hctr (by decide)
  have hl := hcl (by decide)
  rw [hc, Option.bind_some]
  unfold rX11_own_b262
  simp only [nI_add, i3 _ (show sp_ctr 7 a b c nb p 0 < 812 by omega), c3 _ (show sp_ctr 7 a b c nb p 0 < 812 by omega), bset_at (show sp_ctr 7 a b c nb p 0 < 812 by omega)]
  show _ = some ((if nb (sp_ctr 7 a b c nb p 0) ≤ 1 then oA else oB), bset S g nb)
  split <;> rfl
theorem L_own {n g p kd a b c : Nat} {S : ob_S} {nb : Nat → Int32} {oA oB : Int32} (hn : 20 < n) (hg : g < 8) (hp : p < 64) (hk : gkOK kd a b c) (hS : gkS S g kd a b c) (hh : hisOK nb) :
    rX11_own n (bset S g nb) (nI g) (nI p) oA oB = some (sp_own kd a b c nb (S 3 p) p oA oB, bset S g nb) := by
  have h8 := hk.1
  rcases (show kd = 0 ∨ kd = 1 ∨ kd = 2 ∨ kd = 3 ∨ kd = 4 ∨ kd = 5 ∨ kd = 6 ∨ kd = 7 by omega) with rfl | rfl | rfl | rfl | rfl | rfl | rfl | rfl
  · exact L_own0 hn hg hp hk hS hh
  · exact L_own1 hn hg hp hk hS hh
  · exact L_own2 hn hg hp hk hS hh
  · exact L_own3 hn hg hp hk hS hh
  · exact L_own4 hn hg hp hk hS hh
  · exact L_own5 hn hg hp hk hS hh
  · exact L_own6 hn hg hp hk hS hh
  · exact L_own7 hn hg hp hk hS hh
