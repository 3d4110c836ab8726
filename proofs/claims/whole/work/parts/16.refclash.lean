/-! ===== clashes, weights, loops of one block ===== -/
def sp_any (nb : Nat → Int32) (two : Int32) : Nat → Nat → Bool
  | _, 0 => false
  | j, k + 1 => decide (nb (768 + j) = two) || sp_any nb two (j + 1) k
def sp_pair (x : Int32) (p : Nat) : Int32 := if nI p ≤ x then 64 * nI p + x else 64 * x + nI p
def sp_keep (nb : Nat → Int32) (two : Int32) : Nat → Int32 :=
  if sp_any nb two 0 (nb 811).toNatClampNeg = true then nb else if 40 ≤ nb 811 then nb else upd (upd nb (768 + (nb 811).toNatClampNeg) two) 811 (nb 811 + 1)
def sp_clash (nb : Nat → Int32) (s p : Nat) : Nat → Int32 :=
  if nb (512 + s) < 0 ∨ nb (512 + s) = nI p then upd nb (512 + s) (nI p) else sp_keep (upd (upd nb (512 + s) (nI p)) 810 (nb 810 + 1)) (sp_pair (nb (512 + s)) p)
theorem clash_loop {n g m : Nat} {two : Int32} {S : ob_S} {nb : Nat → Int32} {K1 : ob_S → Option ob_S} {K2 : Int32 → Int32 → ob_S → Option ob_S} (hg : g < 8) (hm : m ≤ 40) (h11 : nb 811 = nI m) :
    ∀ (k j : Nat), j ≤ m → m < j + k → rX11_clash_l92 n K1 K2 k (nI (812 * g)) two (nI j) (bset S g nb) = if sp_any nb two j (m - j) = true then K1 (bset S g nb) else K2 (nI (812 * g)) two (bset S g nb) := by
  intro k
  induction k with
  | zero => intro j h1 h2; exfalso; omega
  | succ k ih =>
    intro j h1 h2
    have c1 : (nI (812 * g + 811)).toNatClampNeg = 812 * g + 811 := n_cl (by omega)
    have i1 : ∀ {β : Type} (x : Option β), (if jq_in (nI (812 * g + 811)) 6496 then x else none) = x := fun x => n_ifin (by omega) (by decide)
    have b1 : bset S g nb 18 (812 * g + 811) = nI m := by rw [bset_at (by decide)]; exact h11
    show rX11_clash_b92 n (rX11_clash_l92 n K1 K2 k) K1 K2 _ _ _ _ = _
    unfold rX11_clash_b92
    simp only [jq_l, na811, i1, c1, b1]
    by_cases hj : m ≤ j
    · rw [if_pos ((nI_leI (by omega) (by omega)).mpr hj)]
      have : m - j = 0 := by omega
      rw [this]
      rw [if_neg (by simp [sp_any])]
    · rw [if_neg (fun q => hj ((nI_leI (by omega) (by omega)).mp q))]
      have c2 : (nI (812 * g + 768 + j)).toNatClampNeg = 812 * g + (768 + j) := by rw [n_cl (by omega)]; omega
      have i2 : ∀ {β : Type} (x : Option β), (if jq_in (nI (812 * g + 768 + j)) 6496 then x else none) = x := fun x => n_ifin (by omega) (by decide)
      have b2 : bset S g nb 18 (812 * g + (768 + j)) = nb (768 + j) := bset_at (by omega)
      simp only [na768, nI_add, i2, c2, b2, na1]
      have hs : m - j = (m - (j + 1)) + 1 := by omega
      rw [hs]
      by_cases hq : nb (768 + j) = two
      · rw [if_pos hq, if_pos (by simp [sp_any, hq])]
      · rw [if_neg hq, ih (j + 1) (by omega) (by omega)]
        simp [sp_any, hq]
theorem clash_b87 {n g : Nat} {two : Int32} {S : ob_S} {nb : Nat → Int32} (hn : 100 < n) (hg : g < 8) (h11 : isN (nb 811) 41) : rX11_clash_b87 n (nI (812 * g)) two (bset S g nb) = some (bset S g (sp_keep nb two)) := by
  obtain ⟨m, hm, h11⟩ := h11
  have hl := clash_loop (n := n) (two := two) (S := S) (K1 := fun SS => rX11_clash_b125 n SS) (K2 := fun w3 w6 SS => rX11_clash_b132 n w3 w6 SS) hg (by omega : m ≤ 40) h11 n 0 (Nat.zero_le _) (by omega)
  unfold rX11_clash_b87
  refine Eq.trans hl ?_
  have c0 : (nb 811).toNatClampNeg = m := by rw [h11]; exact n_cl (by omega)
  unfold sp_keep
  rw [c0, Nat.sub_zero]
  by_cases ha : sp_any nb two 0 m = true
  · rw [if_pos ha, if_pos ha]
    rfl
  · rw [if_neg ha, if_neg ha]
    have c1 : (nI (812 * g + 811)).toNatClampNeg = 812 * g + 811 := n_cl (by omega)
    have i1 : ∀ {β : Type} (x : Option β), (if jq_in (nI (812 * g + 811)) 6496 then x else none) = x := fun x => n_ifin (by omega) (by decide)
    have b1 : bset S g nb 18 (812 * g + 811) = nI m := by rw [bset_at (by decide)]; exact h11
    unfold rX11_clash_b132 rX11_clash_b184
    simp only [jq_l, na811, i1, c1, b1, h11]
    by_cases h40 : (40 : Int32) ≤ nI m
    · rw [if_pos h40, if_pos h40]
    · rw [if_neg h40, if_neg h40]
      have hm40 : m < 40 := Nat.not_le.mp fun q => h40 ((nI_leI (a := 40) (by decide) (by omega)).mpr q)
      have c2 : (nI (812 * g + 768 + m)).toNatClampNeg = 812 * g + (768 + m) := by rw [n_cl (by omega)]; omega
      have i2 : ∀ {β : Type} (x : Option β), (if jq_in (nI (812 * g + 768 + m)) 6496 then x else none) = x := fun x => n_ifin (by omega) (by decide)
      have b3 : bset S g (upd nb (768 + m) two) 18 (812 * g + 811) = nI m := by
        rw [bset_at (by decide), pk_un (by omega)]
        exact h11
      simp only [na768, nI_add, i2, c2, bset_u2 (show 768 + m < 812 by omega), b3, bset_u2 (show 811 < 812 by decide)]
theorem L_clash {n g p kd a b c : Nat} {S : ob_S} {nb : Nat → Int32} (hn : 100 < n) (hg : g < 8) (hp : p < 64) (hk : gkOK kd a b c) (hS : gkS S g kd a b c) (hh : hisOK nb) (h0 : kd ≠ 0) (h6 : kd ≠ 6) (h4 : kd ≠ 4) (h11 : isN (nb 811) 41) (hl : sp_ctr kd a b c nb p 0 < 256) :
    rX11_clash n (bset S g nb) (nI g) (nI p) = some (bset S g (sp_clash nb (sp_ctr kd a b c nb p 0) p)) := by
  have hc : rX11_counter n (bset S g nb) (nI g) (nI p) 0 = some (nI (sp_ctr kd a b c nb p 0), bset S g nb) := L_counter (n := n) (t := 0) hg hp (by decide) hk hS hh h0 h6
  unfold rX11_clash sp_clash
  rw [hc, jq_l, Option.bind_some]
  generalize sp_ctr kd a b c nb p 0 = r at hl ⊢
  have c1 : (nI (812 * g + 512 + r)).toNatClampNeg = 812 * g + (512 + r) := by rw [n_cl (by omega)]; omega
  have i1 : ∀ {β : Type} (x : Option β), (if jq_in (nI (812 * g + 512 + r)) 6496 then x else none) = x := fun x => n_ifin (by omega) (by decide)
  have b1 : bset S g nb 18 (812 * g + (512 + r)) = nb (512 + r) := bset_at (by omega)
  have c2 : (nI (812 * g + 810)).toNatClampNeg = 812 * g + 810 := n_cl (by omega)
  have i2 : ∀ {β : Type} (x : Option β), (if jq_in (nI (812 * g + 810)) 6496 then x else none) = x := fun x => n_ifin (by omega) (by decide)
  have b2 : bset S g (upd nb (512 + r) (nI p)) 18 (812 * g + 810) = nb 810 := by rw [bset_at (by decide), pk_un (by omega)]
  have h11' : isN (upd (upd nb (512 + r) (nI p)) 810 (nb 810 + 1) 811) 41 := by
    rw [pk_un (by decide), pk_un (by omega)]
    exact h11
  unfold rX11_clash_b49
  simp only [jq_l, nm812, na512, nI_add, i1, c1, b1, bset_u2 (show 512 + r < 812 by omega), na810, i2, c2, b2, bset_u2 (show 810 < 812 by decide)]
  by_cases q1 : nb (512 + r) < 0
  · rw [if_pos q1, if_pos (Or.inl q1)]
  · rw [if_neg q1]
    by_cases q2 : nb (512 + r) = nI p
    · rw [if_pos q2, if_pos (Or.inr q2)]
    · rw [if_neg q2, if_neg (show ¬ (nb (512 + r) < 0 ∨ nb (512 + r) = nI p) from fun q => q.elim q1 q2)]
      unfold sp_pair
      by_cases q3 : nI p ≤ nb (512 + r)
      · rw [if_pos q3, if_pos q3]
        exact clash_b87 hn hg h11'
      · rw [if_neg q3, if_neg q3]
        exact clash_b87 hn hg h11'
/-! weights -/
def sp_wv (v : Int32) (up : Prop) [Decidable up] : Int32 := if v + (if up then 1 else -1) ≤ 63 then (if -64 ≤ v + (if up then 1 else -1) then v + (if up then 1 else -1) else -64) else 63
def sp_wb (H k : Nat) : Nat := if k = 0 then 1 else sp_bit H (k - 1)
def sp_wrow (nb : Nat → Int32) (r H w j : Nat) : Nat → Int32 := fun i => if 9 * r ≤ i ∧ i < 9 * r + j then sp_wv (nb i) (sp_wb H (i - 9 * r) = w) else nb i
theorem wrow_succ {nb : Nat → Int32} {r H w j : Nat} : upd (sp_wrow nb r H w j) (9 * r + j) (sp_wv (nb (9 * r + j)) (sp_wb H j = w)) = sp_wrow nb r H w (j + 1) := by
  funext i
  unfold upd sp_wrow
  by_cases hi : i = 9 * r + j
  · subst hi
    rw [if_pos rfl, if_pos (by omega)]
    simp only [Nat.add_sub_cancel_left]
  · rw [if_neg hi]
    by_cases h2 : 9 * r ≤ i ∧ i < 9 * r + j
    · rw [if_pos h2, if_pos (by omega)]
    · rw [if_neg h2, if_neg (by omega)]
theorem nI_z {j : Nat} (h : j < 2 ^ 31) : (nI j = (0 : Int32)) ↔ j = 0 := nI_eq (b := 0) h (by decide)
theorem nI_bit {x w : Nat} (hx : x < 2) (hw : w < 2) : (nI x = nI w) ↔ x = w := nI_eq (by omega) (by omega)
theorem wv_up {v : Int32} {up : Prop} [Decidable up] (h : up) : sp_wv v up = (if v + 1 ≤ 63 then (if -64 ≤ v + 1 then v + 1 else -64) else 63) := by
  unfold sp_wv
  rw [if_pos h]
theorem wv_dn {v : Int32} {up : Prop} [Decidable up] (h : ¬ up) : sp_wv v up = (if v + -1 ≤ 63 then (if -64 ≤ v + -1 then v + -1 else -64) else 63) := by
  unfold sp_wv
  rw [if_neg h]
theorem weigh_143 {n : Nat} {KB : Int32 → Int32 → Int32 → Int32 → ob_S → Option ob_S} {K : ob_S → Option ob_S} {v1 v3 v6 v7 s0 s1 : Int32} {S : ob_S} : rX11_weigh_b143 n KB K v1 v3 v6 v7 s0 s1 S = rX11_weigh_b181 n KB K v1 v3 v6 v7 (v6 + v7) (if s0 + s1 ≤ 63 then (if -64 ≤ s0 + s1 then s0 + s1 else -64) else 63) S := by
  unfold rX11_weigh_b143
  simp only [jq_l]
  by_cases h1 : s0 + s1 ≤ 63
  · rw [if_pos h1, if_pos h1]
    by_cases h2 : -64 ≤ s0 + s1
    · rw [if_pos h2, if_pos h2]
    · rw [if_neg h2, if_neg h2]
  · rw [if_neg h1, if_neg h1]
theorem weigh_key {n g r j w q : Nat} {y : Int32} {S : ob_S} {nb nb' : Nat → Int32} {KB : Int32 → Int32 → Int32 → Int32 → ob_S → Option ob_S} {K : ob_S → Option ob_S} {up : Prop} [Decidable up] (hg : g < 8) (hi : 9 * r + j < 812) (hy : y = nI q) (hq : q < 2) (hw : w < 2) (hqe : up ↔ q = w) (hnb : nb' (9 * r + j) = nb (9 * r + j)) :
    rX11_weigh_b120 n KB K (nI g) (nI w) (nI (812 * g + 9 * r)) (nI j) y (bset S g nb') = KB (nI g) (nI w) (nI (812 * g + 9 * r)) (nI (j + 1)) (bset S g (upd nb' (9 * r + j) (sp_wv (nb (9 * r + j)) up))) := by
  subst hy
  have c3 : (nI (812 * g + 9 * r + j)).toNatClampNeg = 812 * g + (9 * r + j) := by rw [n_cl (by omega)]; omega
  have i3 : ∀ {β : Type} (x : Option β), (if jq_in (nI (812 * g + 9 * r + j)) 6496 then x else none) = x := fun x => n_ifin (by omega) (by decide)
  have b3 : bset S g nb' 18 (812 * g + (9 * r + j)) = nb (9 * r + j) := by rw [bset_at hi]; exact hnb
  unfold rX11_weigh_b120
  simp only [jq_l, nI_add, i3, c3, b3, weigh_143]
  unfold rX11_weigh_b181
  simp only [jq_l, i3, c3, na1, bset_u2 hi]
  by_cases hx : q = w
  · rw [if_pos ((nI_bit hq hw).mpr hx), wv_up (hqe.mpr hx)]
  · rw [if_neg (fun z => hx ((nI_bit hq hw).mp z)), wv_dn (fun z => hx (hqe.mp z))]
theorem weigh_loop {n g r b H w : Nat} {S : ob_S} {nb : Nat → Int32} {K : ob_S → Option ob_S} (hg : g < 8) (hr : r < 16) (hb : b ≤ 8) (hw : w < 2) (hS : S 15 g = nI b) (hH : nb 808 = nI H) (hH2 : H < 65536) :
    ∀ (k j : Nat), j ≤ b + 1 → b + 1 < j + k → rX11_weigh_l79 n K k (nI g) (nI w) (nI (812 * g + 9 * r)) (nI j) (bset S g (sp_wrow nb r H w j)) = K (bset S g (sp_wrow nb r H w (b + 1))) := by
  intro k
  induction k with
  | zero => intro j h1 h2; exfalso; omega
  | succ k ih =>
    intro j h1 h2
    have c1 : (nI g).toNatClampNeg = g := n_cl (by omega)
    have i1 : ∀ {β : Type} (x : Option β), (if jq_in (nI g) 8 then x else none) = x := fun x => n_ifin hg (by decide)
    have c2 : (nI (812 * g + 808)).toNatClampNeg = 812 * g + 808 := n_cl (by omega)
    have i2 : ∀ {β : Type} (x : Option β), (if jq_in (nI (812 * g + 808)) 6496 then x else none) = x := fun x => n_ifin (by omega) (by decide)
    have b1 : bset S g (sp_wrow nb r H w j) 18 (812 * g + 808) = nI H := by
      rw [bset_at (by decide), sp_wrow, if_neg (by omega)]
      exact hH
    have b15 : bset S g (sp_wrow nb r H w j) 15 g = nI b := by rw [bset_ne (by decide)]; exact hS
    have hnb : sp_wrow nb r H w j (9 * r + j) = nb (9 * r + j) := by rw [sp_wrow, if_neg (by omega)]
    show rX11_weigh_b79 n (rX11_weigh_l79 n K k) K _ _ _ _ _ = _
    unfold rX11_weigh_b79
    simp only [jq_l, i1, c1, b15, nm812, na808, i2, c2, b1]
    by_cases hj : b < j
    · rw [if_pos ((nI_ltI (by omega) (by omega)).mpr hj)]
      have : j = b + 1 := by omega
      rw [this]
    · rw [if_neg (fun q => hj ((nI_ltI (by omega) (by omega)).mp q))]
      have ih' := ih (j + 1) (by omega) (by omega)
      by_cases hj0 : j = 0
      · rw [if_pos ((nI_z (by omega)).mpr hj0)]
        rw [weigh_key (q := 1) (y := 1) (nb := nb) (up := sp_wb H j = w) hg (by omega) rfl (by decide) hw (by rw [hj0, sp_wb, if_pos rfl]) hnb, wrow_succ]
        exact ih'
      · rw [if_neg (fun q => hj0 ((nI_z (by omega)).mp q))]
        have hjj : nI j - 1 = nI (j - 1) := by
          obtain ⟨j', rfl⟩ : ∃ j', j = j' + 1 := ⟨j - 1, by omega⟩
          exact nI_pred j'
        rw [hjj, n_bit (by omega) (by omega)]
        rw [weigh_key (q := H / 2 ^ (j - 1) % 2) (nb := nb) (up := sp_wb H j = w) hg (by omega) rfl (by omega) hw (by rw [sp_wb, if_neg hj0, sp_bit]) hnb, wrow_succ]
        exact ih'
def sp_weigh (a b c : Nat) (nb : Nat → Int32) (p w : Nat) : Nat → Int32 :=
  if ((if sp_sum nb (p % 2 ^ a) (nb 808).toNatClampNeg b < 0 then 0 else 1) = w) ∧ ¬ (if 0 ≤ sp_sum nb (p % 2 ^ a) (nb 808).toNatClampNeg b then sp_sum nb (p % 2 ^ a) (nb 808).toNatClampNeg b else -(sp_sum nb (p % 2 ^ a) (nb 808).toNatClampNeg b)) ≤ nI c then nb
  else sp_wrow nb (p % 2 ^ a) (nb 808).toNatClampNeg w (b + 1)
theorem L_weigh {n g p w a b c : Nat} {S : ob_S} {nb : Nat → Int32} (hn : 20 < n) (hg : g < 8) (hp : p < 64) (hw : w < 2) (hk : gkOK 5 a b c) (hS : gkS S g 5 a b c) (hh : hisOK nb) :
    rX11_weigh n (bset S g nb) (nI g) (nI p) (nI w) = some (bset S g (sp_weigh a b c nb p w)) := by
  obtain ⟨e8, l8⟩ := hh.1.cl (by decide)
  have ha := hk.2.2.2.2.2.2.1 rfl
  have hr : p % 2 ^ a < 16 := Nat.lt_of_lt_of_le (Nat.mod_lt _ (Nat.two_pow_pos a)) (Nat.pow_le_pow_right (by decide) ha.1 : 2 ^ a ≤ 2 ^ 4)
  have hc : rX11_counter n (bset S g nb) (nI g) (nI p) 0 = some (nI (p % 2 ^ a), bset S g nb) := L_counter (n := n) (t := 0) hg hp (by decide) hk hS hh (by decide) (by decide)
  have h58 : rX11_weigh_b58 n (nI g) (nI p) (nI w) (bset S g nb) = some (bset S g (sp_wrow nb (p % 2 ^ a) (nb 808).toNatClampNeg w (b + 1))) := by
    unfold rX11_weigh_b58
    rw [hc, Option.bind_some]
    simp only [jq_l, nm812, nm9, nI_add]
    have hw0 : sp_wrow nb (p % 2 ^ a) (nb 808).toNatClampNeg w 0 = nb := by
      funext i
      unfold sp_wrow
      rw [if_neg (by omega)]
    have hl := weigh_loop (n := n) (w := w) (K := fun SS => rX11_weigh_b188 n SS) hg hr ha.2.2.1 hw (hS.2.2.1 (by decide)) e8 l8 n 0 (by omega) (by omega)
    rw [hw0] at hl
    exact hl
  have c1 : (nI g).toNatClampNeg = g := n_cl (by omega)
  have i1 : ∀ {β : Type} (x : Option β), (if jq_in (nI g) 8 then x else none) = x := fun x => n_ifin hg (by decide)
  have b16 : bset S g nb 16 g = nI c := by rw [bset_ne (by decide)]; exact hS.2.2.2 (by decide)
  unfold rX11_weigh sp_weigh
  rw [L_sum hn hg hp hk hS hh, Option.bind_some]
  simp only [jq_l]
  unfold rX11_weigh_b21 rX11_weigh_b33 rX11_weigh_b43
  simp only [jq_l, i1, c1, b16, h58]
  generalize sp_sum nb (p % 2 ^ a) (nb 808).toNatClampNeg b = sm
  have hw01 : w = 0 ∨ w = 1 := by omega
  by_cases h1 : 0 ≤ sm
  · have h2 : ¬ sm < 0 := Int32.not_lt.mpr h1
    simp only [h1, h2, if_true, if_false]
    rcases hw01 with rfl | rfl
    · simp [tq_0_1]
    · simp only [tq_1_1, if_true, true_and]
      split <;> rename_i h3 <;> simp [h3]
  · have h2 : sm < 0 := Int32.not_le.mp h1
    simp only [h1, h2, if_true, if_false]
    rcases hw01 with rfl | rfl
    · simp only [tq_0_1, if_false, if_true, true_and]
      split <;> rename_i h3 <;> simp [h3]
    · simp [tq_1_1]
def sp_loop (nb : Nat → Int32) (p w : Nat) : Nat → Int32 :=
  if w = 1 then upd nb (3 * p) (if 255 ≤ nb (3 * p) then 255 else nb (3 * p) + 1) else
  if nb (3 * p) = nb (3 * p + 1) then upd (upd nb (3 * p + 2) (if 3 ≤ nb (3 * p + 2) then 3 else nb (3 * p + 2) + 1)) (3 * p) 0 else
  upd (upd (upd nb (3 * p + 2) 0) (3 * p + 1) (nb (3 * p))) (3 * p) 0
theorem L_loop {n g p w : Nat} {S : ob_S} {nb : Nat → Int32} (hg : g < 8) (hp : p < 64) (hw : w < 2) :
    rX11_loop n (bset S g nb) (nI (812 * g + 3 * p)) (nI w) = some (bset S g (sp_loop nb p w)) := by
  have i3 : ∀ (k : Nat), k < 812 → ∀ {β : Type} (x : Option β), (if jq_in (nI (812 * g + k)) 6496 then x else none) = x := fun k hk β x => n_ifin (by omega) (by decide)
  have c3 : ∀ (k : Nat), k < 812 → (nI (812 * g + k)).toNatClampNeg = 812 * g + k := fun k hk => n_cl (by omega)
  have b0 : bset S g (upd nb (3 * p + 2) 0) 18 (812 * g + 3 * p) = nb (3 * p) := by rw [bset_at (by omega), pk_un (by omega)]
  unfold rX11_loop rX11_loop_b36 rX11_loop_b88 rX11_loop_b115 sp_loop
  simp only [jq_l, nI_w1 hw, na1, na2, show 812 * g + 3 * p + 2 = 812 * g + (3 * p + 2) by omega, show 812 * g + 3 * p + 1 = 812 * g + (3 * p + 1) by omega, i3 _ (show 3 * p + 2 < 812 by omega), c3 _ (show 3 * p + 2 < 812 by omega), bset_at (show 3 * p + 2 < 812 by omega), i3 _ (show 3 * p + 1 < 812 by omega), c3 _ (show 3 * p + 1 < 812 by omega), bset_at (show 3 * p + 1 < 812 by omega), i3 _ (show 3 * p < 812 by omega), c3 _ (show 3 * p < 812 by omega), bset_at (show 3 * p < 812 by omega), bset_u2 (show 3 * p + 2 < 812 by omega), bset_u2 (show 3 * p + 1 < 812 by omega), bset_u2 (show 3 * p < 812 by omega), pk_un (show 3 * p ≠ 3 * p + 2 by omega)]
  split
  · split <;> rfl
  · split
    · split <;> rfl
    · rfl
