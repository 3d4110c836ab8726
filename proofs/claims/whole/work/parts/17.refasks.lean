/-! ===== asks: one guesser at one branch ===== -/
def sp_ask (nb : Nat → Int32) (p : Nat) (miss : Int32) : Nat → Int32 := upd (upd nb (448 + p) (nb (448 + p) + miss)) 809 (nb 809 + 1)
def sp_hist (nb : Nat → Int32) (p w : Nat) : Nat → Int32 := upd (upd nb 808 (nI ((2 * (nb 808).toNatClampNeg + w) % 65536))) (384 + p) (nI ((2 * (nb (384 + p)).toNatClampNeg + w) % 65536))
def sp_tn (nb : Nat → Int32) (i w : Nat) : Nat → Int32 := upd nb i (sp_turn (nb i) w)
def sp_cells (kd a b c : Nat) (nb : Nat → Int32) (p w : Nat) (oA oB : Int32) : Nat → Int32 :=
  if kd = 0 then nb else
  if kd = 4 then sp_tn (sp_tn (sp_tn nb (sp_ctr 4 a b c nb p 0) w) (sp_ctr 4 a b c nb p 1) w) (sp_ctr 4 a b c nb p 2) w else
  if kd = 5 then sp_weigh a b c nb p w else if kd = 6 then sp_loop nb p w else
  if kd = 7 then (if oA = oB then nb else sp_tn nb (sp_ctr 7 a b c nb p 0) (if oB = nI w then 1 else 0)) else
  sp_tn nb (sp_ctr kd a b c nb p 0) w
theorem ite_fun {c : Prop} {_i : Decidable c} {f g : Nat → Int32} {i : Nat} {x : Int32} (h1 : f i = x) (h2 : g i = x) : (if c then f else g) i = x := by
  by_cases h : c
  · rw [if_pos h]; exact h1
  · rw [if_neg h]; exact h2
theorem hisOK.of {nb nb' : Nat → Int32} (h : hisOK nb) (h1 : nb' 808 = nb 808) (h2 : ∀ p, p < 64 → nb' (384 + p) = nb (384 + p)) : hisOK nb' := ⟨by rw [h1]; exact h.1, fun p hp => by rw [h2 p hp]; exact h.2 p hp⟩
theorem asks_b339 {n g p w : Nat} {S : ob_S} {nb : Nat → Int32} (hg : g < 8) (hp : p < 64) (hw : w < 2) (hh : hisOK nb) :
    rX11_asks_b339 n (nI p) (nI w) (nI (812 * g)) (bset S g nb) = some (bset S g (sp_hist nb p w)) := by
  obtain ⟨e8, l8⟩ := hh.1.cl (by decide)
  obtain ⟨ep, lp⟩ := (hh.2 p hp).cl (by decide)
  have c2 : (nI (812 * g + 808)).toNatClampNeg = 812 * g + 808 := n_cl (by omega)
  have i2 : ∀ {β : Type} (x : Option β), (if jq_in (nI (812 * g + 808)) 6496 then x else none) = x := fun x => n_ifin (by omega) (by decide)
  have c3 : (nI (812 * g + 384 + p)).toNatClampNeg = 812 * g + (384 + p) := by rw [n_cl (by omega)]; omega
  have i3 : ∀ {β : Type} (x : Option β), (if jq_in (nI (812 * g + 384 + p)) 6496 then x else none) = x := fun x => n_ifin (by omega) (by decide)
  have b1 : bset S g nb 18 (812 * g + 808) = nI (nb 808).toNatClampNeg := by rw [bset_at (by decide)]; exact e8
  unfold rX11_asks_b339 sp_hist
  simp only [jq_l, na808, na384, nI_add, i2, c2, i3, c3, b1, bset_u2 (show 808 < 812 by decide)]
  rw [n_h16 l8 hw, bset_at (by omega), pk_un (by omega), bset_u2 (by omega), ep, n_h16 lp hw, n_cl (by omega)]
theorem ctr_congr {kd a b c p t : Nat} {nb nb' : Nat → Int32} (h8 : nb' 808 = nb 808) (hp : nb' (384 + p) = nb (384 + p)) : sp_ctr kd a b c nb' p t = sp_ctr kd a b c nb p t := by
  unfold sp_ctr
  rw [h8, hp]
theorem gkS.bs {S : ob_S} {g kd a b c : Nat} (h : gkS S g kd a b c) (x : ob_S) (h1 : ∀ k, k = 13 ∨ k = 14 ∨ k = 15 ∨ k = 16 → x k = S k) : gkS x g kd a b c := by
  refine ⟨?_, fun q => ?_, fun q => ?_, fun q => ?_⟩
  · rw [h1 13 (by decide)]; exact h.1
  · rw [h1 14 (by decide)]; exact h.2.1 q
  · rw [h1 15 (by decide)]; exact h.2.2.1 q
  · rw [h1 16 (by decide)]; exact h.2.2.2 q
theorem L_ctr0 {n g p kd a b c : Nat} {S : ob_S} {nb : Nat → Int32} (hg : g < 8) (hp : p < 64) (hk : gkOK kd a b c) (hS : gkS S g kd a b c) (hh : hisOK nb) (h0 : kd ≠ 0) (h6 : kd ≠ 6) :
    rX11_counter n (bset S g nb) (nI g) (nI p) 0 = some (nI (sp_ctr kd a b c nb p 0), bset S g nb) := L_counter (n := n) (t := 0) hg hp (by decide) hk hS hh h0 h6
theorem asks_b324 {n g p w kd a b c : Nat} {S : ob_S} {nb : Nat → Int32} (hg : g < 8) (hp : p < 64) (hw : w < 2) (hk : gkOK kd a b c) (hS : gkS S g kd a b c) (hh : hisOK nb) (h0 : kd ≠ 0) (h6 : kd ≠ 6) :
    rX11_asks_b324 n (nI g) (nI p) (nI w) (nI (812 * g)) (bset S g nb) = some (bset S g (sp_hist (sp_tn nb (sp_ctr kd a b c nb p 0) w) p w)) := by
  have hl := ctr_lt (nb := nb) (p := p) (t := 0) hk h0 h6 (by decide)
  unfold rX11_asks_b324
  rw [L_ctr0 hg hp hk hS hh h0 h6, Option.bind_some]
  generalize sp_ctr kd a b c nb p 0 = r at hl ⊢
  simp only [nI_add]
  rw [L_turn hg (by omega) hw, Option.bind_some]
  exact asks_b339 hg hp hw (hh.of (pk_un (by omega)) (fun q hq => pk_un (by omega)))
theorem asks_loop {n g p w a b c : Nat} {S : ob_S} {nb : Nat → Int32} {K : Int32 → Int32 → Int32 → ob_S → Option ob_S} (hg : g < 8) (hp : p < 64) (hw : w < 2) (hk : gkOK 4 a b c) (hS : gkS S g 4 a b c) (hh : hisOK nb) (v : Nat → Nat → Int32) (hv0 : v 0 = nb) (hv : ∀ t, t < 3 → v (t + 1) = sp_tn (v t) (sp_ctr 4 a b c nb p t) w) :
    ∀ (k t : Nat), t ≤ 3 → 3 < t + k → v t 808 = nb 808 → (∀ q, q < 64 → v t (384 + q) = nb (384 + q)) → rX11_asks_l234 n K k (nI g) (nI p) (nI w) (nI (812 * g)) (nI t) (bset S g (v t)) = K (nI p) (nI w) (nI (812 * g)) (bset S g (v 3)) := by
  intro k
  induction k with
  | zero => intro t h1 h2; exfalso; omega
  | succ k ih =>
    intro t h1 h2 h8 hq
    show rX11_asks_b234 n (rX11_asks_l234 n K k) K _ _ _ _ _ _ = _
    unfold rX11_asks_b234
    by_cases ht : 3 ≤ t
    · rw [if_pos (show (3 : Int32) ≤ nI t from (nI_leI (by decide) (by omega)).mpr ht)]
      have : t = 3 := by omega
      rw [this]
    · rw [if_neg (show ¬ (3 : Int32) ≤ nI t from fun q => ht ((nI_leI (by decide) (by omega)).mp q))]
      have hc := L_counter (n := n) (t := t) (nb := v t) hg hp (by omega) hk hS (hh.of h8 hq) (by decide) (by decide)
      rw [ctr_congr h8 (hq p hp)] at hc
      have hl := ctr_lt (nb := nb) (p := p) (t := t) hk (by decide) (by decide) (by omega)
      have hvt := hv t (by omega)
      rw [hc, Option.bind_some]
      have ih' := ih (t + 1) (by omega) (by omega) (by rw [hvt, sp_tn, pk_un (by omega)]; exact h8) (fun q hq2 => by rw [hvt, sp_tn, pk_un (by omega)]; exact hq q hq2)
      rw [hvt] at ih'
      unfold sp_tn at ih'
      generalize sp_ctr 4 a b c nb p t = r at hl ih' ⊢
      simp only [nI_add]
      rw [L_turn hg (by omega) hw, Option.bind_some]
      simp only [jq_l, na1]
      exact ih'
theorem asks_b318 {n g p w w' r : Nat} {y : Int32} {S : ob_S} {nb : Nat → Int32} (hg : g < 8) (hp : p < 64) (hw : w < 2) (hw' : w' < 2) (hy : y = nI w') (hr : r < 384) (hh : hisOK nb) :
    rX11_asks_b318 n (nI p) (nI w) (nI (812 * g)) (nI (812 * g + r)) y (bset S g nb) = some (bset S g (sp_hist (sp_tn nb r w') p w)) := by
  subst hy
  unfold rX11_asks_b318
  rw [L_turn hg (by omega) hw', Option.bind_some]
  exact asks_b339 hg hp hw (hh.of (pk_un (by omega)) (fun q hq => pk_un (by omega)))
set_option maxHeartbeats 4000000 in
theorem asks_b157 {n g p w kd a b c : Nat} {S : ob_S} {nb : Nat → Int32} {oA oB miss : Int32} (hn : 100 < n) (hg : g < 8) (hp : p < 64) (hw : w < 2) (hk : gkOK kd a b c) (hS : gkS S g kd a b c) (hh : hisOK nb) :
    rX11_asks_b157 n (nI g) (nI p) (nI w) (nI (812 * g)) oA oB (nI (812 * g + (448 + p))) (nb (448 + p)) miss (bset S g nb) = some (bset S g (sp_hist (sp_cells kd a b c (sp_ask nb p miss) p w oA oB) p w)) := by
  have c1 : (nI g).toNatClampNeg = g := n_cl (by omega)
  have i1 : ∀ {β : Type} (x : Option β), (if jq_in (nI g) 8 then x else none) = x := fun x => n_ifin hg (by decide)
  have c2 : (nI (812 * g + 809)).toNatClampNeg = 812 * g + 809 := n_cl (by omega)
  have i2 : ∀ {β : Type} (x : Option β), (if jq_in (nI (812 * g + 809)) 6496 then x else none) = x := fun x => n_ifin (by omega) (by decide)
  have c3 : (nI (812 * g + (448 + p))).toNatClampNeg = 812 * g + (448 + p) := n_cl (by omega)
  have i3 : ∀ {β : Type} (x : Option β), (if jq_in (nI (812 * g + (448 + p))) 6496 then x else none) = x := fun x => n_ifin (by omega) (by decide)
  have b1 : bset S g (upd nb (448 + p) (nb (448 + p) + miss)) 18 (812 * g + 809) = nb 809 := by rw [bset_at (by decide), pk_un (by omega)]
  unfold rX11_asks_b157
  simp only [jq_l, na809, i1, c1, i2, c2, i3, c3, bset_u2 (show 448 + p < 812 by omega), b1, bset_u2 (show 809 < 812 by decide)]
  have hb : ∀ x, bset S g x 13 g = nI kd := fun x => by rw [bset_ne (by decide)]; exact hS.1
  rw [show upd (upd nb (448 + p) (nb (448 + p) + miss)) 809 (nb 809 + 1) = sp_ask nb p miss from rfl]
  have hh2 : hisOK (sp_ask nb p miss) := hh.of (by rw [sp_ask, pk_un (by decide), pk_un (by omega)]) (fun q hq => by rw [sp_ask, pk_un (by omega), pk_un (by omega)])
  generalize sp_ask nb p miss = nb at hh2 ⊢
  simp only [hb]
  unfold sp_cells
  have h8 := hk.1
  rcases (show kd = 0 ∨ kd = 1 ∨ kd = 2 ∨ kd = 3 ∨ kd = 4 ∨ kd = 5 ∨ kd = 6 ∨ kd = 7 by omega) with rfl | rfl | rfl | rfl | rfl | rfl | rfl | rfl
  · simp only [tq_0_0, if_true]
    exact asks_b339 hg hp hw hh2
  · simp only [tq_1_0, tq_1_1, if_true, if_false, Nat.reduceEqDiff]
    exact asks_b324 hg hp hw hk hS hh2 (by decide) (by decide)
  · simp only [tq_2_0, tq_2_1, tq_2_2, if_true, if_false, Nat.reduceEqDiff]
    exact asks_b324 hg hp hw hk hS hh2 (by decide) (by decide)
  · simp only [tq_3_0, tq_3_1, tq_3_2, tq_3_3, if_true, if_false, Nat.reduceEqDiff]
    exact asks_b324 hg hp hw hk hS hh2 (by decide) (by decide)
  · simp only [tq_4_0, tq_4_1, tq_4_2, tq_4_3, tq_4_4, if_true, if_false, Nat.reduceEqDiff]
    have hl := asks_loop (n := n) (K := fun w2 w3 w4 SS => rX11_asks_b262 n w2 w3 w4 SS) hg hp hw hk hS hh2 (fun t => if t = 0 then nb else if t = 1 then sp_tn nb (sp_ctr 4 a b c nb p 0) w else if t = 2 then sp_tn (sp_tn nb (sp_ctr 4 a b c nb p 0) w) (sp_ctr 4 a b c nb p 1) w else sp_tn (sp_tn (sp_tn nb (sp_ctr 4 a b c nb p 0) w) (sp_ctr 4 a b c nb p 1) w) (sp_ctr 4 a b c nb p 2) w) rfl (by
      intro t ht
      rcases (show t = 0 ∨ t = 1 ∨ t = 2 by omega) with rfl | rfl | rfl <;> rfl) n 0 (by omega) (by omega) rfl (fun _ _ => rfl)
    refine Eq.trans hl ?_
    unfold rX11_asks_b262
    have l0 := ctr_lt (nb := nb) (p := p) (t := 0) hk (by decide) (by decide) (by decide)
    have l1 := ctr_lt (nb := nb) (p := p) (t := 1) hk (by decide) (by decide) (by decide)
    have l2 := ctr_lt (nb := nb) (p := p) (t := 2) hk (by decide) (by decide) (by decide)
    refine asks_b339 hg hp hw (hh2.of ?_ (fun q hq => ?_))
    · show sp_tn (sp_tn (sp_tn nb _ w) _ w) _ w 808 = nb 808
      rw [sp_tn, pk_un (by omega), sp_tn, pk_un (by omega), sp_tn, pk_un (by omega)]
    · show sp_tn (sp_tn (sp_tn nb _ w) _ w) _ w (384 + q) = nb (384 + q)
      rw [sp_tn, pk_un (by omega), sp_tn, pk_un (by omega), sp_tn, pk_un (by omega)]
  · simp only [tq_5_0, tq_5_1, tq_5_2, tq_5_3, tq_5_4, tq_5_5, if_true, if_false, Nat.reduceEqDiff]
    rw [L_weigh (by omega) hg hp hw hk hS hh2, Option.bind_some]
    have ha := hk.2.2.2.2.2.2.1 rfl
    have hr : p % 2 ^ a < 16 := Nat.lt_of_lt_of_le (Nat.mod_lt _ (Nat.two_pow_pos a)) (Nat.pow_le_pow_right (by decide) ha.1 : 2 ^ a ≤ 2 ^ 4)
    have key : ∀ i, 384 ≤ i → sp_weigh a b c nb p w i = nb i := by
      intro i hi
      unfold sp_weigh
      exact ite_fun rfl (by rw [sp_wrow, if_neg (by omega)])
    exact asks_b339 hg hp hw (hh2.of (key 808 (by decide)) (fun q hq => key (384 + q) (by omega)))
  · simp only [tq_6_0, tq_6_1, tq_6_2, tq_6_3, tq_6_4, tq_6_5, tq_6_6, if_true, if_false, Nat.reduceEqDiff, nm3, nI_add]
    rw [L_loop hg hp hw, Option.bind_some]
    have key : ∀ i, 384 ≤ i → sp_loop nb p w i = nb i := by
      intro i hi
      unfold sp_loop
      split
      · rw [pk_un (by omega)]
      · split
        · rw [pk_un (by omega), pk_un (by omega)]
        · rw [pk_un (by omega), pk_un (by omega), pk_un (by omega)]
    exact asks_b339 hg hp hw (hh2.of (key 808 (by decide)) (fun q hq => key (384 + q) (by omega)))
  · simp only [tq_7_0, tq_7_1, tq_7_2, tq_7_3, tq_7_4, tq_7_5, tq_7_6, tq_7_7, if_true, if_false, Nat.reduceEqDiff]
    by_cases ho : oA = oB
    · rw [if_pos ho, if_pos ho]
      exact asks_b339 hg hp hw hh2
    · rw [if_neg ho, if_neg ho]
      have hl := ctr_lt (nb := nb) (p := p) (t := 0) hk (by decide) (by decide) (by decide)
      rw [L_ctr0 hg hp hk hS hh2 (by decide) (by decide), Option.bind_some]
      generalize sp_ctr 7 a b c nb p 0 = r at hl ⊢
      simp only [nI_add]
      by_cases hb2 : oB = nI w
      · rw [if_pos hb2, if_pos hb2]
        exact asks_b318 hg hp hw (by decide) rfl hl hh2
      · rw [if_neg hb2, if_neg hb2]
        exact asks_b318 hg hp hw (by decide) rfl hl hh2
/-- kinds that can clash -/
def sp_cl (kd : Nat) : Bool := kd == 1 || kd == 2 || kd == 3 || kd == 5 || kd == 7
theorem L_clashes1 {n g kd : Nat} {S : ob_S} (hg : g < 8) (h8 : kd < 8) (hS : S 13 g = nI kd) : rX11_clashes1 n S (nI g) = some ((if sp_cl kd = true then 1 else 0), S) := by
  have c1 : (nI g).toNatClampNeg = g := n_cl (by omega)
  have i1 : ∀ {β : Type} (x : Option β), (if jq_in (nI g) 8 then x else none) = x := fun x => n_ifin hg (by decide)
  unfold rX11_clashes1 rX11_clashes1_b33 rX11_clashes1_b38
  simp only [jq_l, i1, c1, hS]
  rcases (show kd = 0 ∨ kd = 1 ∨ kd = 2 ∨ kd = 3 ∨ kd = 4 ∨ kd = 5 ∨ kd = 6 ∨ kd = 7 by omega) with rfl | rfl | rfl | rfl | rfl | rfl | rfl | rfl
  · simp [tq_0_1, tq_0_2, tq_0_3, tq_0_5, tq_0_7, sp_cl]
  · simp [tq_1_1, tq_1_2, tq_1_3, tq_1_5, tq_1_7, sp_cl]
  · simp [tq_2_1, tq_2_2, tq_2_3, tq_2_5, tq_2_7, sp_cl]
  · simp [tq_3_1, tq_3_2, tq_3_3, tq_3_5, tq_3_7, sp_cl]
  · simp [tq_4_1, tq_4_2, tq_4_3, tq_4_5, tq_4_7, sp_cl]
  · simp [tq_5_1, tq_5_2, tq_5_3, tq_5_5, tq_5_7, sp_cl]
  · simp [tq_6_1, tq_6_2, tq_6_3, tq_6_5, tq_6_7, sp_cl]
  · simp [tq_7_1, tq_7_2, tq_7_3, tq_7_5, tq_7_7, sp_cl]
theorem bset_u21 {S : ob_S} {g j i : Nat} {nb : Nat → Int32} {x : Int32} (hj : j ≠ 18) : u2 (bset S g nb) j i x = bset (u2 S j i x) g nb := by
  funext k i'
  by_cases hk : k = 18
  · subst hk
    rw [u2_ne (Ne.symm hj)]
    unfold bset
    rw [us_eq, us_eq, u2_ne (Ne.symm hj)]
  · by_cases hkj : k = j
    · subst hkj
      rw [bset_ne hk, u2_eq, u2_eq, bset_ne hk]
    · rw [bset_ne hk, u2_ne hkj, u2_ne hkj, bset_ne hk]
theorem ctr0_lt {kd a b c p : Nat} {nb : Nat → Int32} (hk : gkOK kd a b c) (hc : sp_cl kd = true) : sp_ctr kd a b c nb p 0 < 256 := by
  obtain ⟨k8, -, k1, k2, k3, k4, k5, -, k7⟩ := hk
  have key : ∀ x m : Nat, m ≤ 8 → x % 2 ^ m < 256 := fun x m hm => Nat.lt_of_lt_of_le (Nat.mod_lt _ (Nat.two_pow_pos m)) (Nat.pow_le_pow_right (by decide) hm : 2 ^ m ≤ 2 ^ 8)
  have h5 : kd = 1 ∨ kd = 2 ∨ kd = 3 ∨ kd = 5 ∨ kd = 7 := by simp [sp_cl] at hc; omega
  unfold sp_ctr
  rcases h5 with rfl | rfl | rfl | rfl | rfl
  · have := key p a (by omega); simp; omega
  · have := key (p ^^^ (nb 808).toNatClampNeg % 2 ^ b) a (by omega); simp; omega
  · have := key ((nb (384 + p)).toNatClampNeg % 2 ^ b ^^^ c * p) a (by omega); simp; omega
  · have := key p a (by omega); simp; omega
  · have := key p c (by omega); simp; omega
/-- the block behind a clash -/
def sp_c1 (kd a b c : Nat) (nb : Nat → Int32) (p : Nat) : Nat → Int32 := if sp_cl kd = true then sp_clash nb (sp_ctr kd a b c nb p 0) p else nb
/-- what it says at a branch -/
def sp_say (kd a b c : Nat) (nb : Nat → Int32) (hint opv : Int32) (p : Nat) (oA oB : Int32) : Int32 := if hint < 0 then sp_own kd a b c nb opv p oA oB else hint
theorem clash_far {nb : Nat → Int32} {s p i : Nat} (hs : s < 256) (hi : i < 512 ∨ i = 808 ∨ i = 809) (hm : isN (nb 811) 41) : sp_clash nb s p i = nb i := by
  obtain ⟨m, hm, h11⟩ := hm
  unfold sp_clash
  refine ite_fun (pk_un (by omega)) ?_
  unfold sp_keep
  have h1 : upd (upd nb (512 + s) (nI p)) 810 (nb 810 + 1) i = nb i := by rw [pk_un (by omega), pk_un (by omega)]
  have h2 : upd (upd nb (512 + s) (nI p)) 810 (nb 810 + 1) 811 = nI m := by rw [pk_un (by decide), pk_un (by omega)]; exact h11
  refine ite_fun h1 ?_
  rw [h2]
  by_cases h40 : (40 : Int32) ≤ nI m
  · rw [if_pos h40]
    exact h1
  · have hm40 : m < 40 := Nat.not_le.mp fun q => h40 ((nI_leI (a := 40) (by decide) (by omega)).mpr q)
    rw [if_neg h40, pk_un (by omega), pk_un]
    · exact h1
    · rw [n_cl (by omega)]
      omega
theorem c1_far {kd a b c p i : Nat} {nb : Nat → Int32} (hk : gkOK kd a b c) (hi : i < 512 ∨ i = 808 ∨ i = 809) (hm : isN (nb 811) 41) : sp_c1 kd a b c nb p i = nb i := by
  unfold sp_c1
  by_cases h : sp_cl kd = true
  · rw [if_pos h]
    exact clash_far (ctr0_lt hk h) hi hm
  · rw [if_neg h]
set_option maxHeartbeats 4000000 in
theorem L_asks {n g p w kd a b c : Nat} {S : ob_S} {nb : Nat → Int32} (hn : 100 < n) (hg : g < 8) (hp : p < 64) (hw : w < 2) (hk : gkOK kd a b c) (hS : gkS S g kd a b c) (hab : kd = 7 → a < 8 ∧ b < 8) (hh : hisOK nb) (h11 : isN (nb 811) 41) {oA oB : Int32} (hoA : oA = if kd = 7 then S 21 a else 0) (hoB : oB = if kd = 7 then S 21 b else 0) {gu : Int32} (hgu : gu = sp_say kd a b c (sp_c1 kd a b c nb p) (S 17 (64 * g + p)) (S 3 p) p oA oB) :
    rX11_asks n (bset S g nb) (nI g) (nI p) (nI w) = some (bset (u2 S 21 g gu) g (sp_hist (sp_cells kd a b c (sp_ask (sp_c1 kd a b c nb p) p (if gu = nI w then 0 else 1)) p w oA oB) p w)) := by
  have c1 : (nI g).toNatClampNeg = g := n_cl (by omega)
  have i1 : ∀ {β : Type} (x : Option β), (if jq_in (nI g) 8 then x else none) = x := fun x => n_ifin hg (by decide)
  have hcl := L_clashes1 (n := n) (S := bset S g nb) hg hk.1 (by rw [bset_ne (by decide)]; exact hS.1)
  have hh1 : hisOK (sp_c1 kd a b c nb p) := hh.of (c1_far hk (by omega) h11) (fun q hq => c1_far hk (by omega) h11)
  have hcl2 : sp_cl kd = true → rX11_clash n (bset S g nb) (nI g) (nI p) = some (bset S g (sp_c1 kd a b c nb p)) := by
    intro hc
    unfold sp_c1
    rw [if_pos hc]
    exact L_clash hn hg hp hk hS hh (by rintro rfl; cases hc) (by rintro rfl; cases hc) (by rintro rfl; cases hc) h11 (ctr0_lt hk hc)
  have hcl3 : ¬ sp_cl kd = true → sp_c1 kd a b c nb p = nb := by
    intro hc
    unfold sp_c1
    rw [if_neg hc]
  have main : rX11_asks_b21 n (nI g) (nI p) (nI w) (nI (812 * g)) (bset S g (sp_c1 kd a b c nb p)) = some (bset (u2 S 21 g gu) g (sp_hist (sp_cells kd a b c (sp_ask (sp_c1 kd a b c nb p) p (if gu = nI w then 0 else 1)) p w oA oB) p w)) := by
    generalize sp_c1 kd a b c nb p = nb1 at hh1 hgu ⊢
    have h115 : rX11_asks_b115 n (nI g) (nI p) (nI w) (nI (812 * g)) oA oB (nI g) gu (bset S g nb1) = some (bset (u2 S 21 g gu) g (sp_hist (sp_cells kd a b c (sp_ask nb1 p (if gu = nI w then 0 else 1)) p w oA oB) p w)) := by
      unfold rX11_asks_b115
      have b21 : bset (u2 S 21 g gu) g nb1 21 g = gu := by rw [bset_ne (by decide), u2_at]
      simp only [jq_l, i1, c1, bset_u21 (show (21 : Nat) ≠ 18 by decide), b21]
      have hS2 : gkS (u2 S 21 g gu) g kd a b c := hS.bs _ (fun k hk => u2_ne (by omega))
      have c3 : (nI (812 * g + 448 + p)).toNatClampNeg = 812 * g + (448 + p) := by rw [n_cl (by omega)]; omega
      have i3 : ∀ {β : Type} (x : Option β), (if jq_in (nI (812 * g + 448 + p)) 6496 then x else none) = x := fun x => n_ifin (by omega) (by decide)
      have b3 : bset (u2 S 21 g gu) g nb1 18 (812 * g + (448 + p)) = nb1 (448 + p) := bset_at (by omega)
      unfold rX11_asks_b131
      simp only [jq_l, na448, nI_add, i3, c3, b3]
      have hidx : 812 * g + 448 + p = 812 * g + (448 + p) := by omega
      rw [hidx]
      by_cases hq : gu = nI w
      · rw [if_pos hq, if_pos hq, if_pos trivial]
        exact asks_b157 hn hg hp hw hk hS2 hh1
      · rw [if_neg hq, if_neg hq, if_neg (by decide)]
        exact asks_b157 hn hg hp hw hk hS2 hh1
    have h75 : rX11_asks_b75 n (nI g) (nI p) (nI w) (nI (812 * g)) oA oB (bset S g nb1) = some (bset (u2 S 21 g gu) g (sp_hist (sp_cells kd a b c (sp_ask nb1 p (if gu = nI w then 0 else 1)) p w oA oB) p w)) := by
      unfold rX11_asks_b75
      have c2 : (nI (64 * g + p)).toNatClampNeg = 64 * g + p := n_cl (by omega)
      have i2 : ∀ {β : Type} (x : Option β), (if jq_in (nI (64 * g + p)) 512 then x else none) = x := fun x => n_ifin (by omega) (by decide)
      have b17 : bset S g nb1 17 (64 * g + p) = S 17 (64 * g + p) := by rw [bset_ne (by decide)]
      simp only [jq_l, nm64, nI_add, i2, c2, b17]
      unfold sp_say at hgu
      by_cases hq : S 17 (64 * g + p) < 0
      · rw [if_pos hq] at hgu ⊢
        rw [L_own (by omega) hg hp hk hS hh1, Option.bind_some, ← hgu]
        exact h115
      · rw [if_neg hq] at hgu ⊢
        rw [← hgu]
        exact h115
    have b13 : bset S g nb1 13 g = nI kd := by rw [bset_ne (by decide)]; exact hS.1
    unfold rX11_asks_b21
    simp only [jq_l, i1, c1, b13]
    by_cases h7 : kd = 7
    · subst h7
      obtain ⟨ha, hb⟩ := hab rfl
      have b14 : bset S g nb1 14 g = nI a := by rw [bset_ne (by decide)]; exact hS.2.1 (by decide)
      have b15 : bset S g nb1 15 g = nI b := by rw [bset_ne (by decide)]; exact hS.2.2.1 (by decide)
      have ia : ∀ {β : Type} (x : Option β), (if jq_in (nI a) 8 then x else none) = x := fun x => n_ifin ha (by decide)
      have ib : ∀ {β : Type} (x : Option β), (if jq_in (nI b) 8 then x else none) = x := fun x => n_ifin hb (by decide)
      have ca : (nI a).toNatClampNeg = a := n_cl (by omega)
      have cb : (nI b).toNatClampNeg = b := n_cl (by omega)
      have d1 : ∀ j, bset S g nb1 21 j = S 21 j := fun j => by rw [bset_ne (by decide)]
      rw [if_pos rfl] at hoA hoB
      unfold rX11_asks_b47
      simp only [jq_l, i1, c1, b13, tq_7_7, if_true, b14, b15, ia, ib, ca, cb, d1]
      rw [← hoA, ← hoB]
      exact h75
    · have hne : ¬ nI kd = 7 := fun q => h7 ((nI_eq (b := 7) (by have := hk.1; omega) (by decide)).mp q)
      rw [if_neg h7] at hoA hoB
      unfold rX11_asks_b47
      simp only [jq_l, i1, c1, b13, if_neg hne]
      rw [hoA, hoB] at h75
      rw [hoA, hoB]
      exact h75
  unfold rX11_asks
  rw [hcl, jq_l, Option.bind_some]
  simp only [nm812]
  by_cases hc : sp_cl kd = true
  · rw [if_pos hc, if_neg (by decide), hcl2 hc, Option.bind_some]
    exact main
  · rw [if_neg hc, if_pos rfl]
    rw [hcl3 hc] at main ⊢
    exact main
