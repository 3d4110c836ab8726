/-! ===== take, fresh, back ===== -/
section TAKE
variable {n q p : Nat} {h h' h0 : jq_H} {S T : ob_S}
theorem tk_other {nc ns nc' ns' : Nat} (O : OF q 6 3 (sh_L nc ns) h0 S h) (P : OB h0 p 3 (sh_L nc' ns') T) (hd : q + 6 ≤ p ∨ p + 6 ≤ q) : OB h p 3 (sh_L nc' ns') T :=
  P.kept (ok_L _ _) (by decide) (fun y q1 q2 => O.2.2 y (by omega))
theorem cp_one {nc ns nc' ns' k o m o' m' l : Nat} (O : OF q 6 3 (sh_L nc ns) h0 S h) (P : OB h p 3 (sh_L nc' ns') T) (hk : (sh_L nc ns)[k]? = some (1, o, m)) (hk' : (sh_L nc' ns')[k]? = some (1, o', m')) (hl : l ≤ m) (hl' : l ≤ m') (hl2 : l < 2 ^ 31) : ∃ h', jq_cpy h (p + o') 0 (q + o) 0 (nI l) = some h' ∧ OF q 6 3 (sh_L nc ns) h0 (us S k (va_cpy (T k) (S k) 0 0 l)) h' := by
  refine ⟨_, ?_, ob_putf (t := 0) O (ok_L _ _) hk⟩
  unfold jq_cpy
  rw [P.2 k 0 o' m' hk', O.1.2 k 0 o m hk]
  simp only
  have e0 : (0 : Int32).toNatClampNeg = 0 := by decide
  rw [e0, n_cl hl2]
  rw [if_pos ⟨trivial, trivial, by decide, by decide, nI_pos hl2, by omega, by omega⟩]
theorem cp_at {f g : Nat → Int32} {l i : Nat} (hi : i < l) : va_cpy f g 0 0 l i = f i := by
  unfold va_cpy
  rw [if_pos (by omega)]
  congr 1
  omega
theorem min_same (x : Int32) : (if x < x then x else x) = x := by
  split <;> rfl
set_option maxHeartbeats 1000000 in
theorem X_take {kd a b c : Nat} {nb : Nat → Int32} (hk : gkOK kd a b c) (O : OB h q 3 (sh_L (gk_nc kd a b c) (gk_ns kd a c)) S) (P : OB h p 3 (sh_L (gk_nc kd a b c) (gk_ns kd a c)) T) (hd : q + 6 ≤ p ∨ p + 6 ≤ q) (L : LR kd a b c nb T) :
    ∃ h' S', X4_take n h q p = some h' ∧ OF q 6 3 (sh_L (gk_nc kd a b c) (gk_ns kd a c)) h S' h' ∧ LR kd a b c nb S' := by
  have hnc := nc_lt hk
  have hns := gk_ns_le hk
  have O0 := O.f (w := 6)
  have rp : ∀ {h1 : jq_H} {S1 : ob_S}, OF q 6 3 (sh_L (gk_nc kd a b c) (gk_ns kd a c)) h S1 h1 → OB h1 p 3 (sh_L (gk_nc kd a b c) (gk_ns kd a c)) T := fun z => tk_other z P hd
  obtain ⟨h1, e1, O1⟩ := cp_one (k := 0) (l := gk_nc kd a b c) O0 P rfl rfl (Nat.le_refl _) (Nat.le_refl _) (by omega)
  obtain ⟨h2, e2, O2⟩ := cp_one (k := 1) (l := gk_ns kd a c) O1 (rp O1) rfl rfl (Nat.le_refl _) (Nat.le_refl _) (by omega)
  obtain ⟨h3, e3, O3⟩ := cp_one (k := 2) (l := 64) O2 (rp O2) rfl rfl (Nat.le_refl _) (Nat.le_refl _) (by decide)
  obtain ⟨h4, e4, O4⟩ := cp_one (k := 3) (l := 64) O3 (rp O3) rfl rfl (Nat.le_refl _) (Nat.le_refl _) (by decide)
  obtain ⟨h5, e5, O5⟩ := cp_one (k := 4) (l := 40) O4 (rp O4) rfl rfl (Nat.le_refl _) (Nat.le_refl _) (by decide)
  obtain ⟨h6, e6, O6⟩ := ob_pI O5 (ok_L _ _) (by decide) (k := 5) rfl (show 3 ∈ [3] by decide) (x := T 5 0)
  obtain ⟨h7, e7, O7⟩ := ob_pI O6 (ok_L _ _) (by decide) (k := 6) rfl (show 3 ∈ [3] by decide) (x := T 6 0)
  obtain ⟨h8, e8, O8⟩ := ob_pI O7 (ok_L _ _) (by decide) (k := 7) rfl (show 3 ∈ [3] by decide) (x := T 7 0)
  obtain ⟨h9, e9, O9⟩ := ob_pI O8 (ok_L _ _) (by decide) (k := 8) rfl (show 3 ∈ [3] by decide) (x := T 8 0)
  obtain ⟨hA, eA, OA⟩ := ob_pI O9 (ok_L _ _) (by decide) (k := 9) rfl (show 3 ∈ [3] by decide) (x := T 9 0)
  refine ⟨hA, _, ?_, OA, ?_⟩
  · unfold X4_take
    rw [ob_gR (t := 0) P (k := 0) (cs := [3]) rfl (by decide), Option.bind_some, ob_gR (t := 0) O (k := 0) (cs := [3]) rfl (by decide), Option.bind_some, Option.bind_some, ob_len (t := 0) O (k := 0) rfl (by decide), Option.bind_some, Option.bind_some, ob_len (t := 0) P (k := 0) rfl (by decide), Option.bind_some]
    simp only [jq_l, min_same]
    rw [show Int32.ofNat (gk_nc kd a b c) = nI (gk_nc kd a b c) from rfl, e1, Option.bind_some]
    rw [ob_gR (t := 0) (rp O1) (k := 1) (cs := [3]) rfl (by decide), Option.bind_some, ob_gR (t := 0) O1.1 (k := 1) (cs := [3]) rfl (by decide), Option.bind_some, Option.bind_some, ob_len (t := 0) O1.1 (k := 1) rfl (by decide), Option.bind_some, Option.bind_some, ob_len (t := 0) (rp O1) (k := 1) rfl (by decide), Option.bind_some]
    simp only [min_same]
    rw [show Int32.ofNat (gk_ns kd a c) = nI (gk_ns kd a c) from rfl, e2, Option.bind_some]
    rw [ob_gR (t := 0) (rp O2) (k := 2) (cs := [3]) rfl (by decide), Option.bind_some, ob_gR (t := 0) O2.1 (k := 2) (cs := [3]) rfl (by decide), Option.bind_some, show (64 : Int32) = nI 64 from rfl, e3, Option.bind_some]
    rw [ob_gR (t := 0) (rp O3) (k := 3) (cs := [3]) rfl (by decide), Option.bind_some, ob_gR (t := 0) O3.1 (k := 3) (cs := [3]) rfl (by decide), Option.bind_some, e4, Option.bind_some]
    rw [ob_gR (t := 0) (rp O4) (k := 4) (cs := [3]) rfl (by decide), Option.bind_some, ob_gR (t := 0) O4.1 (k := 4) (cs := [3]) rfl (by decide), Option.bind_some, show (40 : Int32) = nI 40 from rfl, e5, Option.bind_some]
    rw [ob_gI (rp O5) (k := 5) (cs := [3]) rfl (by decide), Option.bind_some, e6, Option.bind_some]
    rw [ob_gI (rp O6) (k := 6) (cs := [3]) rfl (by decide), Option.bind_some, e7, Option.bind_some]
    rw [ob_gI (rp O7) (k := 7) (cs := [3]) rfl (by decide), Option.bind_some, e8, Option.bind_some]
    rw [ob_gI (rp O8) (k := 8) (cs := [3]) rfl (by decide), Option.bind_some, e9, Option.bind_some]
    rw [ob_gI (rp O9) (k := 9) (cs := [3]) rfl (by decide), Option.bind_some, eA, Option.bind_some]
  · obtain ⟨r0, r1, r2, r3, r4, r5, r6, r7, r8, r9⟩ := L
    refine ⟨fun j hj => ?_, fun s hs => ?_, fun p hp => ?_, fun p hp => ?_, fun i hi => ?_, ?_, ?_, ?_, ?_, ?_⟩
    · rw [← r0 j hj]
      rw [u2_ne (by decide), u2_ne (by decide), u2_ne (by decide), u2_ne (by decide), u2_ne (by decide), us_ne (by decide), us_ne (by decide), us_ne (by decide), us_ne (by decide), us_eq]
      exact cp_at hj
    · rw [← r1 s hs]
      rw [u2_ne (by decide), u2_ne (by decide), u2_ne (by decide), u2_ne (by decide), u2_ne (by decide), us_ne (by decide), us_ne (by decide), us_ne (by decide), us_eq]
      exact cp_at hs
    · rw [← r2 p hp]
      rw [u2_ne (by decide), u2_ne (by decide), u2_ne (by decide), u2_ne (by decide), u2_ne (by decide), us_ne (by decide), us_ne (by decide), us_eq]
      exact cp_at hp
    · rw [← r3 p hp]
      rw [u2_ne (by decide), u2_ne (by decide), u2_ne (by decide), u2_ne (by decide), u2_ne (by decide), us_ne (by decide), us_eq]
      exact cp_at hp
    · rw [← r4 i hi]
      rw [u2_ne (by decide), u2_ne (by decide), u2_ne (by decide), u2_ne (by decide), u2_ne (by decide), us_eq]
      exact cp_at hi
    · rw [u2_ne (by decide), u2_ne (by decide), u2_ne (by decide), u2_ne (by decide), u2_at]; exact r5
    · rw [u2_ne (by decide), u2_ne (by decide), u2_ne (by decide), u2_at]; exact r6
    · rw [u2_ne (by decide), u2_ne (by decide), u2_at]; exact r7
    · rw [u2_ne (by decide), u2_at]; exact r8
    · rw [u2_at]; exact r9
end TAKE
/-- a range of a block is filled -/
def gf (nb v : Nat → Int32) (j e : Nat) : Nat → Int32 := fun i => if j ≤ i ∧ i < e then v i else nb i
theorem gf_end {nb v : Nat → Int32} {j e : Nat} (h : e ≤ j) : gf nb v j e = nb := by
  funext i
  unfold gf
  rw [if_neg (by omega)]
theorem gf_step {nb v : Nat → Int32} {j e : Nat} (h : j < e) : gf (upd nb j (v j)) v (j + 1) e = gf nb v j e := by
  funext i
  unfold gf
  by_cases h1 : i = j
  · subst h1
    rw [if_neg (by omega), if_pos (by omega), pk_us]
  · rw [pk_un h1]
    by_cases h2 : j + 1 ≤ i ∧ i < e
    · rw [if_pos h2, if_pos (by omega)]
    · rw [if_neg h2, if_neg (by omega)]
def vb (kd i : Nat) : Int32 := if kd = 5 then 0 else if kd = 6 then (if i % 3 = 1 then -1 else 0) else 1
theorem rem3 : ∀ j, j < 384 → ((nI j - nI j / 3 * 3) = 1 ↔ j % 3 = 1) := by decide +kernel
section BEGIN
variable {n g kd : Nat} {S : ob_S}
theorem begin_l1 (hg : g < 8) {K : Int32 → Int32 → ob_S → Option ob_S} : ∀ (k j : Nat) (nb : Nat → Int32), j ≤ 812 → 812 < j + k → rX11_begin_l8 n K k (nI g) (nI (812 * g)) (nI j) (bset S g nb) = K (nI g) (nI (812 * g)) (bset S g (gf nb (fun _ => 0) j 812)) := by
  intro k
  induction k with
  | zero => intro j nb h1 h2; exfalso; omega
  | succ k ih =>
    intro j nb h1 h2
    show rX11_begin_b8 n (rX11_begin_l8 n K k) K _ _ _ _ = _
    unfold rX11_begin_b8
    by_cases hj : 812 ≤ j
    · rw [if_pos (show (812 : Int32) ≤ nI j from (nI_leI (a := 812) (by decide) (by omega)).mpr hj), gf_end hj]
    · rw [if_neg (show ¬ (812 : Int32) ≤ nI j from fun q => hj ((nI_leI (a := 812) (by decide) (by omega)).mp q))]
      have c2 : (nI (812 * g + j)).toNatClampNeg = 812 * g + j := n_cl (by omega)
      have i2 : ∀ {β : Type} (x : Option β), (if jq_in (nI (812 * g + j)) 6496 then x else none) = x := fun x => n_ifin (by omega) (by decide)
      simp only [jq_l, nI_add, i2, c2, na1]
      rw [bset_u2 (by omega), ih (j + 1) _ (by omega) (by omega), ← gf_step (show j < 812 by omega)]
theorem begin_l2 (hg : g < 8) {K : Int32 → Int32 → ob_S → Option ob_S} : ∀ (k j : Nat) (nb : Nat → Int32), j ≤ 256 → 256 < j + k → rX11_begin_l32 n K k (nI g) (nI (812 * g)) (nI j) (bset S g nb) = K (nI g) (nI (812 * g)) (bset S g (gf nb (fun _ => -1) (512 + j) 768)) := by
  intro k
  induction k with
  | zero => intro j nb h1 h2; exfalso; omega
  | succ k ih =>
    intro j nb h1 h2
    show rX11_begin_b32 n (rX11_begin_l32 n K k) K _ _ _ _ = _
    unfold rX11_begin_b32
    by_cases hj : 256 ≤ j
    · rw [if_pos (show (256 : Int32) ≤ nI j from (nI_leI (a := 256) (by decide) (by omega)).mpr hj), gf_end (by omega)]
    · rw [if_neg (show ¬ (256 : Int32) ≤ nI j from fun q => hj ((nI_leI (a := 256) (by decide) (by omega)).mp q))]
      have e : (nI (812 * g) + 512) + nI j = nI (812 * g + (512 + j)) := by rw [na512, nI_add, Nat.add_assoc]
      have c2 : (nI (812 * g + (512 + j))).toNatClampNeg = 812 * g + (512 + j) := n_cl (by omega)
      have i2 : ∀ {β : Type} (x : Option β), (if jq_in (nI (812 * g + (512 + j))) 6496 then x else none) = x := fun x => n_ifin (by omega) (by decide)
      simp only [jq_l, e, i2, c2, na1]
      rw [bset_u2 (by omega), ih (j + 1) _ (by omega) (by omega), ← gf_step (show 512 + j < 768 by omega)]
      rfl
theorem begin_l3 (hg : g < 8) (hkd : kd < 8) {K : ob_S → Option ob_S} (h13 : S 13 g = nI kd) : ∀ (k j : Nat) (nb : Nat → Int32), j ≤ 384 → 384 < j + k → rX11_begin_l60 n K k (nI g) (nI (812 * g)) (nI j) (bset S g nb) = K (bset S g (gf nb (vb kd) j 384)) := by
  intro k
  induction k with
  | zero => intro j nb h1 h2; exfalso; omega
  | succ k ih =>
    intro j nb h1 h2
    show rX11_begin_b60 n (rX11_begin_l60 n K k) K _ _ _ _ = _
    unfold rX11_begin_b60
    by_cases hj : 384 ≤ j
    · rw [if_pos (show (384 : Int32) ≤ nI j from (nI_leI (a := 384) (by decide) (by omega)).mpr hj), gf_end hj]
    · rw [if_neg (show ¬ (384 : Int32) ≤ nI j from fun q => hj ((nI_leI (a := 384) (by decide) (by omega)).mp q))]
      have c1 : (nI g).toNatClampNeg = g := n_cl (by omega)
      have i1 : ∀ {β : Type} (x : Option β), (if jq_in (nI g) 8 then x else none) = x := fun x => n_ifin hg (by decide)
      have c2 : (nI (812 * g + j)).toNatClampNeg = 812 * g + j := n_cl (by omega)
      have i2 : ∀ {β : Type} (x : Option β), (if jq_in (nI (812 * g + j)) 6496 then x else none) = x := fun x => n_ifin (by omega) (by decide)
      have b13 : bset S g nb 13 g = nI kd := by rw [bset_ne (by decide)]; exact h13
      have q5 : (nI kd = 5) = (kd = 5) := propext (nI_eq (b := 5) (by omega) (by decide))
      have q6 : (nI kd = 6) = (kd = 6) := propext (nI_eq (b := 6) (by omega) (by decide))
      have q3 : ((nI j - nI j / 3 * 3) = 1) = (j % 3 = 1) := propext (rem3 j (by omega))
      have key : ∀ x : Int32, x = vb kd j → rX11_begin_l60 n K k (nI g) (nI (812 * g)) (nI (j + 1)) (u2 (bset S g nb) 18 (812 * g + j) x) = K (bset S g (gf nb (vb kd) j 384)) := by
        intro x hx
        rw [bset_u2 (by omega), ih (j + 1) _ (by omega) (by omega), hx, ← gf_step (show j < 384 by omega)]
      simp only [jq_l, nI_add, i1, c1, b13, q5, q6, q3, rX11_begin_b115, i2, c2, na1]
      by_cases z5 : kd = 5
      · rw [if_pos z5]
        exact key 0 (by unfold vb; rw [if_pos z5])
      · rw [if_neg z5]
        by_cases z6 : kd = 6
        · rw [if_pos z6]
          by_cases z3 : j % 3 = 1
          · rw [if_pos z3]
            exact key (-1) (by unfold vb; rw [if_neg z5, if_pos z6, if_pos z3])
          · rw [if_neg z3]
            exact key 0 (by unfold vb; rw [if_neg z5, if_pos z6, if_neg z3])
        · rw [if_neg z6]
          exact key 1 (by unfold vb; rw [if_neg z5, if_neg z6])
theorem L_begin (hn : 812 < n) (hg : g < 8) (hkd : kd < 8) (h13 : S 13 g = nI kd) : rX11_begin n S (nI g) = some (bset S g (nb0 kd)) := by
  unfold rX11_begin
  simp only [jq_l, nm812]
  have e1 := begin_l1 (n := n) (S := S) (g := g) (K := fun w1 w2 SS => rX11_begin_b30 n w1 w2 SS) hg n 0 (nbS S g) (by omega) (by omega)
  rw [bset_id] at e1
  refine e1.trans ?_
  refine (begin_l2 (n := n) (S := S) (g := g) (K := fun w1 w2 SS => rX11_begin_b58 n w1 w2 SS) hg n 0 _ (by omega) (by omega)).trans ?_
  refine (begin_l3 (n := n) (S := S) (g := g) (K := fun SS => rX11_begin_b122 n SS) hg hkd h13 n 0 _ (by omega) (by omega)).trans ?_
  show some _ = some _
  congr 1
  apply bset_congr
  intro i hi
  unfold gf nb0 vb
  by_cases h1 : i < 384
  · rw [if_pos (by omega), if_pos h1]
  · rw [if_neg (by omega), if_neg h1]
    by_cases h2 : 512 ≤ i ∧ i < 768
    · rw [if_pos (by omega), if_pos h2]
    · rw [if_neg (by omega), if_neg h2, if_pos (by omega)]
end BEGIN
theorem BW0 {kd : Nat} : BW kd (nb0 kd) := by
  have z : ∀ i, 384 ≤ i → ¬ (512 ≤ i ∧ i < 768) → nb0 kd i = nI 0 := by
    intro i h1 h2
    unfold nb0
    rw [if_neg (by omega), if_neg h2]
    rfl
  have y : ∀ i, i < 384 → nb0 kd i = vb kd i := by
    intro i h1
    unfold nb0
    rw [if_pos h1]
    rfl
  refine ⟨⟨⟨0, by decide, z 808 (by omega) (by omega)⟩, fun p hp => ⟨0, by decide, z _ (by omega) (by omega)⟩⟩, ⟨0, by decide, z 811 (by omega) (by omega)⟩, fun s hs => Or.inl ?_, fun q j hj => ?_, fun q j hj => ?_, fun q p hp => ?_⟩
  · unfold nb0
    rw [if_neg (by omega), if_pos (by omega)]
  · rw [y j hj]
    unfold vb
    rw [if_neg q.2.1, if_neg q.2.2]
    exact ⟨1, by decide, rfl⟩
  · rw [y j hj]
    unfold vb
    rw [if_pos q]
    exact ⟨by decide, by decide⟩
  · rw [y _ (by omega), y _ (by omega)]
    unfold vb
    rw [if_neg (by omega), if_pos q, if_neg (by omega), if_neg (by omega), if_pos q, if_neg (by omega)]
    exact ⟨⟨0, by decide, rfl⟩, ⟨0, by decide, rfl⟩⟩
section FRESH
variable {n ax c : Nat} {ev : Int32} {M W R0 : ob_S} {rf : Nat → Option Nat} {g : Nat}
theorem CI.setL {h h' : jq_H} {G : Nat → gd} {S' : ob_S} (H : CI h ax c ev M W G rf R0) (hg : g < c) (O : OF (g_ga (G g) + 9) 6 3 (g_sh (G g)) h S' h') : CI h' ax c ev M W (gup G g ((G g).1, g_hf (G g), g_sd (G g), S', (G g).2.2.2.2)) rf R0 := by
  obtain ⟨k1, k2, k3, k4, k5, k6⟩ := H.gh hg
  have hD := H.2.2.2.2.1.2.2.2.2.2 g hg
  have f : ∀ y, (y < g_ga (G g) + 9 ∨ g_ga (G g) + 15 ≤ y) → h'.2 y = h.2 y := fun y hy => O.2.2 y (by omega)
  refine H.gu hg rfl ⟨k1.of (f _ (by omega)), ?_, ?_, k4.kept (ok_L _ _) (by decide) (fun y q1 q2 => f y (by omega)), O.1, fun k q hk hq => (k6 k q hk hq).kept (ok_L _ _) (by decide) (fun y q1 q2 => f y (by have := (hD k q hk hq).1; omega))⟩ hD (by rw [O.2.1]; exact Nat.le_refl _) (fun y hy => Or.inl hy) (fun y q1 q2 => ?_)
  · rw [← k2]
    exact f (g_ga (G g) + 1) (by omega)
  · rw [← k3]
    exact f (g_ga (G g) + 2) (by omega)
  · apply f
    by_cases z : y < g_ga (G g) + 9 ∨ g_ga (G g) + 15 ≤ y
    · exact z
    · exact absurd (Or.inl ⟨by omega, by omega⟩) q2
theorem RGq.setB {G : Nat → gd} {R S' : ob_S} {nb : Nat → Int32} (Q : ∀ g, g < c → RGq R g (G g)) (hg : g < c) (hL : LR (g_kd (G g)) (g_a (G g)) (g_b (G g)) (g_c (G g)) nb S') (hB : BW (g_kd (G g)) nb) :
    ∀ g', g' < c → RGq (bset R g nb) g' (gup G g ((G g).1, g_hf (G g), g_sd (G g), S', (G g).2.2.2.2) g') := by
  intro g' hg'
  by_cases e : g' = g
  · subst e
    rw [gup_at]
    obtain ⟨hk, hS, hab, hh, hL0, hB0, hF, hK⟩ := Q g' hg'
    have nbx : ∀ i, i < 812 → nbS (bset R g' nb) g' i = nb i := fun i hi => bset_at hi
    refine ⟨hk, hS.bs _ (fun k hk => by rw [bset_ne (by omega)]), hab, fun q hq => by rw [bset_ne (by decide)]; exact hh q hq, hL.congr hk nbx, hB.congr nbx, hF, fun k hk2 => ?_⟩
    have y19 : kbS (bset R g' nb) g' k = kbS R g' k := by
      unfold kbS
      rw [bset_ne (by decide)]
    rw [bset_ne (by decide), y19]
    exact hK k hk2
  · rw [gup_ne e]
    exact (Q g' hg').of2 (fun k hk => by rw [bset_ne (by omega)]) (fun q hq => by rw [bset_ne (by decide)]) (fun i hi => by rw [bset_other e hi]) (fun k i hk hi => by rw [bset_ne (by decide)]) (fun k hk => by rw [bset_ne (by decide)])
theorem V_forgetE {kd a b c mc oa ob : Nat} {h : jq_H} {ga : Nat} {said : Int32} (hk : gkOK kd a b c) (G : GO h ga kd a b c mc oa ob said) : V_forget n h ga = X3_forget n h ga := by
  have h8 := hk.1
  have hci : jq_ci h ga = gk_ci kd := rdC G
  unfold V_forget
  rw [hci]
  rcases (show kd = 0 ∨ kd = 1 ∨ kd = 2 ∨ kd = 3 ∨ kd = 4 ∨ kd = 5 ∨ kd = 6 ∨ kd = 7 by omega) with rfl | rfl | rfl | rfl | rfl | rfl | rfl | rfl <;> rfl
theorem forget1 {h : jq_H} {G : Nat → gd} {R : ob_S} (hn : 812 < n) (hg : g < c) (H : CI h ax c ev M W G rf R0) (Q : ∀ g, g < c → RGq R g (G g)) :
    ∃ h' x', V_forget n h (g_ga (G g)) = some h' ∧ x'.1 = (G g).1 ∧ CI h' ax c ev M W (gup G g x') rf R0 ∧ rX11_begin n R (nI g) = some (bset R g (nb0 (g_kd (G g)))) ∧ (∀ g', g' < c → RGq (bset R g (nb0 (g_kd (G g)))) g' (gup G g x' g')) := by
  have h8 := H.c8
  obtain ⟨hk, hS, hab, hh, hL, hB, hF, hK⟩ := Q g hg
  obtain ⟨k1, k2, k3, k4, k5, k6⟩ := H.gh hg
  obtain ⟨h', S', e1, e2, e3⟩ := X_take (n := n) hk k5 k4 (Or.inr (by omega)) hF
  refine ⟨h', ((G g).1, g_hf (G g), g_sd (G g), S', (G g).2.2.2.2), ?_, rfl, H.setL hg e2, L_begin hn (by omega) hk.1 hS.1, RGq.setB Q hg e3 BW0⟩
  rw [V_forgetE hk k1]
  unfold X3_forget
  rw [rdR (q := g_ga (G g) + 9) k1 (gk_in _) rfl, Option.bind_some, rdR (q := g_ga (G g) + 3) k1 (gk_in _) rfl, Option.bind_some, if_pos k5.ci, e1, Option.bind_some]
theorem S_fresh {h : jq_H} {G : Nat → gd} {R : ob_S} {a1 : Int32} (hn : 812 < n) (H : CI h ax c ev M W G rf R) (Q : REL c ev M W G R) : SIMq ax (fun h a => X10_fresh n h a a1) (fun S => rX11_fresh n S a1) h R := by
  have h8 := H.c8
  rcases pf_g (x := a1) H.c8 with ⟨h1, -⟩ | ⟨h1, g, hg, rfl⟩
  · exact SIMq.same H Q (r := -1) (by simp only [X10_fresh, H.isG', Option.bind_some, h1, if_true]) (by simp only [rX11_fresh, Q.isG, Option.bind_some, h1, if_true])
  have e6 : jq_gI [3] 6 h (g_ga (G g) + 9) = some (R 18 (812 * g + 809)) := by
    rw [ob_gI (H.ob hg) (k := 6) rfl (by decide), (Q.gq hg).2.2.2.2.1.2.2.2.2.2.2.1]
    rfl
  obtain ⟨h', x', z1, z2, z3, z4, z5⟩ := forget1 hn hg H Q.2.2.1
  refine ⟨R 18 (812 * g + 809), h', c, ev, M, W, _, rf, _, ?_, z3, ?_, Q.other z5 (fun k q => bset_ne (by omega))⟩
  · simp only [X10_fresh, H.isG', Option.bind_some, h1, one0, if_false, H.gg, H.ld hg, H.now hg, e6, z1]
  · have c2 : (nI (812 * g + 809)).toNatClampNeg = 812 * g + 809 := n_cl (by omega)
    have i2 : ∀ {β : Type} (x : Option β), (if jq_in (nI (812 * g + 809)) 6496 then x else none) = x := fun x => n_ifin (by omega) (by decide)
    simp only [rX11_fresh, Q.isG, Option.bind_some, h1, one0, if_false, nm812, na809, c2, i2, jq_l, z4]
theorem back_loop {R : ob_S} {k0 : Nat} (hg : g < 8) (hk0 : k0 < 2) {K : Int32 → ob_S → Option (Int32 × ob_S)} : ∀ (k j : Nat) (nb : Nat → Int32), j ≤ 812 → 812 < j + k → rX11_back_l34 n K k (nI g) (nI k0) (nI j) (bset R g nb) = K (nI g) (bset R g (gf nb (kbS R g k0) j 812)) := by
  intro k
  induction k with
  | zero => intro j nb h1 h2; exfalso; omega
  | succ k ih =>
    intro j nb h1 h2
    show rX11_back_b34 n (rX11_back_l34 n K k) K _ _ _ _ = _
    unfold rX11_back_b34
    by_cases hj : 812 ≤ j
    · rw [if_pos (show (812 : Int32) ≤ nI j from (nI_leI (a := 812) (by decide) (by omega)).mpr hj), gf_end hj]
    · rw [if_neg (show ¬ (812 : Int32) ≤ nI j from fun q => hj ((nI_leI (a := 812) (by decide) (by omega)).mp q))]
      have e1 : (812 * ((2 * nI g) + nI k0)) + nI j = nI (812 * (2 * g + k0) + j) := by rw [nm2, nI_add, nm812, nI_add]
      have e2 : (812 * nI g) + nI j = nI (812 * g + j) := by rw [nm812, nI_add]
      have c1 : (nI (812 * (2 * g + k0) + j)).toNatClampNeg = 812 * (2 * g + k0) + j := n_cl (by omega)
      have i1 : ∀ {β : Type} (x : Option β), (if jq_in (nI (812 * (2 * g + k0) + j)) 12992 then x else none) = x := fun x => n_ifin (by omega) (by decide)
      have c2 : (nI (812 * g + j)).toNatClampNeg = 812 * g + j := n_cl (by omega)
      have i2 : ∀ {β : Type} (x : Option β), (if jq_in (nI (812 * g + j)) 6496 then x else none) = x := fun x => n_ifin (by omega) (by decide)
      have b19 : bset R g nb 19 (812 * (2 * g + k0) + j) = kbS R g k0 j := by rw [bset_ne (by decide)]; rfl
      simp only [jq_l, e1, e2, i1, c1, i2, c2, na1, b19]
      rw [bset_u2 (by omega), ih (j + 1) _ (by omega) (by omega), ← gf_step (show j < 812 by omega)]
theorem CI.ldK {h : jq_H} {G : Nat → gd} {k : Nat} (H : CI h ax c ev M W G rf R0) (hg : g < c) (hk : k < 2) : jq_ldR 3 h (g_ga (G g) + 2) (nI k) = some (g_ka (G g) k) := by
  unfold jq_ldR
  rw [(H.gh hg).2.2.1]
  simp only
  rw [if_pos ⟨trivial, jq_inN' (by omega) (by decide)⟩, n_cl (by omega)]
theorem S_back {h : jq_H} {G : Nat → gd} {R : ob_S} {a1 a2 : Int32} (hn : 812 < n) (H : CI h ax c ev M W G rf R) (Q : REL c ev M W G R) : SIMq ax (fun h a => X10_back n h a a1 a2) (fun S => rX11_back n S a1 a2) h R := by
  have h8 := H.c8
  rcases pf_g (x := a1) H.c8 with ⟨h1, -⟩ | ⟨h1, g, hg, rfl⟩
  · exact SIMq.same H Q (r := -1) (by simp only [X10_back, X10_back_b17, H.isG', Option.bind_some, h1, if_true]) (by simp only [rX11_back, rX11_back_b30, Q.isG, Option.bind_some, h1, if_true])
  rcases pf_1 a2 with h2 | ⟨h2, k, hk, rfl⟩
  · exact SIMq.same H Q (r := -1) (by simp only [X10_back, X10_back_b17, H.isG', Option.bind_some, h1, one0, if_false, p_within, h2, if_true]) (by simp only [rX11_back, rX11_back_b30, Q.isG, Option.bind_some, h1, one0, if_false, jq_l, h2, if_true])
  have hk2 : k < 2 := by omega
  have hq := Q.gq hg
  have e20 : (2 * nI g) + nI k = nI (2 * g + k) := by rw [nm2, nI_add]
  have c20 : (nI (2 * g + k)).toNatClampNeg = 2 * g + k := n_cl (by omega)
  have i20 : ∀ {β : Type} (x : Option β), (if jq_in (nI (2 * g + k)) 16 then x else none) = x := fun x => n_ifin (by omega) (by decide)
  have e1 : jq_gR [0, 1, 2, 4, 7, 8] 1 h (g_ga (G g)) = some (g_ga (G g) + 2) := rdR (H.go hg) (gk_in _) rfl
  have e2 := H.ldK hg hk2
  rcases hq.2.2.2.2.2.2.2 k hk2 with ⟨q1, q2⟩ | ⟨q, q1, q2, q3, q4⟩
  · rw [q1] at e2
    exact SIMq.same H Q (r := -1) (by simp only [X10_back, H.isG', Option.bind_some, h1, one0, if_false, p_within, h2, H.gg, H.ld hg, e1, e2, jq_o]) (by simp only [rX11_back, rX11_back_b30, Q.isG, Option.bind_some, h1, one0, if_false, jq_l, h2, e20, c20, i20, q2, if_true])
  · rw [q1] at e2
    obtain ⟨k1, k2, k3, k4, k5, k6⟩ := H.gh hg
    have hD := H.2.2.2.2.1.2.2.2.2.2 g hg
    have hd := (hD k q hk2 q1).1
    obtain ⟨h', S', z1, z2, z3⟩ := X_take (n := n) hq.1 k5 (k6 k q hk2 q1) (by omega) q3
    have H' := H.setL hg z2
    have O' := tk_other z2 (k6 k q hk2 q1) (by omega)
    have e6 : jq_gI [3] 6 h' q = some (kbS R g k 809) := by
      rw [ob_gI O' (k := 6) rfl (by decide), q3.2.2.2.2.2.2.1]
    have bl := back_loop (n := n) (R := R) (K := fun w1 SS => rX11_back_b75 n w1 SS) (show g < 8 by omega) hk2 n 0 (nbS R g) (by omega) (by omega)
    rw [bset_id] at bl
    have e3 : bset R g (gf (nbS R g) (kbS R g k) 0 812) = bset R g (kbS R g k) := by
      apply bset_congr
      intro i hi
      unfold gf
      rw [if_pos (by omega)]
    rw [e3] at bl
    refine ⟨kbS R g k 809, h', c, ev, M, W, _, rf, _, ?_, H', ?_, Q.other (RGq.setB Q.2.2.1 hg z3 q4) (fun k q => bset_ne (by omega))⟩
    · simp only [X10_back, H.isG', Option.bind_some, h1, one0, if_false, p_within, h2, H.gg, H.ld hg, e1, e2, jq_o, H.now hg, if_pos (H.ob hg).ci, z1, e6]
    · simp only [rX11_back, Q.isG, Option.bind_some, h1, one0, if_false, jq_l, h2, e20, c20, i20, q2]
      refine bl.trans ?_
      have c2 : (nI (812 * g + 809)).toNatClampNeg = 812 * g + 809 := n_cl (by omega)
      have i2 : ∀ {β : Type} (x : Option β), (if jq_in (nI (812 * g + 809)) 6496 then x else none) = x := fun x => n_ifin (by omega) (by decide)
      simp only [rX11_back_b75, nm812, na809, c2, i2, jq_l]
      rw [bset_at (by decide)]
end FRESH
