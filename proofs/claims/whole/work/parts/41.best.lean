/-! ===== best and seen: the reference, and both together ===== -/
theorem hx_succ {ho wy : Nat → Nat} {i q : Nat} : hx ho wy (i + 1) q = if q = ho i then (2 * hx ho wy i q + wy i) % 65536 else hx ho wy i q := rfl
theorem rky_def {l i : Nat} {ho pl wy : Nat → Nat} : rky l ho pl wy i = 256 * pl i + hx ho wy i (ho i) % 2 ^ l := by
  unfold rky
  rfl
section COUNT
variable {n m l : Nat} {ho pl wy : Nat → Nat} {W : ob_S}
theorem ca_l1 {a1 a2 : Int32} {K : Int32 → Int32 → ob_S → Option ob_S} : ∀ (k j : Nat) (R : ob_S), j ≤ 32768 → 32768 < j + k → (∀ i, i < j → R 23 i = 0) →
    ∃ R', rX11_countAll_l2 n K k a1 a2 (nI j) R = K a1 a2 R' ∧ (∀ i, i < 32768 → R' 23 i = 0) ∧ ∀ k, k ≠ 23 → R' k = R k := by
  intro k
  induction k with
  | zero => intro j R h1 h2; exfalso; omega
  | succ k ih =>
    intro j R h1 h2 hR
    by_cases hj : 32768 ≤ j
    · refine ⟨R, ?_, fun i hi => hR i (by omega), fun _ _ => rfl⟩
      show rX11_countAll_b2 n (rX11_countAll_l2 n K k) K _ _ _ _ = _
      unfold rX11_countAll_b2
      rw [if_pos (show (32768 : Int32) ≤ nI j from (nI_leI (a := 32768) (by decide) (by omega)).mpr hj)]
    · have c1 : (nI j).toNatClampNeg = j := n_cl (by omega)
      have i1 : ∀ {β : Type} (x : Option β), (if jq_in (nI j) 32768 then x else none) = x := fun x => n_ifin (by omega) (by decide)
      obtain ⟨R', z1, z2, z3⟩ := ih (j + 1) (u2 R 23 j 0) (by omega) (by omega) (fun i hi => by
        rw [u2_eq]
        by_cases e : i = j
        · rw [e, pk_us]
        · rw [pk_un e]
          exact hR i (by omega))
      refine ⟨R', ?_, z2, fun k hk => by rw [z3 k hk, u2_ne hk]⟩
      rw [← z1]
      show rX11_countAll_b2 n (rX11_countAll_l2 n K k) K _ _ _ _ = _
      unfold rX11_countAll_b2
      rw [if_neg (show ¬ (32768 : Int32) ≤ nI j from fun q => hj ((nI_leI (a := 32768) (by decide) (by omega)).mp q))]
      simp only [jq_l, i1, c1, na1]
theorem ca_l2 {a1 a2 : Int32} {K : Int32 → Int32 → ob_S → Option ob_S} : ∀ (k j : Nat) (R : ob_S), j ≤ 64 → 64 < j + k → (∀ i, i < j → R 24 i = 0) →
    ∃ R', rX11_countAll_l23 n K k a1 a2 (nI j) R = K a1 a2 R' ∧ (∀ i, i < 64 → R' 24 i = 0) ∧ ∀ k, k ≠ 24 → R' k = R k := by
  intro k
  induction k with
  | zero => intro j R h1 h2; exfalso; omega
  | succ k ih =>
    intro j R h1 h2 hR
    by_cases hj : 64 ≤ j
    · refine ⟨R, ?_, fun i hi => hR i (by omega), fun _ _ => rfl⟩
      show rX11_countAll_b23 n (rX11_countAll_l23 n K k) K _ _ _ _ = _
      unfold rX11_countAll_b23
      rw [if_pos (show (64 : Int32) ≤ nI j from (nI_leI (a := 64) (by decide) (by omega)).mpr hj)]
    · have c1 : (nI j).toNatClampNeg = j := n_cl (by omega)
      have i1 : ∀ {β : Type} (x : Option β), (if jq_in (nI j) 64 then x else none) = x := fun x => n_ifin (by omega) (by decide)
      obtain ⟨R', z1, z2, z3⟩ := ih (j + 1) (u2 R 24 j 0) (by omega) (by omega) (fun i hi => by
        rw [u2_eq]
        by_cases e : i = j
        · rw [e, pk_us]
        · rw [pk_un e]
          exact hR i (by omega))
      refine ⟨R', ?_, z2, fun k hk => by rw [z3 k hk, u2_ne hk]⟩
      rw [← z1]
      show rX11_countAll_b23 n (rX11_countAll_l23 n K k) K _ _ _ _ = _
      unfold rX11_countAll_b23
      rw [if_neg (show ¬ (64 : Int32) ≤ nI j from fun q => hj ((nI_leI (a := 64) (by decide) (by omega)).mp q))]
      simp only [jq_l, i1, c1, na1]
/-- how far the counting is -/
def CV (l : Nat) (ho pl wy : Nat → Nat) (own : Int32) (j : Nat) (v3 : Int32) (R : ob_S) : Prop :=
  (own = 0 → v3 = nI (hx ho wy j 0)) ∧ (¬ own = 0 → ∀ q, q < 64 → R 24 q = nI (hx ho wy j q)) ∧ (∀ x w, x < 16384 → w < 2 → R 23 (2 * x + w) = nI (cnt (rky l ho pl wy) wy x w j))
theorem ca_key {own v3 s0 : Int32} {KB : Int32 → Int32 → Int32 → Int32 → ob_S → Option ob_S} {K : ob_S → Option ob_S} {R : ob_S} {j P w H r : Nat} (hl : l ≤ 8) (hP : P < 64) (hw : w < 2) (hr : r = 256 * P + H % 2 ^ l) (hs0 : s0 = nI H) :
    rX11_countAll_b89 n KB K (nI l) own v3 (nI j) (nI P) (nI w) s0 R = KB (nI l) own (((v3 <<< ((1 : Int32) &&& 31)) &&& 65535) ||| nI w) (nI (j + 1)) (u2 (u2 R 23 (2 * r + w) (R 23 (2 * r + w) + 1)) 24 P (((R 24 P <<< ((1 : Int32) &&& 31)) &&& 65535) ||| nI w)) := by
  have h1 := pw_le hl
  have h2 : H % 2 ^ l < 2 ^ l := Nat.mod_lt _ (Nat.two_pow_pos l)
  have cp : (nI P).toNatClampNeg = P := n_cl (by omega)
  have ip : ∀ {β : Type} (x : Option β), (if jq_in (nI P) 64 then x else none) = x := fun x => n_ifin hP (by decide)
  have ex : (2 * ((256 * nI P) + nI (H % 2 ^ l))) + nI w = nI (2 * r + w) := by
    rw [hr, nm256, nI_add, nm2, nI_add]
  have hlt : 2 * r + w < 32768 := by omega
  have cx : (nI (2 * r + w)).toNatClampNeg = 2 * r + w := n_cl (by omega)
  have ix : ∀ {β : Type} (x : Option β), (if jq_in (nI (2 * r + w)) 32768 then x else none) = x := fun x => n_ifin hlt (by decide)
  have e24 : ∀ x, u2 R 23 (2 * r + w) x 24 P = R 24 P := fun x => by rw [u2_ne (by decide)]
  unfold rX11_countAll_b89
  simp only [jq_l, hs0, n_low (show l < 17 by omega), ex, ix, cx, ip, cp, na1, e24]
theorem ca_cnt {R : ob_S} {j : Nat} {x1 : Int32} {y1 : Nat} (hkl : rky l ho pl wy j < 16384) (b2 : wy j < 2) (V : ∀ x w, x < 16384 → w < 2 → R 23 (2 * x + w) = nI (cnt (rky l ho pl wy) wy x w j)) :
    ∀ x w, x < 16384 → w < 2 → u2 (u2 R 23 (2 * rky l ho pl wy j + wy j) (R 23 (2 * rky l ho pl wy j + wy j) + 1)) 24 y1 x1 23 (2 * x + w) = nI (cnt (rky l ho pl wy) wy x w (j + 1)) := by
  intro x w hx hw
  rw [u2_ne (by decide), u2_eq]
  by_cases e : 2 * x + w = 2 * rky l ho pl wy j + wy j
  · have e1 : x = rky l ho pl wy j := by omega
    have e2 : wy j = w := by omega
    rw [e, pk_us, V _ _ hkl b2, na1, e1, cnt_at, if_pos e2, e2]
  · rw [pk_un e, V x w hx hw]
    by_cases e1 : x = rky l ho pl wy j
    · rw [e1, cnt_at, if_neg (by omega), Nat.add_zero]
    · rw [cnt_next b2 e1]
theorem ca_succ {K : ob_S → Option ob_S} {k : Nat} {v1 v2 v3 v4 : Int32} {S : ob_S} : rX11_countAll_l47 n K (k + 1) v1 v2 v3 v4 S = rX11_countAll_b47 n (rX11_countAll_l47 n K k) K v1 v2 v3 v4 S := rfl
theorem jq_lE {α β : Type} (x : α) (K : α → β) : jq_l x K = K x := Eq.trans (Eq.refl (jq_l x K)) (Eq.refl (K x))
theorem ca_end {own v1 v3 v4 x : Int32} {KB : Int32 → Int32 → Int32 → Int32 → ob_S → Option ob_S} {K : ob_S → Option ob_S} {R : ob_S} (s9 : R 9 0 = x) (hle : x ≤ v4) : rX11_countAll_b47 n KB K v1 own v3 v4 R = K R := by
  subst s9
  exact if_pos hle
theorem ca_next {own v1 v3 v4 : Int32} {KB : Int32 → Int32 → Int32 → Int32 → ob_S → Option ob_S} {K : ob_S → Option ob_S} {R : ob_S} (hle : ¬ R 9 0 ≤ v4) (hin : jq_in v4 3000) (hip : jq_in (R 10 v4.toNatClampNeg) 64) : rX11_countAll_b47 n KB K v1 own v3 v4 R = rX11_countAll_b89 n KB K v1 own v3 v4 (R 10 v4.toNatClampNeg) (R 11 v4.toNatClampNeg) (if own = 0 then v3 else R 24 (R 10 v4.toNatClampNeg).toNatClampNeg) R := by
  unfold rX11_countAll_b47
  rw [jq_lE, if_neg hle, if_pos hin, jq_lE, if_pos hin, jq_lE]
  by_cases q : own = 0
  · rw [if_pos q, if_pos q]
  · rw [if_neg q, if_neg q, if_pos hip, jq_lE]
theorem ca_loop {own : Int32} {K : ob_S → Option ob_S} {R0 : ob_S} (hl : l ≤ 8) (Q : RWq m pl wy W R0) (hho : ∀ i, i < m → ho i = if own = 0 then 0 else pl i) :
    ∀ (k j : Nat) (v3 : Int32) (R : ob_S), CV l ho pl wy own j v3 R → (∀ k, k ≠ 23 → k ≠ 24 → R k = R0 k) → j ≤ m → m < j + k → ∃ R', rX11_countAll_l47 n K k (nI l) own v3 (nI j) R = K R' ∧ (∀ x w, x < 16384 → w < 2 → R' 23 (2 * x + w) = nI (cnt (rky l ho pl wy) wy x w m)) ∧ ∀ k, k ≠ 23 → k ≠ 24 → R' k = R0 k := by
  have hm := Q.1
  have r9 := Q.2.1
  have hr := Q.2.2.2.1
  clear Q
  intro k
  induction k with
  | zero => intro j v3 R _ _ h1 h2; exfalso; omega
  | succ k ih =>
    intro j v3 R V hk h1 h2
    have s9 : R 9 0 = nI m := by rw [hk 9 (by decide) (by decide)]; exact r9
    by_cases hj : m ≤ j
    · have hle : nI m ≤ nI j := (nI_leI (by omega) (by omega)).mpr hj
      have e : j = m := by omega
      refine ⟨R, ?_, by rw [← e]; exact V.2.2, hk⟩
      rw [ca_succ]
      exact ca_end s9 hle
    · have hle : ¬ nI m ≤ nI j := fun q => hj ((nI_leI (by omega) (by omega)).mp q)
      obtain ⟨b1, b2, b3, b4, -⟩ := hr j (by omega)
      have s10 : R 10 j = nI (pl j) := by rw [hk 10 (by decide) (by decide)]; exact b3
      have s11 : R 11 j = nI (wy j) := by rw [hk 11 (by decide) (by decide)]; exact b4
      have cj : (nI j).toNatClampNeg = j := n_cl (by omega)
      have ij : ∀ {β : Type} (x : Option β), (if jq_in (nI j) 3000 then x else none) = x := fun x => n_ifin (by omega) (by decide)
      have cp : (nI (pl j)).toNatClampNeg = pl j := n_cl (by omega)
      have ip : ∀ {β : Type} (x : Option β), (if jq_in (nI (pl j)) 64 then x else none) = x := fun x => n_ifin b1 (by decide)
      have hj1 : j + 1 ≤ m := by omega
      have hj2 : m < j + 1 + k := by omega
      have hkl := rky_lt (i := j) (ho := ho) (pl := pl) (wy := wy) hl b1
      have hhj := hho j (by omega)
      have key : ∀ s0 : Int32, s0 = nI (hx ho wy j (ho j)) → _ := fun s0 hs0 => ca_key (n := n) (own := own) (v3 := v3) (KB := rX11_countAll_l47 n K k) (K := K) (R := R) (j := j) (r := rky l ho pl wy j) hl b1 b2 rky_def hs0
      obtain ⟨R', z1, z2, z3⟩ := ih (j + 1) (((v3 <<< ((1 : Int32) &&& 31)) &&& 65535) ||| nI (wy j)) (u2 (u2 R 23 (2 * rky l ho pl wy j + wy j) (R 23 (2 * rky l ho pl wy j + wy j) + 1)) 24 (pl j) (((R 24 (pl j) <<< ((1 : Int32) &&& 31)) &&& 65535) ||| nI (wy j))) ⟨fun q => by
          have e0 : (0 : Nat) = ho j := by rw [hhj, if_pos q]
          rw [hx_succ, if_pos e0, V.1 q, n_h16b (hx_lt _ _) b2], fun q p hp => by
          have e0 : ho j = pl j := by rw [hhj, if_neg q]
          rw [hx_succ, u2_eq, e0]
          by_cases e : p = pl j
          · rw [if_pos e, e, pk_us, V.2.1 q (pl j) b1, n_h16b (hx_lt _ _) b2]
          · rw [if_neg e, pk_un e, u2_ne (by decide)]
            exact V.2.1 q p hp, ca_cnt hkl b2 V.2.2⟩ (fun k q1 q2 => by rw [u2_ne q2, u2_ne q1]; exact hk k q1 q2) hj1 hj2
      refine ⟨R', ?_, z2, z3⟩
      rw [← z1, ca_succ]
      rw [ca_next (by rw [s9]; exact hle) (jq_inN' (show j < 3000 by omega) (by decide)) (by rw [cj, s10]; exact jq_inN' b1 (by decide)), cj, s10, s11, cp]
      apply key
      by_cases q : own = 0
      · rw [if_pos q, V.1 q, hhj, if_pos q]
      · rw [if_neg q, V.2.1 q (pl j) b1, hhj, if_neg q]
theorem L_countAll {own : Int32} {R : ob_S} (hn : 32768 < n) (hl : l ≤ 8) (Q : RWq m pl wy W R) (hho : ∀ i, i < m → ho i = if own = 0 then 0 else pl i) :
    ∃ R', rX11_countAll n R (nI l) own = some R' ∧ (∀ x w, x < 16384 → w < 2 → R' 23 (2 * x + w) = nI (cnt (rky l ho pl wy) wy x w m)) ∧ ∀ k, k ≠ 23 → k ≠ 24 → R' k = R k := by
  have hm := Q.1
  obtain ⟨R1, x1, x2, x3⟩ := ca_l1 (n := n) (a1 := nI l) (a2 := own) (K := fun w1 w2 SS => rX11_countAll_b21 n w1 w2 SS) n 0 R (by omega) (by omega) (fun i hi => by omega)
  obtain ⟨R2, y1, y2, y3⟩ := ca_l2 (n := n) (a1 := nI l) (a2 := own) (K := fun w1 w2 SS => rX11_countAll_b42 n w1 w2 SS) n 0 R1 (by omega) (by omega) (fun i hi => by omega)
  obtain ⟨R3, z1, z2, z3⟩ := ca_loop (n := n) (own := own) (K := fun SS => rX11_countAll_b156 n SS) (R0 := R) hl Q hho n 0 0 R2 ⟨fun _ => rfl, fun _ q hq => by rw [y2 q hq]; rfl, fun x w hx hw => by rw [y3 23 (by decide), x2 _ (by omega)]; rfl⟩ (fun k q1 q2 => by rw [y3 k q2, x3 k q1]) (by omega) (by omega)
  refine ⟨R3, ?_, z2, z3⟩
  unfold rX11_countAll
  refine x1.trans ?_
  simp only [rX11_countAll_b21]
  refine y1.trans ?_
  simp only [rX11_countAll_b42]
  exact z1
theorem best_loop {R : ob_S} {f0 f1 : Nat → Nat} {K : Int32 → ob_S → Option (Int32 × ob_S)} (h0 : ∀ x, x < 16384 → R 23 (2 * x) = nI (f0 x)) (h1 : ∀ x, x < 16384 → R 23 (2 * x + 1) = nI (f1 x)) (hf : ∀ x, x < 16384 → f0 x + f1 x ≤ 3000) :
    ∀ (k j : Nat), j ≤ 16384 → 16384 < j + k → rX11_best_l24 n K k (nI (nsum (fun r => mn (f0 r) (f1 r)) j)) (nI (2 * j)) R = K (nI (nsum (fun r => mn (f0 r) (f1 r)) 16384)) R := by
  intro k
  induction k with
  | zero => intro j z1 z2; exfalso; omega
  | succ k ih =>
    intro j z1 z2
    show rX11_best_b24 n (rX11_best_l24 n K k) K _ _ _ = _
    unfold rX11_best_b24
    by_cases hj : 16384 ≤ j
    · have e : j = 16384 := by omega
      subst e
      rw [if_pos (show (32768 : Int32) ≤ nI (2 * 16384) from (nI_leI (a := 32768) (by decide) (by decide)).mpr (by decide))]
    · rw [if_neg (show ¬ (32768 : Int32) ≤ nI (2 * j) from fun q => by have := (nI_leI (a := 32768) (by decide) (by omega)).mp q; omega)]
      have c0 : (nI (2 * j)).toNatClampNeg = 2 * j := n_cl (by omega)
      have i0 : ∀ {β : Type} (x : Option β), (if jq_in (nI (2 * j)) 32768 then x else none) = x := fun x => n_ifin (by omega) (by decide)
      have c1 : (nI (2 * j + 1)).toNatClampNeg = 2 * j + 1 := n_cl (by omega)
      have i1 : ∀ {β : Type} (x : Option β), (if jq_in (nI (2 * j + 1)) 32768 then x else none) = x := fun x => n_ifin (by omega) (by decide)
      have hs := hf j (by omega)
      have le : (nI (f1 j) ≤ nI (f0 j)) = (f1 j ≤ f0 j) := propext (nI_leI (by omega) (by omega))
      have hn := ih (j + 1) (by omega) (by omega)
      have e2 : nI (2 * j) + 2 = nI (2 * (j + 1)) := na2 (2 * j)
      have es : ∀ y, y = mn (f0 j) (f1 j) → nI (nsum (fun r => mn (f0 r) (f1 r)) j) + nI y = nI (nsum (fun r => mn (f0 r) (f1 r)) (j + 1)) := fun y hy => by
        rw [nI_add, hy]
        rfl
      simp only [jq_l, na1, i0, c0, i1, c1, h0 j (by omega), h1 j (by omega), le, rX11_best_b70, e2]
      by_cases q : f1 j ≤ f0 j
      · rw [if_pos q, es (f1 j) (by unfold mn; rw [if_pos q])]
        exact hn
      · rw [if_neg q, es (f0 j) (by unfold mn; rw [if_neg q])]
        exact hn
theorem seen_loop {R : ob_S} {f0 f1 : Nat → Nat} {K : Int32 → ob_S → Option (Int32 × ob_S)} (h0 : ∀ x, x < 16384 → R 23 (2 * x) = nI (f0 x)) (h1 : ∀ x, x < 16384 → R 23 (2 * x + 1) = nI (f1 x)) (hf : ∀ x, x < 16384 → f0 x + f1 x ≤ 3000) :
    ∀ (k j : Nat), j ≤ 16384 → 16384 < j + k → rX11_seen_l24 n K k (nI (nsum (fun r => sn (f0 r) (f1 r)) j)) (nI (2 * j)) R = K (nI (nsum (fun r => sn (f0 r) (f1 r)) 16384)) R := by
  intro k
  induction k with
  | zero => intro j z1 z2; exfalso; omega
  | succ k ih =>
    intro j z1 z2
    show rX11_seen_b24 n (rX11_seen_l24 n K k) K _ _ _ = _
    unfold rX11_seen_b24
    by_cases hj : 16384 ≤ j
    · have e : j = 16384 := by omega
      subst e
      rw [if_pos (show (32768 : Int32) ≤ nI (2 * 16384) from (nI_leI (a := 32768) (by decide) (by decide)).mpr (by decide))]
    · rw [if_neg (show ¬ (32768 : Int32) ≤ nI (2 * j) from fun q => by have := (nI_leI (a := 32768) (by decide) (by omega)).mp q; omega)]
      have c0 : (nI (2 * j)).toNatClampNeg = 2 * j := n_cl (by omega)
      have i0 : ∀ {β : Type} (x : Option β), (if jq_in (nI (2 * j)) 32768 then x else none) = x := fun x => n_ifin (by omega) (by decide)
      have c1 : (nI (2 * j + 1)).toNatClampNeg = 2 * j + 1 := n_cl (by omega)
      have i1 : ∀ {β : Type} (x : Option β), (if jq_in (nI (2 * j + 1)) 32768 then x else none) = x := fun x => n_ifin (by omega) (by decide)
      have hs := hf j (by omega)
      have le : (nI (f0 j + f1 j) ≤ 0) = (f0 j + f1 j ≤ 0) := propext (nI_leI (b := 0) (by omega) (by decide))
      have hn := ih (j + 1) (by omega) (by omega)
      have e2 : nI (2 * j) + 2 = nI (2 * (j + 1)) := na2 (2 * j)
      have es : ∀ y, y = sn (f0 j) (f1 j) → nI (nsum (fun r => sn (f0 r) (f1 r)) j) + nI y = nI (nsum (fun r => sn (f0 r) (f1 r)) (j + 1)) := fun y hy => by
        rw [nI_add, hy]
        rfl
      simp only [jq_l, na1, i0, c0, i1, c1, h0 j (by omega), h1 j (by omega), nI_add, le, rX11_seen_b57, e2]
      by_cases q : f0 j + f1 j ≤ 0
      · rw [if_pos q]
        have := es 0 (by unfold sn; rw [if_pos q])
        rw [← this] at hn
        exact hn
      · rw [if_neg q]
        have := es 1 (by unfold sn; rw [if_neg q])
        rw [← this, nI_add] at hn
        exact hn
end COUNT
section BEST
variable {n ax c : Nat} {ev : Int32} {M W R : ob_S} {G : Nat → gd} {rf : Nat → Option Nat} {h : jq_H} {a1 a2 : Int32}
theorem both (hn : 32768 < n) (H : CI h ax c ev M W G rf R) (Q : REL c ev M W G R) {l : Nat} (hl : l ≤ 8) : ∃ (h' : jq_H) (W' R' : ob_S) (f0 f1 : Nat → Nat), X7_survey n h (ax + 8) (nI l) a2 = some h' ∧ CI h' ax c ev M W' G rf R ∧ rX11_countAll n R (nI l) a2 = some R' ∧ REL c ev M W' G R' ∧ (∀ x, x < 16384 → R' 23 (2 * x) = nI (f0 x)) ∧ (∀ x, x < 16384 → R' 23 (2 * x + 1) = nI (f1 x)) ∧ (∀ x, x < 16384 → f0 x + f1 x ≤ 3000) ∧ W' 6 0 = nI (nsum (fun r => mn (f0 r) (f1 r)) 16384) ∧ W' 7 0 = nI (nsum (fun r => sn (f0 r) (f1 r)) 16384) := by
  obtain ⟨q1, ⟨m, pl, wy, qw⟩, qg, q8, q12, q20⟩ := Q
  obtain ⟨ho, hho⟩ : ∃ ho : Nat → Nat, ∀ i, i < m → ho i = if a2 = 0 then 0 else pl i := ⟨fun i => if a2 = 0 then 0 else pl i, fun _ _ => rfl⟩
  have hm := qw.1
  obtain ⟨W', w1, w2, w6, w7⟩ := C_survey (n := n) (by omega) hl qw hho
  obtain ⟨R', r1, r2, r3⟩ := L_countAll (n := n) hn hl qw hho
  obtain ⟨h', z1, z2⟩ := N_X7_survey (n := n) (H.2.2.1.f (w := 6)) w1
  have hlm := lm_eq (k := ky l ho pl wy) (k' := rky l ho pl wy) (wy := wy) m (fun i j _ _ => ky_iff hl)
  have hls := lm_sum (k := rky l ho pl wy) (wy := wy) (N := 16384) m (fun i hi => ⟨rky_lt hl (qw.2.2.2.1 i hi).1, (qw.2.2.2.1 i hi).2.1⟩)
  refine ⟨h', W', R', fun x => cnt (rky l ho pl wy) wy x 0 m, fun x => cnt (rky l ho pl wy) wy x 1 m, z1, H.row z2, r1, ⟨q1.of (fun k q => r3 k (by omega) (by omega)), ⟨m, pl, wy, w2.of (fun k _ q => r3 k (by omega) (by omega))⟩, fun g hg => (qg g hg).of (fun k _ q => r3 k (by omega) (by omega)), by rw [r3 8 (by decide) (by decide)]; exact q8, by rw [r3 12 (by decide) (by decide)]; exact q12, fun j z1 z2 => by rw [r3 20 (by decide) (by decide)]; exact q20 j z1 z2⟩, fun x hx => r2 x 0 hx (by decide), fun x hx => r2 x 1 hx (by decide), fun x hx => ?_, ?_, ?_⟩
  · have := cnt2_le (pl := rky l ho pl wy) (wy := wy) (p := x) m
    show cnt _ _ _ _ _ + cnt _ _ _ _ _ ≤ 3000
    omega
  · rw [w6, hlm.1, hls.1]
  · rw [w7, hlm.2, hls.2]
theorem S_best (hn : 32768 < n) (H : CI h ax c ev M W G rf R) (Q : REL c ev M W G R) : SIMq ax (fun h a => X10_best n h a a1 a2) (fun S => rX11_best n S a1 a2) h R := by
  rcases pf_8 a1 with h1 | ⟨h1, l, hl, rfl⟩
  · exact SIMq.same H Q (r := -2) (by simp only [X10_best, p_within, Option.bind_some, h1, if_true]) (by simp only [rX11_best, jq_l, h1, if_true])
  obtain ⟨h', W', R', f0, f1, z1, z2, z3, z4, z5, z6, z7, z8, z9⟩ := both (a2 := a2) hn H Q hl
  have bl := best_loop (n := n) (K := fun w3 SS => rX11_best_b78 n w3 SS) z5 z6 z7 n 0 (by omega) (by omega)
  refine ⟨nI (nsum (fun r => mn (f0 r) (f1 r)) 16384), h', c, ev, M, W', G, rf, R', ?_, z2, ?_, z4⟩
  · have e6 : jq_gI [6] 6 h' (ax + 8) = some (nI (nsum (fun r => mn (f0 r) (f1 r)) 16384)) := by
      rw [ob_gI z2.2.2.1 (k := 6) rfl (by decide), z8]
    simp only [X10_best, p_within, Option.bind_some, h1, one0, if_false, H.gw, if_pos H.2.2.1.ci, z1, z2.gw, e6]
  · simp only [rX11_best, jq_l, h1, one0, if_false, z3, Option.bind_some]
    exact bl
theorem S_seen (hn : 32768 < n) (H : CI h ax c ev M W G rf R) (Q : REL c ev M W G R) : SIMq ax (fun h a => X10_seen n h a a1 a2) (fun S => rX11_seen n S a1 a2) h R := by
  rcases pf_8 a1 with h1 | ⟨h1, l, hl, rfl⟩
  · exact SIMq.same H Q (r := -2) (by simp only [X10_seen, p_within, Option.bind_some, h1, if_true]) (by simp only [rX11_seen, jq_l, h1, if_true])
  obtain ⟨h', W', R', f0, f1, z1, z2, z3, z4, z5, z6, z7, z8, z9⟩ := both (a2 := a2) hn H Q hl
  have bl := seen_loop (n := n) (K := fun w3 SS => rX11_seen_b65 n w3 SS) z5 z6 z7 n 0 (by omega) (by omega)
  refine ⟨nI (nsum (fun r => sn (f0 r) (f1 r)) 16384), h', c, ev, M, W', G, rf, R', ?_, z2, ?_, z4⟩
  · have e7 : jq_gI [6] 7 h' (ax + 8) = some (nI (nsum (fun r => sn (f0 r) (f1 r)) 16384)) := by
      rw [ob_gI z2.2.2.1 (k := 7) rfl (by decide), z9]
    simp only [X10_seen, p_within, Option.bind_some, h1, one0, if_false, H.gw, if_pos H.2.2.1.ci, z1, z2.gw, e7]
  · simp only [rX11_seen, jq_l, h1, one0, if_false, z3, Option.bind_some]
    exact bl
end BEST
