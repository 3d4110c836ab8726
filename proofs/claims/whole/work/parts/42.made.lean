/-! ===== a new guesser on the heap ===== -/
theorem pt_v {h : jq_H} {q ci k : Nat} {cs : List Nat} {fs : List Value} {v : Value} (hq : h.2 q = some (.inr (ci, fs))) (hc : ci ∈ cs) (hk : k < fs.length) : ∃ h', jq_p cs k h q v = some h' ∧ h'.1 = h.1 ∧ h'.2 q = some (.inr (ci, fs.set k v)) ∧ ∀ y, y ≠ q → h'.2 y = h.2 y := by
  refine ⟨(h.1, va_up h.2 q (some (.inr (ci, fs.set k v)))), ?_, rfl, up_at, fun y hy => up_ne hy⟩
  unfold jq_p
  rw [hq]
  simp only
  rw [if_pos ⟨hc, hk⟩]
theorem nw_I {h : jq_H} {m B : Nat} {x : Int32} (hx : x = nI m) (hm : m ≤ B) (hm2 : m < 2 ^ 31) : ∃ h', jq_newI 0 B h x = some (h.1, h') ∧ h'.1 = h.1 + 1 ∧ h'.2 h.1 = some (.inl (0, m, .inl (fun _ => 0))) ∧ ∀ y, y ≠ h.1 → h'.2 y = h.2 y := by
  refine ⟨(h.1 + 1, va_up h.2 h.1 (some (.inl (0, m, .inl (fun _ => 0))))), ?_, rfl, up_at, fun y hy => up_ne hy⟩
  subst hx
  unfold jq_newI
  rw [n_cl hm2, if_neg (by rintro (q | q); exact nI_pos hm2 q; omega)]
theorem nw_R {h : jq_H} {t m B : Nat} {x : Int32} (hx : x = nI m) (hm : m ≤ B) (hm2 : m < 2 ^ 31) : ∃ h', jq_newR t B h x = some (h.1, h') ∧ h'.1 = h.1 + 1 ∧ h'.2 h.1 = some (.inl (t, m, .inr (.inr (.inr (.inr (fun _ => none)))))) ∧ ∀ y, y ≠ h.1 → h'.2 y = h.2 y := by
  refine ⟨(h.1 + 1, va_up h.2 h.1 (some (.inl (t, m, .inr (.inr (.inr (.inr (fun _ => none)))))))), ?_, rfl, up_at, fun y hy => up_ne hy⟩
  subst hx
  unfold jq_newR
  rw [n_cl hm2, if_neg (by rintro (q | q); exact nI_pos hm2 q; omega)]
theorem bx_zero : ∀ N, bx_sum (fun _ => 0) N = 0
  | 0 => rfl
  | N + 1 => by
    show bx_sum (fun _ => 0) N + 0 = 0
    rw [bx_zero N]
    rfl
theorem nb0_hi {kd kd' i : Nat} (h : 384 ≤ i) : nb0 kd i = nb0 kd' i := by
  unfold nb0
  rw [if_neg (show ¬ i < 384 by omega), if_neg (show ¬ i < 384 by omega)]
theorem nb0_6 {i : Nat} (h : i < 384) : nb0 6 i = if i % 3 = 1 then -1 else 0 := by
  unfold nb0
  rw [if_pos h]
  rfl
def hm1 : Nat → Int32 := fun i => if i < 64 then -1 else 0
def BS (hb h : jq_H) (ga ci : Nat) (fs : List Value) (kd a b c : Nat) (nb : Nat → Int32) (F L : ob_S) : Prop :=
  h.1 = ga + 15 ∧ h.2 ga = some (.inr (ci, fs)) ∧ h.2 (ga + 1) = some (.inl (0, 64, .inl hm1)) ∧ h.2 (ga + 2) = some (.inl (3, 2, .inr (.inr (.inr (.inr (fun _ => none)))))) ∧ OB h (ga + 3) 3 (sh_L (gk_nc kd a b c) (gk_ns kd a c)) F ∧ OB h (ga + 9) 3 (sh_L (gk_nc kd a b c) (gk_ns kd a c)) L ∧ LR kd a b c nb F ∧ LR kd a b c nb L ∧ ∀ y, y < ga → h.2 y = hb.2 y
theorem BS.put {hb h : jq_H} {ga ci k : Nat} {cs : List Nat} {fs : List Value} {kd a b c : Nat} {nb : Nat → Int32} {F L : ob_S} (B : BS hb h ga ci fs kd a b c nb F L) (v : Value) (hc : ci ∈ cs) (hk : k < fs.length) : ∃ h', jq_p cs k h ga v = some h' ∧ BS hb h' ga ci (fs.set k v) kd a b c nb F L := by
  obtain ⟨b1, b2, b3, b4, b5, b6, b7, b8, b9⟩ := B
  obtain ⟨h', e1, e2, e3, e4⟩ := pt_v (v := v) b2 hc hk
  exact ⟨h', e1, e2.trans b1, e3, by rw [e4 _ (by omega)]; exact b3, by rw [e4 _ (by omega)]; exact b4, b5.kept (ok_L _ _) (by decide) (fun y q1 q2 => e4 y (by omega)), b6.kept (ok_L _ _) (by decide) (fun y q1 q2 => e4 y (by omega)), b7, b8, fun y hy => by rw [e4 y (by omega)]; exact b9 y hy⟩
abbrev FF (kd a b c : Nat) (fc : Int32) : ob_S := ob_fill (ob_fill S00 1 (gk_ns kd a c) (-6)) 0 (gk_nc kd a b c) fc
theorem LR_F {kd a b c : Nat} {nb : Nat → Int32} {fc : Int32} (hk : gkOK kd a b c) (hnb : ∀ i, 384 ≤ i → nb i = nb0 kd i) (hc : ∀ j, j < gk_nc kd a b c → nb (gk_ix kd a b j) = fc) : LR kd a b c nb (FF kd a b c fc) := by
  have hns := gk_ns_le hk
  have z : ∀ i, 384 ≤ i → ¬ (512 ≤ i ∧ i < 768) → nb i = 0 := by
    intro i h1 h2
    rw [hnb i h1]
    unfold nb0
    rw [if_neg (by omega), if_neg h2]
  have f : ∀ k, k ≠ 0 → k ≠ 1 → FF kd a b c fc k = fun _ => 0 := by
    intro k h0 h1
    show ob_fill (ob_fill S00 1 _ _) 0 _ _ k = _
    unfold ob_fill
    rw [us_ne h0, us_ne h1]
    rfl
  have e0 : (0 : Int32) = nI ((0 : Int32).toNatClampNeg % 256) := by decide
  refine ⟨fun j hj => ?_, fun s hs => ?_, fun p hp => ?_, fun p hp => ?_, fun i hi => ?_, ?_, ?_, ?_, ?_, ?_⟩
  · rw [hc j hj]
    show ob_fill _ 0 _ _ 0 j = _
    unfold ob_fill
    rw [us_eq, if_pos hj]
  · have e1 : nb (512 + s) = -1 := by
      rw [hnb _ (by omega)]
      unfold nb0
      rw [if_neg (by omega), if_pos (by omega)]
    rw [e1]
    show ob_fill (ob_fill S00 1 _ _) 0 _ _ 1 s = _
    unfold ob_fill
    rw [us_ne (by decide), us_eq, if_pos hs]
    rfl
  · rw [f 2 (by decide) (by decide), z _ (by omega) (by omega)]
    exact e0
  · rw [f 3 (by decide) (by decide), z _ (by omega) (by omega)]
  · rw [f 4 (by decide) (by decide), z _ (by omega) (by omega)]
  · rw [f 5 (by decide) (by decide), z _ (by omega) (by omega)]
    exact e0
  · rw [f 6 (by decide) (by decide), z _ (by omega) (by omega)]
  · rw [f 7 (by decide) (by decide)]
    have e1 : bx_sum (fun p => nb (448 + p)) 64 = bx_sum (fun _ => 0) 64 := bx_congr (fun q hq => z _ (by omega) (by omega))
    rw [e1]
    exact (bx_zero 64).symm
  · rw [f 8 (by decide) (by decide), z _ (by omega) (by omega)]
  · rw [f 9 (by decide) (by decide), z _ (by omega) (by omega)]
abbrev f7 (x y : Int32) (ga : Nat) (ext : List Value) : List Value := .ref (ga + 1) :: .ref (ga + 2) :: .ref (ga + 3) :: .ref (ga + 9) :: .int x :: .int y :: .int 0 :: ext
set_option maxHeartbeats 1000000 in
theorem X_base {n ga ci kd a b c : Nat} {hb h : jq_H} {ext : List Value} {fc p0 p1 p2 : Int32} {nb : Nat → Int32} (hn : 512 < n) (hk : gkOK kd a b c) (hci : ci ∈ gcs) (A : AB hb h ga ci (.null :: .null :: .null :: .null :: .int 0 :: .int 0 :: .int 0 :: ext) []) (ht : p0 = nI (gk_tb kd a)) (hw : p1 = nI (gk_wd kd a b c)) (hs : p2 = nI (gk_ns kd a c)) (hL : LR kd a b c nb (FF kd a b c fc)) :
    ∃ h' L, X3_init n h ga p0 p1 p2 fc = some h' ∧ BS hb h' ga ci (f7 p0 p1 ga ext) kd a b c nb (FF kd a b c fc) L := by
  have hnc := nc_lt hk
  have hns := gk_ns_le hk
  obtain ⟨a1, a2, -, a4⟩ := A
  have z0 : h.1 = ga + 1 := a1
  have hpp : p0 * p1 = nI (gk_nc kd a b c) := by
    rw [ht, hw, pk_mul]
    rfl
  obtain ⟨h1, e1, s1, n1, f1⟩ := nw_I (h := h) (x := 64) (m := 64) (B := 64) rfl (by decide) (by decide)
  rw [z0] at e1 s1 n1 f1
  obtain ⟨h2, e2, s2, n2, f2⟩ := pt_v (h := h1) (q := ga) (k := 0) (cs := gcs) (v := .ref (ga + 1)) (by rw [f1 _ (by omega)]; exact a2) hci (Nat.le_of_ble_eq_true rfl)
  obtain ⟨h3, e3, s3, n3, f3⟩ := nw_R (h := h2) (t := 3) (x := 2) (m := 2) (B := 2) rfl (by decide) (by decide)
  have z2 : h2.1 = ga + 2 := by rw [s2, s1]
  rw [z2] at e3 s3 n3 f3
  obtain ⟨h4, e4, s4, n4, f4⟩ := pt_v (h := h3) (q := ga) (k := 1) (cs := gcs) (v := .ref (ga + 2)) (by rw [f3 _ (by omega)]; exact n2) hci (Nat.le_of_ble_eq_true rfl)
  obtain ⟨h5, e5, s5, n5, f5⟩ := pt_v (h := h4) (q := ga) (k := 4) (cs := gcs) (v := .int p0) n4 hci (Nat.le_of_ble_eq_true rfl)
  obtain ⟨h6, e6, s6, n6, f6⟩ := pt_v (h := h5) (q := ga) (k := 5) (cs := gcs) (v := .int p1) n5 hci (Nat.le_of_ble_eq_true rfl)
  have r7 : jq_gR gcs 0 h6 ga = some (ga + 1) := rdR n6 hci rfl
  have g1 : h6.2 (ga + 1) = some (.inl (0, 64, .inl (fun _ => 0))) := by
    rw [f6 _ (by omega), f5 _ (by omega), f4 _ (by omega), f3 _ (by omega), f2 _ (by omega)]
    exact n1
  have g2 : h6.2 (ga + 2) = some (.inl (3, 2, .inr (.inr (.inr (.inr (fun _ => none)))))) := by
    rw [f6 _ (by omega), f5 _ (by omega), f4 _ (by omega)]
    exact n3
  have z6 : h6.1 = ga + 3 := by rw [s6, s5, s4, s3]
  have e7 := fill_raw (n := n) (x := -1) g1 (by omega) (by decide)
  obtain ⟨h7, hh7⟩ : ∃ x, x = ((h6.1, va_up h6.2 (ga + 1) (some (.inl (0, 64, .inl (fun i => if i < 64 then -1 else 0))))) : jq_H) := ⟨_, rfl⟩
  rw [← hh7] at e7
  have f7' : ∀ y, y ≠ ga + 1 → h7.2 y = h6.2 y := fun y hy => by rw [hh7]; exact up_ne hy
  have n7 : h7.2 (ga + 1) = some (.inl (0, 64, .inl hm1)) := by rw [hh7]; exact up_at
  have z7 : h7.1 = ga + 3 := by rw [hh7]; exact z6
  have A8 := AB.new (ci := 3) (fs := [.null, .null, .null, .null, .null, .int 0, .int 0, .int 0, .int 0, .int 0]) (h := h7)
  have y8 : (jq_newO 3 [.null, .null, .null, .null, .null, .int 0, .int 0, .int 0, .int 0, .int 0] h7).1 = ga + 3 := z7
  rw [y8] at A8
  obtain ⟨h8, e8, s8, O8, f8⟩ := X_newL (n := n) hn (show gk_nc kd a b c ≤ 512 by omega) (show gk_ns kd a c ≤ 512 by omega) A8
  obtain ⟨h9, e9, s9, n9, f9⟩ := pt_v (h := h8) (q := ga) (k := 2) (cs := gcs) (v := .ref (ga + 3)) (by rw [f8 _ (by omega), f7' _ (by omega)]; exact n6) hci (Nat.le_of_ble_eq_true rfl)
  have r9 : jq_gR gcs 2 h9 ga = some (ga + 3) := rdR n9 hci rfl
  have O9 : OB h9 (ga + 3) 3 (sh_L (gk_nc kd a b c) (gk_ns kd a c)) (ob_fill S00 1 (gk_ns kd a c) (-6)) := O8.kept (ok_L _ _) (by decide) (fun y q1 q2 => f9 y (by omega))
  have r10 : jq_gR [3] 0 h9 (ga + 3) = some (ga + 3 + 4) := ob_gR (t := 0) O9 (k := 0) rfl (by decide)
  obtain ⟨h10, e10, O10⟩ := p_fill (n := n) (x := fc) (O9.f (w := 6)) (ok_L _ _) (k := 0) rfl (by omega) (by omega)
  have n10 := n9
  rw [← O10.2.2 ga (by omega)] at n10
  have r11 : jq_gR gcs 2 h10 ga = some (ga + 3) := rdR n10 hci rfl
  have z10 : h10.1 = ga + 9 := by rw [O10.2.1, s9, s8]
  obtain ⟨h11, e11, s11, O11, f11⟩ := X_twin (n := n) hn (show gk_nc kd a b c ≤ 512 by omega) (show gk_ns kd a c ≤ 512 by omega) O10.1 (by omega)
  rw [z10] at e11 s11 O11 f11
  obtain ⟨h12, e12, s12, n12, f12⟩ := pt_v (h := h11) (q := ga) (k := 3) (cs := gcs) (v := .ref (ga + 9)) (by rw [f11 _ (by omega)]; exact n10) hci (Nat.le_of_ble_eq_true rfl)
  have r13 : jq_gR gcs 3 h12 ga = some (ga + 9) := rdR n12 hci rfl
  have r14 : jq_gR gcs 2 h12 ga = some (ga + 3) := rdR n12 hci rfl
  have P12 : OB h12 (ga + 3) 3 (sh_L (gk_nc kd a b c) (gk_ns kd a c)) (FF kd a b c fc) := O10.1.kept (ok_L _ _) (by decide) (fun y q1 q2 => by rw [f12 y (by omega), f11 y (by omega)])
  have O12 : OB h12 (ga + 9) 3 (sh_L (gk_nc kd a b c) (gk_ns kd a c)) (ob_fill S00 1 (gk_ns kd a c) (-6)) := O11.kept (ok_L _ _) (by decide) (fun y q1 q2 => f12 y (by omega))
  obtain ⟨h', L, x1, x2, x3⟩ := X_take (n := n) hk O12 P12 (Or.inr (by omega)) hL
  have ff : ∀ y, y < ga → h'.2 y = hb.2 y := fun y hy => by
    rw [x2.2.2 y (by omega), f12 y (by omega), f11 y (by omega), O10.2.2 y (by omega), f9 y (by omega), f8 y (by omega), f7' y (by omega), f6 y (by omega), f5 y (by omega), f4 y (by omega), f3 y (by omega), f2 y (by omega), f1 y (by omega)]
    exact a4 y hy
  have fg : ∀ y, ga < y → y < ga + 3 → h'.2 y = h7.2 y := fun y q1 q2 => by
    rw [x2.2.2 y (by omega), f12 y (by omega), f11 y (by omega), O10.2.2 y (by omega), f9 y (by omega), f8 y (by omega)]
  refine ⟨h', L, ?_, by rw [x2.2.1, s12, s11], by rw [x2.2.2 ga (by omega)]; exact n12, by rw [fg _ (by omega) (by omega)]; exact n7, by rw [fg _ (by omega) (by omega), f7' _ (by omega)]; exact g2, P12.kept (ok_L _ _) (by decide) (fun y q1 q2 => x2.2.2 y (by omega)), x2.1, hL, x3, ff⟩
  unfold X3_init
  rw [e1, Option.bind_some]
  dsimp only
  rw [e2, Option.bind_some, e3, Option.bind_some]
  dsimp only
  rw [e4, Option.bind_some, e5, Option.bind_some, e6, Option.bind_some, r7, Option.bind_some, e7, Option.bind_some]
  rw [jq_lE, y8, hpp, hs, e8, Option.bind_some, e9, Option.bind_some, r9, Option.bind_some, r10, Option.bind_some, e10, Option.bind_some, r11, Option.bind_some, if_pos O10.1.ci, e11, Option.bind_some]
  dsimp only
  rw [e12, Option.bind_some, r13, Option.bind_some, r14, Option.bind_some, if_pos O12.ci, x1, Option.bind_some]
theorem n_one9 : ∀ k, k < 17 → (1 : Int32) <<< (nI k &&& 31) = nI (2 ^ k) := by decide +kernel
/-- the first numbers, of all kinds but LOOPS -/
theorem LR_N {kd a b c : Nat} {fc : Int32} (hk : gkOK kd a b c) (h6 : kd ≠ 6) (hf : fc = if kd = 5 then 0 else 1) : LR kd a b c (nb0 kd) (FF kd a b c fc) := by
  refine LR_F hk (fun i _ => rfl) (fun j hj => ?_)
  unfold nb0
  rw [if_pos (ix_lt hk hj), if_neg h6, hf]
section MADE
variable {n ax c : Nat} {ev : Int32} {M W R0 : ob_S} {G : Nat → gd} {rf : Nat → Option Nat} {h : jq_H} {a b cc : Nat} {p2 p3 : Int32}
theorem mk_1 {kd B pt : Nat} {ow : Int32} (hn : 512 < n) (hk : gkOK kd a b cc) (h123 : kd = 1 ∨ kd = 2 ∨ kd = 3) (hB : B = if kd = 1 then 0 else b) (how : ow = if kd = 3 then 1 else 0) (hpt : pt = if kd = 3 then cc else 1) {mc oa ob : Nat} :
    ∃ h' F L, X1_init n (jq_newO 1 [.null, .null, .null, .null, .int 0, .int 0, .int 0, .int 0, .int 0, .int 0, .int 0] h).2 (jq_newO 1 [.null, .null, .null, .null, .int 0, .int 0, .int 0, .int 0, .int 0, .int 0, .int 0] h).1 (nI a) (nI B) ow (nI pt) = some h' ∧ BS h h' h.1 (gk_ci kd) (f7 (nI (gk_tb kd a)) (nI (gk_wd kd a b cc)) h.1 (gk_ext kd a b cc mc oa ob)) kd a b cc (nb0 kd) F L := by
  have ha : a ≤ 8 ∧ B ≤ 8 := by
    obtain ⟨k8, -, k1, k2, k3, -⟩ := hk
    rcases h123 with q | q | q
    · have := k1 q
      rw [if_pos q] at hB
      omega
    · have := k2 q
      rw [if_neg (by omega)] at hB
      omega
    · have := k3 q
      rw [if_neg (by omega)] at hB
      omega
  have e1 : gk_ci kd = 1 := by
    unfold gk_ci
    rw [if_neg (by omega), if_neg (by omega), if_neg (by omega), if_neg (by omega), if_neg (by omega)]
  have e2 : gk_tb kd a = 1 := by
    unfold gk_tb
    rw [if_neg (by omega), if_neg (by omega), if_neg (by omega), if_neg (by omega)]
  have e3 : gk_wd kd a b cc = 2 ^ a := by
    unfold gk_wd
    rw [if_neg (by omega), if_neg (by omega), if_neg (by omega), if_neg (by omega)]
  have e4 : gk_ns kd a cc = 2 ^ a := by
    unfold gk_ns
    rw [if_pos (by rcases h123 with rfl | rfl | rfl <;> decide), if_neg (by omega)]
  have e5 : gk_ext kd a b cc mc oa ob = [.int (nI (2 ^ a - 1)), .int (nI (2 ^ B - 1)), .int ow, .int (nI pt)] := by
    unfold gk_ext
    rw [if_neg (by omega), if_neg (by omega), if_neg (by omega), if_neg (by omega), if_neg (by omega), hB, how, hpt]
  obtain ⟨h1, L, x1, B1⟩ := X_base (n := n) (p0 := 1) (p1 := nI (2 ^ a)) (p2 := nI (2 ^ a)) (fc := 1) hn hk (show (1 : Nat) ∈ gcs by decide) (AB.new (ci := 1) (fs := [.null, .null, .null, .null, .int 0, .int 0, .int 0, .int 0, .int 0, .int 0, .int 0]) (h := h)) (by rw [e2]; rfl) (by rw [e3]) (by rw [e4]) (LR_N hk (by omega) (by rw [if_neg (by omega)]))
  obtain ⟨h2, x2, B2⟩ := B1.put (k := 7) (cs := [1]) (.int (nI (2 ^ a - 1))) (by decide) (Nat.le_of_ble_eq_true rfl)
  obtain ⟨h3, x3, B3⟩ := B2.put (k := 8) (cs := [1]) (.int (nI (2 ^ B - 1))) (by decide) (Nat.le_of_ble_eq_true rfl)
  obtain ⟨h4, x4, B4⟩ := B3.put (k := 9) (cs := [1]) (.int ow) (by decide) (Nat.le_of_ble_eq_true rfl)
  obtain ⟨h5, x5, B5⟩ := B4.put (k := 10) (cs := [1]) (.int (nI pt)) (by decide) (Nat.le_of_ble_eq_true rfl)
  refine ⟨h5, _, L, ?_, by rw [e1, e2, e3, e5]; exact B5⟩
  have how2 : ow = 0 ∨ ow = 1 := by
    rw [how]
    split
    · exact Or.inr rfl
    · exact Or.inl rfl
  unfold X1_init
  rw [n_one9 a (by omega), x1, Option.bind_some, p_lowBits, Option.bind_some, n_lb a (by omega)]
  dsimp only
  rw [x2, Option.bind_some, p_lowBits, Option.bind_some, n_lb B (by omega)]
  dsimp only
  rw [x3, Option.bind_some, if_pos how2, x4, Option.bind_some, x5, Option.bind_some]
theorem mk_4 (hn : 512 < n) (hk : gkOK 4 a b cc) {mc oa ob : Nat} :
    ∃ h' F L, X8_init n (jq_newO 7 [.null, .null, .null, .null, .int 0, .int 0, .int 0, .int 0, .int 0] h).2 (jq_newO 7 [.null, .null, .null, .null, .int 0, .int 0, .int 0, .int 0, .int 0] h).1 (nI a) (nI b) = some h' ∧ BS h h' h.1 (gk_ci 4) (f7 (nI (gk_tb 4 a)) (nI (gk_wd 4 a b cc)) h.1 (gk_ext 4 a b cc mc oa ob)) 4 a b cc (nb0 4) F L := by
  have ha := hk.2.2.2.2.2.1 rfl
  obtain ⟨h1, L, x1, B1⟩ := X_base (n := n) (p0 := 3) (p1 := nI (2 ^ a)) (p2 := 0) (fc := 1) hn hk (show (7 : Nat) ∈ gcs by decide) (AB.new (ci := 7) (fs := [.null, .null, .null, .null, .int 0, .int 0, .int 0, .int 0, .int 0]) (h := h)) rfl rfl rfl (LR_N hk (by decide) rfl)
  obtain ⟨h2, x2, B2⟩ := B1.put (k := 7) (cs := [7]) (.int (nI (2 ^ a - 1))) (by decide) (Nat.le_of_ble_eq_true rfl)
  obtain ⟨h3, x3, B3⟩ := B2.put (k := 8) (cs := [7]) (.int (nI b)) (by decide) (Nat.le_of_ble_eq_true rfl)
  refine ⟨h3, _, L, ?_, B3⟩
  unfold X8_init
  rw [n_one9 a (by omega), x1, Option.bind_some, p_lowBits, Option.bind_some, n_lb a (by omega)]
  dsimp only
  rw [x2, Option.bind_some, x3, Option.bind_some]
theorem mk_5 (hn : 512 < n) (hk : gkOK 5 a b cc) {mc oa ob : Nat} :
    ∃ h' F L, X9_init n (jq_newO 8 [.null, .null, .null, .null, .int 0, .int 0, .int 0, .int 0, .int 0] h).2 (jq_newO 8 [.null, .null, .null, .null, .int 0, .int 0, .int 0, .int 0, .int 0] h).1 (nI a) (nI b) (nI cc) = some h' ∧ BS h h' h.1 (gk_ci 5) (f7 (nI (gk_tb 5 a)) (nI (gk_wd 5 a b cc)) h.1 (gk_ext 5 a b cc mc oa ob)) 5 a b cc (nb0 5) F L := by
  have ha := hk.2.2.2.2.2.2.1 rfl
  obtain ⟨h1, L, x1, B1⟩ := X_base (n := n) (p0 := nI (2 ^ a)) (p1 := nI (b + 1)) (p2 := nI (2 ^ a)) (fc := 0) hn hk (show (8 : Nat) ∈ gcs by decide) (AB.new (ci := 8) (fs := [.null, .null, .null, .null, .int 0, .int 0, .int 0, .int 0, .int 0]) (h := h)) rfl rfl rfl (LR_N hk (by decide) rfl)
  obtain ⟨h2, x2, B2⟩ := B1.put (k := 7) (cs := [8]) (.int (nI (2 ^ a - 1))) (by decide) (Nat.le_of_ble_eq_true rfl)
  obtain ⟨h3, x3, B3⟩ := B2.put (k := 8) (cs := [8]) (.int (nI cc)) (by decide) (Nat.le_of_ble_eq_true rfl)
  refine ⟨h3, _, L, ?_, B3⟩
  unfold X9_init
  rw [n_one9 a (by omega), na1, x1, Option.bind_some, p_lowBits, Option.bind_some, n_lb a (by omega)]
  dsimp only
  rw [x2, Option.bind_some, x3, Option.bind_some]
theorem mk_7 {asks : Int32} (hn : 512 < n) (hk : gkOK 7 a b cc) (hs : asks = gk_asks a b) {mc oa ob : Nat} :
    ∃ h' F L, X0_init n (jq_newO 0 [.null, .null, .null, .null, .int 0, .int 0, .int 0, .null, .null, .int 0, .int 0] h).2 (jq_newO 0 [.null, .null, .null, .null, .int 0, .int 0, .int 0, .null, .null, .int 0, .int 0] h).1 oa ob asks (nI cc) = some h' ∧ BS h h' h.1 (gk_ci 7) (f7 (nI (gk_tb 7 a)) (nI (gk_wd 7 a b cc)) h.1 (gk_ext 7 a b cc mc oa ob)) 7 a b cc (nb0 7) F L := by
  have ha := hk.2.2.2.2.2.2.2.2 rfl
  subst hs
  obtain ⟨h1, L, x1, B1⟩ := X_base (n := n) (p0 := 1) (p1 := nI (2 ^ cc)) (p2 := nI (2 ^ cc)) (fc := 1) hn hk (show (0 : Nat) ∈ gcs by decide) (AB.new (ci := 0) (fs := [.null, .null, .null, .null, .int 0, .int 0, .int 0, .null, .null, .int 0, .int 0]) (h := h)) rfl rfl rfl (LR_N hk (by decide) rfl)
  obtain ⟨h2, x2, B2⟩ := B1.put (k := 7) (cs := [0]) (.ref oa) (by decide) (Nat.le_of_ble_eq_true rfl)
  obtain ⟨h3, x3, B3⟩ := B2.put (k := 8) (cs := [0]) (.ref ob) (by decide) (Nat.le_of_ble_eq_true rfl)
  obtain ⟨h4, x4, B4⟩ := B3.put (k := 9) (cs := [0]) (.int (gk_asks a b)) (by decide) (Nat.le_of_ble_eq_true rfl)
  obtain ⟨h5, x5, B5⟩ := B4.put (k := 10) (cs := [0]) (.int (nI (2 ^ cc - 1))) (by decide) (Nat.le_of_ble_eq_true rfl)
  refine ⟨h5, _, L, ?_, B5⟩
  unfold X0_init
  rw [n_one9 cc (by omega), x1, Option.bind_some, x2, Option.bind_some, x3, Option.bind_some, x4, Option.bind_some, p_lowBits, Option.bind_some, n_lb cc (by omega)]
  dsimp only
  rw [x5, Option.bind_some]
theorem mk_0 (hn : 512 < n) (hk : gkOK 0 a b cc) {mc oa ob : Nat} :
    ∃ h' F L, X2_init n (jq_newO 2 [.null, .null, .null, .null, .int 0, .int 0, .int 0, .null, .int 0] h).2 (jq_newO 2 [.null, .null, .null, .null, .int 0, .int 0, .int 0, .null, .int 0] h).1 mc (nI a) = some h' ∧ BS h h' h.1 (gk_ci 0) (f7 (nI (gk_tb 0 a)) (nI (gk_wd 0 a b cc)) h.1 (gk_ext 0 a b cc mc oa ob)) 0 a b cc (nb0 0) F L := by
  obtain ⟨h1, L, x1, B1⟩ := X_base (n := n) (p0 := 0) (p1 := 0) (p2 := 0) (fc := 0) hn hk (show (2 : Nat) ∈ gcs by decide) (AB.new (ci := 2) (fs := [.null, .null, .null, .null, .int 0, .int 0, .int 0, .null, .int 0]) (h := h)) rfl rfl rfl (LR_F (nb := nb0 0) hk (fun i _ => rfl) (fun j hj => absurd (show j < 0 * 0 from hj) (by omega)))
  obtain ⟨h2, x2, B2⟩ := B1.put (k := 7) (cs := [2]) (.ref mc) (by decide) (Nat.le_of_ble_eq_true rfl)
  obtain ⟨h3, x3, B3⟩ := B2.put (k := 8) (cs := [2]) (.int (nI a)) (by decide) (Nat.le_of_ble_eq_true rfl)
  refine ⟨h3, _, L, ?_, B3⟩
  unfold X2_init
  rw [x1, Option.bind_some, x2, Option.bind_some, x3, Option.bind_some]
/-- LOOPS: the last counts are -1 -/
theorem loop_init {ga : Nat} {h0 : jq_H} {K : Nat → jq_H → Option jq_H} {fs : List Value} (hfs : h0.2 ga = some (.inr (4, fs))) (h2 : fs[2]? = some (.ref (ga + 3))) : ∀ (k j : Nat) (h : jq_H) (S : ob_S), OF (ga + 3) 6 3 (sh_L 192 0) h0 S h → j ≤ 64 → 64 < j + k →
    ∃ h' S', X5_init_l16 n K k ga (nI j) h = K ga h' ∧ OF (ga + 3) 6 3 (sh_L 192 0) h0 S' h' ∧ (∀ k, k ≠ 0 → S' k = S k) ∧ ∀ i, i < 192 → S' 0 i = if 3 * j ≤ i ∧ i % 3 = 1 then -1 else S 0 i := by
  intro k
  induction k with
  | zero => intro j h S _ q1 q2; exfalso; omega
  | succ k ih =>
    intro j h S O q1 q2
    by_cases hj : 64 ≤ j
    · refine ⟨h, S, ?_, O, fun _ _ => rfl, fun i hi => by rw [if_neg (by omega)]⟩
      show X5_init_b16 n (X5_init_l16 n K k) K _ _ _ = _
      unfold X5_init_b16
      rw [if_pos (show (64 : Int32) ≤ nI j from (nI_leI (a := 64) (by decide) (by omega)).mpr hj)]
    · have r1 : jq_gR [4] 2 h ga = some (ga + 3) := rdR (h := h) (by rw [O.2.2 ga (by omega)]; exact hfs) (by decide) h2
      have r2 : jq_gR [3] 0 h (ga + 3) = some (ga + 3 + 4) := ob_gR (t := 0) O.1 (k := 0) rfl (by decide)
      have e1 : (nI j * 3) + 1 = nI (3 * j + 1) := by
        have e0 : nI j * 3 = nI (j * 3) := pk_mul j 3
        rw [e0, na1, Nat.mul_comm]
      obtain ⟨h1, x1, O1⟩ := ob_st (x := -1) O (ok_L _ _) (k := 0) rfl (jq_inN' (show 3 * j + 1 < 192 by omega) (by decide))
      rw [n_cl (by omega)] at O1
      obtain ⟨h', S', z1, z2, z3, z4⟩ := ih (j + 1) h1 _ O1 (by omega) (by omega)
      refine ⟨h', S', ?_, z2, fun k hk => by rw [z3 k hk, u2_ne hk], fun i hi => ?_⟩
      · rw [← z1]
        show X5_init_b16 n (X5_init_l16 n K k) K _ _ _ = _
        unfold X5_init_b16
        rw [if_neg (show ¬ (64 : Int32) ≤ nI j from fun q => hj ((nI_leI (a := 64) (by decide) (by omega)).mp q)), r1, Option.bind_some, r2, Option.bind_some, e1, x1, Option.bind_some, jq_lE, na1]
      · rw [z4 i hi, u2_eq]
        by_cases e : i = 3 * j + 1
        · subst e
          rw [if_neg (by omega), pk_us, if_pos (by omega)]
        · rw [pk_un e]
          by_cases e2 : 3 * (j + 1) ≤ i ∧ i % 3 = 1
          · rw [if_pos e2, if_pos (by omega)]
          · rw [if_neg e2, if_neg (by omega)]
theorem mk_6 (hn : 512 < n) (hk : gkOK 6 a b cc) {mc oa ob : Nat} :
    ∃ h' F L, X5_init n (jq_newO 4 [.null, .null, .null, .null, .int 0, .int 0, .int 0, .int 0] h).2 (jq_newO 4 [.null, .null, .null, .null, .int 0, .int 0, .int 0, .int 0] h).1 (nI a) = some h' ∧ BS h h' h.1 (gk_ci 6) (f7 (nI (gk_tb 6 a)) (nI (gk_wd 6 a b cc)) h.1 (gk_ext 6 a b cc mc oa ob)) 6 a b cc (nb0 6) F L := by
  obtain ⟨h1, L, x1, B1⟩ := X_base (n := n) (p0 := 64) (p1 := 3) (p2 := 0) (fc := 0) hn hk (show (4 : Nat) ∈ gcs by decide) (AB.new (ci := 4) (fs := [.null, .null, .null, .null, .int 0, .int 0, .int 0, .int 0]) (h := h)) rfl rfl rfl (LR_F (nb := nb0 5) hk (fun i hi => nb0_hi hi) (fun j hj => by unfold nb0; rw [if_pos (ix_lt hk hj), if_pos rfl]))
  obtain ⟨h2, x2, b1, b2, b3, b4, b5, b6, b7, b8, b9⟩ := B1.put (k := 7) (cs := [4]) (.int (nI a)) (by decide) (Nat.le_of_ble_eq_true rfl)
  obtain ⟨h3, F', z1, z2, z3, z4⟩ := loop_init (n := n) (K := fun w0 hh => X5_init_b42 n w0 hh) (ga := h.1) b2 rfl n 0 h2 _ (OB.f (w := 6) b5) (by omega) (by omega)
  have LF : LR 6 a b cc (nb0 6) F' := by
    have L0 : LR 6 a b cc (nb0 5) (FF 6 a b cc 0) := b7
    obtain ⟨r0, r1, r2, r3, r4, r5, r6, r7, r8, r9⟩ := L0
    have hi : ∀ i, 384 ≤ i → nb0 6 i = nb0 5 i := fun i hi => nb0_hi hi
    refine ⟨fun j hj => ?_, fun s hs => ?_, fun p hp => ?_, fun p hp => ?_, fun i hi2 => ?_, ?_, ?_, ?_, ?_, ?_⟩
    · have hj2 : j < 192 := hj
      rw [z4 j hj2]
      have ex : gk_ix 6 a b j = j := rfl
      rw [ex]
      have e0 : FF 6 a b cc 0 0 j = 0 := by
        rw [r0 j hj, ex]
        unfold nb0
        rw [if_pos (by omega), if_pos rfl]
      rw [e0, nb0_6 (by omega)]
      by_cases e : j % 3 = 1
      · rw [if_pos (show 3 * 0 ≤ j ∧ j % 3 = 1 by omega), if_pos e]
      · rw [if_neg (show ¬ (3 * 0 ≤ j ∧ j % 3 = 1) by omega), if_neg e]
    · exact absurd (show s < 0 from hs) (by omega)
    · rw [z3 2 (by decide), hi _ (by omega)]; exact r2 p hp
    · rw [z3 3 (by decide), hi _ (by omega)]; exact r3 p hp
    · rw [z3 4 (by decide), hi _ (by omega)]; exact r4 i hi2
    · rw [z3 5 (by decide), hi _ (by omega)]; exact r5
    · rw [z3 6 (by decide), hi _ (by omega)]; exact r6
    · rw [z3 7 (by decide), r7]; exact bx_congr (fun q hq => (hi _ (by omega)).symm)
    · rw [z3 8 (by decide), hi _ (by omega)]; exact r8
    · rw [z3 9 (by decide), hi _ (by omega)]; exact r9
  have y0 : (jq_newO 4 [.null, .null, .null, .null, .int 0, .int 0, .int 0, .int 0] h).1 = h.1 := rfl
  have O3 : OB h3 (h.1 + 9) 3 (sh_L (gk_nc 6 a b cc) (gk_ns 6 a cc)) L := b6.kept (ok_L _ _) (by decide) (fun y q1 q2 => z2.2.2 y (by omega))
  obtain ⟨h4, L', y1, y2, y3⟩ := X_take (n := n) hk O3 z2.1 (Or.inr (by omega)) LF
  have fr : ∀ y, y < h.1 + 3 → h4.2 y = h2.2 y := fun y hy => by rw [y2.2.2 y (by omega), z2.2.2 y (by omega)]
  have n3 : h3.2 h.1 = h2.2 h.1 := z2.2.2 _ (by omega)
  refine ⟨h4, F', L', ?_, by rw [y2.2.1, z2.2.1]; exact b1, by rw [fr _ (by omega)]; exact b2, by rw [fr _ (by omega)]; exact b3, by rw [fr _ (by omega)]; exact b4, z2.1.kept (ok_L _ _) (by decide) (fun y q1 q2 => y2.2.2 y (by omega)), y2.1, LF, y3, fun y hy => by rw [fr y (by omega)]; exact b9 y hy⟩
  have r3 : jq_gR [4] 3 h3 h.1 = some (h.1 + 9) := rdR (h := h3) (by rw [n3]; exact b2) (by decide) rfl
  have r2 : jq_gR [4] 2 h3 h.1 = some (h.1 + 3) := rdR (h := h3) (by rw [n3]; exact b2) (by decide) rfl
  unfold X5_init
  rw [x1, Option.bind_some, x2, Option.bind_some]
  refine z1.trans ?_
  show X5_init_b42 n h.1 h3 = _
  unfold X5_init_b42
  rw [r3, Option.bind_some, r2, Option.bind_some, if_pos O3.ci, y1, Option.bind_some]
end MADE
