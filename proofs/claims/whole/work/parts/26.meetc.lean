theorem gI_congr {h h' : jq_H} {x k : Nat} {cs : List Nat} (hx : h'.2 x = h.2 x) : jq_gI cs k h' x = jq_gI cs k h x := by
  unfold jq_gI jq_f
  rw [hx]
/-- a guesser's own cells: the object and what it learnt now -/
def gown (ga x : Nat) : Prop := x = ga ∨ (ga + 9 ≤ x ∧ x < ga + 15)
/-- the block's number behind a branch -/
def nb_next (kd a b c : Nat) (nb : Nat → Int32) (p w : Nat) (gu oA oB : Int32) : Nat → Int32 := sp_hist (sp_cells kd a b c (sp_ask (sp_c1 kd a b c nb p) p (if gu = nI w then 0 else 1)) p w oA oB) p w
theorem bx_congr {f g : Nat → Int32} : ∀ {N : Nat}, (∀ q, q < N → f q = g q) → bx_sum f N = bx_sum g N
  | 0, _ => rfl
  | N + 1, hfg => by
    show bx_sum f N + f N = bx_sum g N + g N
    rw [bx_congr (fun q hq => hfg q (by omega)), hfg N (by omega)]
section MB
variable {n ga kd a b c mc oa ob p w : Nat} {h : jq_H} {said : Int32} {S M : ob_S} {nb : Nat → Int32} {opv oA oB : Int32}
/-- counting, and the clash: the class's numbers follow -/
theorem LR_ask {S1 S2 : ob_S} {gu : Int32} (hk : gkOK kd a b c) (hp : p < 64) (R : LR kd a b c nb S) (B : BW kd nb)
    (h1 : S1 = if (if gu = nI w then (0 : Int32) else 1) = 0 then u2 S 6 0 (S 6 0 + 1) else u2 (u2 (u2 S 6 0 (S 6 0 + 1)) 7 0 (S 7 0 + 1)) 3 p (S 3 p + 1))
    (h2 : if sp_cl kd = true then (∀ k, k ≠ 1 → k ≠ 4 → k ≠ 8 → k ≠ 9 → S2 k = S1 k) ∧ (∀ s', s' < gk_ns kd a c → S2 1 s' = lv6 (sp_clash nb (sp_ctr kd a b c nb p 0) p (512 + s'))) ∧ (∀ i, i < 40 → S2 4 i = sp_clash nb (sp_ctr kd a b c nb p 0) p (768 + i)) ∧ S2 8 0 = sp_clash nb (sp_ctr kd a b c nb p 0) p 810 ∧ S2 9 0 = sp_clash nb (sp_ctr kd a b c nb p 0) p 811 else S2 = S1) :
    LR kd a b c (sp_ask (sp_c1 kd a b c nb p) p (if gu = nI w then 0 else 1)) S2 := by
  obtain ⟨b1, b2, b3, b4⟩ := B
  obtain ⟨r0, r1, r2, r3, r4, r5, r6, r7, r8, r9⟩ := R
  have cf : ∀ i, i < 512 ∨ i = 808 ∨ i = 809 → sp_c1 kd a b c nb p i = nb i := fun i hi => c1_far hk hi b2
  have ak : ∀ (m : Int32) i, i ≠ 448 + p → i ≠ 809 → sp_ask (sp_c1 kd a b c nb p) p m i = sp_c1 kd a b c nb p i := fun m i q1 q2 => by rw [sp_ask, pk_un q2, pk_un q1]
  have ns_lt : gk_ns kd a c ≤ 256 := by
    unfold gk_ns
    by_cases hc : sp_cl kd = true
    · rw [if_pos hc]
      obtain ⟨k8, -, k1, k2, k3, k4, k5, -, k7⟩ := hk
      have h5 : kd = 1 ∨ kd = 2 ∨ kd = 3 ∨ kd = 5 ∨ kd = 7 := by simp [sp_cl] at hc; omega
      by_cases h7 : kd = 7
      · rw [if_pos h7]; exact two_lt (by omega)
      · rw [if_neg h7]; exact two_lt (by omega)
    · rw [if_neg hc]; omega
  have s1k : ∀ k, k ≠ 3 → k ≠ 6 → k ≠ 7 → S1 k = S k := by
    intro k q3 q6 q7
    rw [h1]
    by_cases hm : (if gu = nI w then (0 : Int32) else 1) = 0
    · rw [if_pos hm, u2_ne q6]
    · rw [if_neg hm, u2_ne q3, u2_ne q7, u2_ne q6]
  -- the five slots of the clash
  have cl : (∀ k, k ≠ 1 → k ≠ 4 → k ≠ 8 → k ≠ 9 → S2 k = S1 k) ∧ (∀ s', s' < gk_ns kd a c → S2 1 s' = lv6 (sp_c1 kd a b c nb p (512 + s'))) ∧ (∀ i, i < 40 → S2 4 i = sp_c1 kd a b c nb p (768 + i)) ∧ S2 8 0 = sp_c1 kd a b c nb p 810 ∧ S2 9 0 = sp_c1 kd a b c nb p 811 := by
    unfold sp_c1
    by_cases hc : sp_cl kd = true
    · rw [if_pos hc] at h2
      rw [if_pos hc]
      exact h2
    · rw [if_neg hc] at h2
      rw [if_neg hc]
      subst h2
      exact ⟨fun _ _ _ _ _ => rfl, fun s hs => by rw [s1k 1 (by decide) (by decide) (by decide)]; exact r1 s hs, fun i hi => by rw [s1k 4 (by decide) (by decide) (by decide)]; exact r4 i hi, by rw [s1k 8 (by decide) (by decide) (by decide)]; exact r8, by rw [s1k 9 (by decide) (by decide) (by decide)]; exact r9⟩
  obtain ⟨c0, c1, c4, c8, c9⟩ := cl
  refine ⟨fun j hj => ?_, fun s hs => ?_, fun q hq => ?_, fun q hq => ?_, fun i hi => ?_, ?_, ?_, ?_, ?_, ?_⟩
  · have hi := ix_lt hk hj
    rw [c0 0 (by decide) (by decide) (by decide) (by decide), s1k 0 (by decide) (by decide) (by decide), ak _ _ (by omega) (by omega), cf _ (by omega)]
    exact r0 j hj
  · rw [c1 s hs, ak _ _ (by omega) (by omega)]
  · rw [c0 2 (by decide) (by decide) (by decide) (by decide), s1k 2 (by decide) (by decide) (by decide), ak _ _ (by omega) (by omega), cf _ (by omega)]
    exact r2 q hq
  · rw [c0 3 (by decide) (by decide) (by decide) (by decide), h1, sp_ask, pk_un (by omega), cf _ (by omega)]
    by_cases hm : gu = nI w
    · rw [if_pos hm, if_pos rfl, u2_ne (by decide), r3 q hq]
      by_cases hqp : q = p
      · subst hqp
        rw [pk_us]
        exact (Int32.add_zero _).symm
      · rw [pk_un (by omega), cf _ (by omega)]
    · rw [if_neg hm, if_neg (by decide), u2_eq, u2_ne (by decide), u2_ne (by decide)]
      by_cases hqp : q = p
      · subst hqp
        rw [pk_us, pk_us, r3 q hq]
      · rw [pk_un hqp, pk_un (by omega), cf _ (by omega), r3 q hq]
  · rw [c4 i hi, ak _ _ (by omega) (by omega)]
  · rw [c0 5 (by decide) (by decide) (by decide) (by decide), s1k 5 (by decide) (by decide) (by decide), ak _ _ (by omega) (by omega), cf _ (by omega)]
    exact r5
  · rw [c0 6 (by decide) (by decide) (by decide) (by decide), h1, sp_ask, pk_us, cf _ (by omega)]
    by_cases hm : (if gu = nI w then (0 : Int32) else 1) = 0
    · rw [if_pos hm, u2_at, r6]
    · rw [if_neg hm, u2_ne (by decide), u2_ne (by decide), u2_at, r6]
  · rw [c0 7 (by decide) (by decide) (by decide) (by decide), h1]
    have hsum : ∀ m : Int32, bx_sum (fun q => sp_ask (sp_c1 kd a b c nb p) p m (448 + q)) 64 = bx_sum (fun q => nb (448 + q)) 64 + m := by
      intro m
      have e1 : (fun q => upd nb (448 + p) (nb (448 + p) + m) (448 + q)) = (fun q => if q < 64 then sp_ask (sp_c1 kd a b c nb p) p m (448 + q) else upd nb (448 + p) (nb (448 + p) + m) (448 + q)) := by
        funext q
        by_cases hq : q < 64
        · have e3 : sp_ask (sp_c1 kd a b c nb p) p m (448 + q) = upd (sp_c1 kd a b c nb p) (448 + p) (sp_c1 kd a b c nb p (448 + p) + m) (448 + q) := by rw [sp_ask, pk_un (by omega)]
          rw [if_pos hq, e3, cf (448 + p) (by omega)]
          by_cases hqp : q = p
          · subst hqp
            rw [pk_us, pk_us]
          · rw [pk_un (by omega), pk_un (by omega), cf _ (by omega)]
        · rw [if_neg hq]
      have e2 := bx_up (nb := nb) (p := p) (x := m) 64
      rw [if_pos hp, e1] at e2
      rw [← e2]
      have key : ∀ (f g : Nat → Int32) (N : Nat), (∀ q, q < N → f q = g q) → bx_sum f N = bx_sum g N := by
        intro f g N
        induction N with
        | zero => intro _; rfl
        | succ N ih =>
          intro hfg
          show bx_sum f N + f N = bx_sum g N + g N
          rw [ih (fun q hq => hfg q (by omega)), hfg N (by omega)]
      exact key _ _ 64 (fun q hq => by rw [if_pos hq])
    rw [hsum]
    by_cases hm : gu = nI w
    · rw [if_pos hm, if_pos rfl, u2_ne (by decide), r7]
      exact (Int32.add_zero _).symm
    · rw [if_neg hm, if_neg (by decide), u2_ne (by decide), u2_at, r7]
  · rw [c8, ak _ _ (by omega) (by decide)]
  · rw [c9, ak _ _ (by omega) (by decide)]
set_option maxHeartbeats 1000000 in
/-- meetBranch: it says, counts, clashes, learns -/
theorem X_meet {hf : Nat → Int32} {gu : Int32} (hn : 100 < n) (hp : p < 64) (hw : w < 2) (hk : gkOK kd a b c) (G : GO h ga kd a b c mc oa ob said) (hH : h.2 (ga + 1) = some (.inl (0, 64, .inl hf))) (hfo : hintOK (hf p)) (O : OB h (ga + 9) 3 (sh_L (gk_nc kd a b c) (gk_ns kd a c)) S) (R : LR kd a b c nb S) (B : BW kd nb) (hM : kd = 0 → OB h mc 5 sh_M M ∧ M 3 p = opv) (hA : kd = 7 → (¬ gown ga oa ∧ jq_gI gcs 6 h oa = some oA) ∧ (¬ gown ga ob ∧ jq_gI gcs 6 h ob = some oB)) (hgu : gu = sp_say kd a b c nb (hf p) opv p oA oB) :
    ∃ h' S', X3_meetBranch n h ga (nI p) (nI w) = some h' ∧ GO h' ga kd a b c mc oa ob gu ∧ OB h' (ga + 9) 3 (sh_L (gk_nc kd a b c) (gk_ns kd a c)) S' ∧ LR kd a b c (nb_next kd a b c nb p w gu oA oB) S' ∧ BW kd (nb_next kd a b c nb p w gu oA oB) ∧ h'.1 = h.1 ∧ ∀ x, ¬ gown ga x → h'.2 x = h.2 x := by
  obtain ⟨h1, e1, G1, z1, f1⟩ := X_say (n := n) (by omega) hp hk G hH hfo O R B.2.2.2 hM (fun q => ⟨(hA q).1.2, (hA q).2.2⟩)
  rw [← hgu] at G1
  have O1 : OB h1 (ga + 9) 3 (sh_L (gk_nc kd a b c) (gk_ns kd a c)) S := O.kept (ok_L _ _) (by decide) (fun x hx1 hx2 => f1 x (by omega))
  -- counting
  obtain ⟨h2, e2, O2⟩ := N_X4_countAsked (n := n) (O1.f (w := 6)) (C_countAsked (n := n) (nc := gk_nc kd a b c) (ns := gk_ns kd a c) (S := S) (y := if gu = nI w then 0 else 1) hp)
  obtain ⟨S1, hS1⟩ : ∃ x, x = (if (if gu = nI w then (0 : Int32) else 1) = 0 then u2 S 6 0 (S 6 0 + 1) else u2 (u2 (u2 S 6 0 (S 6 0 + 1)) 7 0 (S 7 0 + 1)) 3 p (S 3 p + 1)) := ⟨_, rfl⟩
  rw [← hS1] at O2
  have G2 := O2.go G1
  have s1k : ∀ k, k ≠ 3 → k ≠ 6 → k ≠ 7 → S1 k = S k := by
    intro k q3 q6 q7
    rw [hS1]
    by_cases hm : (if gu = nI w then (0 : Int32) else 1) = 0
    · rw [if_pos hm, u2_ne q6]
    · rw [if_neg hm, u2_ne q3, u2_ne q7, u2_ne q6]
  -- which slot
  have hslot := V_slotS (n := n) (nb := nb) hp hk G2 O2.1 (by rw [s1k 5 (by decide) (by decide) (by decide)]; exact R.2.2.2.2.2.1) (by rw [s1k 2 (by decide) (by decide) (by decide)]; exact R.2.2.1 p hp)
  -- the clash
  have ns_lt : gk_ns kd a c ≤ 256 := by
    unfold gk_ns
    by_cases hc : sp_cl kd = true
    · rw [if_pos hc]
      obtain ⟨k8, -, k1, k2, k3, k4, k5, -, k7⟩ := hk
      have h5 : kd = 1 ∨ kd = 2 ∨ kd = 3 ∨ kd = 5 ∨ kd = 7 := by simp [sp_cl] at hc; omega
      by_cases h7 : kd = 7
      · rw [if_pos h7]; exact two_lt (by omega)
      · rw [if_neg h7]; exact two_lt (by omega)
    · rw [if_neg hc]; omega
  have slot_ns : sp_cl kd = true → sp_ctr kd a b c nb p 0 < gk_ns kd a c := by
    intro hc
    have h5 : kd = 1 ∨ kd = 2 ∨ kd = 3 ∨ kd = 5 ∨ kd = 7 := by simp [sp_cl] at hc; omega
    unfold gk_ns
    rw [if_pos hc]
    unfold sp_ctr
    rcases h5 with rfl | rfl | rfl | rfl | rfl <;> simp <;> exact Nat.mod_lt _ (Nat.two_pow_pos _)
  have fin : ∀ (h3 : jq_H) (S2 : ob_S), OF (ga + 9) 6 3 (sh_L (gk_nc kd a b c) (gk_ns kd a c)) h1 S2 h3 → (if sp_cl kd = true then (∀ k, k ≠ 1 → k ≠ 4 → k ≠ 8 → k ≠ 9 → S2 k = S1 k) ∧ (∀ s', s' < gk_ns kd a c → S2 1 s' = lv6 (sp_clash nb (sp_ctr kd a b c nb p 0) p (512 + s'))) ∧ (∀ i, i < 40 → S2 4 i = sp_clash nb (sp_ctr kd a b c nb p 0) p (768 + i)) ∧ S2 8 0 = sp_clash nb (sp_ctr kd a b c nb p 0) p 810 ∧ S2 9 0 = sp_clash nb (sp_ctr kd a b c nb p 0) p 811 else S2 = S1) →
      ∃ h' S', X3_meetBranch_b46 n ga (nI p) (nI w) h3 = some h' ∧ GO h' ga kd a b c mc oa ob gu ∧ OB h' (ga + 9) 3 (sh_L (gk_nc kd a b c) (gk_ns kd a c)) S' ∧ LR kd a b c (nb_next kd a b c nb p w gu oA oB) S' ∧ BW kd (nb_next kd a b c nb p w gu oA oB) ∧ h'.1 = h.1 ∧ ∀ x, ¬ gown ga x → h'.2 x = h.2 x := by
    intro h3 S2 O3 hcl
    have G3 := O3.go G1
    have R3 := LR_ask (w := w) (gu := gu) hk hp R B hS1 hcl
    have cf : ∀ i, i < 512 ∨ i = 808 ∨ i = 809 → sp_c1 kd a b c nb p i = nb i := fun i hi => c1_far hk hi B.2.1
    have ak : ∀ (m : Int32) i, i ≠ 448 + p → i ≠ 809 → sp_ask (sp_c1 kd a b c nb p) p m i = sp_c1 kd a b c nb p i := fun m i q1 q2 => by rw [sp_ask, pk_un q2, pk_un q1]
    have cell2 : cellOK kd (sp_ask (sp_c1 kd a b c nb p) p (if gu = nI w then 0 else 1)) := by
      have b4 := B.2.2.2
      refine ⟨fun q j hj => ?_, fun q j hj => ?_, fun q r hr => ?_⟩
      · rw [ak _ j (by omega) (by omega), cf j (by omega)]; exact b4.1 q j hj
      · rw [ak _ j (by omega) (by omega), cf j (by omega)]; exact b4.2.1 q j hj
      · rw [ak _ (3 * r) (by omega) (by omega), cf (3 * r) (by omega), ak _ (3 * r + 2) (by omega) (by omega), cf (3 * r + 2) (by omega)]; exact b4.2.2 q r hr
    have hh3 : hisOK (sp_ask (sp_c1 kd a b c nb p) p (if gu = nI w then 0 else 1)) := B.1.of (by rw [ak _ _ (by omega) (by decide), cf _ (by omega)]) (fun q hq => by rw [ak _ _ (by omega) (by omega), cf _ (by omega)])
    have f3 : ∀ x, ¬ gown ga x → h3.2 x = h.2 x := fun x hx => by
      rw [O3.2.2 x (by unfold gown at hx; omega), f1 x (fun q => hx (Or.inl q))]
    obtain ⟨h4, e4, L4⟩ := V_lrn (n := n) (w := w) (oA := oA) (oB := oB) (by omega) hp hw hk hh3 G3 O3.1 R3 cell2 (fun q => ⟨by rw [gI_congr (f3 oa (hA q).1.1)]; exact (hA q).1.2, by rw [gI_congr (f3 ob (hA q).2.1)]; exact (hA q).2.2⟩)
    obtain ⟨S3, O4, k4, c4⟩ := L4
    have G4 := O4.go G3
    -- histories
    obtain ⟨hb1, hb2⟩ := hh3
    obtain ⟨e8, l8⟩ := hb1.cl (by decide)
    obtain ⟨ep, lp⟩ := (hb2 p hp).cl (by decide)
    have r35 := R3.2.2.2.2.2.1
    have r32 := R3.2.2.1 p hp
    obtain ⟨h5, e5, O5⟩ := N_X4_addWay (n := n) O4 (C_addWay (n := n) (nc := gk_nc kd a b c) (ns := gk_ns kd a c) (S := S3) hp hw (by rw [k4 5 (by decide)]; exact r35) (by omega) (by rw [k4 2 (by decide)]; exact r32) (by omega))
    have G5 := O5.go G3
    refine ⟨h5, _, ?_, G5, O5.1, ?_, BW_next hk hp hw B, ?_, fun x hx => ?_⟩
    · unfold X3_meetBranch_b46
      rw [e4, Option.bind_some, rdR (q := ga + 9) G4 (gk_in kd) rfl, Option.bind_some, if_pos O4.1.ci, e5, Option.bind_some]
    · unfold nb_next
      generalize sp_ask (sp_c1 kd a b c nb p) p (if gu = nI w then 0 else 1) = nbA at R3 c4 e8 l8 ep lp ⊢
      obtain ⟨q0, q1, q2, q3, q4, q5, q6, q7, q8, q9⟩ := R3
      have far : ∀ i, 384 ≤ i → i ≠ 808 → i ≠ 384 + p → sp_hist (sp_cells kd a b c nbA p w oA oB) p w i = nbA i := fun i h1 h2 h3 => by rw [sp_hist, pk_un h3, pk_un h2, cells_far hk hp h1]
      have low : ∀ i, i < 384 → sp_hist (sp_cells kd a b c nbA p w oA oB) p w i = sp_cells kd a b c nbA p w oA oB i := fun i hi => by rw [sp_hist, pk_un (by omega), pk_un (by omega)]
      have n808 : sp_hist (sp_cells kd a b c nbA p w oA oB) p w 808 = nI ((2 * (nbA 808).toNatClampNeg + w) % 65536) := by rw [sp_hist, pk_un (by omega), pk_us, cells_far hk hp (by decide)]
      have n384 : sp_hist (sp_cells kd a b c nbA p w oA oB) p w (384 + p) = nI ((2 * (nbA (384 + p)).toNatClampNeg + w) % 65536) := by rw [sp_hist, pk_us, cells_far hk hp (by omega)]
      refine ⟨fun j hj => ?_, fun s hs => ?_, fun q hq => ?_, fun q hq => ?_, fun i hi => ?_, ?_, ?_, ?_, ?_, ?_⟩
      · rw [u2_ne (by decide), u2_ne (by decide), low _ (ix_lt hk hj)]
        exact c4 j hj
      · rw [u2_ne (by decide), u2_ne (by decide), k4 1 (by decide), far _ (by omega) (by omega) (by omega)]
        exact q1 s hs
      · rw [u2_eq, u2_ne (by decide)]
        by_cases hqp : q = p
        · subst hqp
          rw [pk_us, n384, n_cl (by omega)]
          congr 1
          omega
        · rw [pk_un hqp, k4 2 (by decide), far _ (by omega) (by omega) (by omega)]
          exact q2 q hq
      · rw [u2_ne (by decide), u2_ne (by decide), k4 3 (by decide), far _ (by omega) (by omega) (by omega)]
        exact q3 q hq
      · rw [u2_ne (by decide), u2_ne (by decide), k4 4 (by decide), far _ (by omega) (by omega) (by omega)]
        exact q4 i hi
      · rw [u2_ne (by decide), u2_at, n808, n_cl (by omega)]
        congr 1
        omega
      · rw [u2_ne (by decide), u2_ne (by decide), k4 6 (by decide), far _ (by decide) (by decide) (by omega)]
        exact q6
      · rw [u2_ne (by decide), u2_ne (by decide), k4 7 (by decide), q7]
        exact bx_congr (fun q hq => (far (448 + q) (by omega) (by omega) (by omega)).symm)
      · rw [u2_ne (by decide), u2_ne (by decide), k4 8 (by decide), far _ (by decide) (by decide) (by omega)]
        exact q8
      · rw [u2_ne (by decide), u2_ne (by decide), k4 9 (by decide), far _ (by decide) (by decide) (by omega)]
        exact q9
    · rw [O5.2.1, O3.2.1, z1]
    · rw [O5.2.2 x (by unfold gown at hx; omega), f3 x hx]
  have key : (if gu = nI w then X3_meetBranch_b23 n ga (nI p) (nI w) (ga + 9) (nI p) 0 h1 else X3_meetBranch_b23 n ga (nI p) (nI w) (ga + 9) (nI p) 1 h1) = X3_meetBranch_b23 n ga (nI p) (nI w) (ga + 9) (nI p) (if gu = nI w then 0 else 1) h1 := by
    by_cases hq : gu = nI w
    · rw [if_pos hq, if_pos hq]
    · rw [if_neg hq, if_neg hq]
  unfold X3_meetBranch
  rw [V_sayE hk G, e1, Option.bind_some, rdR (q := ga + 9) G1 (gk_in kd) rfl, Option.bind_some, rdI (x := gu) G1 (gk_in kd) rfl, Option.bind_some, key]
  unfold X3_meetBranch_b23
  rw [if_pos O1.ci, e2, Option.bind_some, hslot, Option.bind_some]
  simp only [jq_l]
  by_cases hc : sp_cl kd = true
  · have hcl := ctr0_lt (nb := nb) (p := p) hk hc
    rw [if_pos hc, if_neg (nI_ne_m1 (by omega)), rdR (q := ga + 9) G2 (gk_in kd) rfl, Option.bind_some, if_pos O2.1.ci]
    obtain ⟨S2, u0, u1, u2', u3, u4, u5⟩ := C_useSlot (n := n) (S := S1) (nc := gk_nc kd a b c) (nb := nb) (ns := gk_ns kd a c) (s := sp_ctr kd a b c nb p 0) hn (slot_ns hc) ns_lt hp B.2.1 (fun s hs => B.2.2.1 s (by omega)) (fun s hs => by rw [s1k 1 (by decide) (by decide) (by decide)]; exact R.2.1 s hs) (fun i hi => by rw [s1k 4 (by decide) (by decide) (by decide)]; exact R.2.2.2.2.1 i hi) (by rw [s1k 8 (by decide) (by decide) (by decide)]; exact R.2.2.2.2.2.2.2.2.1) (by rw [s1k 9 (by decide) (by decide) (by decide)]; exact R.2.2.2.2.2.2.2.2.2)
    obtain ⟨h3, e3, O3⟩ := N_X4_useSlot (n := n) O2 u0
    rw [e3, Option.bind_some]
    exact fin h3 S2 O3 (by rw [if_pos hc]; exact ⟨u1, u2', u3, u4, u5⟩)
  · rw [if_neg hc, if_pos rfl]
    exact fin h2 S1 O2 (by rw [if_neg hc])
end MB
