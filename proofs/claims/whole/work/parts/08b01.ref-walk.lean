set_option maxRecDepth 100000 in
set_option maxHeartbeats 4000000 in
theorem M_X11_init (l : Launch) (bs : Nat) (D : va_G) (ct : Nat → ClassId) (n : Nat) (h : jq_H) (a : Nat) (res : jq_H) (he : X11_init n h a = some res) : jq_M l yX11_init cX11_init 1 none rm_X11_init (jq_P [.ref a] bs D ct h) (jq_Qv bs D ct res) bs := by
  refine jq_start2 (by decide +kernel) (Nat.le_of_ble_eq_true rfl) ?_
  intro p e s m args below meth c ls H locs C hr hlk hin hl X
  have C : jq_C p s m args c cX11_init 1 RX11 D ct bs := C
  have hin : meth.name = "<init>" := hin
  have hl : lv_has ls 1 [(0, .ref a)] := hl
  unfold X11_init at he
  refine lv_aload_n C.1 C.2.1 dX11_init_0 rfl (lv_at hl 0 rfl) ?_
  refine W.objInit C.1 C.2.1 C.2.2.2.1 (C.2.2.2.2.1 _ gw_755) (C.2.2.2.2.1 _ gw_22) (C.2.2.2.2.1 _ gw_23) rfl (hl.1.trans C.2.2.1.symm) rfl dX11_init_1 (by decide) (Nat.le_of_ble_eq_true rfl) ?_
  refine W.eq (g2 := F0 m 4 ls []) rfl ?_
  refine lv_aload_n C.1 C.2.1 dX11_init_4 rfl (lv_at hl 0 rfl) ?_
  refine lv_bipush (v := 64) C.1 C.2.1 dX11_init_5 (by decide) ?_
  refine jq_rnewI (aty := .int) C X (Or.inl ⟨rfl, rfl⟩) gw_61 (by decide) he (by decide) (by decide) dX11_init_7 (fun z1 H he X => ?_)
  refine jq_rpF (ty := .array .int) C X fs_X11_7 hin rfl (by decide +kernel) rfl rfl he dX11_init_9 (fun h2 H locs he X => ?_)
  refine lv_aload_n C.1 C.2.1 dX11_init_12 rfl (lv_at hl 0 rfl) ?_
  refine lv_bipush (v := 64) C.1 C.2.1 dX11_init_13 (by decide) ?_
  refine jq_rnewI (aty := .int) C X (Or.inl ⟨rfl, rfl⟩) gw_61 (by decide) he (by decide) (by decide) dX11_init_15 (fun z3 H he X => ?_)
  refine jq_rpF (ty := .array .int) C X fs_X11_13 hin rfl (by decide +kernel) rfl rfl he dX11_init_17 (fun h4 H locs he X => ?_)
  refine lv_aload_n C.1 C.2.1 dX11_init_20 rfl (lv_at hl 0 rfl) ?_
  refine lv_bipush (v := 64) C.1 C.2.1 dX11_init_21 (by decide) ?_
  refine jq_rnewI (aty := .int) C X (Or.inl ⟨rfl, rfl⟩) gw_61 (by decide) he (by decide) (by decide) dX11_init_23 (fun z5 H he X => ?_)
  refine jq_rpF (ty := .array .int) C X fs_X11_16 hin rfl (by decide +kernel) rfl rfl he dX11_init_25 (fun h6 H locs he X => ?_)
  refine lv_aload_n C.1 C.2.1 dX11_init_28 rfl (lv_at hl 0 rfl) ?_
  refine lv_bipush (v := 64) C.1 C.2.1 dX11_init_29 (by decide) ?_
  refine jq_rnewI (aty := .int) C X (Or.inl ⟨rfl, rfl⟩) gw_61 (by decide) he (by decide) (by decide) dX11_init_31 (fun z7 H he X => ?_)
  refine jq_rpF (ty := .array .int) C X fs_X11_19 hin rfl (by decide +kernel) rfl rfl he dX11_init_33 (fun h8 H locs he X => ?_)
  refine lv_aload_n C.1 C.2.1 dX11_init_36 rfl (lv_at hl 0 rfl) ?_
  refine lv_bipush (v := 8) C.1 C.2.1 dX11_init_37 (by decide) ?_
  refine jq_rnewI (aty := .int) C X (Or.inl ⟨rfl, rfl⟩) gw_61 (by decide) he (by decide) (by decide) dX11_init_39 (fun z9 H he X => ?_)
  refine jq_rpF (ty := .array .int) C X fs_X11_22 hin rfl (by decide +kernel) rfl rfl he dX11_init_41 (fun h10 H locs he X => ?_)
  refine lv_aload_n C.1 C.2.1 dX11_init_44 rfl (lv_at hl 0 rfl) ?_
  refine lv_bipush (v := 32) C.1 C.2.1 dX11_init_45 (by decide) ?_
  refine jq_rnewI (aty := .int) C X (Or.inl ⟨rfl, rfl⟩) gw_61 (by decide) he (by decide) (by decide) dX11_init_47 (fun z11 H he X => ?_)
  refine jq_rpF (ty := .array .int) C X fs_X11_25 hin rfl (by decide +kernel) rfl rfl he dX11_init_49 (fun h12 H locs he X => ?_)
  refine lv_aload_n C.1 C.2.1 dX11_init_52 rfl (lv_at hl 0 rfl) ?_
  refine lv_sipush (v := 3000) C.1 C.2.1 dX11_init_53 (by decide) ?_
  refine jq_rnewI (aty := .int) C X (Or.inl ⟨rfl, rfl⟩) gw_61 (by decide) he (by decide) (by decide) dX11_init_56 (fun z13 H he X => ?_)
  refine jq_rpF (ty := .array .int) C X fs_X11_28 hin rfl (by decide +kernel) rfl rfl he dX11_init_58 (fun h14 H locs he X => ?_)
  refine lv_aload_n C.1 C.2.1 dX11_init_61 rfl (lv_at hl 0 rfl) ?_
  refine lv_sipush (v := 3000) C.1 C.2.1 dX11_init_62 (by decide) ?_
  refine jq_rnewI (aty := .int) C X (Or.inl ⟨rfl, rfl⟩) gw_61 (by decide) he (by decide) (by decide) dX11_init_65 (fun z15 H he X => ?_)
  refine jq_rpF (ty := .array .int) C X fs_X11_31 hin rfl (by decide +kernel) rfl rfl he dX11_init_67 (fun h16 H locs he X => ?_)
  refine lv_aload_n C.1 C.2.1 dX11_init_70 rfl (lv_at hl 0 rfl) ?_
  refine lv_bipush (v := 8) C.1 C.2.1 dX11_init_71 (by decide) ?_
  refine jq_rnewI (aty := .int) C X (Or.inl ⟨rfl, rfl⟩) gw_61 (by decide) he (by decide) (by decide) dX11_init_73 (fun z17 H he X => ?_)
  refine jq_rpF (ty := .array .int) C X fs_X11_34 hin rfl (by decide +kernel) rfl rfl he dX11_init_75 (fun h18 H locs he X => ?_)
  refine lv_aload_n C.1 C.2.1 dX11_init_78 rfl (lv_at hl 0 rfl) ?_
  refine lv_bipush (v := 8) C.1 C.2.1 dX11_init_79 (by decide) ?_
  refine jq_rnewI (aty := .int) C X (Or.inl ⟨rfl, rfl⟩) gw_61 (by decide) he (by decide) (by decide) dX11_init_81 (fun z19 H he X => ?_)
  refine jq_rpF (ty := .array .int) C X fs_X11_37 hin rfl (by decide +kernel) rfl rfl he dX11_init_83 (fun h20 H locs he X => ?_)
  refine lv_aload_n C.1 C.2.1 dX11_init_86 rfl (lv_at hl 0 rfl) ?_
  refine lv_bipush (v := 8) C.1 C.2.1 dX11_init_87 (by decide) ?_
  refine jq_rnewI (aty := .int) C X (Or.inl ⟨rfl, rfl⟩) gw_61 (by decide) he (by decide) (by decide) dX11_init_89 (fun z21 H he X => ?_)
  refine jq_rpF (ty := .array .int) C X fs_X11_40 hin rfl (by decide +kernel) rfl rfl he dX11_init_91 (fun h22 H locs he X => ?_)
  refine lv_aload_n C.1 C.2.1 dX11_init_94 rfl (lv_at hl 0 rfl) ?_
  refine lv_bipush (v := 8) C.1 C.2.1 dX11_init_95 (by decide) ?_
  refine jq_rnewI (aty := .int) C X (Or.inl ⟨rfl, rfl⟩) gw_61 (by decide) he (by decide) (by decide) dX11_init_97 (fun z23 H he X => ?_)
  refine jq_rpF (ty := .array .int) C X fs_X11_43 hin rfl (by decide +kernel) rfl rfl he dX11_init_99 (fun h24 H locs he X => ?_)
  refine lv_aload_n C.1 C.2.1 dX11_init_102 rfl (lv_at hl 0 rfl) ?_
  refine lv_sipush (v := 512) C.1 C.2.1 dX11_init_103 (by decide) ?_
  refine jq_rnewI (aty := .int) C X (Or.inl ⟨rfl, rfl⟩) gw_61 (by decide) he (by decide) (by decide) dX11_init_106 (fun z25 H he X => ?_)
  refine jq_rpF (ty := .array .int) C X fs_X11_46 hin rfl (by decide +kernel) rfl rfl he dX11_init_108 (fun h26 H locs he X => ?_)
  refine lv_aload_n C.1 C.2.1 dX11_init_111 rfl (lv_at hl 0 rfl) ?_
  refine lv_sipush (v := 6496) C.1 C.2.1 dX11_init_112 (by decide) ?_
  refine jq_rnewI (aty := .int) C X (Or.inl ⟨rfl, rfl⟩) gw_61 (by decide) he (by decide) (by decide) dX11_init_115 (fun z27 H he X => ?_)
  refine jq_rpF (ty := .array .int) C X fs_X11_49 hin rfl (by decide +kernel) rfl rfl he dX11_init_117 (fun h28 H locs he X => ?_)
  refine lv_aload_n C.1 C.2.1 dX11_init_120 rfl (lv_at hl 0 rfl) ?_
  refine lv_sipush (v := 12992) C.1 C.2.1 dX11_init_121 (by decide) ?_
  refine jq_rnewI (aty := .int) C X (Or.inl ⟨rfl, rfl⟩) gw_61 (by decide) he (by decide) (by decide) dX11_init_124 (fun z29 H he X => ?_)
  refine jq_rpF (ty := .array .int) C X fs_X11_52 hin rfl (by decide +kernel) rfl rfl he dX11_init_126 (fun h30 H locs he X => ?_)
  refine lv_aload_n C.1 C.2.1 dX11_init_129 rfl (lv_at hl 0 rfl) ?_
  refine lv_bipush (v := 16) C.1 C.2.1 dX11_init_130 (by decide) ?_
  refine jq_rnewI (aty := .boolean) C X (Or.inr ⟨rfl, rfl⟩) gw_833 (by decide) he (by decide) (by decide) dX11_init_132 (fun z31 H he X => ?_)
  refine jq_rpF (ty := .array .boolean) C X fs_X11_55 hin rfl (by decide +kernel) rfl rfl he dX11_init_134 (fun h32 H locs he X => ?_)
  refine lv_aload_n C.1 C.2.1 dX11_init_137 rfl (lv_at hl 0 rfl) ?_
  refine lv_bipush (v := 8) C.1 C.2.1 dX11_init_138 (by decide) ?_
  refine jq_rnewI (aty := .int) C X (Or.inl ⟨rfl, rfl⟩) gw_61 (by decide) he (by decide) (by decide) dX11_init_140 (fun z33 H he X => ?_)
  refine jq_rpF (ty := .array .int) C X fs_X11_59 hin rfl (by decide +kernel) rfl rfl he dX11_init_142 (fun h34 H locs he X => ?_)
  refine lv_aload_n C.1 C.2.1 dX11_init_145 rfl (lv_at hl 0 rfl) ?_
  refine lv_bipush (v := 8) C.1 C.2.1 dX11_init_146 (by decide) ?_
  refine jq_rnewI (aty := .int) C X (Or.inl ⟨rfl, rfl⟩) gw_61 (by decide) he (by decide) (by decide) dX11_init_148 (fun z35 H he X => ?_)
  refine jq_rpF (ty := .array .int) C X fs_X11_62 hin rfl (by decide +kernel) rfl rfl he dX11_init_150 (fun h36 H locs he X => ?_)
  refine lv_aload_n C.1 C.2.1 dX11_init_153 rfl (lv_at hl 0 rfl) ?_
  refine lv_ldc (v := 32768) C.1 C.2.1 C.2.2.2.1 (C.2.2.2.2.1 _ gw_756) dX11_init_154 ?_
  refine jq_rnewI (aty := .int) C X (Or.inl ⟨rfl, rfl⟩) gw_61 (by decide) he (by decide) (by decide) dX11_init_156 (fun z37 H he X => ?_)
  refine jq_rpF (ty := .array .int) C X fs_X11_66 hin rfl (by decide +kernel) rfl rfl he dX11_init_158 (fun h38 H locs he X => ?_)
  refine lv_aload_n C.1 C.2.1 dX11_init_161 rfl (lv_at hl 0 rfl) ?_
  refine lv_bipush (v := 64) C.1 C.2.1 dX11_init_162 (by decide) ?_
  refine jq_rnewI (aty := .int) C X (Or.inl ⟨rfl, rfl⟩) gw_61 (by decide) he (by decide) (by decide) dX11_init_164 (fun z39 H he X => ?_)
  refine jq_rpF (ty := .array .int) C X fs_X11_69 hin rfl (by decide +kernel) rfl rfl he dX11_init_166 (fun h40 H locs he X => ?_)
  exact jq_vret C X hr hlk he (by decide) (by decide) dX11_init_169
set_option maxRecDepth 100000 in
set_option maxHeartbeats 4000000 in
theorem TX11_in_b15 {p : Program} {l : Launch} {e : Env} {s : State} {m : MethodId} {args : Array Value} {below : List Frame} {meth : Method} {c : Code} {D : va_G} {ct : Nat → ClassId} {bs : Nat} {res : Int32 × jq_H} {n : Nat} (C : jq_C p s m args c cX11_in 3 RX11 D ct bs) (hr : meth.sig.returnType = (some .boolean)) (hlk : meth.locks = false) {s0 : Int32} {h : jq_H} {H : Heap} {locs : List Loc} {ls : Array Slot} (X : jq_X bs D ct s.heap h H locs) (hl : lv_has ls 3 []) (he : X11_in_b15 n s0 h = some res) :
    W p l e rm_X11_in s m args below meth c H locs 0 0 (MQ below (jq_Qi bs D ct res) args s rm_X11_in.cells rm_X11_in.slots (fun q => bs ≤ q)) (F0 m 15 ls [.int s0]) := by
  unfold X11_in_b15 at he
  exact jq_zret C X hr hlk he (by decide) (by decide) dX11_in_15
set_option maxRecDepth 100000 in
set_option maxHeartbeats 4000000 in
theorem TX11_in_b14 {p : Program} {l : Launch} {e : Env} {s : State} {m : MethodId} {args : Array Value} {below : List Frame} {meth : Method} {c : Code} {D : va_G} {ct : Nat → ClassId} {bs : Nat} {res : Int32 × jq_H} {n : Nat} (C : jq_C p s m args c cX11_in 3 RX11 D ct bs) (hr : meth.sig.returnType = (some .boolean)) (hlk : meth.locks = false) {h : jq_H} {H : Heap} {locs : List Loc} {ls : Array Slot} (X : jq_X bs D ct s.heap h H locs) (hl : lv_has ls 3 []) (he : X11_in_b14 n h = some res) :
    W p l e rm_X11_in s m args below meth c H locs 0 0 (MQ below (jq_Qi bs D ct res) args s rm_X11_in.cells rm_X11_in.slots (fun q => bs ≤ q)) (F0 m 14 ls []) := by
  unfold X11_in_b14 at he
  refine lv_iconst (v := 0) C.1 C.2.1 dX11_in_14 (by decide) ?_
  exact TX11_in_b15 (n := n) C hr hlk X (lv_sub hl [] rfl) he
set_option maxRecDepth 100000 in
set_option maxHeartbeats 4000000 in
theorem M_X11_in (l : Launch) (bs : Nat) (D : va_G) (ct : Nat → ClassId) (n : Nat) (h : jq_H) (p0 : Int32) (p1 : Int32) (p2 : Int32) (res : Int32 × jq_H) (he : X11_in n h p0 p1 p2 = some res) : jq_M l yX11_in cX11_in 3 (some .boolean) rm_X11_in (jq_P [.int p0, .int p1, .int p2] bs D ct h) (jq_Qi bs D ct res) bs := by
  refine jq_start2 (by decide +kernel) (Nat.le_of_ble_eq_true rfl) ?_
  intro p e s m args below meth c ls H locs C hr hlk hin hl X
  have C : jq_C p s m args c cX11_in 3 RX11 D ct bs := C
  have hin : meth.name = "in" := hin
  have hl : lv_has ls 3 [(0, .int p0), (1, .int p1), (2, .int p2)] := hl
  unfold X11_in at he
  refine lv_iload_n C.1 C.2.1 dX11_in_0 rfl (lv_at hl 0 rfl) ?_
  refine lv_iload_n C.1 C.2.1 dX11_in_1 rfl (lv_at hl 1 rfl) ?_
  refine lv_icmp_lt (tgt := 14) C.1 C.2.1 dX11_in_2 (by decide) (fun hc1 => ?_) (fun hc1 => ?_)
  · have he := jq_t hc1 he
    exact TX11_in_b14 (n := n) C hr hlk X (lv_sub hl [] rfl) he
  · have he := jq_n hc1 he
    refine lv_iload_n C.1 C.2.1 dX11_in_5 rfl (lv_at hl 0 rfl) ?_
    refine lv_iload_n C.1 C.2.1 dX11_in_6 rfl (lv_at hl 2 rfl) ?_
    refine lv_icmp_gt (tgt := 14) C.1 C.2.1 dX11_in_7 (by decide) (fun hc2 => ?_) (fun hc2 => ?_)
    · have he := jq_t hc2 he
      exact TX11_in_b14 (n := n) C hr hlk X (lv_sub hl [] rfl) he
    · have he := jq_n hc2 he
      refine lv_iconst (v := 1) C.1 C.2.1 dX11_in_10 (by decide) ?_
      refine lv_goto (tgt := 15) C.1 C.2.1 dX11_in_11 (by decide) ?_
      exact TX11_in_b15 (n := n) C hr hlk X (lv_sub hl [] rfl) he
set_option maxRecDepth 100000 in
set_option maxHeartbeats 4000000 in
theorem M_X11_isGuesser (l : Launch) (bs : Nat) (D : va_G) (ct : Nat → ClassId) (n : Nat) (h : jq_H) (a : Nat) (p0 : Int32) (res : Int32 × jq_H) (he : X11_isGuesser n h a p0 = some res) : jq_M l yX11_isGuesser cX11_isGuesser 2 (some .boolean) rm_X11_isGuesser (jq_P [.ref a, .int p0] bs D ct h) (jq_Qi bs D ct res) bs := by
  refine jq_start2 (by decide +kernel) (Nat.le_of_ble_eq_true rfl) ?_
  intro p e s m args below meth c ls H locs C hr hlk hin hl X
  have C : jq_C p s m args c cX11_isGuesser 2 RX11 D ct bs := C
  have hin : meth.name = "isGuesser" := hin
  have hl : lv_has ls 2 [(0, .ref a), (1, .int p0)] := hl
  unfold X11_isGuesser at he
  refine lv_iload_n C.1 C.2.1 dX11_isGuesser_0 rfl (lv_at hl 1 rfl) ?_
  refine lv_iconst (v := 0) C.1 C.2.1 dX11_isGuesser_1 (by decide) ?_
  refine lv_aload_n C.1 C.2.1 dX11_isGuesser_2 rfl (lv_at hl 0 rfl) ?_
  refine jq_rgI C X fs_X11_94 he dX11_isGuesser_3 (fun x1 he => ?_)
  refine lv_iconst (v := 1) C.1 C.2.1 dX11_isGuesser_6 (by decide) ?_
  refine lv_isub C.1 C.2.1 dX11_isGuesser_7 ?_
  obtain ⟨z2, hz2, he⟩ := jq_b he
  refine jq_gi (jq_runS (av := [.int p0, .int 0, .int (x1 - 1)]) C X (M_X11_in l bs D ct n h p0 0 (x1 - 1) _ hz2) mf_X11_in gw_842 (Or.inl gw_841) rfl hl.1 rfl (Nat.le_of_ble_eq_true rfl) ⟨by decide, by decide⟩ ⟨by decide, by decide⟩ dX11_isGuesser_8) X (fun H locs X => ?_)
  exact jq_zret C X hr hlk he (by decide) (by decide) dX11_isGuesser_11
set_option maxRecDepth 100000 in
set_option maxHeartbeats 4000000 in
theorem TX11_begin_b122 {p : Program} {l : Launch} {e : Env} {s : State} {m : MethodId} {args : Array Value} {below : List Frame} {meth : Method} {c : Code} {D : va_G} {ct : Nat → ClassId} {bs : Nat} {res : jq_H} {n : Nat} (C : jq_C p s m args c cX11_begin 4 RX11 D ct bs) (hr : meth.sig.returnType = none) (hlk : meth.locks = false) {h : jq_H} {H : Heap} {locs : List Loc} {ls : Array Slot} (X : jq_X bs D ct s.heap h H locs) (hl : lv_has ls 4 []) (he : X11_begin_b122 n h = some res) :
    W p l e rm_X11_begin s m args below meth c H locs 0 0 (MQ below (jq_Qv bs D ct res) args s rm_X11_begin.cells rm_X11_begin.slots (fun q => bs ≤ q)) (F0 m 122 ls []) := by
  unfold X11_begin_b122 at he
  exact jq_vret C X hr hlk he (by decide) (by decide) dX11_begin_122
set_option maxRecDepth 100000 in
set_option maxHeartbeats 4000000 in
theorem TX11_begin_b115 {p : Program} {l : Launch} {e : Env} {s : State} {m : MethodId} {args : Array Value} {below : List Frame} {meth : Method} {c : Code} {D : va_G} {ct : Nat → ClassId} {bs : Nat} {res : jq_H} {n : Nat} {KB : Nat → Int32 → Int32 → Int32 → jq_H → Option (jq_H)} {K122 : jq_H → Option (jq_H)} (C : jq_C p s m args c cX11_begin 4 RX11 D ct bs) (hr : meth.sig.returnType = none) (hlk : meth.locks = false) (hKB : ∀ (u0 : Nat) (u1 : Int32) (u2 : Int32) (u3 : Int32) (h1 : jq_H) (H1 : Heap) (locs1 : List Loc) (ls1 : Array Slot), KB u0 u1 u2 u3 h1 = some res → jq_X bs D ct s.heap h1 H1 locs1 → lv_has ls1 4 [(0, .ref u0), (1, .int u1), (2, .int u2), (3, .int u3)] → W p l e rm_X11_begin s m args below meth c H1 locs1 0 0 (MQ below (jq_Qv bs D ct res) args s rm_X11_begin.cells rm_X11_begin.slots (fun q => bs ≤ q)) (F0 m 60 ls1 [])) (hK122 : ∀ (h1 : jq_H) (H1 : Heap) (locs1 : List Loc) (ls1 : Array Slot), K122 h1 = some res → jq_X bs D ct s.heap h1 H1 locs1 → lv_has ls1 4 [] → W p l e rm_X11_begin s m args below meth c H1 locs1 0 0 (MQ below (jq_Qv bs D ct res) args s rm_X11_begin.cells rm_X11_begin.slots (fun q => bs ≤ q)) (F0 m 122 ls1 [])) {v0 : Nat} {v1 : Int32} {v2 : Int32} {v3 : Int32} {s0 : Nat} {s1 : Int32} {s2 : Int32} {h : jq_H} {H : Heap} {locs : List Loc} {ls : Array Slot} (X : jq_X bs D ct s.heap h H locs) (hl : lv_has ls 4 [(0, .ref v0), (1, .int v1), (2, .int v2), (3, .int v3)]) (he : X11_begin_b115 n KB K122 v0 v1 v2 v3 s0 s1 s2 h = some res) :
    W p l e rm_X11_begin s m args below meth c H locs 0 0 (MQ below (jq_Qv bs D ct res) args s rm_X11_begin.cells rm_X11_begin.slots (fun q => bs ≤ q)) (F0 m 115 ls [.int s2, .int s1, .ref s0]) := by
  unfold X11_begin_b115 at he
  refine jq_rstI C X he dX11_begin_115 (fun h1 H locs he X => ?_)
  obtain ⟨x2, hx2, he⟩ := jq_ln he
  refine lv_iinc (v := x2) (lv' := [(3, .int x2), (0, .ref v0), (1, .int v1), (2, .int v2)]) C.1 C.2.1 dX11_begin_116 hl (k := 3) rfl (by rw [hx2]; rfl) (by decide) rfl (fun ls hl => ?_)
  refine lv_goto (tgt := 60) C.1 C.2.1 dX11_begin_119 (by decide) ?_
  exact hKB _ _ _ _ _ _ _ _ he X (lv_sub hl [1, 2, 3, 0] rfl)
set_option maxRecDepth 100000 in
set_option maxHeartbeats 4000000 in
theorem TX11_begin_b60 {p : Program} {l : Launch} {e : Env} {s : State} {m : MethodId} {args : Array Value} {below : List Frame} {meth : Method} {c : Code} {D : va_G} {ct : Nat → ClassId} {bs : Nat} {res : jq_H} {n : Nat} {KB : Nat → Int32 → Int32 → Int32 → jq_H → Option (jq_H)} {K122 : jq_H → Option (jq_H)} (C : jq_C p s m args c cX11_begin 4 RX11 D ct bs) (hr : meth.sig.returnType = none) (hlk : meth.locks = false) (hKB : ∀ (u0 : Nat) (u1 : Int32) (u2 : Int32) (u3 : Int32) (h1 : jq_H) (H1 : Heap) (locs1 : List Loc) (ls1 : Array Slot), KB u0 u1 u2 u3 h1 = some res → jq_X bs D ct s.heap h1 H1 locs1 → lv_has ls1 4 [(0, .ref u0), (1, .int u1), (2, .int u2), (3, .int u3)] → W p l e rm_X11_begin s m args below meth c H1 locs1 0 0 (MQ below (jq_Qv bs D ct res) args s rm_X11_begin.cells rm_X11_begin.slots (fun q => bs ≤ q)) (F0 m 60 ls1 [])) (hK122 : ∀ (h1 : jq_H) (H1 : Heap) (locs1 : List Loc) (ls1 : Array Slot), K122 h1 = some res → jq_X bs D ct s.heap h1 H1 locs1 → lv_has ls1 4 [] → W p l e rm_X11_begin s m args below meth c H1 locs1 0 0 (MQ below (jq_Qv bs D ct res) args s rm_X11_begin.cells rm_X11_begin.slots (fun q => bs ≤ q)) (F0 m 122 ls1 [])) {v0 : Nat} {v1 : Int32} {v2 : Int32} {v3 : Int32} {h : jq_H} {H : Heap} {locs : List Loc} {ls : Array Slot} (X : jq_X bs D ct s.heap h H locs) (hl : lv_has ls 4 [(0, .ref v0), (1, .int v1), (2, .int v2), (3, .int v3)]) (he : X11_begin_b60 n KB K122 v0 v1 v2 v3 h = some res) :
    W p l e rm_X11_begin s m args below meth c H locs 0 0 (MQ below (jq_Qv bs D ct res) args s rm_X11_begin.cells rm_X11_begin.slots (fun q => bs ≤ q)) (F0 m 60 ls []) := by
  unfold X11_begin_b60 at he
  refine lv_iload_n C.1 C.2.1 dX11_begin_60 rfl (lv_at hl 3 rfl) ?_
  refine lv_sipush (v := 384) C.1 C.2.1 dX11_begin_61 (by decide) ?_
  refine lv_icmp_ge (tgt := 122) C.1 C.2.1 dX11_begin_64 (by decide) (fun hc3 => ?_) (fun hc3 => ?_)
  · have he := jq_t hc3 he
    exact hK122 _ _ _ _ he X (lv_sub hl [] rfl)
  · have he := jq_n hc3 he
    refine lv_aload_n C.1 C.2.1 dX11_begin_67 rfl (lv_at hl 0 rfl) ?_
    refine jq_rgR C X fs_X11_49 he dX11_begin_68 (fun q4 he => ?_)
    refine lv_iload_n C.1 C.2.1 dX11_begin_71 rfl (lv_at hl 2 rfl) ?_
    refine lv_iload_n C.1 C.2.1 dX11_begin_72 rfl (lv_at hl 3 rfl) ?_
    refine lv_iadd C.1 C.2.1 dX11_begin_73 ?_
    refine lv_aload_n C.1 C.2.1 dX11_begin_74 rfl (lv_at hl 0 rfl) ?_
    refine jq_rgR C X fs_X11_34 he dX11_begin_75 (fun q5 he => ?_)
    refine lv_iload_n C.1 C.2.1 dX11_begin_78 rfl (lv_at hl 1 rfl) ?_
    refine jq_rldI C X he dX11_begin_79 (fun x6 he => ?_)
    refine lv_iconst (v := 5) C.1 C.2.1 dX11_begin_80 (by decide) ?_
    refine lv_icmp_ne (tgt := 88) C.1 C.2.1 dX11_begin_81 (by decide) (fun hc7 => ?_) (fun hc7 => ?_)
    · have he := jq_n hc7 he
      refine lv_aload_n C.1 C.2.1 dX11_begin_88 rfl (lv_at hl 0 rfl) ?_
      refine jq_rgR C X fs_X11_34 he dX11_begin_89 (fun q8 he => ?_)
      refine lv_iload_n C.1 C.2.1 dX11_begin_92 rfl (lv_at hl 1 rfl) ?_
      refine jq_rldI C X he dX11_begin_93 (fun x9 he => ?_)
      refine lv_bipush (v := 6) C.1 C.2.1 dX11_begin_94 (by decide) ?_
      refine lv_icmp_ne (tgt := 114) C.1 C.2.1 dX11_begin_96 (by decide) (fun hc10 => ?_) (fun hc10 => ?_)
      · have he := jq_n hc10 he
        refine lv_iconst (v := 1) C.1 C.2.1 dX11_begin_114 (by decide) ?_
        exact TX11_begin_b115 (n := n) C hr hlk hKB hK122 X (lv_sub hl [0, 1, 2, 3] rfl) he
      · have he := jq_t hc10 he
        refine lv_iload_n C.1 C.2.1 dX11_begin_99 rfl (lv_at hl 3 rfl) ?_
        refine lv_iconst (v := 3) C.1 C.2.1 dX11_begin_100 (by decide) ?_
        refine lv_irem C.1 C.2.1 dX11_begin_101 (by decide) ?_
        refine lv_iconst (v := 1) C.1 C.2.1 dX11_begin_102 (by decide) ?_
        refine lv_icmp_ne (tgt := 110) C.1 C.2.1 dX11_begin_103 (by decide) (fun hc11 => ?_) (fun hc11 => ?_)
        · have he := jq_n hc11 he
          refine lv_iconst (v := 0) C.1 C.2.1 dX11_begin_110 (by decide) ?_
          refine lv_goto (tgt := 115) C.1 C.2.1 dX11_begin_111 (by decide) ?_
          exact TX11_begin_b115 (n := n) C hr hlk hKB hK122 X (lv_sub hl [0, 1, 2, 3] rfl) he
        · have he := jq_t hc11 he
          refine lv_iconst (v := (-1)) C.1 C.2.1 dX11_begin_106 (by decide) ?_
          refine lv_goto (tgt := 115) C.1 C.2.1 dX11_begin_107 (by decide) ?_
          exact TX11_begin_b115 (n := n) C hr hlk hKB hK122 X (lv_sub hl [0, 1, 2, 3] rfl) he
    · have he := jq_t hc7 he
      refine lv_iconst (v := 0) C.1 C.2.1 dX11_begin_84 (by decide) ?_
      refine lv_goto (tgt := 115) C.1 C.2.1 dX11_begin_85 (by decide) ?_
      exact TX11_begin_b115 (n := n) C hr hlk hKB hK122 X (lv_sub hl [0, 1, 2, 3] rfl) he
set_option maxRecDepth 100000 in
set_option maxHeartbeats 4000000 in
theorem TX11_begin_l60 {p : Program} {l : Launch} {e : Env} {s : State} {m : MethodId} {args : Array Value} {below : List Frame} {meth : Method} {c : Code} {D : va_G} {ct : Nat → ClassId} {bs : Nat} {res : jq_H} {n : Nat} {K122 : jq_H → Option (jq_H)} (C : jq_C p s m args c cX11_begin 4 RX11 D ct bs) (hr : meth.sig.returnType = none) (hlk : meth.locks = false) (hK122 : ∀ (h1 : jq_H) (H1 : Heap) (locs1 : List Loc) (ls1 : Array Slot), K122 h1 = some res → jq_X bs D ct s.heap h1 H1 locs1 → lv_has ls1 4 [] → W p l e rm_X11_begin s m args below meth c H1 locs1 0 0 (MQ below (jq_Qv bs D ct res) args s rm_X11_begin.cells rm_X11_begin.slots (fun q => bs ≤ q)) (F0 m 122 ls1 [])) :
    ∀ (k : Nat) (v0 : Nat) (v1 : Int32) (v2 : Int32) (v3 : Int32) (h : jq_H) (H : Heap) (locs : List Loc) (ls : Array Slot), X11_begin_l60 n K122 k v0 v1 v2 v3 h = some res → jq_X bs D ct s.heap h H locs → lv_has ls 4 [(0, .ref v0), (1, .int v1), (2, .int v2), (3, .int v3)] → W p l e rm_X11_begin s m args below meth c H locs 0 0 (MQ below (jq_Qv bs D ct res) args s rm_X11_begin.cells rm_X11_begin.slots (fun q => bs ≤ q)) (F0 m 60 ls []) := by
  intro k
  induction k with
  | zero => intro v0 v1 v2 v3 h H locs ls he; cases (show (none : Option (jq_H)) = some res from he)
  | succ k ih =>
    intro v0 v1 v2 v3 h H locs ls he X hl
    exact TX11_begin_b60 (n := n) C hr hlk (KB := X11_begin_l60 n K122 k) ih hK122 X hl he
set_option maxRecDepth 100000 in
set_option maxHeartbeats 4000000 in
theorem TX11_begin_b58 {p : Program} {l : Launch} {e : Env} {s : State} {m : MethodId} {args : Array Value} {below : List Frame} {meth : Method} {c : Code} {D : va_G} {ct : Nat → ClassId} {bs : Nat} {res : jq_H} {n : Nat} (C : jq_C p s m args c cX11_begin 4 RX11 D ct bs) (hr : meth.sig.returnType = none) (hlk : meth.locks = false) {v0 : Nat} {v1 : Int32} {v2 : Int32} {h : jq_H} {H : Heap} {locs : List Loc} {ls : Array Slot} (X : jq_X bs D ct s.heap h H locs) (hl : lv_has ls 4 [(0, .ref v0), (1, .int v1), (2, .int v2)]) (he : X11_begin_b58 n v0 v1 v2 h = some res) :
    W p l e rm_X11_begin s m args below meth c H locs 0 0 (MQ below (jq_Qv bs D ct res) args s rm_X11_begin.cells rm_X11_begin.slots (fun q => bs ≤ q)) (F0 m 58 ls []) := by
  unfold X11_begin_b58 at he
  refine lv_iconst (v := 0) C.1 C.2.1 dX11_begin_58 (by decide) ?_
  refine lv_istore_n (lv' := [(3, .int 0), (0, .ref v0), (1, .int v1), (2, .int v2)]) C.1 C.2.1 dX11_begin_59 rfl hl (by decide) rfl (fun ls hl => ?_)
  exact TX11_begin_l60 (n := n) C hr hlk (fun  hh H locs ls he X hl => by
    exact TX11_begin_b122 (n := n) C hr hlk X hl he) n _ _ _ _ _ _ _ _ he X (lv_sub hl [1, 2, 3, 0] rfl)
set_option maxRecDepth 100000 in
set_option maxHeartbeats 4000000 in
theorem TX11_begin_b32 {p : Program} {l : Launch} {e : Env} {s : State} {m : MethodId} {args : Array Value} {below : List Frame} {meth : Method} {c : Code} {D : va_G} {ct : Nat → ClassId} {bs : Nat} {res : jq_H} {n : Nat} {KB : Nat → Int32 → Int32 → Int32 → jq_H → Option (jq_H)} {K58 : Nat → Int32 → Int32 → jq_H → Option (jq_H)} (C : jq_C p s m args c cX11_begin 4 RX11 D ct bs) (hr : meth.sig.returnType = none) (hlk : meth.locks = false) (hKB : ∀ (u0 : Nat) (u1 : Int32) (u2 : Int32) (u3 : Int32) (h1 : jq_H) (H1 : Heap) (locs1 : List Loc) (ls1 : Array Slot), KB u0 u1 u2 u3 h1 = some res → jq_X bs D ct s.heap h1 H1 locs1 → lv_has ls1 4 [(0, .ref u0), (1, .int u1), (2, .int u2), (3, .int u3)] → W p l e rm_X11_begin s m args below meth c H1 locs1 0 0 (MQ below (jq_Qv bs D ct res) args s rm_X11_begin.cells rm_X11_begin.slots (fun q => bs ≤ q)) (F0 m 32 ls1 [])) (hK58 : ∀ (u0 : Nat) (u1 : Int32) (u2 : Int32) (h1 : jq_H) (H1 : Heap) (locs1 : List Loc) (ls1 : Array Slot), K58 u0 u1 u2 h1 = some res → jq_X bs D ct s.heap h1 H1 locs1 → lv_has ls1 4 [(0, .ref u0), (1, .int u1), (2, .int u2)] → W p l e rm_X11_begin s m args below meth c H1 locs1 0 0 (MQ below (jq_Qv bs D ct res) args s rm_X11_begin.cells rm_X11_begin.slots (fun q => bs ≤ q)) (F0 m 58 ls1 [])) {v0 : Nat} {v1 : Int32} {v2 : Int32} {v3 : Int32} {h : jq_H} {H : Heap} {locs : List Loc} {ls : Array Slot} (X : jq_X bs D ct s.heap h H locs) (hl : lv_has ls 4 [(0, .ref v0), (1, .int v1), (2, .int v2), (3, .int v3)]) (he : X11_begin_b32 n KB K58 v0 v1 v2 v3 h = some res) :
    W p l e rm_X11_begin s m args below meth c H locs 0 0 (MQ below (jq_Qv bs D ct res) args s rm_X11_begin.cells rm_X11_begin.slots (fun q => bs ≤ q)) (F0 m 32 ls []) := by
  unfold X11_begin_b32 at he
  refine lv_iload_n C.1 C.2.1 dX11_begin_32 rfl (lv_at hl 3 rfl) ?_
  refine lv_sipush (v := 256) C.1 C.2.1 dX11_begin_33 (by decide) ?_
  refine lv_icmp_ge (tgt := 58) C.1 C.2.1 dX11_begin_36 (by decide) (fun hc12 => ?_) (fun hc12 => ?_)
  · have he := jq_t hc12 he
    exact hK58 _ _ _ _ _ _ _ he X (lv_sub hl [0, 1, 2] rfl)
  · have he := jq_n hc12 he
    refine lv_aload_n C.1 C.2.1 dX11_begin_39 rfl (lv_at hl 0 rfl) ?_
    refine jq_rgR C X fs_X11_49 he dX11_begin_40 (fun q13 he => ?_)
    refine lv_iload_n C.1 C.2.1 dX11_begin_43 rfl (lv_at hl 2 rfl) ?_
    refine lv_sipush (v := 512) C.1 C.2.1 dX11_begin_44 (by decide) ?_
    refine lv_iadd C.1 C.2.1 dX11_begin_47 ?_
    refine lv_iload_n C.1 C.2.1 dX11_begin_48 rfl (lv_at hl 3 rfl) ?_
    refine lv_iadd C.1 C.2.1 dX11_begin_49 ?_
    refine lv_iconst (v := (-1)) C.1 C.2.1 dX11_begin_50 (by decide) ?_
    refine jq_rstI C X he dX11_begin_51 (fun h14 H locs he X => ?_)
    obtain ⟨x15, hx15, he⟩ := jq_ln he
    refine lv_iinc (v := x15) (lv' := [(3, .int x15), (0, .ref v0), (1, .int v1), (2, .int v2)]) C.1 C.2.1 dX11_begin_52 hl (k := 3) rfl (by rw [hx15]; rfl) (by decide) rfl (fun ls hl => ?_)
    refine lv_goto (tgt := 32) C.1 C.2.1 dX11_begin_55 (by decide) ?_
    exact hKB _ _ _ _ _ _ _ _ he X (lv_sub hl [1, 2, 3, 0] rfl)
set_option maxRecDepth 100000 in
set_option maxHeartbeats 4000000 in
theorem TX11_begin_l32 {p : Program} {l : Launch} {e : Env} {s : State} {m : MethodId} {args : Array Value} {below : List Frame} {meth : Method} {c : Code} {D : va_G} {ct : Nat → ClassId} {bs : Nat} {res : jq_H} {n : Nat} {K58 : Nat → Int32 → Int32 → jq_H → Option (jq_H)} (C : jq_C p s m args c cX11_begin 4 RX11 D ct bs) (hr : meth.sig.returnType = none) (hlk : meth.locks = false) (hK58 : ∀ (u0 : Nat) (u1 : Int32) (u2 : Int32) (h1 : jq_H) (H1 : Heap) (locs1 : List Loc) (ls1 : Array Slot), K58 u0 u1 u2 h1 = some res → jq_X bs D ct s.heap h1 H1 locs1 → lv_has ls1 4 [(0, .ref u0), (1, .int u1), (2, .int u2)] → W p l e rm_X11_begin s m args below meth c H1 locs1 0 0 (MQ below (jq_Qv bs D ct res) args s rm_X11_begin.cells rm_X11_begin.slots (fun q => bs ≤ q)) (F0 m 58 ls1 [])) :
    ∀ (k : Nat) (v0 : Nat) (v1 : Int32) (v2 : Int32) (v3 : Int32) (h : jq_H) (H : Heap) (locs : List Loc) (ls : Array Slot), X11_begin_l32 n K58 k v0 v1 v2 v3 h = some res → jq_X bs D ct s.heap h H locs → lv_has ls 4 [(0, .ref v0), (1, .int v1), (2, .int v2), (3, .int v3)] → W p l e rm_X11_begin s m args below meth c H locs 0 0 (MQ below (jq_Qv bs D ct res) args s rm_X11_begin.cells rm_X11_begin.slots (fun q => bs ≤ q)) (F0 m 32 ls []) := by
  intro k
  induction k with
  | zero => intro v0 v1 v2 v3 h H locs ls he; cases (show (none : Option (jq_H)) = some res from he)
  | succ k ih =>
    intro v0 v1 v2 v3 h H locs ls he X hl
    exact TX11_begin_b32 (n := n) C hr hlk (KB := X11_begin_l32 n K58 k) ih hK58 X hl he
set_option maxRecDepth 100000 in
set_option maxHeartbeats 4000000 in
theorem TX11_begin_b30 {p : Program} {l : Launch} {e : Env} {s : State} {m : MethodId} {args : Array Value} {below : List Frame} {meth : Method} {c : Code} {D : va_G} {ct : Nat → ClassId} {bs : Nat} {res : jq_H} {n : Nat} (C : jq_C p s m args c cX11_begin 4 RX11 D ct bs) (hr : meth.sig.returnType = none) (hlk : meth.locks = false) {v0 : Nat} {v1 : Int32} {v2 : Int32} {h : jq_H} {H : Heap} {locs : List Loc} {ls : Array Slot} (X : jq_X bs D ct s.heap h H locs) (hl : lv_has ls 4 [(0, .ref v0), (1, .int v1), (2, .int v2)]) (he : X11_begin_b30 n v0 v1 v2 h = some res) :
    W p l e rm_X11_begin s m args below meth c H locs 0 0 (MQ below (jq_Qv bs D ct res) args s rm_X11_begin.cells rm_X11_begin.slots (fun q => bs ≤ q)) (F0 m 30 ls []) := by
  unfold X11_begin_b30 at he
  refine lv_iconst (v := 0) C.1 C.2.1 dX11_begin_30 (by decide) ?_
  refine lv_istore_n (lv' := [(3, .int 0), (0, .ref v0), (1, .int v1), (2, .int v2)]) C.1 C.2.1 dX11_begin_31 rfl hl (by decide) rfl (fun ls hl => ?_)
  exact TX11_begin_l32 (n := n) C hr hlk (fun w0 w1 w2 hh H locs ls he X hl => by
    exact TX11_begin_b58 (n := n) C hr hlk X hl he) n _ _ _ _ _ _ _ _ he X (lv_sub hl [1, 2, 3, 0] rfl)
set_option maxRecDepth 100000 in
set_option maxHeartbeats 4000000 in
theorem TX11_begin_b8 {p : Program} {l : Launch} {e : Env} {s : State} {m : MethodId} {args : Array Value} {below : List Frame} {meth : Method} {c : Code} {D : va_G} {ct : Nat → ClassId} {bs : Nat} {res : jq_H} {n : Nat} {KB : Nat → Int32 → Int32 → Int32 → jq_H → Option (jq_H)} {K30 : Nat → Int32 → Int32 → jq_H → Option (jq_H)} (C : jq_C p s m args c cX11_begin 4 RX11 D ct bs) (hr : meth.sig.returnType = none) (hlk : meth.locks = false) (hKB : ∀ (u0 : Nat) (u1 : Int32) (u2 : Int32) (u3 : Int32) (h1 : jq_H) (H1 : Heap) (locs1 : List Loc) (ls1 : Array Slot), KB u0 u1 u2 u3 h1 = some res → jq_X bs D ct s.heap h1 H1 locs1 → lv_has ls1 4 [(0, .ref u0), (1, .int u1), (2, .int u2), (3, .int u3)] → W p l e rm_X11_begin s m args below meth c H1 locs1 0 0 (MQ below (jq_Qv bs D ct res) args s rm_X11_begin.cells rm_X11_begin.slots (fun q => bs ≤ q)) (F0 m 8 ls1 [])) (hK30 : ∀ (u0 : Nat) (u1 : Int32) (u2 : Int32) (h1 : jq_H) (H1 : Heap) (locs1 : List Loc) (ls1 : Array Slot), K30 u0 u1 u2 h1 = some res → jq_X bs D ct s.heap h1 H1 locs1 → lv_has ls1 4 [(0, .ref u0), (1, .int u1), (2, .int u2)] → W p l e rm_X11_begin s m args below meth c H1 locs1 0 0 (MQ below (jq_Qv bs D ct res) args s rm_X11_begin.cells rm_X11_begin.slots (fun q => bs ≤ q)) (F0 m 30 ls1 [])) {v0 : Nat} {v1 : Int32} {v2 : Int32} {v3 : Int32} {h : jq_H} {H : Heap} {locs : List Loc} {ls : Array Slot} (X : jq_X bs D ct s.heap h H locs) (hl : lv_has ls 4 [(0, .ref v0), (1, .int v1), (2, .int v2), (3, .int v3)]) (he : X11_begin_b8 n KB K30 v0 v1 v2 v3 h = some res) :
    W p l e rm_X11_begin s m args below meth c H locs 0 0 (MQ below (jq_Qv bs D ct res) args s rm_X11_begin.cells rm_X11_begin.slots (fun q => bs ≤ q)) (F0 m 8 ls []) := by
  unfold X11_begin_b8 at he
  refine lv_iload_n C.1 C.2.1 dX11_begin_8 rfl (lv_at hl 3 rfl) ?_
  refine lv_sipush (v := 812) C.1 C.2.1 dX11_begin_9 (by decide) ?_
  refine lv_icmp_ge (tgt := 30) C.1 C.2.1 dX11_begin_12 (by decide) (fun hc16 => ?_) (fun hc16 => ?_)
  · have he := jq_t hc16 he
    exact hK30 _ _ _ _ _ _ _ he X (lv_sub hl [0, 1, 2] rfl)
  · have he := jq_n hc16 he
    refine lv_aload_n C.1 C.2.1 dX11_begin_15 rfl (lv_at hl 0 rfl) ?_
    refine jq_rgR C X fs_X11_49 he dX11_begin_16 (fun q17 he => ?_)
    refine lv_iload_n C.1 C.2.1 dX11_begin_19 rfl (lv_at hl 2 rfl) ?_
    refine lv_iload_n C.1 C.2.1 dX11_begin_20 rfl (lv_at hl 3 rfl) ?_
    refine lv_iadd C.1 C.2.1 dX11_begin_21 ?_
    refine lv_iconst (v := 0) C.1 C.2.1 dX11_begin_22 (by decide) ?_
    refine jq_rstI C X he dX11_begin_23 (fun h18 H locs he X => ?_)
    obtain ⟨x19, hx19, he⟩ := jq_ln he
    refine lv_iinc (v := x19) (lv' := [(3, .int x19), (0, .ref v0), (1, .int v1), (2, .int v2)]) C.1 C.2.1 dX11_begin_24 hl (k := 3) rfl (by rw [hx19]; rfl) (by decide) rfl (fun ls hl => ?_)
    refine lv_goto (tgt := 8) C.1 C.2.1 dX11_begin_27 (by decide) ?_
    exact hKB _ _ _ _ _ _ _ _ he X (lv_sub hl [1, 2, 3, 0] rfl)
set_option maxRecDepth 100000 in
set_option maxHeartbeats 4000000 in
theorem TX11_begin_l8 {p : Program} {l : Launch} {e : Env} {s : State} {m : MethodId} {args : Array Value} {below : List Frame} {meth : Method} {c : Code} {D : va_G} {ct : Nat → ClassId} {bs : Nat} {res : jq_H} {n : Nat} {K30 : Nat → Int32 → Int32 → jq_H → Option (jq_H)} (C : jq_C p s m args c cX11_begin 4 RX11 D ct bs) (hr : meth.sig.returnType = none) (hlk : meth.locks = false) (hK30 : ∀ (u0 : Nat) (u1 : Int32) (u2 : Int32) (h1 : jq_H) (H1 : Heap) (locs1 : List Loc) (ls1 : Array Slot), K30 u0 u1 u2 h1 = some res → jq_X bs D ct s.heap h1 H1 locs1 → lv_has ls1 4 [(0, .ref u0), (1, .int u1), (2, .int u2)] → W p l e rm_X11_begin s m args below meth c H1 locs1 0 0 (MQ below (jq_Qv bs D ct res) args s rm_X11_begin.cells rm_X11_begin.slots (fun q => bs ≤ q)) (F0 m 30 ls1 [])) :
    ∀ (k : Nat) (v0 : Nat) (v1 : Int32) (v2 : Int32) (v3 : Int32) (h : jq_H) (H : Heap) (locs : List Loc) (ls : Array Slot), X11_begin_l8 n K30 k v0 v1 v2 v3 h = some res → jq_X bs D ct s.heap h H locs → lv_has ls 4 [(0, .ref v0), (1, .int v1), (2, .int v2), (3, .int v3)] → W p l e rm_X11_begin s m args below meth c H locs 0 0 (MQ below (jq_Qv bs D ct res) args s rm_X11_begin.cells rm_X11_begin.slots (fun q => bs ≤ q)) (F0 m 8 ls []) := by
  intro k
  induction k with
  | zero => intro v0 v1 v2 v3 h H locs ls he; cases (show (none : Option (jq_H)) = some res from he)
  | succ k ih =>
    intro v0 v1 v2 v3 h H locs ls he X hl
    exact TX11_begin_b8 (n := n) C hr hlk (KB := X11_begin_l8 n K30 k) ih hK30 X hl he
set_option maxRecDepth 100000 in
set_option maxHeartbeats 4000000 in
theorem M_X11_begin (l : Launch) (bs : Nat) (D : va_G) (ct : Nat → ClassId) (n : Nat) (h : jq_H) (a : Nat) (p0 : Int32) (res : jq_H) (he : X11_begin n h a p0 = some res) : jq_M l yX11_begin cX11_begin 4 none rm_X11_begin (jq_P [.ref a, .int p0] bs D ct h) (jq_Qv bs D ct res) bs := by
  refine jq_start2 (by decide +kernel) (Nat.le_of_ble_eq_true rfl) ?_
  intro p e s m args below meth c ls H locs C hr hlk hin hl X
  have C : jq_C p s m args c cX11_begin 4 RX11 D ct bs := C
  have hin : meth.name = "begin" := hin
  have hl : lv_has ls 4 [(0, .ref a), (1, .int p0)] := hl
  unfold X11_begin at he
  refine lv_sipush (v := 812) C.1 C.2.1 dX11_begin_0 (by decide) ?_
  refine lv_iload_n C.1 C.2.1 dX11_begin_3 rfl (lv_at hl 1 rfl) ?_
  refine lv_imul C.1 C.2.1 dX11_begin_4 ?_
  obtain ⟨x20, hx20, he⟩ := jq_ln he
  refine jq_top hx20 ?_
  refine lv_istore_n (lv' := [(2, .int x20), (0, .ref a), (1, .int p0)]) C.1 C.2.1 dX11_begin_5 rfl hl (by decide) rfl (fun ls hl => ?_)
  refine lv_iconst (v := 0) C.1 C.2.1 dX11_begin_6 (by decide) ?_
  refine lv_istore_n (lv' := [(3, .int 0), (2, .int x20), (0, .ref a), (1, .int p0)]) C.1 C.2.1 dX11_begin_7 rfl hl (by decide) rfl (fun ls hl => ?_)
  exact TX11_begin_l8 (n := n) C hr hlk (fun w0 w1 w2 hh H locs ls he X hl => by
    exact TX11_begin_b30 (n := n) C hr hlk X hl he) n _ _ _ _ _ _ _ _ he X (lv_sub hl [2, 3, 1, 0] rfl)
set_option maxRecDepth 100000 in
set_option maxHeartbeats 4000000 in
theorem TX11_clashes1_b38 {p : Program} {l : Launch} {e : Env} {s : State} {m : MethodId} {args : Array Value} {below : List Frame} {meth : Method} {c : Code} {D : va_G} {ct : Nat → ClassId} {bs : Nat} {res : Int32 × jq_H} {n : Nat} (C : jq_C p s m args c cX11_clashes1 3 RX11 D ct bs) (hr : meth.sig.returnType = (some .boolean)) (hlk : meth.locks = false) {s0 : Int32} {h : jq_H} {H : Heap} {locs : List Loc} {ls : Array Slot} (X : jq_X bs D ct s.heap h H locs) (hl : lv_has ls 3 []) (he : X11_clashes1_b38 n s0 h = some res) :
    W p l e rm_X11_clashes1 s m args below meth c H locs 0 0 (MQ below (jq_Qi bs D ct res) args s rm_X11_clashes1.cells rm_X11_clashes1.slots (fun q => bs ≤ q)) (F0 m 38 ls [.int s0]) := by
  unfold X11_clashes1_b38 at he
  exact jq_zret C X hr hlk he (by decide) (by decide) dX11_clashes1_38
set_option maxRecDepth 100000 in
set_option maxHeartbeats 4000000 in
theorem TX11_clashes1_b33 {p : Program} {l : Launch} {e : Env} {s : State} {m : MethodId} {args : Array Value} {below : List Frame} {meth : Method} {c : Code} {D : va_G} {ct : Nat → ClassId} {bs : Nat} {res : Int32 × jq_H} {n : Nat} (C : jq_C p s m args c cX11_clashes1 3 RX11 D ct bs) (hr : meth.sig.returnType = (some .boolean)) (hlk : meth.locks = false) {h : jq_H} {H : Heap} {locs : List Loc} {ls : Array Slot} (X : jq_X bs D ct s.heap h H locs) (hl : lv_has ls 3 []) (he : X11_clashes1_b33 n h = some res) :
    W p l e rm_X11_clashes1 s m args below meth c H locs 0 0 (MQ below (jq_Qi bs D ct res) args s rm_X11_clashes1.cells rm_X11_clashes1.slots (fun q => bs ≤ q)) (F0 m 33 ls []) := by
  unfold X11_clashes1_b33 at he
  refine lv_iconst (v := 1) C.1 C.2.1 dX11_clashes1_33 (by decide) ?_
  refine lv_goto (tgt := 38) C.1 C.2.1 dX11_clashes1_34 (by decide) ?_
  exact TX11_clashes1_b38 (n := n) C hr hlk X (lv_sub hl [] rfl) he
set_option maxRecDepth 100000 in
set_option maxHeartbeats 4000000 in
theorem M_X11_clashes1 (l : Launch) (bs : Nat) (D : va_G) (ct : Nat → ClassId) (n : Nat) (h : jq_H) (a : Nat) (p0 : Int32) (res : Int32 × jq_H) (he : X11_clashes1 n h a p0 = some res) : jq_M l yX11_clashes1 cX11_clashes1 3 (some .boolean) rm_X11_clashes1 (jq_P [.ref a, .int p0] bs D ct h) (jq_Qi bs D ct res) bs := by
  refine jq_start2 (by decide +kernel) (Nat.le_of_ble_eq_true rfl) ?_
  intro p e s m args below meth c ls H locs C hr hlk hin hl X
  have C : jq_C p s m args c cX11_clashes1 3 RX11 D ct bs := C
  have hin : meth.name = "clashes1" := hin
  have hl : lv_has ls 3 [(0, .ref a), (1, .int p0)] := hl
  unfold X11_clashes1 at he
  refine lv_aload_n C.1 C.2.1 dX11_clashes1_0 rfl (lv_at hl 0 rfl) ?_
  refine jq_rgR C X fs_X11_34 he dX11_clashes1_1 (fun q1 he => ?_)
  refine lv_iload_n C.1 C.2.1 dX11_clashes1_4 rfl (lv_at hl 1 rfl) ?_
  refine jq_rldI C X he dX11_clashes1_5 (fun x2 he => ?_)
  refine lv_istore_n (lv' := [(2, .int x2), (0, .ref a), (1, .int p0)]) C.1 C.2.1 dX11_clashes1_6 rfl hl (by decide) rfl (fun ls hl => ?_)
  refine lv_iload_n C.1 C.2.1 dX11_clashes1_7 rfl (lv_at hl 0 rfl) ?_
  refine lv_iconst (v := 1) C.1 C.2.1 dX11_clashes1_8 (by decide) ?_
  refine lv_icmp_eq (tgt := 33) C.1 C.2.1 dX11_clashes1_9 (by decide) (fun hc3 => ?_) (fun hc3 => ?_)
  · have he := jq_t hc3 he
    exact TX11_clashes1_b33 (n := n) C hr hlk X (lv_sub hl [] rfl) he
  · have he := jq_n hc3 he
    refine lv_iload_n C.1 C.2.1 dX11_clashes1_12 rfl (lv_at hl 0 rfl) ?_
    refine lv_iconst (v := 2) C.1 C.2.1 dX11_clashes1_13 (by decide) ?_
    refine lv_icmp_eq (tgt := 33) C.1 C.2.1 dX11_clashes1_14 (by decide) (fun hc4 => ?_) (fun hc4 => ?_)
    · have he := jq_t hc4 he
      exact TX11_clashes1_b33 (n := n) C hr hlk X (lv_sub hl [] rfl) he
    · have he := jq_n hc4 he
      refine lv_iload_n C.1 C.2.1 dX11_clashes1_17 rfl (lv_at hl 0 rfl) ?_
      refine lv_iconst (v := 3) C.1 C.2.1 dX11_clashes1_18 (by decide) ?_
      refine lv_icmp_eq (tgt := 33) C.1 C.2.1 dX11_clashes1_19 (by decide) (fun hc5 => ?_) (fun hc5 => ?_)
      · have he := jq_t hc5 he
        exact TX11_clashes1_b33 (n := n) C hr hlk X (lv_sub hl [] rfl) he
      · have he := jq_n hc5 he
        refine lv_iload_n C.1 C.2.1 dX11_clashes1_22 rfl (lv_at hl 0 rfl) ?_
        refine lv_iconst (v := 5) C.1 C.2.1 dX11_clashes1_23 (by decide) ?_
        refine lv_icmp_eq (tgt := 33) C.1 C.2.1 dX11_clashes1_24 (by decide) (fun hc6 => ?_) (fun hc6 => ?_)
        · have he := jq_t hc6 he
          exact TX11_clashes1_b33 (n := n) C hr hlk X (lv_sub hl [] rfl) he
        · have he := jq_n hc6 he
          refine lv_iload_n C.1 C.2.1 dX11_clashes1_27 rfl (lv_at hl 0 rfl) ?_
          refine lv_bipush (v := 7) C.1 C.2.1 dX11_clashes1_28 (by decide) ?_
          refine lv_icmp_ne (tgt := 37) C.1 C.2.1 dX11_clashes1_30 (by decide) (fun hc7 => ?_) (fun hc7 => ?_)
          · have he := jq_n hc7 he
            refine lv_iconst (v := 0) C.1 C.2.1 dX11_clashes1_37 (by decide) ?_
            exact TX11_clashes1_b38 (n := n) C hr hlk X (lv_sub hl [] rfl) he
          · have he := jq_t hc7 he
            exact TX11_clashes1_b33 (n := n) C hr hlk X (lv_sub hl [] rfl) he
set_option maxRecDepth 100000 in
set_option maxHeartbeats 4000000 in
theorem M_X11_low (l : Launch) (bs : Nat) (D : va_G) (ct : Nat → ClassId) (n : Nat) (h : jq_H) (p0 : Int32) (p1 : Int32) (res : Int32 × jq_H) (he : X11_low n h p0 p1 = some res) : jq_M l yX11_low cX11_low 2 (some .int) rm_X11_low (jq_P [.int p0, .int p1] bs D ct h) (jq_Qi bs D ct res) bs := by
  refine jq_start2 (by decide +kernel) (Nat.le_of_ble_eq_true rfl) ?_
  intro p e s m args below meth c ls H locs C hr hlk hin hl X
  have C : jq_C p s m args c cX11_low 2 RX11 D ct bs := C
  have hin : meth.name = "low" := hin
  have hl : lv_has ls 2 [(0, .int p0), (1, .int p1)] := hl
  unfold X11_low at he
  refine lv_iload_n C.1 C.2.1 dX11_low_0 rfl (lv_at hl 0 rfl) ?_
  refine lv_iconst (v := 1) C.1 C.2.1 dX11_low_1 (by decide) ?_
  refine lv_iload_n C.1 C.2.1 dX11_low_2 rfl (lv_at hl 1 rfl) ?_
  refine lv_ishl C.1 C.2.1 dX11_low_3 ?_
  refine lv_iconst (v := 1) C.1 C.2.1 dX11_low_4 (by decide) ?_
  refine lv_isub C.1 C.2.1 dX11_low_5 ?_
  refine lv_iand C.1 C.2.1 dX11_low_6 ?_
  exact jq_iret C X hr hlk he (by decide) (by decide) dX11_low_7
set_option maxRecDepth 100000 in
set_option maxHeartbeats 4000000 in
theorem M_X11_counter (l : Launch) (bs : Nat) (D : va_G) (ct : Nat → ClassId) (n : Nat) (h : jq_H) (a : Nat) (p0 : Int32) (p1 : Int32) (p2 : Int32) (res : Int32 × jq_H) (he : X11_counter n h a p0 p1 p2 = some res) : jq_M l yX11_counter cX11_counter 6 (some .int) rm_X11_counter (jq_P [.ref a, .int p0, .int p1, .int p2] bs D ct h) (jq_Qi bs D ct res) bs := by
  refine jq_start2 (by decide +kernel) (Nat.le_of_ble_eq_true rfl) ?_
  intro p e s m args below meth c ls H locs C hr hlk hin hl X
  have C : jq_C p s m args c cX11_counter 6 RX11 D ct bs := C
  have hin : meth.name = "counter" := hin
  have hl : lv_has ls 6 [(0, .ref a), (1, .int p0), (2, .int p1), (3, .int p2)] := hl
  unfold X11_counter at he
  refine lv_sipush (v := 812) C.1 C.2.1 dX11_counter_0 (by decide) ?_
  refine lv_iload_n C.1 C.2.1 dX11_counter_3 rfl (lv_at hl 1 rfl) ?_
  refine lv_imul C.1 C.2.1 dX11_counter_4 ?_
  obtain ⟨x1, hx1, he⟩ := jq_ln he
  refine jq_top hx1 ?_
  refine lv_istore (lv' := [(4, .int x1), (0, .ref a), (1, .int p0), (2, .int p1), (3, .int p2)]) C.1 C.2.1 dX11_counter_5 hl (by decide) rfl (fun ls hl => ?_)
  refine lv_aload_n C.1 C.2.1 dX11_counter_7 rfl (lv_at hl 1 rfl) ?_
  refine jq_rgR C X fs_X11_49 he dX11_counter_8 (fun q2 he => ?_)
  refine lv_iload C.1 C.2.1 dX11_counter_11 (lv_at hl 0 rfl) ?_
  refine lv_sipush (v := 808) C.1 C.2.1 dX11_counter_13 (by decide) ?_
  refine lv_iadd C.1 C.2.1 dX11_counter_16 ?_
  refine jq_rldI C X he dX11_counter_17 (fun x3 he => ?_)
  refine lv_istore (lv' := [(5, .int x3), (4, .int x1), (0, .ref a), (1, .int p0), (2, .int p1), (3, .int p2)]) C.1 C.2.1 dX11_counter_18 hl (by decide) rfl (fun ls hl => ?_)
  refine lv_aload_n C.1 C.2.1 dX11_counter_20 rfl (lv_at hl 2 rfl) ?_
  refine jq_rgR C X fs_X11_34 he dX11_counter_21 (fun q4 he => ?_)
  refine lv_iload_n C.1 C.2.1 dX11_counter_24 rfl (lv_at hl 3 rfl) ?_
  refine jq_rldI C X he dX11_counter_25 (fun x5 he => ?_)
  by_cases hc9 : x5 = 1
  · have he := jq_t hc9 he
    refine lv_tableIn (tgt := 60) C.1 C.2.1 dX11_counter_26 (by rw [hc9]; decide) (by rw [hc9]; decide) (by rw [hc9]; rfl) (by decide) ?_
    refine lv_iload_n C.1 C.2.1 dX11_counter_60 rfl (lv_at hl 4 rfl) ?_
    refine lv_aload_n C.1 C.2.1 dX11_counter_61 rfl (lv_at hl 2 rfl) ?_
    refine jq_rgR C X fs_X11_37 he dX11_counter_62 (fun q6 he => ?_)
    refine lv_iload_n C.1 C.2.1 dX11_counter_65 rfl (lv_at hl 3 rfl) ?_
    refine jq_rldI C X he dX11_counter_66 (fun x7 he => ?_)
    obtain ⟨z8, hz8, he⟩ := jq_b he
    refine jq_gi (jq_runS (av := [.int p1, .int x7]) C X (M_X11_low l bs D ct n h p1 x7 _ hz8) mf_X11_low gw_893 (Or.inl gw_892) rfl hl.1 rfl (Nat.le_of_ble_eq_true rfl) ⟨by decide, by decide⟩ ⟨by decide, by decide⟩ dX11_counter_67) X (fun H locs X => ?_)
    exact jq_iret C X hr hlk he (by decide) (by decide) dX11_counter_70
  have he := jq_n hc9 he
  by_cases hc16 : x5 = 2
  · have he := jq_t hc16 he
    refine lv_tableIn (tgt := 71) C.1 C.2.1 dX11_counter_26 (by rw [hc16]; decide) (by rw [hc16]; decide) (by rw [hc16]; rfl) (by decide) ?_
    refine lv_iload_n C.1 C.2.1 dX11_counter_71 rfl (lv_at hl 4 rfl) ?_
    refine lv_iload C.1 C.2.1 dX11_counter_72 (lv_at hl 0 rfl) ?_
    refine lv_aload_n C.1 C.2.1 dX11_counter_74 rfl (lv_at hl 2 rfl) ?_
    refine jq_rgR C X fs_X11_40 he dX11_counter_75 (fun q10 he => ?_)
    refine lv_iload_n C.1 C.2.1 dX11_counter_78 rfl (lv_at hl 3 rfl) ?_
    refine jq_rldI C X he dX11_counter_79 (fun x11 he => ?_)
    obtain ⟨z12, hz12, he⟩ := jq_b he
    refine jq_gi (jq_runS (av := [.int x3, .int x11]) C X (M_X11_low l bs D ct n h x3 x11 _ hz12) mf_X11_low gw_893 (Or.inl gw_892) rfl hl.1 rfl (Nat.le_of_ble_eq_true rfl) ⟨by decide, by decide⟩ ⟨by decide, by decide⟩ dX11_counter_80) X (fun H locs X => ?_)
    refine lv_ixor C.1 C.2.1 dX11_counter_83 ?_
    refine lv_aload_n C.1 C.2.1 dX11_counter_84 rfl (lv_at hl 2 rfl) ?_
    refine jq_rgR C X fs_X11_37 he dX11_counter_85 (fun q13 he => ?_)
    refine lv_iload_n C.1 C.2.1 dX11_counter_88 rfl (lv_at hl 3 rfl) ?_
    refine jq_rldI C X he dX11_counter_89 (fun x14 he => ?_)
    obtain ⟨z15, hz15, he⟩ := jq_b he
    refine jq_gi (jq_runS (av := [.int (p1 ^^^ z12.1), .int x14]) C X (M_X11_low l bs D ct n z12.2 (p1 ^^^ z12.1) x14 _ hz15) mf_X11_low gw_893 (Or.inl gw_892) rfl hl.1 rfl (Nat.le_of_ble_eq_true rfl) ⟨by decide, by decide⟩ ⟨by decide, by decide⟩ dX11_counter_90) X (fun H locs X => ?_)
    exact jq_iret C X hr hlk he (by decide) (by decide) dX11_counter_93
  have he := jq_n hc16 he
  by_cases hc27 : x5 = 3
  · have he := jq_t hc27 he
    refine lv_tableIn (tgt := 94) C.1 C.2.1 dX11_counter_26 (by rw [hc27]; decide) (by rw [hc27]; decide) (by rw [hc27]; rfl) (by decide) ?_
    refine lv_aload_n C.1 C.2.1 dX11_counter_94 rfl (lv_at hl 2 rfl) ?_
    refine jq_rgR C X fs_X11_49 he dX11_counter_95 (fun q17 he => ?_)
    refine lv_iload C.1 C.2.1 dX11_counter_98 (lv_at hl 1 rfl) ?_
    refine lv_sipush (v := 384) C.1 C.2.1 dX11_counter_100 (by decide) ?_
    refine lv_iadd C.1 C.2.1 dX11_counter_103 ?_
    refine lv_iload_n C.1 C.2.1 dX11_counter_104 rfl (lv_at hl 4 rfl) ?_
    refine lv_iadd C.1 C.2.1 dX11_counter_105 ?_
    refine jq_rldI C X he dX11_counter_106 (fun x18 he => ?_)
    refine lv_aload_n C.1 C.2.1 dX11_counter_107 rfl (lv_at hl 2 rfl) ?_
    refine jq_rgR C X fs_X11_40 he dX11_counter_108 (fun q19 he => ?_)
    refine lv_iload_n C.1 C.2.1 dX11_counter_111 rfl (lv_at hl 3 rfl) ?_
    refine jq_rldI C X he dX11_counter_112 (fun x20 he => ?_)
    obtain ⟨z21, hz21, he⟩ := jq_b he
    refine jq_gi (jq_runS (av := [.int x18, .int x20]) C X (M_X11_low l bs D ct n h x18 x20 _ hz21) mf_X11_low gw_893 (Or.inl gw_892) rfl hl.1 rfl (Nat.le_of_ble_eq_true rfl) ⟨by decide, by decide⟩ ⟨by decide, by decide⟩ dX11_counter_113) X (fun H locs X => ?_)
    refine lv_aload_n C.1 C.2.1 dX11_counter_116 rfl (lv_at hl 2 rfl) ?_
    refine jq_rgR C X fs_X11_43 he dX11_counter_117 (fun q22 he => ?_)
    refine lv_iload_n C.1 C.2.1 dX11_counter_120 rfl (lv_at hl 3 rfl) ?_
    refine jq_rldI C X he dX11_counter_121 (fun x23 he => ?_)
    refine lv_iload_n C.1 C.2.1 dX11_counter_122 rfl (lv_at hl 4 rfl) ?_
    refine lv_imul C.1 C.2.1 dX11_counter_123 ?_
    refine lv_ixor C.1 C.2.1 dX11_counter_124 ?_
    refine lv_aload_n C.1 C.2.1 dX11_counter_125 rfl (lv_at hl 2 rfl) ?_
    refine jq_rgR C X fs_X11_37 he dX11_counter_126 (fun q24 he => ?_)
    refine lv_iload_n C.1 C.2.1 dX11_counter_129 rfl (lv_at hl 3 rfl) ?_
    refine jq_rldI C X he dX11_counter_130 (fun x25 he => ?_)
    obtain ⟨z26, hz26, he⟩ := jq_b he
    refine jq_gi (jq_runS (av := [.int (z21.1 ^^^ (x23 * p1)), .int x25]) C X (M_X11_low l bs D ct n z21.2 (z21.1 ^^^ (x23 * p1)) x25 _ hz26) mf_X11_low gw_893 (Or.inl gw_892) rfl hl.1 rfl (Nat.le_of_ble_eq_true rfl) ⟨by decide, by decide⟩ ⟨by decide, by decide⟩ dX11_counter_131) X (fun H locs X => ?_)
    exact jq_iret C X hr hlk he (by decide) (by decide) dX11_counter_134
  have he := jq_n hc27 he
  by_cases hc34 : x5 = 4
  · have he := jq_t hc34 he
    refine lv_tableIn (tgt := 135) C.1 C.2.1 dX11_counter_26 (by rw [hc34]; decide) (by rw [hc34]; decide) (by rw [hc34]; rfl) (by decide) ?_
    refine lv_sipush (v := 128) C.1 C.2.1 dX11_counter_135 (by decide) ?_
    refine lv_iload_n C.1 C.2.1 dX11_counter_138 rfl (lv_at hl 5 rfl) ?_
    refine lv_imul C.1 C.2.1 dX11_counter_139 ?_
    refine lv_iconst (v := 5) C.1 C.2.1 dX11_counter_140 (by decide) ?_
    refine lv_iload_n C.1 C.2.1 dX11_counter_141 rfl (lv_at hl 4 rfl) ?_
    refine lv_imul C.1 C.2.1 dX11_counter_142 ?_
    refine lv_iload C.1 C.2.1 dX11_counter_143 (lv_at hl 0 rfl) ?_
    refine lv_iload_n C.1 C.2.1 dX11_counter_145 rfl (lv_at hl 5 rfl) ?_
    refine lv_aload_n C.1 C.2.1 dX11_counter_146 rfl (lv_at hl 2 rfl) ?_
    refine jq_rgR C X fs_X11_40 he dX11_counter_147 (fun q28 he => ?_)
    refine lv_iload_n C.1 C.2.1 dX11_counter_150 rfl (lv_at hl 3 rfl) ?_
    refine jq_rldI C X he dX11_counter_151 (fun x29 he => ?_)
    refine lv_imul C.1 C.2.1 dX11_counter_152 ?_
    obtain ⟨z30, hz30, he⟩ := jq_b he
    refine jq_gi (jq_runS (av := [.int x3, .int (p2 * x29)]) C X (M_X11_low l bs D ct n h x3 (p2 * x29) _ hz30) mf_X11_low gw_893 (Or.inl gw_892) rfl hl.1 rfl (Nat.le_of_ble_eq_true rfl) ⟨by decide, by decide⟩ ⟨by decide, by decide⟩ dX11_counter_153) X (fun H locs X => ?_)
    refine lv_ixor C.1 C.2.1 dX11_counter_156 ?_
    refine lv_aload_n C.1 C.2.1 dX11_counter_157 rfl (lv_at hl 2 rfl) ?_
    refine jq_rgR C X fs_X11_37 he dX11_counter_158 (fun q31 he => ?_)
    refine lv_iload_n C.1 C.2.1 dX11_counter_161 rfl (lv_at hl 3 rfl) ?_
    refine jq_rldI C X he dX11_counter_162 (fun x32 he => ?_)
    obtain ⟨z33, hz33, he⟩ := jq_b he
    refine jq_gi (jq_runS (av := [.int ((5 * p1) ^^^ z30.1), .int x32]) C X (M_X11_low l bs D ct n z30.2 ((5 * p1) ^^^ z30.1) x32 _ hz33) mf_X11_low gw_893 (Or.inl gw_892) rfl hl.1 rfl (Nat.le_of_ble_eq_true rfl) ⟨by decide, by decide⟩ ⟨by decide, by decide⟩ dX11_counter_163) X (fun H locs X => ?_)
    refine lv_iadd C.1 C.2.1 dX11_counter_166 ?_
    exact jq_iret C X hr hlk he (by decide) (by decide) dX11_counter_167
  have he := jq_n hc34 he
  by_cases hc38 : x5 = 5
  · have he := jq_t hc38 he
    refine lv_tableIn (tgt := 168) C.1 C.2.1 dX11_counter_26 (by rw [hc38]; decide) (by rw [hc38]; decide) (by rw [hc38]; rfl) (by decide) ?_
    refine lv_iload_n C.1 C.2.1 dX11_counter_168 rfl (lv_at hl 4 rfl) ?_
    refine lv_aload_n C.1 C.2.1 dX11_counter_169 rfl (lv_at hl 2 rfl) ?_
    refine jq_rgR C X fs_X11_37 he dX11_counter_170 (fun q35 he => ?_)
    refine lv_iload_n C.1 C.2.1 dX11_counter_173 rfl (lv_at hl 3 rfl) ?_
    refine jq_rldI C X he dX11_counter_174 (fun x36 he => ?_)
    obtain ⟨z37, hz37, he⟩ := jq_b he
    refine jq_gi (jq_runS (av := [.int p1, .int x36]) C X (M_X11_low l bs D ct n h p1 x36 _ hz37) mf_X11_low gw_893 (Or.inl gw_892) rfl hl.1 rfl (Nat.le_of_ble_eq_true rfl) ⟨by decide, by decide⟩ ⟨by decide, by decide⟩ dX11_counter_175) X (fun H locs X => ?_)
    exact jq_iret C X hr hlk he (by decide) (by decide) dX11_counter_178
  have he := jq_n hc38 he
  refine lv_tableOut (tgt := 179) C.1 C.2.1 dX11_counter_26 (jq_swo (fun k h1 h2 hk => by
    rcases (show k = 1 ∨ k = 2 ∨ k = 3 ∨ k = 4 ∨ k = 5 by omega) with rfl | rfl | rfl | rfl | rfl
    · exact lv_neT hc9 (by decide) hk
    · exact lv_neT hc16 (by decide) hk
    · exact lv_neT hc27 (by decide) hk
    · exact lv_neT hc34 (by decide) hk
    · exact lv_neT hc38 (by decide) hk)) (by decide) ?_
  refine lv_iload_n C.1 C.2.1 dX11_counter_179 rfl (lv_at hl 4 rfl) ?_
  refine lv_aload_n C.1 C.2.1 dX11_counter_180 rfl (lv_at hl 2 rfl) ?_
  refine jq_rgR C X fs_X11_43 he dX11_counter_181 (fun q39 he => ?_)
  refine lv_iload_n C.1 C.2.1 dX11_counter_184 rfl (lv_at hl 3 rfl) ?_
  refine jq_rldI C X he dX11_counter_185 (fun x40 he => ?_)
  obtain ⟨z41, hz41, he⟩ := jq_b he
  refine jq_gi (jq_runS (av := [.int p1, .int x40]) C X (M_X11_low l bs D ct n h p1 x40 _ hz41) mf_X11_low gw_893 (Or.inl gw_892) rfl hl.1 rfl (Nat.le_of_ble_eq_true rfl) ⟨by decide, by decide⟩ ⟨by decide, by decide⟩ dX11_counter_186) X (fun H locs X => ?_)
  exact jq_iret C X hr hlk he (by decide) (by decide) dX11_counter_189
set_option maxRecDepth 100000 in
set_option maxHeartbeats 4000000 in
theorem TX11_clash_b184 {p : Program} {l : Launch} {e : Env} {s : State} {m : MethodId} {args : Array Value} {below : List Frame} {meth : Method} {c : Code} {D : va_G} {ct : Nat → ClassId} {bs : Nat} {res : jq_H} {n : Nat} (C : jq_C p s m args c cX11_clash 8 RX11 D ct bs) (hr : meth.sig.returnType = none) (hlk : meth.locks = false) {h : jq_H} {H : Heap} {locs : List Loc} {ls : Array Slot} (X : jq_X bs D ct s.heap h H locs) (hl : lv_has ls 8 []) (he : X11_clash_b184 n h = some res) :
    W p l e rm_X11_clash s m args below meth c H locs 0 0 (MQ below (jq_Qv bs D ct res) args s rm_X11_clash.cells rm_X11_clash.slots (fun q => bs ≤ q)) (F0 m 184 ls []) := by
  unfold X11_clash_b184 at he
  exact jq_vret C X hr hlk he (by decide) (by decide) dX11_clash_184
set_option maxRecDepth 100000 in
set_option maxHeartbeats 4000000 in
theorem TX11_clash_b132 {p : Program} {l : Launch} {e : Env} {s : State} {m : MethodId} {args : Array Value} {below : List Frame} {meth : Method} {c : Code} {D : va_G} {ct : Nat → ClassId} {bs : Nat} {res : jq_H} {n : Nat} (C : jq_C p s m args c cX11_clash 8 RX11 D ct bs) (hr : meth.sig.returnType = none) (hlk : meth.locks = false) {v0 : Nat} {v3 : Int32} {v6 : Int32} {h : jq_H} {H : Heap} {locs : List Loc} {ls : Array Slot} (X : jq_X bs D ct s.heap h H locs) (hl : lv_has ls 8 [(0, .ref v0), (3, .int v3), (6, .int v6)]) (he : X11_clash_b132 n v0 v3 v6 h = some res) :
    W p l e rm_X11_clash s m args below meth c H locs 0 0 (MQ below (jq_Qv bs D ct res) args s rm_X11_clash.cells rm_X11_clash.slots (fun q => bs ≤ q)) (F0 m 132 ls []) := by
  unfold X11_clash_b132 at he
  refine lv_aload_n C.1 C.2.1 dX11_clash_132 rfl (lv_at hl 0 rfl) ?_
  refine jq_rgR C X fs_X11_49 he dX11_clash_133 (fun q1 he => ?_)
  refine lv_iload_n C.1 C.2.1 dX11_clash_136 rfl (lv_at hl 1 rfl) ?_
  refine lv_sipush (v := 811) C.1 C.2.1 dX11_clash_137 (by decide) ?_
  refine lv_iadd C.1 C.2.1 dX11_clash_140 ?_
  refine jq_rldI C X he dX11_clash_141 (fun x2 he => ?_)
  refine lv_bipush (v := 40) C.1 C.2.1 dX11_clash_142 (by decide) ?_
  refine lv_icmp_ge (tgt := 184) C.1 C.2.1 dX11_clash_144 (by decide) (fun hc3 => ?_) (fun hc3 => ?_)
  · have he := jq_t hc3 he
    exact TX11_clash_b184 (n := n) C hr hlk X (lv_sub hl [] rfl) he
  · have he := jq_n hc3 he
    refine lv_aload_n C.1 C.2.1 dX11_clash_147 rfl (lv_at hl 0 rfl) ?_
    refine jq_rgR C X fs_X11_49 he dX11_clash_148 (fun q4 he => ?_)
    refine lv_iload_n C.1 C.2.1 dX11_clash_151 rfl (lv_at hl 1 rfl) ?_
    refine lv_sipush (v := 768) C.1 C.2.1 dX11_clash_152 (by decide) ?_
    refine lv_iadd C.1 C.2.1 dX11_clash_155 ?_
    refine lv_aload_n C.1 C.2.1 dX11_clash_156 rfl (lv_at hl 0 rfl) ?_
    refine jq_rgR C X fs_X11_49 he dX11_clash_157 (fun q5 he => ?_)
    refine lv_iload_n C.1 C.2.1 dX11_clash_160 rfl (lv_at hl 1 rfl) ?_
    refine lv_sipush (v := 811) C.1 C.2.1 dX11_clash_161 (by decide) ?_
    refine lv_iadd C.1 C.2.1 dX11_clash_164 ?_
    refine jq_rldI C X he dX11_clash_165 (fun x6 he => ?_)
    refine lv_iadd C.1 C.2.1 dX11_clash_166 ?_
    refine lv_iload C.1 C.2.1 dX11_clash_167 (lv_at hl 2 rfl) ?_
    refine jq_rstI C X he dX11_clash_169 (fun h7 H locs he X => ?_)
    refine lv_aload_n C.1 C.2.1 dX11_clash_170 rfl (lv_at hl 0 rfl) ?_
    refine jq_rgR C X fs_X11_49 he dX11_clash_171 (fun q8 he => ?_)
    refine lv_iload_n C.1 C.2.1 dX11_clash_174 rfl (lv_at hl 1 rfl) ?_
    refine lv_sipush (v := 811) C.1 C.2.1 dX11_clash_175 (by decide) ?_
    refine lv_iadd C.1 C.2.1 dX11_clash_178 ?_
    refine lv_dup2_11 C.1 C.2.1 dX11_clash_179 rfl rfl ?_
    refine jq_rldI C X he dX11_clash_180 (fun x9 he => ?_)
    refine lv_iconst (v := 1) C.1 C.2.1 dX11_clash_181 (by decide) ?_
    refine lv_iadd C.1 C.2.1 dX11_clash_182 ?_
    refine jq_rstI C X he dX11_clash_183 (fun h10 H locs he X => ?_)
    exact TX11_clash_b184 (n := n) C hr hlk X (lv_sub hl [] rfl) he
set_option maxRecDepth 100000 in
set_option maxHeartbeats 4000000 in
theorem TX11_clash_b125 {p : Program} {l : Launch} {e : Env} {s : State} {m : MethodId} {args : Array Value} {below : List Frame} {meth : Method} {c : Code} {D : va_G} {ct : Nat → ClassId} {bs : Nat} {res : jq_H} {n : Nat} (C : jq_C p s m args c cX11_clash 8 RX11 D ct bs) (hr : meth.sig.returnType = none) (hlk : meth.locks = false) {h : jq_H} {H : Heap} {locs : List Loc} {ls : Array Slot} (X : jq_X bs D ct s.heap h H locs) (hl : lv_has ls 8 []) (he : X11_clash_b125 n h = some res) :
    W p l e rm_X11_clash s m args below meth c H locs 0 0 (MQ below (jq_Qv bs D ct res) args s rm_X11_clash.cells rm_X11_clash.slots (fun q => bs ≤ q)) (F0 m 125 ls []) := by
  unfold X11_clash_b125 at he
  exact jq_vret C X hr hlk he (by decide) (by decide) dX11_clash_125
set_option maxRecDepth 100000 in
set_option maxHeartbeats 4000000 in
theorem TX11_clash_b92 {p : Program} {l : Launch} {e : Env} {s : State} {m : MethodId} {args : Array Value} {below : List Frame} {meth : Method} {c : Code} {D : va_G} {ct : Nat → ClassId} {bs : Nat} {res : jq_H} {n : Nat} {KB : Nat → Int32 → Int32 → Int32 → jq_H → Option (jq_H)} {K125 : jq_H → Option (jq_H)} {K132 : Nat → Int32 → Int32 → jq_H → Option (jq_H)} (C : jq_C p s m args c cX11_clash 8 RX11 D ct bs) (hr : meth.sig.returnType = none) (hlk : meth.locks = false) (hKB : ∀ (u0 : Nat) (u3 : Int32) (u6 : Int32) (u7 : Int32) (h1 : jq_H) (H1 : Heap) (locs1 : List Loc) (ls1 : Array Slot), KB u0 u3 u6 u7 h1 = some res → jq_X bs D ct s.heap h1 H1 locs1 → lv_has ls1 8 [(0, .ref u0), (3, .int u3), (6, .int u6), (7, .int u7)] → W p l e rm_X11_clash s m args below meth c H1 locs1 0 0 (MQ below (jq_Qv bs D ct res) args s rm_X11_clash.cells rm_X11_clash.slots (fun q => bs ≤ q)) (F0 m 92 ls1 [])) (hK125 : ∀ (h1 : jq_H) (H1 : Heap) (locs1 : List Loc) (ls1 : Array Slot), K125 h1 = some res → jq_X bs D ct s.heap h1 H1 locs1 → lv_has ls1 8 [] → W p l e rm_X11_clash s m args below meth c H1 locs1 0 0 (MQ below (jq_Qv bs D ct res) args s rm_X11_clash.cells rm_X11_clash.slots (fun q => bs ≤ q)) (F0 m 125 ls1 [])) (hK132 : ∀ (u0 : Nat) (u3 : Int32) (u6 : Int32) (h1 : jq_H) (H1 : Heap) (locs1 : List Loc) (ls1 : Array Slot), K132 u0 u3 u6 h1 = some res → jq_X bs D ct s.heap h1 H1 locs1 → lv_has ls1 8 [(0, .ref u0), (3, .int u3), (6, .int u6)] → W p l e rm_X11_clash s m args below meth c H1 locs1 0 0 (MQ below (jq_Qv bs D ct res) args s rm_X11_clash.cells rm_X11_clash.slots (fun q => bs ≤ q)) (F0 m 132 ls1 [])) {v0 : Nat} {v3 : Int32} {v6 : Int32} {v7 : Int32} {h : jq_H} {H : Heap} {locs : List Loc} {ls : Array Slot} (X : jq_X bs D ct s.heap h H locs) (hl : lv_has ls 8 [(0, .ref v0), (3, .int v3), (6, .int v6), (7, .int v7)]) (he : X11_clash_b92 n KB K125 K132 v0 v3 v6 v7 h = some res) :
    W p l e rm_X11_clash s m args below meth c H locs 0 0 (MQ below (jq_Qv bs D ct res) args s rm_X11_clash.cells rm_X11_clash.slots (fun q => bs ≤ q)) (F0 m 92 ls []) := by
  unfold X11_clash_b92 at he
  refine lv_iload C.1 C.2.1 dX11_clash_92 (lv_at hl 3 rfl) ?_
  refine lv_aload_n C.1 C.2.1 dX11_clash_94 rfl (lv_at hl 0 rfl) ?_
  refine jq_rgR C X fs_X11_49 he dX11_clash_95 (fun q11 he => ?_)
  refine lv_iload_n C.1 C.2.1 dX11_clash_98 rfl (lv_at hl 1 rfl) ?_
  refine lv_sipush (v := 811) C.1 C.2.1 dX11_clash_99 (by decide) ?_
  refine lv_iadd C.1 C.2.1 dX11_clash_102 ?_
  refine jq_rldI C X he dX11_clash_103 (fun x12 he => ?_)
  refine lv_icmp_ge (tgt := 132) C.1 C.2.1 dX11_clash_104 (by decide) (fun hc13 => ?_) (fun hc13 => ?_)
  · have he := jq_t hc13 he
    exact hK132 _ _ _ _ _ _ _ he X (lv_sub hl [0, 1, 2] rfl)
  · have he := jq_n hc13 he
    refine lv_aload_n C.1 C.2.1 dX11_clash_107 rfl (lv_at hl 0 rfl) ?_
    refine jq_rgR C X fs_X11_49 he dX11_clash_108 (fun q14 he => ?_)
    refine lv_iload_n C.1 C.2.1 dX11_clash_111 rfl (lv_at hl 1 rfl) ?_
    refine lv_sipush (v := 768) C.1 C.2.1 dX11_clash_112 (by decide) ?_
    refine lv_iadd C.1 C.2.1 dX11_clash_115 ?_
    refine lv_iload C.1 C.2.1 dX11_clash_116 (lv_at hl 3 rfl) ?_
    refine lv_iadd C.1 C.2.1 dX11_clash_118 ?_
    refine jq_rldI C X he dX11_clash_119 (fun x15 he => ?_)
    refine lv_iload C.1 C.2.1 dX11_clash_120 (lv_at hl 2 rfl) ?_
    refine lv_icmp_ne (tgt := 126) C.1 C.2.1 dX11_clash_122 (by decide) (fun hc16 => ?_) (fun hc16 => ?_)
    · have he := jq_n hc16 he
      obtain ⟨x17, hx17, he⟩ := jq_ln he
      refine lv_iinc (v := x17) (lv' := [(7, .int x17), (0, .ref v0), (3, .int v3), (6, .int v6)]) C.1 C.2.1 dX11_clash_126 hl (k := 3) rfl (by rw [hx17]; rfl) (by decide) rfl (fun ls hl => ?_)
      refine lv_goto (tgt := 92) C.1 C.2.1 dX11_clash_129 (by decide) ?_
      exact hKB _ _ _ _ _ _ _ _ he X (lv_sub hl [1, 2, 3, 0] rfl)
    · have he := jq_t hc16 he
      exact hK125 _ _ _ _ he X (lv_sub hl [] rfl)
set_option maxRecDepth 100000 in
set_option maxHeartbeats 4000000 in
theorem TX11_clash_l92 {p : Program} {l : Launch} {e : Env} {s : State} {m : MethodId} {args : Array Value} {below : List Frame} {meth : Method} {c : Code} {D : va_G} {ct : Nat → ClassId} {bs : Nat} {res : jq_H} {n : Nat} {K125 : jq_H → Option (jq_H)} {K132 : Nat → Int32 → Int32 → jq_H → Option (jq_H)} (C : jq_C p s m args c cX11_clash 8 RX11 D ct bs) (hr : meth.sig.returnType = none) (hlk : meth.locks = false) (hK125 : ∀ (h1 : jq_H) (H1 : Heap) (locs1 : List Loc) (ls1 : Array Slot), K125 h1 = some res → jq_X bs D ct s.heap h1 H1 locs1 → lv_has ls1 8 [] → W p l e rm_X11_clash s m args below meth c H1 locs1 0 0 (MQ below (jq_Qv bs D ct res) args s rm_X11_clash.cells rm_X11_clash.slots (fun q => bs ≤ q)) (F0 m 125 ls1 [])) (hK132 : ∀ (u0 : Nat) (u3 : Int32) (u6 : Int32) (h1 : jq_H) (H1 : Heap) (locs1 : List Loc) (ls1 : Array Slot), K132 u0 u3 u6 h1 = some res → jq_X bs D ct s.heap h1 H1 locs1 → lv_has ls1 8 [(0, .ref u0), (3, .int u3), (6, .int u6)] → W p l e rm_X11_clash s m args below meth c H1 locs1 0 0 (MQ below (jq_Qv bs D ct res) args s rm_X11_clash.cells rm_X11_clash.slots (fun q => bs ≤ q)) (F0 m 132 ls1 [])) :
    ∀ (k : Nat) (v0 : Nat) (v3 : Int32) (v6 : Int32) (v7 : Int32) (h : jq_H) (H : Heap) (locs : List Loc) (ls : Array Slot), X11_clash_l92 n K125 K132 k v0 v3 v6 v7 h = some res → jq_X bs D ct s.heap h H locs → lv_has ls 8 [(0, .ref v0), (3, .int v3), (6, .int v6), (7, .int v7)] → W p l e rm_X11_clash s m args below meth c H locs 0 0 (MQ below (jq_Qv bs D ct res) args s rm_X11_clash.cells rm_X11_clash.slots (fun q => bs ≤ q)) (F0 m 92 ls []) := by
  intro k
  induction k with
  | zero => intro v0 v3 v6 v7 h H locs ls he; cases (show (none : Option (jq_H)) = some res from he)
  | succ k ih =>
    intro v0 v3 v6 v7 h H locs ls he X hl
    exact TX11_clash_b92 (n := n) C hr hlk (KB := X11_clash_l92 n K125 K132 k) ih hK125 hK132 X hl he
set_option maxRecDepth 100000 in
set_option maxHeartbeats 4000000 in
theorem TX11_clash_b87 {p : Program} {l : Launch} {e : Env} {s : State} {m : MethodId} {args : Array Value} {below : List Frame} {meth : Method} {c : Code} {D : va_G} {ct : Nat → ClassId} {bs : Nat} {res : jq_H} {n : Nat} (C : jq_C p s m args c cX11_clash 8 RX11 D ct bs) (hr : meth.sig.returnType = none) (hlk : meth.locks = false) {v0 : Nat} {v3 : Int32} {s0 : Int32} {h : jq_H} {H : Heap} {locs : List Loc} {ls : Array Slot} (X : jq_X bs D ct s.heap h H locs) (hl : lv_has ls 8 [(0, .ref v0), (3, .int v3)]) (he : X11_clash_b87 n v0 v3 s0 h = some res) :
    W p l e rm_X11_clash s m args below meth c H locs 0 0 (MQ below (jq_Qv bs D ct res) args s rm_X11_clash.cells rm_X11_clash.slots (fun q => bs ≤ q)) (F0 m 87 ls [.int s0]) := by
  unfold X11_clash_b87 at he
  refine lv_istore (lv' := [(6, .int s0), (0, .ref v0), (3, .int v3)]) C.1 C.2.1 dX11_clash_87 hl (by decide) rfl (fun ls hl => ?_)
  refine lv_iconst (v := 0) C.1 C.2.1 dX11_clash_89 (by decide) ?_
  refine lv_istore (lv' := [(7, .int 0), (6, .int s0), (0, .ref v0), (3, .int v3)]) C.1 C.2.1 dX11_clash_90 hl (by decide) rfl (fun ls hl => ?_)
  exact TX11_clash_l92 (n := n) C hr hlk (fun  hh H locs ls he X hl => by
    exact TX11_clash_b125 (n := n) C hr hlk X hl he) (fun w0 w3 w6 hh H locs ls he X hl => by
    exact TX11_clash_b132 (n := n) C hr hlk X hl he) n _ _ _ _ _ _ _ _ he X (lv_sub hl [2, 3, 1, 0] rfl)
set_option maxRecDepth 100000 in
set_option maxHeartbeats 4000000 in
theorem TX11_clash_b49 {p : Program} {l : Launch} {e : Env} {s : State} {m : MethodId} {args : Array Value} {below : List Frame} {meth : Method} {c : Code} {D : va_G} {ct : Nat → ClassId} {bs : Nat} {res : jq_H} {n : Nat} (C : jq_C p s m args c cX11_clash 8 RX11 D ct bs) (hr : meth.sig.returnType = none) (hlk : meth.locks = false) {h : jq_H} {H : Heap} {locs : List Loc} {ls : Array Slot} (X : jq_X bs D ct s.heap h H locs) (hl : lv_has ls 8 []) (he : X11_clash_b49 n h = some res) :
    W p l e rm_X11_clash s m args below meth c H locs 0 0 (MQ below (jq_Qv bs D ct res) args s rm_X11_clash.cells rm_X11_clash.slots (fun q => bs ≤ q)) (F0 m 49 ls []) := by
  unfold X11_clash_b49 at he
  exact jq_vret C X hr hlk he (by decide) (by decide) dX11_clash_49
set_option maxRecDepth 100000 in
set_option maxHeartbeats 4000000 in
theorem M_X11_clash (l : Launch) (bs : Nat) (D : va_G) (ct : Nat → ClassId) (n : Nat) (h : jq_H) (a : Nat) (p0 : Int32) (p1 : Int32) (res : jq_H) (he : X11_clash n h a p0 p1 = some res) : jq_M l yX11_clash cX11_clash 8 none rm_X11_clash (jq_P [.ref a, .int p0, .int p1] bs D ct h) (jq_Qv bs D ct res) bs := by
  refine jq_start2 (by decide +kernel) (Nat.le_of_ble_eq_true rfl) ?_
  intro p e s m args below meth c ls H locs C hr hlk hin hl X
  have C : jq_C p s m args c cX11_clash 8 RX11 D ct bs := C
  have hin : meth.name = "clash" := hin
  have hl : lv_has ls 8 [(0, .ref a), (1, .int p0), (2, .int p1)] := hl
  unfold X11_clash at he
  refine lv_sipush (v := 812) C.1 C.2.1 dX11_clash_0 (by decide) ?_
  refine lv_iload_n C.1 C.2.1 dX11_clash_3 rfl (lv_at hl 1 rfl) ?_
  refine lv_imul C.1 C.2.1 dX11_clash_4 ?_
  obtain ⟨x18, hx18, he⟩ := jq_ln he
  refine jq_top hx18 ?_
  refine lv_istore_n (lv' := [(3, .int x18), (0, .ref a), (1, .int p0), (2, .int p1)]) C.1 C.2.1 dX11_clash_5 rfl hl (by decide) rfl (fun ls hl => ?_)
  refine lv_iload_n C.1 C.2.1 dX11_clash_6 rfl (lv_at hl 0 rfl) ?_
  refine lv_sipush (v := 512) C.1 C.2.1 dX11_clash_7 (by decide) ?_
  refine lv_iadd C.1 C.2.1 dX11_clash_10 ?_
  refine lv_aload_n C.1 C.2.1 dX11_clash_11 rfl (lv_at hl 1 rfl) ?_
  refine lv_iload_n C.1 C.2.1 dX11_clash_12 rfl (lv_at hl 2 rfl) ?_
  refine lv_iload_n C.1 C.2.1 dX11_clash_13 rfl (lv_at hl 3 rfl) ?_
  refine lv_iconst (v := 0) C.1 C.2.1 dX11_clash_14 (by decide) ?_
  obtain ⟨z19, hz19, he⟩ := jq_b he
  obtain ⟨hz19c, hz19⟩ := jq_ite hz19
  refine jq_gi (jq_runV (a := a) (av := [.int p0, .int p1, .int 0]) C X (M_X11_counter l bs D ct n h a p0 p1 0 _ hz19) mf_X11_counter gw_890 gs_31 (Or.inl gw_888) rc_X11 hz19c (by decide) rfl hl.1 rfl (Nat.le_of_ble_eq_true rfl) ⟨by decide, by decide⟩ ⟨by decide, by decide⟩ dX11_clash_15) X (fun H locs X => ?_)
  refine lv_iadd C.1 C.2.1 dX11_clash_18 ?_
  obtain ⟨x20, hx20, he⟩ := jq_ln he
  refine jq_top hx20 ?_
  refine lv_istore (lv' := [(4, .int x20), (3, .int x18), (0, .ref a), (1, .int p0), (2, .int p1)]) C.1 C.2.1 dX11_clash_19 hl (by decide) rfl (fun ls hl => ?_)
  refine lv_aload_n C.1 C.2.1 dX11_clash_21 rfl (lv_at hl 2 rfl) ?_
  refine jq_rgR C X fs_X11_49 he dX11_clash_22 (fun q21 he => ?_)
  refine lv_iload C.1 C.2.1 dX11_clash_25 (lv_at hl 0 rfl) ?_
  refine jq_rldI C X he dX11_clash_27 (fun x22 he => ?_)
  refine lv_istore (lv' := [(5, .int x22), (4, .int x20), (3, .int x18), (0, .ref a), (1, .int p0), (2, .int p1)]) C.1 C.2.1 dX11_clash_28 hl (by decide) rfl (fun ls hl => ?_)
  refine lv_aload_n C.1 C.2.1 dX11_clash_30 rfl (lv_at hl 3 rfl) ?_
  refine jq_rgR C X fs_X11_49 he dX11_clash_31 (fun q23 he => ?_)
  refine lv_iload C.1 C.2.1 dX11_clash_34 (lv_at hl 1 rfl) ?_
  refine lv_iload_n C.1 C.2.1 dX11_clash_36 rfl (lv_at hl 5 rfl) ?_
  refine jq_rstI C X he dX11_clash_37 (fun h24 H locs he X => ?_)
  refine lv_iload C.1 C.2.1 dX11_clash_38 (lv_at hl 0 rfl) ?_
  refine lv_if_lt (tgt := 49) C.1 C.2.1 dX11_clash_40 (by decide) (fun hc25 => ?_) (fun hc25 => ?_)
  · have he := jq_t hc25 he
    exact TX11_clash_b49 (n := n) C hr hlk X (lv_sub hl [] rfl) he
  · have he := jq_n hc25 he
    refine lv_iload C.1 C.2.1 dX11_clash_43 (lv_at hl 0 rfl) ?_
    refine lv_iload_n C.1 C.2.1 dX11_clash_45 rfl (lv_at hl 5 rfl) ?_
    refine lv_icmp_ne (tgt := 50) C.1 C.2.1 dX11_clash_46 (by decide) (fun hc26 => ?_) (fun hc26 => ?_)
    · have he := jq_n hc26 he
      refine lv_aload_n C.1 C.2.1 dX11_clash_50 rfl (lv_at hl 3 rfl) ?_
      refine jq_rgR C X fs_X11_49 he dX11_clash_51 (fun q27 he => ?_)
      refine lv_iload_n C.1 C.2.1 dX11_clash_54 rfl (lv_at hl 2 rfl) ?_
      refine lv_sipush (v := 810) C.1 C.2.1 dX11_clash_55 (by decide) ?_
      refine lv_iadd C.1 C.2.1 dX11_clash_58 ?_
      refine lv_dup2_11 C.1 C.2.1 dX11_clash_59 rfl rfl ?_
      refine jq_rldI C X he dX11_clash_60 (fun x28 he => ?_)
      refine lv_iconst (v := 1) C.1 C.2.1 dX11_clash_61 (by decide) ?_
      refine lv_iadd C.1 C.2.1 dX11_clash_62 ?_
      refine jq_rstI C X he dX11_clash_63 (fun h29 H locs he X => ?_)
      refine lv_iload C.1 C.2.1 dX11_clash_64 (lv_at hl 0 rfl) ?_
      refine lv_iload_n C.1 C.2.1 dX11_clash_66 rfl (lv_at hl 5 rfl) ?_
      refine lv_icmp_ge (tgt := 80) C.1 C.2.1 dX11_clash_67 (by decide) (fun hc30 => ?_) (fun hc30 => ?_)
      · have he := jq_t hc30 he
        refine lv_bipush (v := 64) C.1 C.2.1 dX11_clash_80 (by decide) ?_
        refine lv_iload_n C.1 C.2.1 dX11_clash_82 rfl (lv_at hl 5 rfl) ?_
        refine lv_imul C.1 C.2.1 dX11_clash_83 ?_
        refine lv_iload C.1 C.2.1 dX11_clash_84 (lv_at hl 0 rfl) ?_
        refine lv_iadd C.1 C.2.1 dX11_clash_86 ?_
        exact TX11_clash_b87 (n := n) C hr hlk X (lv_sub hl [3, 2] rfl) he
      · have he := jq_n hc30 he
        refine lv_bipush (v := 64) C.1 C.2.1 dX11_clash_70 (by decide) ?_
        refine lv_iload C.1 C.2.1 dX11_clash_72 (lv_at hl 0 rfl) ?_
        refine lv_imul C.1 C.2.1 dX11_clash_74 ?_
        refine lv_iload_n C.1 C.2.1 dX11_clash_75 rfl (lv_at hl 5 rfl) ?_
        refine lv_iadd C.1 C.2.1 dX11_clash_76 ?_
        refine lv_goto (tgt := 87) C.1 C.2.1 dX11_clash_77 (by decide) ?_
        exact TX11_clash_b87 (n := n) C hr hlk X (lv_sub hl [3, 2] rfl) he
    · have he := jq_t hc26 he
      exact TX11_clash_b49 (n := n) C hr hlk X (lv_sub hl [] rfl) he
set_option maxRecDepth 100000 in
set_option maxHeartbeats 4000000 in
theorem TX11_sum_b111 {p : Program} {l : Launch} {e : Env} {s : State} {m : MethodId} {args : Array Value} {below : List Frame} {meth : Method} {c : Code} {D : va_G} {ct : Nat → ClassId} {bs : Nat} {res : Int32 × jq_H} {n : Nat} (C : jq_C p s m args c cX11_sum 7 RX11 D ct bs) (hr : meth.sig.returnType = (some .int)) (hlk : meth.locks = false) {v4 : Int32} {h : jq_H} {H : Heap} {locs : List Loc} {ls : Array Slot} (X : jq_X bs D ct s.heap h H locs) (hl : lv_has ls 7 [(4, .int v4)]) (he : X11_sum_b111 n v4 h = some res) :
    W p l e rm_X11_sum s m args below meth c H locs 0 0 (MQ below (jq_Qi bs D ct res) args s rm_X11_sum.cells rm_X11_sum.slots (fun q => bs ≤ q)) (F0 m 111 ls []) := by
  unfold X11_sum_b111 at he
  refine lv_iload C.1 C.2.1 dX11_sum_111 (lv_at hl 0 rfl) ?_
  exact jq_iret C X hr hlk he (by decide) (by decide) dX11_sum_113
set_option maxRecDepth 100000 in
set_option maxHeartbeats 4000000 in
theorem TX11_sum_b102 {p : Program} {l : Launch} {e : Env} {s : State} {m : MethodId} {args : Array Value} {below : List Frame} {meth : Method} {c : Code} {D : va_G} {ct : Nat → ClassId} {bs : Nat} {res : Int32 × jq_H} {n : Nat} {KB : Nat → Int32 → Int32 → Int32 → Int32 → jq_H → Option (Int32 × jq_H)} {K111 : Int32 → jq_H → Option (Int32 × jq_H)} (C : jq_C p s m args c cX11_sum 7 RX11 D ct bs) (hr : meth.sig.returnType = (some .int)) (hlk : meth.locks = false) (hKB : ∀ (u0 : Nat) (u1 : Int32) (u3 : Int32) (u4 : Int32) (u5 : Int32) (h1 : jq_H) (H1 : Heap) (locs1 : List Loc) (ls1 : Array Slot), KB u0 u1 u3 u4 u5 h1 = some res → jq_X bs D ct s.heap h1 H1 locs1 → lv_has ls1 7 [(0, .ref u0), (1, .int u1), (3, .int u3), (4, .int u4), (5, .int u5)] → W p l e rm_X11_sum s m args below meth c H1 locs1 0 0 (MQ below (jq_Qi bs D ct res) args s rm_X11_sum.cells rm_X11_sum.slots (fun q => bs ≤ q)) (F0 m 28 ls1 [])) (hK111 : ∀ (u4 : Int32) (h1 : jq_H) (H1 : Heap) (locs1 : List Loc) (ls1 : Array Slot), K111 u4 h1 = some res → jq_X bs D ct s.heap h1 H1 locs1 → lv_has ls1 7 [(4, .int u4)] → W p l e rm_X11_sum s m args below meth c H1 locs1 0 0 (MQ below (jq_Qi bs D ct res) args s rm_X11_sum.cells rm_X11_sum.slots (fun q => bs ≤ q)) (F0 m 111 ls1 [])) {v0 : Nat} {v1 : Int32} {v3 : Int32} {v5 : Int32} {s0 : Int32} {s1 : Int32} {h : jq_H} {H : Heap} {locs : List Loc} {ls : Array Slot} (X : jq_X bs D ct s.heap h H locs) (hl : lv_has ls 7 [(0, .ref v0), (1, .int v1), (3, .int v3), (5, .int v5)]) (he : X11_sum_b102 n KB K111 v0 v1 v3 v5 s0 s1 h = some res) :
    W p l e rm_X11_sum s m args below meth c H locs 0 0 (MQ below (jq_Qi bs D ct res) args s rm_X11_sum.cells rm_X11_sum.slots (fun q => bs ≤ q)) (F0 m 102 ls [.int s1, .int s0]) := by
  unfold X11_sum_b102 at he
  refine lv_iadd C.1 C.2.1 dX11_sum_102 ?_
  obtain ⟨x1, hx1, he⟩ := jq_ln he
  refine jq_top hx1 ?_
  refine lv_istore (lv' := [(4, .int x1), (0, .ref v0), (1, .int v1), (3, .int v3), (5, .int v5)]) C.1 C.2.1 dX11_sum_103 hl (by decide) rfl (fun ls hl => ?_)
  obtain ⟨x2, hx2, he⟩ := jq_ln he
  refine lv_iinc (v := x2) (lv' := [(5, .int x2), (4, .int x1), (0, .ref v0), (1, .int v1), (3, .int v3)]) C.1 C.2.1 dX11_sum_105 hl (k := 4) rfl (by rw [hx2]; rfl) (by decide) rfl (fun ls hl => ?_)
  refine lv_goto (tgt := 28) C.1 C.2.1 dX11_sum_108 (by decide) ?_
  exact hKB _ _ _ _ _ _ _ _ _ he X (lv_sub hl [2, 3, 4, 1, 0] rfl)
set_option maxRecDepth 100000 in
set_option maxHeartbeats 4000000 in
theorem TX11_sum_b67 {p : Program} {l : Launch} {e : Env} {s : State} {m : MethodId} {args : Array Value} {below : List Frame} {meth : Method} {c : Code} {D : va_G} {ct : Nat → ClassId} {bs : Nat} {res : Int32 × jq_H} {n : Nat} {KB : Nat → Int32 → Int32 → Int32 → Int32 → jq_H → Option (Int32 × jq_H)} {K111 : Int32 → jq_H → Option (Int32 × jq_H)} (C : jq_C p s m args c cX11_sum 7 RX11 D ct bs) (hr : meth.sig.returnType = (some .int)) (hlk : meth.locks = false) (hKB : ∀ (u0 : Nat) (u1 : Int32) (u3 : Int32) (u4 : Int32) (u5 : Int32) (h1 : jq_H) (H1 : Heap) (locs1 : List Loc) (ls1 : Array Slot), KB u0 u1 u3 u4 u5 h1 = some res → jq_X bs D ct s.heap h1 H1 locs1 → lv_has ls1 7 [(0, .ref u0), (1, .int u1), (3, .int u3), (4, .int u4), (5, .int u5)] → W p l e rm_X11_sum s m args below meth c H1 locs1 0 0 (MQ below (jq_Qi bs D ct res) args s rm_X11_sum.cells rm_X11_sum.slots (fun q => bs ≤ q)) (F0 m 28 ls1 [])) (hK111 : ∀ (u4 : Int32) (h1 : jq_H) (H1 : Heap) (locs1 : List Loc) (ls1 : Array Slot), K111 u4 h1 = some res → jq_X bs D ct s.heap h1 H1 locs1 → lv_has ls1 7 [(4, .int u4)] → W p l e rm_X11_sum s m args below meth c H1 locs1 0 0 (MQ below (jq_Qi bs D ct res) args s rm_X11_sum.cells rm_X11_sum.slots (fun q => bs ≤ q)) (F0 m 111 ls1 [])) {v0 : Nat} {v1 : Int32} {v3 : Int32} {v4 : Int32} {v5 : Int32} {s0 : Int32} {h : jq_H} {H : Heap} {locs : List Loc} {ls : Array Slot} (X : jq_X bs D ct s.heap h H locs) (hl : lv_has ls 7 [(0, .ref v0), (1, .int v1), (3, .int v3), (4, .int v4), (5, .int v5)]) (he : X11_sum_b67 n KB K111 v0 v1 v3 v4 v5 s0 h = some res) :
    W p l e rm_X11_sum s m args below meth c H locs 0 0 (MQ below (jq_Qi bs D ct res) args s rm_X11_sum.cells rm_X11_sum.slots (fun q => bs ≤ q)) (F0 m 67 ls [.int s0]) := by
  unfold X11_sum_b67 at he
  refine lv_istore (lv' := [(6, .int s0), (0, .ref v0), (1, .int v1), (3, .int v3), (4, .int v4), (5, .int v5)]) C.1 C.2.1 dX11_sum_67 hl (by decide) rfl (fun ls hl => ?_)
  refine lv_iload C.1 C.2.1 dX11_sum_69 (lv_at hl 4 rfl) ?_
  refine lv_iload C.1 C.2.1 dX11_sum_71 (lv_at hl 0 rfl) ?_
  refine lv_if_eq (tgt := 90) C.1 C.2.1 dX11_sum_73 (by decide) (fun hc3 => ?_) (fun hc3 => ?_)
  · have he := jq_t hc3 he
    refine lv_aload_n C.1 C.2.1 dX11_sum_90 rfl (lv_at hl 1 rfl) ?_
    refine jq_rgR C X fs_X11_49 he dX11_sum_91 (fun q4 he => ?_)
    refine lv_iload_n C.1 C.2.1 dX11_sum_94 rfl (lv_at hl 3 rfl) ?_
    refine lv_iconst (v := 1) C.1 C.2.1 dX11_sum_95 (by decide) ?_
    refine lv_iadd C.1 C.2.1 dX11_sum_96 ?_
    refine lv_iload C.1 C.2.1 dX11_sum_97 (lv_at hl 5 rfl) ?_
    refine lv_iadd C.1 C.2.1 dX11_sum_99 ?_
    refine jq_rldI C X he dX11_sum_100 (fun x5 he => ?_)
    refine lv_ineg C.1 C.2.1 dX11_sum_101 ?_
    exact TX11_sum_b102 (n := n) C hr hlk hKB hK111 X (lv_sub hl [1, 2, 3, 5] rfl) he
  · have he := jq_n hc3 he
    refine lv_aload_n C.1 C.2.1 dX11_sum_76 rfl (lv_at hl 1 rfl) ?_
    refine jq_rgR C X fs_X11_49 he dX11_sum_77 (fun q6 he => ?_)
    refine lv_iload_n C.1 C.2.1 dX11_sum_80 rfl (lv_at hl 3 rfl) ?_
    refine lv_iconst (v := 1) C.1 C.2.1 dX11_sum_81 (by decide) ?_
    refine lv_iadd C.1 C.2.1 dX11_sum_82 ?_
    refine lv_iload C.1 C.2.1 dX11_sum_83 (lv_at hl 5 rfl) ?_
    refine lv_iadd C.1 C.2.1 dX11_sum_85 ?_
    refine jq_rldI C X he dX11_sum_86 (fun x7 he => ?_)
    refine lv_goto (tgt := 102) C.1 C.2.1 dX11_sum_87 (by decide) ?_
    exact TX11_sum_b102 (n := n) C hr hlk hKB hK111 X (lv_sub hl [1, 2, 3, 5] rfl) he
set_option maxRecDepth 100000 in
set_option maxHeartbeats 4000000 in
theorem TX11_sum_b28 {p : Program} {l : Launch} {e : Env} {s : State} {m : MethodId} {args : Array Value} {below : List Frame} {meth : Method} {c : Code} {D : va_G} {ct : Nat → ClassId} {bs : Nat} {res : Int32 × jq_H} {n : Nat} {KB : Nat → Int32 → Int32 → Int32 → Int32 → jq_H → Option (Int32 × jq_H)} {K111 : Int32 → jq_H → Option (Int32 × jq_H)} (C : jq_C p s m args c cX11_sum 7 RX11 D ct bs) (hr : meth.sig.returnType = (some .int)) (hlk : meth.locks = false) (hKB : ∀ (u0 : Nat) (u1 : Int32) (u3 : Int32) (u4 : Int32) (u5 : Int32) (h1 : jq_H) (H1 : Heap) (locs1 : List Loc) (ls1 : Array Slot), KB u0 u1 u3 u4 u5 h1 = some res → jq_X bs D ct s.heap h1 H1 locs1 → lv_has ls1 7 [(0, .ref u0), (1, .int u1), (3, .int u3), (4, .int u4), (5, .int u5)] → W p l e rm_X11_sum s m args below meth c H1 locs1 0 0 (MQ below (jq_Qi bs D ct res) args s rm_X11_sum.cells rm_X11_sum.slots (fun q => bs ≤ q)) (F0 m 28 ls1 [])) (hK111 : ∀ (u4 : Int32) (h1 : jq_H) (H1 : Heap) (locs1 : List Loc) (ls1 : Array Slot), K111 u4 h1 = some res → jq_X bs D ct s.heap h1 H1 locs1 → lv_has ls1 7 [(4, .int u4)] → W p l e rm_X11_sum s m args below meth c H1 locs1 0 0 (MQ below (jq_Qi bs D ct res) args s rm_X11_sum.cells rm_X11_sum.slots (fun q => bs ≤ q)) (F0 m 111 ls1 [])) {v0 : Nat} {v1 : Int32} {v3 : Int32} {v4 : Int32} {v5 : Int32} {h : jq_H} {H : Heap} {locs : List Loc} {ls : Array Slot} (X : jq_X bs D ct s.heap h H locs) (hl : lv_has ls 7 [(0, .ref v0), (1, .int v1), (3, .int v3), (4, .int v4), (5, .int v5)]) (he : X11_sum_b28 n KB K111 v0 v1 v3 v4 v5 h = some res) :
    W p l e rm_X11_sum s m args below meth c H locs 0 0 (MQ below (jq_Qi bs D ct res) args s rm_X11_sum.cells rm_X11_sum.slots (fun q => bs ≤ q)) (F0 m 28 ls []) := by
  unfold X11_sum_b28 at he
  refine lv_iload C.1 C.2.1 dX11_sum_28 (lv_at hl 4 rfl) ?_
  refine lv_aload_n C.1 C.2.1 dX11_sum_30 rfl (lv_at hl 0 rfl) ?_
  refine jq_rgR C X fs_X11_40 he dX11_sum_31 (fun q8 he => ?_)
  refine lv_iload_n C.1 C.2.1 dX11_sum_34 rfl (lv_at hl 1 rfl) ?_
  refine jq_rldI C X he dX11_sum_35 (fun x9 he => ?_)
  refine lv_icmp_ge (tgt := 111) C.1 C.2.1 dX11_sum_36 (by decide) (fun hc10 => ?_) (fun hc10 => ?_)
  · have he := jq_t hc10 he
    exact hK111 _ _ _ _ _ he X (lv_sub hl [3] rfl)
  · have he := jq_n hc10 he
    refine lv_aload_n C.1 C.2.1 dX11_sum_39 rfl (lv_at hl 0 rfl) ?_
    refine jq_rgR C X fs_X11_49 he dX11_sum_40 (fun q11 he => ?_)
    refine lv_sipush (v := 812) C.1 C.2.1 dX11_sum_43 (by decide) ?_
    refine lv_iload_n C.1 C.2.1 dX11_sum_46 rfl (lv_at hl 1 rfl) ?_
    refine lv_imul C.1 C.2.1 dX11_sum_47 ?_
    refine lv_sipush (v := 808) C.1 C.2.1 dX11_sum_48 (by decide) ?_
    refine lv_iadd C.1 C.2.1 dX11_sum_51 ?_
    refine jq_rldI C X he dX11_sum_52 (fun x12 he => ?_)
    refine lv_iload C.1 C.2.1 dX11_sum_53 (lv_at hl 4 rfl) ?_
    refine lv_ishr C.1 C.2.1 dX11_sum_55 ?_
    refine lv_iconst (v := 1) C.1 C.2.1 dX11_sum_56 (by decide) ?_
    refine lv_iand C.1 C.2.1 dX11_sum_57 ?_
    refine lv_iconst (v := 1) C.1 C.2.1 dX11_sum_58 (by decide) ?_
    refine lv_icmp_ne (tgt := 66) C.1 C.2.1 dX11_sum_59 (by decide) (fun hc13 => ?_) (fun hc13 => ?_)
    · have he := jq_n hc13 he
      refine lv_iconst (v := 0) C.1 C.2.1 dX11_sum_66 (by decide) ?_
      exact TX11_sum_b67 (n := n) C hr hlk hKB hK111 X (lv_sub hl [0, 1, 2, 3, 4] rfl) he
    · have he := jq_t hc13 he
      refine lv_iconst (v := 1) C.1 C.2.1 dX11_sum_62 (by decide) ?_
      refine lv_goto (tgt := 67) C.1 C.2.1 dX11_sum_63 (by decide) ?_
      exact TX11_sum_b67 (n := n) C hr hlk hKB hK111 X (lv_sub hl [0, 1, 2, 3, 4] rfl) he
set_option maxRecDepth 100000 in
set_option maxHeartbeats 4000000 in
theorem TX11_sum_l28 {p : Program} {l : Launch} {e : Env} {s : State} {m : MethodId} {args : Array Value} {below : List Frame} {meth : Method} {c : Code} {D : va_G} {ct : Nat → ClassId} {bs : Nat} {res : Int32 × jq_H} {n : Nat} {K111 : Int32 → jq_H → Option (Int32 × jq_H)} (C : jq_C p s m args c cX11_sum 7 RX11 D ct bs) (hr : meth.sig.returnType = (some .int)) (hlk : meth.locks = false) (hK111 : ∀ (u4 : Int32) (h1 : jq_H) (H1 : Heap) (locs1 : List Loc) (ls1 : Array Slot), K111 u4 h1 = some res → jq_X bs D ct s.heap h1 H1 locs1 → lv_has ls1 7 [(4, .int u4)] → W p l e rm_X11_sum s m args below meth c H1 locs1 0 0 (MQ below (jq_Qi bs D ct res) args s rm_X11_sum.cells rm_X11_sum.slots (fun q => bs ≤ q)) (F0 m 111 ls1 [])) :
    ∀ (k : Nat) (v0 : Nat) (v1 : Int32) (v3 : Int32) (v4 : Int32) (v5 : Int32) (h : jq_H) (H : Heap) (locs : List Loc) (ls : Array Slot), X11_sum_l28 n K111 k v0 v1 v3 v4 v5 h = some res → jq_X bs D ct s.heap h H locs → lv_has ls 7 [(0, .ref v0), (1, .int v1), (3, .int v3), (4, .int v4), (5, .int v5)] → W p l e rm_X11_sum s m args below meth c H locs 0 0 (MQ below (jq_Qi bs D ct res) args s rm_X11_sum.cells rm_X11_sum.slots (fun q => bs ≤ q)) (F0 m 28 ls []) := by
  intro k
  induction k with
  | zero => intro v0 v1 v3 v4 v5 h H locs ls he; cases (show (none : Option (Int32 × jq_H)) = some res from he)
  | succ k ih =>
    intro v0 v1 v3 v4 v5 h H locs ls he X hl
    exact TX11_sum_b28 (n := n) C hr hlk (KB := X11_sum_l28 n K111 k) ih hK111 X hl he
set_option maxRecDepth 100000 in
set_option maxHeartbeats 4000000 in
theorem M_X11_sum (l : Launch) (bs : Nat) (D : va_G) (ct : Nat → ClassId) (n : Nat) (h : jq_H) (a : Nat) (p0 : Int32) (p1 : Int32) (res : Int32 × jq_H) (he : X11_sum n h a p0 p1 = some res) : jq_M l yX11_sum cX11_sum 7 (some .int) rm_X11_sum (jq_P [.ref a, .int p0, .int p1] bs D ct h) (jq_Qi bs D ct res) bs := by
  refine jq_start2 (by decide +kernel) (Nat.le_of_ble_eq_true rfl) ?_
  intro p e s m args below meth c ls H locs C hr hlk hin hl X
  have C : jq_C p s m args c cX11_sum 7 RX11 D ct bs := C
  have hin : meth.name = "sum" := hin
  have hl : lv_has ls 7 [(0, .ref a), (1, .int p0), (2, .int p1)] := hl
  unfold X11_sum at he
  refine lv_sipush (v := 812) C.1 C.2.1 dX11_sum_0 (by decide) ?_
  refine lv_iload_n C.1 C.2.1 dX11_sum_3 rfl (lv_at hl 1 rfl) ?_
  refine lv_imul C.1 C.2.1 dX11_sum_4 ?_
  refine lv_bipush (v := 9) C.1 C.2.1 dX11_sum_5 (by decide) ?_
  refine lv_aload_n C.1 C.2.1 dX11_sum_7 rfl (lv_at hl 0 rfl) ?_
  refine lv_iload_n C.1 C.2.1 dX11_sum_8 rfl (lv_at hl 1 rfl) ?_
  refine lv_iload_n C.1 C.2.1 dX11_sum_9 rfl (lv_at hl 2 rfl) ?_
  refine lv_iconst (v := 0) C.1 C.2.1 dX11_sum_10 (by decide) ?_
  obtain ⟨z14, hz14, he⟩ := jq_b he
  obtain ⟨hz14c, hz14⟩ := jq_ite hz14
  refine jq_gi (jq_runV (a := a) (av := [.int p0, .int p1, .int 0]) C X (M_X11_counter l bs D ct n h a p0 p1 0 _ hz14) mf_X11_counter gw_890 gs_31 (Or.inl gw_888) rc_X11 hz14c (by decide) rfl hl.1 rfl (Nat.le_of_ble_eq_true rfl) ⟨by decide, by decide⟩ ⟨by decide, by decide⟩ dX11_sum_11) X (fun H locs X => ?_)
  refine lv_imul C.1 C.2.1 dX11_sum_14 ?_
  refine lv_iadd C.1 C.2.1 dX11_sum_15 ?_
  obtain ⟨x15, hx15, he⟩ := jq_ln he
  refine jq_top hx15 ?_
  refine lv_istore_n (lv' := [(3, .int x15), (0, .ref a), (1, .int p0), (2, .int p1)]) C.1 C.2.1 dX11_sum_16 rfl hl (by decide) rfl (fun ls hl => ?_)
  refine lv_aload_n C.1 C.2.1 dX11_sum_17 rfl (lv_at hl 1 rfl) ?_
  refine jq_rgR C X fs_X11_49 he dX11_sum_18 (fun q16 he => ?_)
  refine lv_iload_n C.1 C.2.1 dX11_sum_21 rfl (lv_at hl 0 rfl) ?_
  refine jq_rldI C X he dX11_sum_22 (fun x17 he => ?_)
  refine lv_istore (lv' := [(4, .int x17), (3, .int x15), (0, .ref a), (1, .int p0), (2, .int p1)]) C.1 C.2.1 dX11_sum_23 hl (by decide) rfl (fun ls hl => ?_)
  refine lv_iconst (v := 0) C.1 C.2.1 dX11_sum_25 (by decide) ?_
  refine lv_istore (lv' := [(5, .int 0), (4, .int x17), (3, .int x15), (0, .ref a), (1, .int p0), (2, .int p1)]) C.1 C.2.1 dX11_sum_26 hl (by decide) rfl (fun ls hl => ?_)
  exact TX11_sum_l28 (n := n) C hr hlk (fun w4 hh H locs ls he X hl => by
    exact TX11_sum_b111 (n := n) C hr hlk X hl he) n _ _ _ _ _ _ _ _ _ he X (lv_sub hl [3, 4, 2, 1, 0] rfl)
