set_option maxRecDepth 100000 in
set_option maxHeartbeats 4000000 in
theorem law_c0 {p : Program} {l : Launch} {e : Env} {s : State} {m : MethodId} {below : List Frame} {meth : Method} {c : Code} {D : va_G} {ct : Nat → ClassId} {bs b L : Nat} {xs : Nat → Int32} {Q : State → Prop} (C : jq_C p s m #[Value.ref b] c code 4 RL D ct bs) (hX : va_X b L xs s s.heap) (hbl : b < s.heap.size) (hbA : ¬ bs ≤ b) {x3 : Int32} (hi1 : vp_in (x3 + 1) L) (hi2 : vp_in (x3 + 2) L) (hi3 : vp_in (x3 + 3) L) (hi4 : vp_in (x3 + 4) L) (hi5 : vp_in (x3 + 5) L) {ax am n : Nat} {h hA hB : jq_H} {r : Int32} {H : Heap} {locs : List Loc} {ls : Array Slot} (X : jq_X bs D ct s.heap h H locs) (hl : lv_has ls 4 [(0, .ref b), (1, .ref ax), (2, .ref am), (3, .int x3)]) {cells slots : Nat} (hcl : cells + 15 ≤ room_1.cells) (hsl : slots + 2481 ≤ room_1.slots) (e1 : jq_ci h ax = 9) (e2 : X10_op n h ax (xs (x3 + 1).toNatClampNeg) (xs (x3 + 2).toNatClampNeg) (xs (x3 + 3).toNatClampNeg) (xs (x3 + 4).toNatClampNeg) (xs (x3 + 5).toNatClampNeg) = some (r, hA)) (e3 : jq_ci hA am = 10) (e4 : X11_op n hA am (xs (x3 + 1).toNatClampNeg) (xs (x3 + 2).toNatClampNeg) (xs (x3 + 3).toNatClampNeg) (xs (x3 + 4).toNatClampNeg) (xs (x3 + 5).toNatClampNeg) = some (r, hB)) (kk : ∀ H1 locs1, jq_X bs D ct s.heap hB H1 locs1 → W p l e room_1 s m #[Value.ref b] below meth c H1 locs1 (cells + 15) (slots + 2481) Q (F0 m 1066 ls [])) : W p l e room_1 s m #[Value.ref b] below meth c H locs cells slots Q (F0 m 160 ls []) := by
  refine lv_aload_n C.1 C.2.1 dL_law_160 rfl (lv_at hl 1 rfl) ?_
  refine lv_aload_n C.1 C.2.1 dL_law_161 rfl (lv_at hl 0 rfl) ?_
  refine lv_iload_n C.1 C.2.1 dL_law_162 rfl (lv_at hl 3 rfl) ?_
  refine lv_iconst (v := 1) C.1 C.2.1 dL_law_163 (by decide) ?_
  refine lv_iadd C.1 C.2.1 dL_law_164 ?_
  refine va_sld C.1 C.2.1 hX hbl hbA X.2 hi1 dL_law_165 ?_
  refine lv_aload_n C.1 C.2.1 dL_law_166 rfl (lv_at hl 0 rfl) ?_
  refine lv_iload_n C.1 C.2.1 dL_law_167 rfl (lv_at hl 3 rfl) ?_
  refine lv_iconst (v := 2) C.1 C.2.1 dL_law_168 (by decide) ?_
  refine lv_iadd C.1 C.2.1 dL_law_169 ?_
  refine va_sld C.1 C.2.1 hX hbl hbA X.2 hi2 dL_law_170 ?_
  refine lv_aload_n C.1 C.2.1 dL_law_171 rfl (lv_at hl 0 rfl) ?_
  refine lv_iload_n C.1 C.2.1 dL_law_172 rfl (lv_at hl 3 rfl) ?_
  refine lv_iconst (v := 3) C.1 C.2.1 dL_law_173 (by decide) ?_
  refine lv_iadd C.1 C.2.1 dL_law_174 ?_
  refine va_sld C.1 C.2.1 hX hbl hbA X.2 hi3 dL_law_175 ?_
  refine lv_aload_n C.1 C.2.1 dL_law_176 rfl (lv_at hl 0 rfl) ?_
  refine lv_iload_n C.1 C.2.1 dL_law_177 rfl (lv_at hl 3 rfl) ?_
  refine lv_iconst (v := 4) C.1 C.2.1 dL_law_178 (by decide) ?_
  refine lv_iadd C.1 C.2.1 dL_law_179 ?_
  refine va_sld C.1 C.2.1 hX hbl hbA X.2 hi4 dL_law_180 ?_
  refine lv_aload_n C.1 C.2.1 dL_law_181 rfl (lv_at hl 0 rfl) ?_
  refine lv_iload_n C.1 C.2.1 dL_law_182 rfl (lv_at hl 3 rfl) ?_
  refine lv_iconst (v := 5) C.1 C.2.1 dL_law_183 (by decide) ?_
  refine lv_iadd C.1 C.2.1 dL_law_184 ?_
  refine va_sld C.1 C.2.1 hX hbl hbA X.2 hi5 dL_law_185 ?_
  refine jq_gi (jq_runV (a := ax) (av := [.int (xs (x3 + 1).toNatClampNeg), .int (xs (x3 + 2).toNatClampNeg), .int (xs (x3 + 3).toNatClampNeg), .int (xs (x3 + 4).toNatClampNeg), .int (xs (x3 + 5).toNatClampNeg)]) C X (M_X10_op l bs D ct n h ax (xs (x3 + 1).toNatClampNeg) (xs (x3 + 2).toNatClampNeg) (xs (x3 + 3).toNatClampNeg) (xs (x3 + 4).toNatClampNeg) (xs (x3 + 5).toNatClampNeg) _ e2) mf_X10_op gw_115 gw_116 (Or.inl gw_114) rc_X10 e1 (by decide) rfl hl.1 rfl (Nat.le_of_ble_eq_true rfl) ⟨by decide, by decide⟩ ⟨Nat.le_trans (Nat.add_le_add_left (by decide) _) hcl, Nat.le_trans (Nat.add_le_add_left (by decide) _) hsl⟩ dL_law_186) X (fun H locs X => ?_)
  refine lv_aload_n C.1 C.2.1 dL_law_189 rfl (lv_at hl 2 rfl) ?_
  refine lv_aload_n C.1 C.2.1 dL_law_190 rfl (lv_at hl 0 rfl) ?_
  refine lv_iload_n C.1 C.2.1 dL_law_191 rfl (lv_at hl 3 rfl) ?_
  refine lv_iconst (v := 1) C.1 C.2.1 dL_law_192 (by decide) ?_
  refine lv_iadd C.1 C.2.1 dL_law_193 ?_
  refine va_sld C.1 C.2.1 hX hbl hbA X.2 hi1 dL_law_194 ?_
  refine lv_aload_n C.1 C.2.1 dL_law_195 rfl (lv_at hl 0 rfl) ?_
  refine lv_iload_n C.1 C.2.1 dL_law_196 rfl (lv_at hl 3 rfl) ?_
  refine lv_iconst (v := 2) C.1 C.2.1 dL_law_197 (by decide) ?_
  refine lv_iadd C.1 C.2.1 dL_law_198 ?_
  refine va_sld C.1 C.2.1 hX hbl hbA X.2 hi2 dL_law_199 ?_
  refine lv_aload_n C.1 C.2.1 dL_law_200 rfl (lv_at hl 0 rfl) ?_
  refine lv_iload_n C.1 C.2.1 dL_law_201 rfl (lv_at hl 3 rfl) ?_
  refine lv_iconst (v := 3) C.1 C.2.1 dL_law_202 (by decide) ?_
  refine lv_iadd C.1 C.2.1 dL_law_203 ?_
  refine va_sld C.1 C.2.1 hX hbl hbA X.2 hi3 dL_law_204 ?_
  refine lv_aload_n C.1 C.2.1 dL_law_205 rfl (lv_at hl 0 rfl) ?_
  refine lv_iload_n C.1 C.2.1 dL_law_206 rfl (lv_at hl 3 rfl) ?_
  refine lv_iconst (v := 4) C.1 C.2.1 dL_law_207 (by decide) ?_
  refine lv_iadd C.1 C.2.1 dL_law_208 ?_
  refine va_sld C.1 C.2.1 hX hbl hbA X.2 hi4 dL_law_209 ?_
  refine lv_aload_n C.1 C.2.1 dL_law_210 rfl (lv_at hl 0 rfl) ?_
  refine lv_iload_n C.1 C.2.1 dL_law_211 rfl (lv_at hl 3 rfl) ?_
  refine lv_iconst (v := 5) C.1 C.2.1 dL_law_212 (by decide) ?_
  refine lv_iadd C.1 C.2.1 dL_law_213 ?_
  refine va_sld C.1 C.2.1 hX hbl hbA X.2 hi5 dL_law_214 ?_
  refine jq_gi (jq_runV (a := am) (av := [.int (xs (x3 + 1).toNatClampNeg), .int (xs (x3 + 2).toNatClampNeg), .int (xs (x3 + 3).toNatClampNeg), .int (xs (x3 + 4).toNatClampNeg), .int (xs (x3 + 5).toNatClampNeg)]) C X (M_X11_op l bs D ct n hA am (xs (x3 + 1).toNatClampNeg) (xs (x3 + 2).toNatClampNeg) (xs (x3 + 3).toNatClampNeg) (xs (x3 + 4).toNatClampNeg) (xs (x3 + 5).toNatClampNeg) _ e4) mf_X11_op gw_835 gw_836 (Or.inl gw_834) rc_X11 e3 (by decide) rfl hl.1 rfl (Nat.le_of_ble_eq_true rfl) ⟨by decide, by decide⟩ ⟨Nat.le_trans (Nat.le_trans (Nat.le_of_eq (Nat.add_assoc _ _ _)) (Nat.add_le_add_left (by decide) _)) hcl, Nat.le_trans (Nat.le_trans (Nat.le_of_eq (Nat.add_assoc _ _ _)) (Nat.add_le_add_left (by decide) _)) hsl⟩ dL_law_215) X (fun H locs X => ?_)
  refine lv_icmp_eq (tgt := 1066) C.1 C.2.1 dL_law_218 (by decide) (fun _ => ?_) (fun hq => absurd rfl hq)
  exact W.widen (Nat.le_trans (Nat.le_of_eq (Nat.add_assoc _ _ _)) (Nat.add_le_add_left (by decide) _)) (Nat.le_trans (Nat.le_of_eq (Nat.add_assoc _ _ _)) (Nat.add_le_add_left (by decide) _)) (kk H locs X)
set_option maxRecDepth 100000 in
set_option maxHeartbeats 4000000 in
theorem law_c1 {p : Program} {l : Launch} {e : Env} {s : State} {m : MethodId} {below : List Frame} {meth : Method} {c : Code} {D : va_G} {ct : Nat → ClassId} {bs b L : Nat} {xs : Nat → Int32} {Q : State → Prop} (C : jq_C p s m #[Value.ref b] c code 4 RL D ct bs) (hX : va_X b L xs s s.heap) (hbl : b < s.heap.size) (hbA : ¬ bs ≤ b) {x3 : Int32} (hi1 : vp_in (x3 + 1) L) (hi2 : vp_in (x3 + 2) L) (hi3 : vp_in (x3 + 3) L) (hi4 : vp_in (x3 + 4) L) (hi5 : vp_in (x3 + 5) L) {ax am n : Nat} {h hA hB : jq_H} {r : Int32} {H : Heap} {locs : List Loc} {ls : Array Slot} (X : jq_X bs D ct s.heap h H locs) (hl : lv_has ls 4 [(0, .ref b), (1, .ref ax), (2, .ref am), (3, .int x3)]) {cells slots : Nat} (hcl : cells + 15 ≤ room_1.cells) (hsl : slots + 2481 ≤ room_1.slots) (e1 : jq_ci h ax = 9) (e2 : X10_register n h ax (xs (x3 + 1).toNatClampNeg) (xs (x3 + 2).toNatClampNeg) = some (r, hA)) (e3 : jq_ci hA am = 10) (e4 : X11_register n hA am (xs (x3 + 1).toNatClampNeg) (xs (x3 + 2).toNatClampNeg) = some (r, hB)) (kk : ∀ H1 locs1, jq_X bs D ct s.heap hB H1 locs1 → W p l e room_1 s m #[Value.ref b] below meth c H1 locs1 (cells + 15) (slots + 2481) Q (F0 m 1066 ls [])) : W p l e room_1 s m #[Value.ref b] below meth c H locs cells slots Q (F0 m 223 ls []) := by
  refine lv_aload_n C.1 C.2.1 dL_law_223 rfl (lv_at hl 1 rfl) ?_
  refine lv_aload_n C.1 C.2.1 dL_law_224 rfl (lv_at hl 0 rfl) ?_
  refine lv_iload_n C.1 C.2.1 dL_law_225 rfl (lv_at hl 3 rfl) ?_
  refine lv_iconst (v := 1) C.1 C.2.1 dL_law_226 (by decide) ?_
  refine lv_iadd C.1 C.2.1 dL_law_227 ?_
  refine va_sld C.1 C.2.1 hX hbl hbA X.2 hi1 dL_law_228 ?_
  refine lv_aload_n C.1 C.2.1 dL_law_229 rfl (lv_at hl 0 rfl) ?_
  refine lv_iload_n C.1 C.2.1 dL_law_230 rfl (lv_at hl 3 rfl) ?_
  refine lv_iconst (v := 2) C.1 C.2.1 dL_law_231 (by decide) ?_
  refine lv_iadd C.1 C.2.1 dL_law_232 ?_
  refine va_sld C.1 C.2.1 hX hbl hbA X.2 hi2 dL_law_233 ?_
  refine jq_gi (jq_runV (a := ax) (av := [.int (xs (x3 + 1).toNatClampNeg), .int (xs (x3 + 2).toNatClampNeg)]) C X (M_X10_register l bs D ct n h ax (xs (x3 + 1).toNatClampNeg) (xs (x3 + 2).toNatClampNeg) _ e2) mf_X10_register gw_132 gw_133 (Or.inl gw_131) rc_X10 e1 (by decide) rfl hl.1 rfl (Nat.le_of_ble_eq_true rfl) ⟨by decide, by decide⟩ ⟨Nat.le_trans (Nat.add_le_add_left (by decide) _) hcl, Nat.le_trans (Nat.add_le_add_left (by decide) _) hsl⟩ dL_law_234) X (fun H locs X => ?_)
  refine lv_aload_n C.1 C.2.1 dL_law_237 rfl (lv_at hl 2 rfl) ?_
  refine lv_aload_n C.1 C.2.1 dL_law_238 rfl (lv_at hl 0 rfl) ?_
  refine lv_iload_n C.1 C.2.1 dL_law_239 rfl (lv_at hl 3 rfl) ?_
  refine lv_iconst (v := 1) C.1 C.2.1 dL_law_240 (by decide) ?_
  refine lv_iadd C.1 C.2.1 dL_law_241 ?_
  refine va_sld C.1 C.2.1 hX hbl hbA X.2 hi1 dL_law_242 ?_
  refine lv_aload_n C.1 C.2.1 dL_law_243 rfl (lv_at hl 0 rfl) ?_
  refine lv_iload_n C.1 C.2.1 dL_law_244 rfl (lv_at hl 3 rfl) ?_
  refine lv_iconst (v := 2) C.1 C.2.1 dL_law_245 (by decide) ?_
  refine lv_iadd C.1 C.2.1 dL_law_246 ?_
  refine va_sld C.1 C.2.1 hX hbl hbA X.2 hi2 dL_law_247 ?_
  refine jq_gi (jq_runV (a := am) (av := [.int (xs (x3 + 1).toNatClampNeg), .int (xs (x3 + 2).toNatClampNeg)]) C X (M_X11_register l bs D ct n hA am (xs (x3 + 1).toNatClampNeg) (xs (x3 + 2).toNatClampNeg) _ e4) mf_X11_register gw_845 gw_846 (Or.inl gw_844) rc_X11 e3 (by decide) rfl hl.1 rfl (Nat.le_of_ble_eq_true rfl) ⟨by decide, by decide⟩ ⟨Nat.le_trans (Nat.le_trans (Nat.le_of_eq (Nat.add_assoc _ _ _)) (Nat.add_le_add_left (by decide) _)) hcl, Nat.le_trans (Nat.le_trans (Nat.le_of_eq (Nat.add_assoc _ _ _)) (Nat.add_le_add_left (by decide) _)) hsl⟩ dL_law_248) X (fun H locs X => ?_)
  refine lv_icmp_eq (tgt := 1066) C.1 C.2.1 dL_law_251 (by decide) (fun _ => ?_) (fun hq => absurd rfl hq)
  exact W.widen (Nat.le_trans (Nat.le_of_eq (Nat.add_assoc _ _ _)) (Nat.add_le_add_left (by decide) _)) (Nat.le_trans (Nat.le_of_eq (Nat.add_assoc _ _ _)) (Nat.add_le_add_left (by decide) _)) (kk H locs X)
set_option maxRecDepth 100000 in
set_option maxHeartbeats 4000000 in
theorem law_c2 {p : Program} {l : Launch} {e : Env} {s : State} {m : MethodId} {below : List Frame} {meth : Method} {c : Code} {D : va_G} {ct : Nat → ClassId} {bs b L : Nat} {xs : Nat → Int32} {Q : State → Prop} (C : jq_C p s m #[Value.ref b] c code 4 RL D ct bs) (hX : va_X b L xs s s.heap) (hbl : b < s.heap.size) (hbA : ¬ bs ≤ b) {x3 : Int32} (hi1 : vp_in (x3 + 1) L) (hi2 : vp_in (x3 + 2) L) (hi3 : vp_in (x3 + 3) L) (hi4 : vp_in (x3 + 4) L) (hi5 : vp_in (x3 + 5) L) {ax am n : Nat} {h hA hB : jq_H} {r : Int32} {H : Heap} {locs : List Loc} {ls : Array Slot} (X : jq_X bs D ct s.heap h H locs) (hl : lv_has ls 4 [(0, .ref b), (1, .ref ax), (2, .ref am), (3, .int x3)]) {cells slots : Nat} (hcl : cells + 15 ≤ room_1.cells) (hsl : slots + 2481 ≤ room_1.slots) (e1 : jq_ci h ax = 9) (e2 : X10_value n h ax (xs (x3 + 1).toNatClampNeg) = some (r, hA)) (e3 : jq_ci hA am = 10) (e4 : X11_value n hA am (xs (x3 + 1).toNatClampNeg) = some (r, hB)) (kk : ∀ H1 locs1, jq_X bs D ct s.heap hB H1 locs1 → W p l e room_1 s m #[Value.ref b] below meth c H1 locs1 (cells + 15) (slots + 2481) Q (F0 m 1066 ls [])) : W p l e room_1 s m #[Value.ref b] below meth c H locs cells slots Q (F0 m 256 ls []) := by
  refine lv_aload_n C.1 C.2.1 dL_law_256 rfl (lv_at hl 1 rfl) ?_
  refine lv_aload_n C.1 C.2.1 dL_law_257 rfl (lv_at hl 0 rfl) ?_
  refine lv_iload_n C.1 C.2.1 dL_law_258 rfl (lv_at hl 3 rfl) ?_
  refine lv_iconst (v := 1) C.1 C.2.1 dL_law_259 (by decide) ?_
  refine lv_iadd C.1 C.2.1 dL_law_260 ?_
  refine va_sld C.1 C.2.1 hX hbl hbA X.2 hi1 dL_law_261 ?_
  refine jq_gi (jq_runV (a := ax) (av := [.int (xs (x3 + 1).toNatClampNeg)]) C X (M_X10_value l bs D ct n h ax (xs (x3 + 1).toNatClampNeg) _ e2) mf_X10_value gw_136 gw_137 (Or.inl gw_135) rc_X10 e1 (by decide) rfl hl.1 rfl (Nat.le_of_ble_eq_true rfl) ⟨by decide, by decide⟩ ⟨Nat.le_trans (Nat.add_le_add_left (by decide) _) hcl, Nat.le_trans (Nat.add_le_add_left (by decide) _) hsl⟩ dL_law_262) X (fun H locs X => ?_)
  refine lv_aload_n C.1 C.2.1 dL_law_265 rfl (lv_at hl 2 rfl) ?_
  refine lv_aload_n C.1 C.2.1 dL_law_266 rfl (lv_at hl 0 rfl) ?_
  refine lv_iload_n C.1 C.2.1 dL_law_267 rfl (lv_at hl 3 rfl) ?_
  refine lv_iconst (v := 1) C.1 C.2.1 dL_law_268 (by decide) ?_
  refine lv_iadd C.1 C.2.1 dL_law_269 ?_
  refine va_sld C.1 C.2.1 hX hbl hbA X.2 hi1 dL_law_270 ?_
  refine jq_gi (jq_runV (a := am) (av := [.int (xs (x3 + 1).toNatClampNeg)]) C X (M_X11_value l bs D ct n hA am (xs (x3 + 1).toNatClampNeg) _ e4) mf_X11_value gw_849 gw_850 (Or.inl gw_848) rc_X11 e3 (by decide) rfl hl.1 rfl (Nat.le_of_ble_eq_true rfl) ⟨by decide, by decide⟩ ⟨Nat.le_trans (Nat.le_trans (Nat.le_of_eq (Nat.add_assoc _ _ _)) (Nat.add_le_add_left (by decide) _)) hcl, Nat.le_trans (Nat.le_trans (Nat.le_of_eq (Nat.add_assoc _ _ _)) (Nat.add_le_add_left (by decide) _)) hsl⟩ dL_law_271) X (fun H locs X => ?_)
  refine lv_icmp_eq (tgt := 1066) C.1 C.2.1 dL_law_274 (by decide) (fun _ => ?_) (fun hq => absurd rfl hq)
  exact W.widen (Nat.le_trans (Nat.le_of_eq (Nat.add_assoc _ _ _)) (Nat.add_le_add_left (by decide) _)) (Nat.le_trans (Nat.le_of_eq (Nat.add_assoc _ _ _)) (Nat.add_le_add_left (by decide) _)) (kk H locs X)
set_option maxRecDepth 100000 in
set_option maxHeartbeats 4000000 in
theorem law_c3 {p : Program} {l : Launch} {e : Env} {s : State} {m : MethodId} {below : List Frame} {meth : Method} {c : Code} {D : va_G} {ct : Nat → ClassId} {bs b L : Nat} {xs : Nat → Int32} {Q : State → Prop} (C : jq_C p s m #[Value.ref b] c code 4 RL D ct bs) (hX : va_X b L xs s s.heap) (hbl : b < s.heap.size) (hbA : ¬ bs ≤ b) {x3 : Int32} (hi1 : vp_in (x3 + 1) L) (hi2 : vp_in (x3 + 2) L) (hi3 : vp_in (x3 + 3) L) (hi4 : vp_in (x3 + 4) L) (hi5 : vp_in (x3 + 5) L) {ax am n : Nat} {h hA hB : jq_H} {r : Int32} {H : Heap} {locs : List Loc} {ls : Array Slot} (X : jq_X bs D ct s.heap h H locs) (hl : lv_has ls 4 [(0, .ref b), (1, .ref ax), (2, .ref am), (3, .int x3)]) {cells slots : Nat} (hcl : cells + 15 ≤ room_1.cells) (hsl : slots + 2481 ≤ room_1.slots) (e1 : jq_ci h ax = 9) (e2 : X10_data n h ax (xs (x3 + 1).toNatClampNeg) (xs (x3 + 2).toNatClampNeg) = some (r, hA)) (e3 : jq_ci hA am = 10) (e4 : X11_data n hA am (xs (x3 + 1).toNatClampNeg) (xs (x3 + 2).toNatClampNeg) = some (r, hB)) (kk : ∀ H1 locs1, jq_X bs D ct s.heap hB H1 locs1 → W p l e room_1 s m #[Value.ref b] below meth c H1 locs1 (cells + 15) (slots + 2481) Q (F0 m 1066 ls [])) : W p l e room_1 s m #[Value.ref b] below meth c H locs cells slots Q (F0 m 279 ls []) := by
  refine lv_aload_n C.1 C.2.1 dL_law_279 rfl (lv_at hl 1 rfl) ?_
  refine lv_aload_n C.1 C.2.1 dL_law_280 rfl (lv_at hl 0 rfl) ?_
  refine lv_iload_n C.1 C.2.1 dL_law_281 rfl (lv_at hl 3 rfl) ?_
  refine lv_iconst (v := 1) C.1 C.2.1 dL_law_282 (by decide) ?_
  refine lv_iadd C.1 C.2.1 dL_law_283 ?_
  refine va_sld C.1 C.2.1 hX hbl hbA X.2 hi1 dL_law_284 ?_
  refine lv_aload_n C.1 C.2.1 dL_law_285 rfl (lv_at hl 0 rfl) ?_
  refine lv_iload_n C.1 C.2.1 dL_law_286 rfl (lv_at hl 3 rfl) ?_
  refine lv_iconst (v := 2) C.1 C.2.1 dL_law_287 (by decide) ?_
  refine lv_iadd C.1 C.2.1 dL_law_288 ?_
  refine va_sld C.1 C.2.1 hX hbl hbA X.2 hi2 dL_law_289 ?_
  refine jq_gi (jq_runV (a := ax) (av := [.int (xs (x3 + 1).toNatClampNeg), .int (xs (x3 + 2).toNatClampNeg)]) C X (M_X10_data l bs D ct n h ax (xs (x3 + 1).toNatClampNeg) (xs (x3 + 2).toNatClampNeg) _ e2) mf_X10_data gw_140 gw_141 (Or.inl gw_139) rc_X10 e1 (by decide) rfl hl.1 rfl (Nat.le_of_ble_eq_true rfl) ⟨by decide, by decide⟩ ⟨Nat.le_trans (Nat.add_le_add_left (by decide) _) hcl, Nat.le_trans (Nat.add_le_add_left (by decide) _) hsl⟩ dL_law_290) X (fun H locs X => ?_)
  refine lv_aload_n C.1 C.2.1 dL_law_293 rfl (lv_at hl 2 rfl) ?_
  refine lv_aload_n C.1 C.2.1 dL_law_294 rfl (lv_at hl 0 rfl) ?_
  refine lv_iload_n C.1 C.2.1 dL_law_295 rfl (lv_at hl 3 rfl) ?_
  refine lv_iconst (v := 1) C.1 C.2.1 dL_law_296 (by decide) ?_
  refine lv_iadd C.1 C.2.1 dL_law_297 ?_
  refine va_sld C.1 C.2.1 hX hbl hbA X.2 hi1 dL_law_298 ?_
  refine lv_aload_n C.1 C.2.1 dL_law_299 rfl (lv_at hl 0 rfl) ?_
  refine lv_iload_n C.1 C.2.1 dL_law_300 rfl (lv_at hl 3 rfl) ?_
  refine lv_iconst (v := 2) C.1 C.2.1 dL_law_301 (by decide) ?_
  refine lv_iadd C.1 C.2.1 dL_law_302 ?_
  refine va_sld C.1 C.2.1 hX hbl hbA X.2 hi2 dL_law_303 ?_
  refine jq_gi (jq_runV (a := am) (av := [.int (xs (x3 + 1).toNatClampNeg), .int (xs (x3 + 2).toNatClampNeg)]) C X (M_X11_data l bs D ct n hA am (xs (x3 + 1).toNatClampNeg) (xs (x3 + 2).toNatClampNeg) _ e4) mf_X11_data gw_853 gw_854 (Or.inl gw_852) rc_X11 e3 (by decide) rfl hl.1 rfl (Nat.le_of_ble_eq_true rfl) ⟨by decide, by decide⟩ ⟨Nat.le_trans (Nat.le_trans (Nat.le_of_eq (Nat.add_assoc _ _ _)) (Nat.add_le_add_left (by decide) _)) hcl, Nat.le_trans (Nat.le_trans (Nat.le_of_eq (Nat.add_assoc _ _ _)) (Nat.add_le_add_left (by decide) _)) hsl⟩ dL_law_304) X (fun H locs X => ?_)
  refine lv_icmp_eq (tgt := 1066) C.1 C.2.1 dL_law_307 (by decide) (fun _ => ?_) (fun hq => absurd rfl hq)
  exact W.widen (Nat.le_trans (Nat.le_of_eq (Nat.add_assoc _ _ _)) (Nat.add_le_add_left (by decide) _)) (Nat.le_trans (Nat.le_of_eq (Nat.add_assoc _ _ _)) (Nat.add_le_add_left (by decide) _)) (kk H locs X)
set_option maxRecDepth 100000 in
set_option maxHeartbeats 4000000 in
theorem law_c4 {p : Program} {l : Launch} {e : Env} {s : State} {m : MethodId} {below : List Frame} {meth : Method} {c : Code} {D : va_G} {ct : Nat → ClassId} {bs b L : Nat} {xs : Nat → Int32} {Q : State → Prop} (C : jq_C p s m #[Value.ref b] c code 4 RL D ct bs) (hX : va_X b L xs s s.heap) (hbl : b < s.heap.size) (hbA : ¬ bs ≤ b) {x3 : Int32} (hi1 : vp_in (x3 + 1) L) (hi2 : vp_in (x3 + 2) L) (hi3 : vp_in (x3 + 3) L) (hi4 : vp_in (x3 + 4) L) (hi5 : vp_in (x3 + 5) L) {ax am n : Nat} {h hA hB : jq_H} {r : Int32} {H : Heap} {locs : List Loc} {ls : Array Slot} (X : jq_X bs D ct s.heap h H locs) (hl : lv_has ls 4 [(0, .ref b), (1, .ref ax), (2, .ref am), (3, .int x3)]) {cells slots : Nat} (hcl : cells + 15 ≤ room_1.cells) (hsl : slots + 2481 ≤ room_1.slots) (e1 : jq_ci h ax = 9) (e2 : X10_stored n h ax (xs (x3 + 1).toNatClampNeg) = some (r, hA)) (e3 : jq_ci hA am = 10) (e4 : X11_stored n hA am (xs (x3 + 1).toNatClampNeg) = some (r, hB)) (kk : ∀ H1 locs1, jq_X bs D ct s.heap hB H1 locs1 → W p l e room_1 s m #[Value.ref b] below meth c H1 locs1 (cells + 15) (slots + 2481) Q (F0 m 1066 ls [])) : W p l e room_1 s m #[Value.ref b] below meth c H locs cells slots Q (F0 m 312 ls []) := by
  refine lv_aload_n C.1 C.2.1 dL_law_312 rfl (lv_at hl 1 rfl) ?_
  refine lv_aload_n C.1 C.2.1 dL_law_313 rfl (lv_at hl 0 rfl) ?_
  refine lv_iload_n C.1 C.2.1 dL_law_314 rfl (lv_at hl 3 rfl) ?_
  refine lv_iconst (v := 1) C.1 C.2.1 dL_law_315 (by decide) ?_
  refine lv_iadd C.1 C.2.1 dL_law_316 ?_
  refine va_sld C.1 C.2.1 hX hbl hbA X.2 hi1 dL_law_317 ?_
  refine jq_gi (jq_runV (a := ax) (av := [.int (xs (x3 + 1).toNatClampNeg)]) C X (M_X10_stored l bs D ct n h ax (xs (x3 + 1).toNatClampNeg) _ e2) mf_X10_stored gw_147 gw_148 (Or.inl gw_146) rc_X10 e1 (by decide) rfl hl.1 rfl (Nat.le_of_ble_eq_true rfl) ⟨by decide, by decide⟩ ⟨Nat.le_trans (Nat.add_le_add_left (by decide) _) hcl, Nat.le_trans (Nat.add_le_add_left (by decide) _) hsl⟩ dL_law_318) X (fun H locs X => ?_)
  refine lv_aload_n C.1 C.2.1 dL_law_321 rfl (lv_at hl 2 rfl) ?_
  refine lv_aload_n C.1 C.2.1 dL_law_322 rfl (lv_at hl 0 rfl) ?_
  refine lv_iload_n C.1 C.2.1 dL_law_323 rfl (lv_at hl 3 rfl) ?_
  refine lv_iconst (v := 1) C.1 C.2.1 dL_law_324 (by decide) ?_
  refine lv_iadd C.1 C.2.1 dL_law_325 ?_
  refine va_sld C.1 C.2.1 hX hbl hbA X.2 hi1 dL_law_326 ?_
  refine jq_gi (jq_runV (a := am) (av := [.int (xs (x3 + 1).toNatClampNeg)]) C X (M_X11_stored l bs D ct n hA am (xs (x3 + 1).toNatClampNeg) _ e4) mf_X11_stored gw_857 gw_858 (Or.inl gw_856) rc_X11 e3 (by decide) rfl hl.1 rfl (Nat.le_of_ble_eq_true rfl) ⟨by decide, by decide⟩ ⟨Nat.le_trans (Nat.le_trans (Nat.le_of_eq (Nat.add_assoc _ _ _)) (Nat.add_le_add_left (by decide) _)) hcl, Nat.le_trans (Nat.le_trans (Nat.le_of_eq (Nat.add_assoc _ _ _)) (Nat.add_le_add_left (by decide) _)) hsl⟩ dL_law_327) X (fun H locs X => ?_)
  refine lv_icmp_eq (tgt := 1066) C.1 C.2.1 dL_law_330 (by decide) (fun _ => ?_) (fun hq => absurd rfl hq)
  exact W.widen (Nat.le_trans (Nat.le_of_eq (Nat.add_assoc _ _ _)) (Nat.add_le_add_left (by decide) _)) (Nat.le_trans (Nat.le_of_eq (Nat.add_assoc _ _ _)) (Nat.add_le_add_left (by decide) _)) (kk H locs X)
set_option maxRecDepth 100000 in
set_option maxHeartbeats 4000000 in
theorem law_c5 {p : Program} {l : Launch} {e : Env} {s : State} {m : MethodId} {below : List Frame} {meth : Method} {c : Code} {D : va_G} {ct : Nat → ClassId} {bs b L : Nat} {xs : Nat → Int32} {Q : State → Prop} (C : jq_C p s m #[Value.ref b] c code 4 RL D ct bs) (hX : va_X b L xs s s.heap) (hbl : b < s.heap.size) (hbA : ¬ bs ≤ b) {x3 : Int32} (hi1 : vp_in (x3 + 1) L) (hi2 : vp_in (x3 + 2) L) (hi3 : vp_in (x3 + 3) L) (hi4 : vp_in (x3 + 4) L) (hi5 : vp_in (x3 + 5) L) {ax am n : Nat} {h hA hB : jq_H} {r : Int32} {H : Heap} {locs : List Loc} {ls : Array Slot} (X : jq_X bs D ct s.heap h H locs) (hl : lv_has ls 4 [(0, .ref b), (1, .ref ax), (2, .ref am), (3, .int x3)]) {cells slots : Nat} (hcl : cells + 15 ≤ room_1.cells) (hsl : slots + 2481 ≤ room_1.slots) (e1 : jq_ci h ax = 9) (e2 : X10_stand n h ax (xs (x3 + 1).toNatClampNeg) = some (r, hA)) (e3 : jq_ci hA am = 10) (e4 : X11_stand n hA am (xs (x3 + 1).toNatClampNeg) = some (r, hB)) (kk : ∀ H1 locs1, jq_X bs D ct s.heap hB H1 locs1 → W p l e room_1 s m #[Value.ref b] below meth c H1 locs1 (cells + 15) (slots + 2481) Q (F0 m 1066 ls [])) : W p l e room_1 s m #[Value.ref b] below meth c H locs cells slots Q (F0 m 335 ls []) := by
  refine lv_aload_n C.1 C.2.1 dL_law_335 rfl (lv_at hl 1 rfl) ?_
  refine lv_aload_n C.1 C.2.1 dL_law_336 rfl (lv_at hl 0 rfl) ?_
  refine lv_iload_n C.1 C.2.1 dL_law_337 rfl (lv_at hl 3 rfl) ?_
  refine lv_iconst (v := 1) C.1 C.2.1 dL_law_338 (by decide) ?_
  refine lv_iadd C.1 C.2.1 dL_law_339 ?_
  refine va_sld C.1 C.2.1 hX hbl hbA X.2 hi1 dL_law_340 ?_
  refine jq_gi (jq_runV (a := ax) (av := [.int (xs (x3 + 1).toNatClampNeg)]) C X (M_X10_stand l bs D ct n h ax (xs (x3 + 1).toNatClampNeg) _ e2) mf_X10_stand gw_151 gw_152 (Or.inl gw_150) rc_X10 e1 (by decide) rfl hl.1 rfl (Nat.le_of_ble_eq_true rfl) ⟨by decide, by decide⟩ ⟨Nat.le_trans (Nat.add_le_add_left (by decide) _) hcl, Nat.le_trans (Nat.add_le_add_left (by decide) _) hsl⟩ dL_law_341) X (fun H locs X => ?_)
  refine lv_aload_n C.1 C.2.1 dL_law_344 rfl (lv_at hl 2 rfl) ?_
  refine lv_aload_n C.1 C.2.1 dL_law_345 rfl (lv_at hl 0 rfl) ?_
  refine lv_iload_n C.1 C.2.1 dL_law_346 rfl (lv_at hl 3 rfl) ?_
  refine lv_iconst (v := 1) C.1 C.2.1 dL_law_347 (by decide) ?_
  refine lv_iadd C.1 C.2.1 dL_law_348 ?_
  refine va_sld C.1 C.2.1 hX hbl hbA X.2 hi1 dL_law_349 ?_
  refine jq_gi (jq_runV (a := am) (av := [.int (xs (x3 + 1).toNatClampNeg)]) C X (M_X11_stand l bs D ct n hA am (xs (x3 + 1).toNatClampNeg) _ e4) mf_X11_stand gw_861 gw_862 (Or.inl gw_860) rc_X11 e3 (by decide) rfl hl.1 rfl (Nat.le_of_ble_eq_true rfl) ⟨by decide, by decide⟩ ⟨Nat.le_trans (Nat.le_trans (Nat.le_of_eq (Nat.add_assoc _ _ _)) (Nat.add_le_add_left (by decide) _)) hcl, Nat.le_trans (Nat.le_trans (Nat.le_of_eq (Nat.add_assoc _ _ _)) (Nat.add_le_add_left (by decide) _)) hsl⟩ dL_law_350) X (fun H locs X => ?_)
  refine lv_icmp_eq (tgt := 1066) C.1 C.2.1 dL_law_353 (by decide) (fun _ => ?_) (fun hq => absurd rfl hq)
  exact W.widen (Nat.le_trans (Nat.le_of_eq (Nat.add_assoc _ _ _)) (Nat.add_le_add_left (by decide) _)) (Nat.le_trans (Nat.le_of_eq (Nat.add_assoc _ _ _)) (Nat.add_le_add_left (by decide) _)) (kk H locs X)
set_option maxRecDepth 100000 in
set_option maxHeartbeats 4000000 in
theorem law_c6 {p : Program} {l : Launch} {e : Env} {s : State} {m : MethodId} {below : List Frame} {meth : Method} {c : Code} {D : va_G} {ct : Nat → ClassId} {bs b L : Nat} {xs : Nat → Int32} {Q : State → Prop} (C : jq_C p s m #[Value.ref b] c code 4 RL D ct bs) (hX : va_X b L xs s s.heap) (hbl : b < s.heap.size) (hbA : ¬ bs ≤ b) {x3 : Int32} (hi1 : vp_in (x3 + 1) L) (hi2 : vp_in (x3 + 2) L) (hi3 : vp_in (x3 + 3) L) (hi4 : vp_in (x3 + 4) L) (hi5 : vp_in (x3 + 5) L) {ax am n : Nat} {h hA hB : jq_H} {r : Int32} {H : Heap} {locs : List Loc} {ls : Array Slot} (X : jq_X bs D ct s.heap h H locs) (hl : lv_has ls 4 [(0, .ref b), (1, .ref ax), (2, .ref am), (3, .int x3)]) {cells slots : Nat} (hcl : cells + 15 ≤ room_1.cells) (hsl : slots + 2481 ≤ room_1.slots) (e1 : jq_ci h ax = 9) (e2 : X10_run n h ax (xs (x3 + 1).toNatClampNeg) = some (r, hA)) (e3 : jq_ci hA am = 10) (e4 : X11_run n hA am (xs (x3 + 1).toNatClampNeg) = some (r, hB)) (kk : ∀ H1 locs1, jq_X bs D ct s.heap hB H1 locs1 → W p l e room_1 s m #[Value.ref b] below meth c H1 locs1 (cells + 15) (slots + 2481) Q (F0 m 1066 ls [])) : W p l e room_1 s m #[Value.ref b] below meth c H locs cells slots Q (F0 m 358 ls []) := by
  refine lv_aload_n C.1 C.2.1 dL_law_358 rfl (lv_at hl 1 rfl) ?_
  refine lv_aload_n C.1 C.2.1 dL_law_359 rfl (lv_at hl 0 rfl) ?_
  refine lv_iload_n C.1 C.2.1 dL_law_360 rfl (lv_at hl 3 rfl) ?_
  refine lv_iconst (v := 1) C.1 C.2.1 dL_law_361 (by decide) ?_
  refine lv_iadd C.1 C.2.1 dL_law_362 ?_
  refine va_sld C.1 C.2.1 hX hbl hbA X.2 hi1 dL_law_363 ?_
  refine jq_gi (jq_runV (a := ax) (av := [.int (xs (x3 + 1).toNatClampNeg)]) C X (M_X10_run l bs D ct n h ax (xs (x3 + 1).toNatClampNeg) _ e2) mf_X10_run gw_155 gw_156 (Or.inl gw_154) rc_X10 e1 (by decide) rfl hl.1 rfl (Nat.le_of_ble_eq_true rfl) ⟨by decide, by decide⟩ ⟨Nat.le_trans (Nat.add_le_add_left (by decide) _) hcl, Nat.le_trans (Nat.add_le_add_left (by decide) _) hsl⟩ dL_law_364) X (fun H locs X => ?_)
  refine lv_aload_n C.1 C.2.1 dL_law_367 rfl (lv_at hl 2 rfl) ?_
  refine lv_aload_n C.1 C.2.1 dL_law_368 rfl (lv_at hl 0 rfl) ?_
  refine lv_iload_n C.1 C.2.1 dL_law_369 rfl (lv_at hl 3 rfl) ?_
  refine lv_iconst (v := 1) C.1 C.2.1 dL_law_370 (by decide) ?_
  refine lv_iadd C.1 C.2.1 dL_law_371 ?_
  refine va_sld C.1 C.2.1 hX hbl hbA X.2 hi1 dL_law_372 ?_
  refine jq_gi (jq_runV (a := am) (av := [.int (xs (x3 + 1).toNatClampNeg)]) C X (M_X11_run l bs D ct n hA am (xs (x3 + 1).toNatClampNeg) _ e4) mf_X11_run gw_865 gw_866 (Or.inl gw_864) rc_X11 e3 (by decide) rfl hl.1 rfl (Nat.le_of_ble_eq_true rfl) ⟨by decide, by decide⟩ ⟨Nat.le_trans (Nat.le_trans (Nat.le_of_eq (Nat.add_assoc _ _ _)) (Nat.add_le_add_left (by decide) _)) hcl, Nat.le_trans (Nat.le_trans (Nat.le_of_eq (Nat.add_assoc _ _ _)) (Nat.add_le_add_left (by decide) _)) hsl⟩ dL_law_373) X (fun H locs X => ?_)
  refine lv_icmp_eq (tgt := 1066) C.1 C.2.1 dL_law_376 (by decide) (fun _ => ?_) (fun hq => absurd rfl hq)
  exact W.widen (Nat.le_trans (Nat.le_of_eq (Nat.add_assoc _ _ _)) (Nat.add_le_add_left (by decide) _)) (Nat.le_trans (Nat.le_of_eq (Nat.add_assoc _ _ _)) (Nat.add_le_add_left (by decide) _)) (kk H locs X)
set_option maxRecDepth 100000 in
set_option maxHeartbeats 4000000 in
theorem law_c7 {p : Program} {l : Launch} {e : Env} {s : State} {m : MethodId} {below : List Frame} {meth : Method} {c : Code} {D : va_G} {ct : Nat → ClassId} {bs b L : Nat} {xs : Nat → Int32} {Q : State → Prop} (C : jq_C p s m #[Value.ref b] c code 4 RL D ct bs) (hX : va_X b L xs s s.heap) (hbl : b < s.heap.size) (hbA : ¬ bs ≤ b) {x3 : Int32} (hi1 : vp_in (x3 + 1) L) (hi2 : vp_in (x3 + 2) L) (hi3 : vp_in (x3 + 3) L) (hi4 : vp_in (x3 + 4) L) (hi5 : vp_in (x3 + 5) L) {ax am n : Nat} {h hA hB : jq_H} {r : Int32} {H : Heap} {locs : List Loc} {ls : Array Slot} (X : jq_X bs D ct s.heap h H locs) (hl : lv_has ls 4 [(0, .ref b), (1, .ref ax), (2, .ref am), (3, .int x3)]) {cells slots : Nat} (hcl : cells + 15 ≤ room_1.cells) (hsl : slots + 2481 ≤ room_1.slots) (e1 : jq_ci h ax = 9) (e2 : X10_branch n h ax (xs (x3 + 1).toNatClampNeg) (xs (x3 + 2).toNatClampNeg) = some (r, hA)) (e3 : jq_ci hA am = 10) (e4 : X11_branch n hA am (xs (x3 + 1).toNatClampNeg) (xs (x3 + 2).toNatClampNeg) = some (r, hB)) (kk : ∀ H1 locs1, jq_X bs D ct s.heap hB H1 locs1 → W p l e room_1 s m #[Value.ref b] below meth c H1 locs1 (cells + 15) (slots + 2481) Q (F0 m 1066 ls [])) : W p l e room_1 s m #[Value.ref b] below meth c H locs cells slots Q (F0 m 381 ls []) := by
  refine lv_aload_n C.1 C.2.1 dL_law_381 rfl (lv_at hl 1 rfl) ?_
  refine lv_aload_n C.1 C.2.1 dL_law_382 rfl (lv_at hl 0 rfl) ?_
  refine lv_iload_n C.1 C.2.1 dL_law_383 rfl (lv_at hl 3 rfl) ?_
  refine lv_iconst (v := 1) C.1 C.2.1 dL_law_384 (by decide) ?_
  refine lv_iadd C.1 C.2.1 dL_law_385 ?_
  refine va_sld C.1 C.2.1 hX hbl hbA X.2 hi1 dL_law_386 ?_
  refine lv_aload_n C.1 C.2.1 dL_law_387 rfl (lv_at hl 0 rfl) ?_
  refine lv_iload_n C.1 C.2.1 dL_law_388 rfl (lv_at hl 3 rfl) ?_
  refine lv_iconst (v := 2) C.1 C.2.1 dL_law_389 (by decide) ?_
  refine lv_iadd C.1 C.2.1 dL_law_390 ?_
  refine va_sld C.1 C.2.1 hX hbl hbA X.2 hi2 dL_law_391 ?_
  refine jq_gi (jq_runV (a := ax) (av := [.int (xs (x3 + 1).toNatClampNeg), .int (xs (x3 + 2).toNatClampNeg)]) C X (M_X10_branch l bs D ct n h ax (xs (x3 + 1).toNatClampNeg) (xs (x3 + 2).toNatClampNeg) _ e2) mf_X10_branch gw_326 gw_327 (Or.inl gw_325) rc_X10 e1 (by decide) rfl hl.1 rfl (Nat.le_of_ble_eq_true rfl) ⟨by decide, by decide⟩ ⟨Nat.le_trans (Nat.add_le_add_left (by decide) _) hcl, Nat.le_trans (Nat.add_le_add_left (by decide) _) hsl⟩ dL_law_392) X (fun H locs X => ?_)
  refine lv_aload_n C.1 C.2.1 dL_law_395 rfl (lv_at hl 2 rfl) ?_
  refine lv_aload_n C.1 C.2.1 dL_law_396 rfl (lv_at hl 0 rfl) ?_
  refine lv_iload_n C.1 C.2.1 dL_law_397 rfl (lv_at hl 3 rfl) ?_
  refine lv_iconst (v := 1) C.1 C.2.1 dL_law_398 (by decide) ?_
  refine lv_iadd C.1 C.2.1 dL_law_399 ?_
  refine va_sld C.1 C.2.1 hX hbl hbA X.2 hi1 dL_law_400 ?_
  refine lv_aload_n C.1 C.2.1 dL_law_401 rfl (lv_at hl 0 rfl) ?_
  refine lv_iload_n C.1 C.2.1 dL_law_402 rfl (lv_at hl 3 rfl) ?_
  refine lv_iconst (v := 2) C.1 C.2.1 dL_law_403 (by decide) ?_
  refine lv_iadd C.1 C.2.1 dL_law_404 ?_
  refine va_sld C.1 C.2.1 hX hbl hbA X.2 hi2 dL_law_405 ?_
  refine jq_gi (jq_runV (a := am) (av := [.int (xs (x3 + 1).toNatClampNeg), .int (xs (x3 + 2).toNatClampNeg)]) C X (M_X11_branch l bs D ct n hA am (xs (x3 + 1).toNatClampNeg) (xs (x3 + 2).toNatClampNeg) _ e4) mf_X11_branch gw_917 gw_918 (Or.inl gw_916) rc_X11 e3 (by decide) rfl hl.1 rfl (Nat.le_of_ble_eq_true rfl) ⟨by decide, by decide⟩ ⟨Nat.le_trans (Nat.le_trans (Nat.le_of_eq (Nat.add_assoc _ _ _)) (Nat.add_le_add_left (by decide) _)) hcl, Nat.le_trans (Nat.le_trans (Nat.le_of_eq (Nat.add_assoc _ _ _)) (Nat.add_le_add_left (by decide) _)) hsl⟩ dL_law_406) X (fun H locs X => ?_)
  refine lv_icmp_eq (tgt := 1066) C.1 C.2.1 dL_law_409 (by decide) (fun _ => ?_) (fun hq => absurd rfl hq)
  exact W.widen (Nat.le_trans (Nat.le_of_eq (Nat.add_assoc _ _ _)) (Nat.add_le_add_left (by decide) _)) (Nat.le_trans (Nat.le_of_eq (Nat.add_assoc _ _ _)) (Nat.add_le_add_left (by decide) _)) (kk H locs X)
set_option maxRecDepth 100000 in
set_option maxHeartbeats 4000000 in
theorem law_c8 {p : Program} {l : Launch} {e : Env} {s : State} {m : MethodId} {below : List Frame} {meth : Method} {c : Code} {D : va_G} {ct : Nat → ClassId} {bs b L : Nat} {xs : Nat → Int32} {Q : State → Prop} (C : jq_C p s m #[Value.ref b] c code 4 RL D ct bs) (hX : va_X b L xs s s.heap) (hbl : b < s.heap.size) (hbA : ¬ bs ≤ b) {x3 : Int32} (hi1 : vp_in (x3 + 1) L) (hi2 : vp_in (x3 + 2) L) (hi3 : vp_in (x3 + 3) L) (hi4 : vp_in (x3 + 4) L) (hi5 : vp_in (x3 + 5) L) {ax am n : Nat} {h hA hB : jq_H} {r : Int32} {H : Heap} {locs : List Loc} {ls : Array Slot} (X : jq_X bs D ct s.heap h H locs) (hl : lv_has ls 4 [(0, .ref b), (1, .ref ax), (2, .ref am), (3, .int x3)]) {cells slots : Nat} (hcl : cells + 15 ≤ room_1.cells) (hsl : slots + 2481 ≤ room_1.slots) (e1 : jq_ci h ax = 9) (e2 : X10_at n h ax (xs (x3 + 1).toNatClampNeg) (xs (x3 + 2).toNatClampNeg) = some (r, hA)) (e3 : jq_ci hA am = 10) (e4 : X11_at n hA am (xs (x3 + 1).toNatClampNeg) (xs (x3 + 2).toNatClampNeg) = some (r, hB)) (kk : ∀ H1 locs1, jq_X bs D ct s.heap hB H1 locs1 → W p l e room_1 s m #[Value.ref b] below meth c H1 locs1 (cells + 15) (slots + 2481) Q (F0 m 1066 ls [])) : W p l e room_1 s m #[Value.ref b] below meth c H locs cells slots Q (F0 m 414 ls []) := by
  refine lv_aload_n C.1 C.2.1 dL_law_414 rfl (lv_at hl 1 rfl) ?_
  refine lv_aload_n C.1 C.2.1 dL_law_415 rfl (lv_at hl 0 rfl) ?_
  refine lv_iload_n C.1 C.2.1 dL_law_416 rfl (lv_at hl 3 rfl) ?_
  refine lv_iconst (v := 1) C.1 C.2.1 dL_law_417 (by decide) ?_
  refine lv_iadd C.1 C.2.1 dL_law_418 ?_
  refine va_sld C.1 C.2.1 hX hbl hbA X.2 hi1 dL_law_419 ?_
  refine lv_aload_n C.1 C.2.1 dL_law_420 rfl (lv_at hl 0 rfl) ?_
  refine lv_iload_n C.1 C.2.1 dL_law_421 rfl (lv_at hl 3 rfl) ?_
  refine lv_iconst (v := 2) C.1 C.2.1 dL_law_422 (by decide) ?_
  refine lv_iadd C.1 C.2.1 dL_law_423 ?_
  refine va_sld C.1 C.2.1 hX hbl hbA X.2 hi2 dL_law_424 ?_
  refine jq_gi (jq_runV (a := ax) (av := [.int (xs (x3 + 1).toNatClampNeg), .int (xs (x3 + 2).toNatClampNeg)]) C X (M_X10_at l bs D ct n h ax (xs (x3 + 1).toNatClampNeg) (xs (x3 + 2).toNatClampNeg) _ e2) mf_X10_at gw_333 gw_334 (Or.inl gw_332) rc_X10 e1 (by decide) rfl hl.1 rfl (Nat.le_of_ble_eq_true rfl) ⟨by decide, by decide⟩ ⟨Nat.le_trans (Nat.add_le_add_left (by decide) _) hcl, Nat.le_trans (Nat.add_le_add_left (by decide) _) hsl⟩ dL_law_425) X (fun H locs X => ?_)
  refine lv_aload_n C.1 C.2.1 dL_law_428 rfl (lv_at hl 2 rfl) ?_
  refine lv_aload_n C.1 C.2.1 dL_law_429 rfl (lv_at hl 0 rfl) ?_
  refine lv_iload_n C.1 C.2.1 dL_law_430 rfl (lv_at hl 3 rfl) ?_
  refine lv_iconst (v := 1) C.1 C.2.1 dL_law_431 (by decide) ?_
  refine lv_iadd C.1 C.2.1 dL_law_432 ?_
  refine va_sld C.1 C.2.1 hX hbl hbA X.2 hi1 dL_law_433 ?_
  refine lv_aload_n C.1 C.2.1 dL_law_434 rfl (lv_at hl 0 rfl) ?_
  refine lv_iload_n C.1 C.2.1 dL_law_435 rfl (lv_at hl 3 rfl) ?_
  refine lv_iconst (v := 2) C.1 C.2.1 dL_law_436 (by decide) ?_
  refine lv_iadd C.1 C.2.1 dL_law_437 ?_
  refine va_sld C.1 C.2.1 hX hbl hbA X.2 hi2 dL_law_438 ?_
  refine jq_gi (jq_runV (a := am) (av := [.int (xs (x3 + 1).toNatClampNeg), .int (xs (x3 + 2).toNatClampNeg)]) C X (M_X11_at l bs D ct n hA am (xs (x3 + 1).toNatClampNeg) (xs (x3 + 2).toNatClampNeg) _ e4) mf_X11_at gw_921 gw_922 (Or.inl gw_920) rc_X11 e3 (by decide) rfl hl.1 rfl (Nat.le_of_ble_eq_true rfl) ⟨by decide, by decide⟩ ⟨Nat.le_trans (Nat.le_trans (Nat.le_of_eq (Nat.add_assoc _ _ _)) (Nat.add_le_add_left (by decide) _)) hcl, Nat.le_trans (Nat.le_trans (Nat.le_of_eq (Nat.add_assoc _ _ _)) (Nat.add_le_add_left (by decide) _)) hsl⟩ dL_law_439) X (fun H locs X => ?_)
  refine lv_icmp_eq (tgt := 1066) C.1 C.2.1 dL_law_442 (by decide) (fun _ => ?_) (fun hq => absurd rfl hq)
  exact W.widen (Nat.le_trans (Nat.le_of_eq (Nat.add_assoc _ _ _)) (Nat.add_le_add_left (by decide) _)) (Nat.le_trans (Nat.le_of_eq (Nat.add_assoc _ _ _)) (Nat.add_le_add_left (by decide) _)) (kk H locs X)
set_option maxRecDepth 100000 in
set_option maxHeartbeats 4000000 in
theorem law_c9 {p : Program} {l : Launch} {e : Env} {s : State} {m : MethodId} {below : List Frame} {meth : Method} {c : Code} {D : va_G} {ct : Nat → ClassId} {bs b L : Nat} {xs : Nat → Int32} {Q : State → Prop} (C : jq_C p s m #[Value.ref b] c code 4 RL D ct bs) (hX : va_X b L xs s s.heap) (hbl : b < s.heap.size) (hbA : ¬ bs ≤ b) {x3 : Int32} (hi1 : vp_in (x3 + 1) L) (hi2 : vp_in (x3 + 2) L) (hi3 : vp_in (x3 + 3) L) (hi4 : vp_in (x3 + 4) L) (hi5 : vp_in (x3 + 5) L) {ax am n : Nat} {h hA hB : jq_H} {r : Int32} {H : Heap} {locs : List Loc} {ls : Array Slot} (X : jq_X bs D ct s.heap h H locs) (hl : lv_has ls 4 [(0, .ref b), (1, .ref ax), (2, .ref am), (3, .int x3)]) {cells slots : Nat} (hcl : cells + 15 ≤ room_1.cells) (hsl : slots + 2481 ≤ room_1.slots) (e1 : jq_ci h ax = 9) (e2 : X10_guesser n h ax (xs (x3 + 1).toNatClampNeg) (xs (x3 + 2).toNatClampNeg) (xs (x3 + 3).toNatClampNeg) (xs (x3 + 4).toNatClampNeg) = some (r, hA)) (e3 : jq_ci hA am = 10) (e4 : X11_guesser n hA am (xs (x3 + 1).toNatClampNeg) (xs (x3 + 2).toNatClampNeg) (xs (x3 + 3).toNatClampNeg) (xs (x3 + 4).toNatClampNeg) = some (r, hB)) (kk : ∀ H1 locs1, jq_X bs D ct s.heap hB H1 locs1 → W p l e room_1 s m #[Value.ref b] below meth c H1 locs1 (cells + 15) (slots + 2481) Q (F0 m 1066 ls [])) : W p l e room_1 s m #[Value.ref b] below meth c H locs cells slots Q (F0 m 447 ls []) := by
  refine lv_aload_n C.1 C.2.1 dL_law_447 rfl (lv_at hl 1 rfl) ?_
  refine lv_aload_n C.1 C.2.1 dL_law_448 rfl (lv_at hl 0 rfl) ?_
  refine lv_iload_n C.1 C.2.1 dL_law_449 rfl (lv_at hl 3 rfl) ?_
  refine lv_iconst (v := 1) C.1 C.2.1 dL_law_450 (by decide) ?_
  refine lv_iadd C.1 C.2.1 dL_law_451 ?_
  refine va_sld C.1 C.2.1 hX hbl hbA X.2 hi1 dL_law_452 ?_
  refine lv_aload_n C.1 C.2.1 dL_law_453 rfl (lv_at hl 0 rfl) ?_
  refine lv_iload_n C.1 C.2.1 dL_law_454 rfl (lv_at hl 3 rfl) ?_
  refine lv_iconst (v := 2) C.1 C.2.1 dL_law_455 (by decide) ?_
  refine lv_iadd C.1 C.2.1 dL_law_456 ?_
  refine va_sld C.1 C.2.1 hX hbl hbA X.2 hi2 dL_law_457 ?_
  refine lv_aload_n C.1 C.2.1 dL_law_458 rfl (lv_at hl 0 rfl) ?_
  refine lv_iload_n C.1 C.2.1 dL_law_459 rfl (lv_at hl 3 rfl) ?_
  refine lv_iconst (v := 3) C.1 C.2.1 dL_law_460 (by decide) ?_
  refine lv_iadd C.1 C.2.1 dL_law_461 ?_
  refine va_sld C.1 C.2.1 hX hbl hbA X.2 hi3 dL_law_462 ?_
  refine lv_aload_n C.1 C.2.1 dL_law_463 rfl (lv_at hl 0 rfl) ?_
  refine lv_iload_n C.1 C.2.1 dL_law_464 rfl (lv_at hl 3 rfl) ?_
  refine lv_iconst (v := 4) C.1 C.2.1 dL_law_465 (by decide) ?_
  refine lv_iadd C.1 C.2.1 dL_law_466 ?_
  refine va_sld C.1 C.2.1 hX hbl hbA X.2 hi4 dL_law_467 ?_
  refine jq_gi (jq_runV (a := ax) (av := [.int (xs (x3 + 1).toNatClampNeg), .int (xs (x3 + 2).toNatClampNeg), .int (xs (x3 + 3).toNatClampNeg), .int (xs (x3 + 4).toNatClampNeg)]) C X (M_X10_guesser l bs D ct n h ax (xs (x3 + 1).toNatClampNeg) (xs (x3 + 2).toNatClampNeg) (xs (x3 + 3).toNatClampNeg) (xs (x3 + 4).toNatClampNeg) _ e2) mf_X10_guesser gw_345 gw_346 (Or.inl gw_344) rc_X10 e1 (by decide) rfl hl.1 rfl (Nat.le_of_ble_eq_true rfl) ⟨by decide, by decide⟩ ⟨Nat.le_trans (Nat.add_le_add_left (by decide) _) hcl, Nat.le_trans (Nat.add_le_add_left (by decide) _) hsl⟩ dL_law_468) X (fun H locs X => ?_)
  refine lv_aload_n C.1 C.2.1 dL_law_471 rfl (lv_at hl 2 rfl) ?_
  refine lv_aload_n C.1 C.2.1 dL_law_472 rfl (lv_at hl 0 rfl) ?_
  refine lv_iload_n C.1 C.2.1 dL_law_473 rfl (lv_at hl 3 rfl) ?_
  refine lv_iconst (v := 1) C.1 C.2.1 dL_law_474 (by decide) ?_
  refine lv_iadd C.1 C.2.1 dL_law_475 ?_
  refine va_sld C.1 C.2.1 hX hbl hbA X.2 hi1 dL_law_476 ?_
  refine lv_aload_n C.1 C.2.1 dL_law_477 rfl (lv_at hl 0 rfl) ?_
  refine lv_iload_n C.1 C.2.1 dL_law_478 rfl (lv_at hl 3 rfl) ?_
  refine lv_iconst (v := 2) C.1 C.2.1 dL_law_479 (by decide) ?_
  refine lv_iadd C.1 C.2.1 dL_law_480 ?_
  refine va_sld C.1 C.2.1 hX hbl hbA X.2 hi2 dL_law_481 ?_
  refine lv_aload_n C.1 C.2.1 dL_law_482 rfl (lv_at hl 0 rfl) ?_
  refine lv_iload_n C.1 C.2.1 dL_law_483 rfl (lv_at hl 3 rfl) ?_
  refine lv_iconst (v := 3) C.1 C.2.1 dL_law_484 (by decide) ?_
  refine lv_iadd C.1 C.2.1 dL_law_485 ?_
  refine va_sld C.1 C.2.1 hX hbl hbA X.2 hi3 dL_law_486 ?_
  refine lv_aload_n C.1 C.2.1 dL_law_487 rfl (lv_at hl 0 rfl) ?_
  refine lv_iload_n C.1 C.2.1 dL_law_488 rfl (lv_at hl 3 rfl) ?_
  refine lv_iconst (v := 4) C.1 C.2.1 dL_law_489 (by decide) ?_
  refine lv_iadd C.1 C.2.1 dL_law_490 ?_
  refine va_sld C.1 C.2.1 hX hbl hbA X.2 hi4 dL_law_491 ?_
  refine jq_gi (jq_runV (a := am) (av := [.int (xs (x3 + 1).toNatClampNeg), .int (xs (x3 + 2).toNatClampNeg), .int (xs (x3 + 3).toNatClampNeg), .int (xs (x3 + 4).toNatClampNeg)]) C X (M_X11_guesser l bs D ct n hA am (xs (x3 + 1).toNatClampNeg) (xs (x3 + 2).toNatClampNeg) (xs (x3 + 3).toNatClampNeg) (xs (x3 + 4).toNatClampNeg) _ e4) mf_X11_guesser gw_925 gw_926 (Or.inl gw_924) rc_X11 e3 (by decide) rfl hl.1 rfl (Nat.le_of_ble_eq_true rfl) ⟨by decide, by decide⟩ ⟨Nat.le_trans (Nat.le_trans (Nat.le_of_eq (Nat.add_assoc _ _ _)) (Nat.add_le_add_left (by decide) _)) hcl, Nat.le_trans (Nat.le_trans (Nat.le_of_eq (Nat.add_assoc _ _ _)) (Nat.add_le_add_left (by decide) _)) hsl⟩ dL_law_492) X (fun H locs X => ?_)
  refine lv_icmp_eq (tgt := 1066) C.1 C.2.1 dL_law_495 (by decide) (fun _ => ?_) (fun hq => absurd rfl hq)
  exact W.widen (Nat.le_trans (Nat.le_of_eq (Nat.add_assoc _ _ _)) (Nat.add_le_add_left (by decide) _)) (Nat.le_trans (Nat.le_of_eq (Nat.add_assoc _ _ _)) (Nat.add_le_add_left (by decide) _)) (kk H locs X)
set_option maxRecDepth 100000 in
set_option maxHeartbeats 4000000 in
theorem law_c10 {p : Program} {l : Launch} {e : Env} {s : State} {m : MethodId} {below : List Frame} {meth : Method} {c : Code} {D : va_G} {ct : Nat → ClassId} {bs b L : Nat} {xs : Nat → Int32} {Q : State → Prop} (C : jq_C p s m #[Value.ref b] c code 4 RL D ct bs) (hX : va_X b L xs s s.heap) (hbl : b < s.heap.size) (hbA : ¬ bs ≤ b) {x3 : Int32} (hi1 : vp_in (x3 + 1) L) (hi2 : vp_in (x3 + 2) L) (hi3 : vp_in (x3 + 3) L) (hi4 : vp_in (x3 + 4) L) (hi5 : vp_in (x3 + 5) L) {ax am n : Nat} {h hA hB : jq_H} {r : Int32} {H : Heap} {locs : List Loc} {ls : Array Slot} (X : jq_X bs D ct s.heap h H locs) (hl : lv_has ls 4 [(0, .ref b), (1, .ref ax), (2, .ref am), (3, .int x3)]) {cells slots : Nat} (hcl : cells + 15 ≤ room_1.cells) (hsl : slots + 2481 ≤ room_1.slots) (e1 : jq_ci h ax = 9) (e2 : X10_guess n h ax (xs (x3 + 1).toNatClampNeg) (xs (x3 + 2).toNatClampNeg) = some (r, hA)) (e3 : jq_ci hA am = 10) (e4 : X11_guess n hA am (xs (x3 + 1).toNatClampNeg) (xs (x3 + 2).toNatClampNeg) = some (r, hB)) (kk : ∀ H1 locs1, jq_X bs D ct s.heap hB H1 locs1 → W p l e room_1 s m #[Value.ref b] below meth c H1 locs1 (cells + 15) (slots + 2481) Q (F0 m 1066 ls [])) : W p l e room_1 s m #[Value.ref b] below meth c H locs cells slots Q (F0 m 500 ls []) := by
  refine lv_aload_n C.1 C.2.1 dL_law_500 rfl (lv_at hl 1 rfl) ?_
  refine lv_aload_n C.1 C.2.1 dL_law_501 rfl (lv_at hl 0 rfl) ?_
  refine lv_iload_n C.1 C.2.1 dL_law_502 rfl (lv_at hl 3 rfl) ?_
  refine lv_iconst (v := 1) C.1 C.2.1 dL_law_503 (by decide) ?_
  refine lv_iadd C.1 C.2.1 dL_law_504 ?_
  refine va_sld C.1 C.2.1 hX hbl hbA X.2 hi1 dL_law_505 ?_
  refine lv_aload_n C.1 C.2.1 dL_law_506 rfl (lv_at hl 0 rfl) ?_
  refine lv_iload_n C.1 C.2.1 dL_law_507 rfl (lv_at hl 3 rfl) ?_
  refine lv_iconst (v := 2) C.1 C.2.1 dL_law_508 (by decide) ?_
  refine lv_iadd C.1 C.2.1 dL_law_509 ?_
  refine va_sld C.1 C.2.1 hX hbl hbA X.2 hi2 dL_law_510 ?_
  refine jq_gi (jq_runV (a := ax) (av := [.int (xs (x3 + 1).toNatClampNeg), .int (xs (x3 + 2).toNatClampNeg)]) C X (M_X10_guess l bs D ct n h ax (xs (x3 + 1).toNatClampNeg) (xs (x3 + 2).toNatClampNeg) _ e2) mf_X10_guess gw_597 gw_598 (Or.inl gw_596) rc_X10 e1 (by decide) rfl hl.1 rfl (Nat.le_of_ble_eq_true rfl) ⟨by decide, by decide⟩ ⟨Nat.le_trans (Nat.add_le_add_left (by decide) _) hcl, Nat.le_trans (Nat.add_le_add_left (by decide) _) hsl⟩ dL_law_511) X (fun H locs X => ?_)
  refine lv_aload_n C.1 C.2.1 dL_law_514 rfl (lv_at hl 2 rfl) ?_
  refine lv_aload_n C.1 C.2.1 dL_law_515 rfl (lv_at hl 0 rfl) ?_
  refine lv_iload_n C.1 C.2.1 dL_law_516 rfl (lv_at hl 3 rfl) ?_
  refine lv_iconst (v := 1) C.1 C.2.1 dL_law_517 (by decide) ?_
  refine lv_iadd C.1 C.2.1 dL_law_518 ?_
  refine va_sld C.1 C.2.1 hX hbl hbA X.2 hi1 dL_law_519 ?_
  refine lv_aload_n C.1 C.2.1 dL_law_520 rfl (lv_at hl 0 rfl) ?_
  refine lv_iload_n C.1 C.2.1 dL_law_521 rfl (lv_at hl 3 rfl) ?_
  refine lv_iconst (v := 2) C.1 C.2.1 dL_law_522 (by decide) ?_
  refine lv_iadd C.1 C.2.1 dL_law_523 ?_
  refine va_sld C.1 C.2.1 hX hbl hbA X.2 hi2 dL_law_524 ?_
  refine jq_gi (jq_runV (a := am) (av := [.int (xs (x3 + 1).toNatClampNeg), .int (xs (x3 + 2).toNatClampNeg)]) C X (M_X11_guess l bs D ct n hA am (xs (x3 + 1).toNatClampNeg) (xs (x3 + 2).toNatClampNeg) _ e4) mf_X11_guess gw_940 gw_941 (Or.inl gw_939) rc_X11 e3 (by decide) rfl hl.1 rfl (Nat.le_of_ble_eq_true rfl) ⟨by decide, by decide⟩ ⟨Nat.le_trans (Nat.le_trans (Nat.le_of_eq (Nat.add_assoc _ _ _)) (Nat.add_le_add_left (by decide) _)) hcl, Nat.le_trans (Nat.le_trans (Nat.le_of_eq (Nat.add_assoc _ _ _)) (Nat.add_le_add_left (by decide) _)) hsl⟩ dL_law_525) X (fun H locs X => ?_)
  refine lv_icmp_eq (tgt := 1066) C.1 C.2.1 dL_law_528 (by decide) (fun _ => ?_) (fun hq => absurd rfl hq)
  exact W.widen (Nat.le_trans (Nat.le_of_eq (Nat.add_assoc _ _ _)) (Nat.add_le_add_left (by decide) _)) (Nat.le_trans (Nat.le_of_eq (Nat.add_assoc _ _ _)) (Nat.add_le_add_left (by decide) _)) (kk H locs X)
set_option maxRecDepth 100000 in
set_option maxHeartbeats 4000000 in
theorem law_c11 {p : Program} {l : Launch} {e : Env} {s : State} {m : MethodId} {below : List Frame} {meth : Method} {c : Code} {D : va_G} {ct : Nat → ClassId} {bs b L : Nat} {xs : Nat → Int32} {Q : State → Prop} (C : jq_C p s m #[Value.ref b] c code 4 RL D ct bs) (hX : va_X b L xs s s.heap) (hbl : b < s.heap.size) (hbA : ¬ bs ≤ b) {x3 : Int32} (hi1 : vp_in (x3 + 1) L) (hi2 : vp_in (x3 + 2) L) (hi3 : vp_in (x3 + 3) L) (hi4 : vp_in (x3 + 4) L) (hi5 : vp_in (x3 + 5) L) {ax am n : Nat} {h hA hB : jq_H} {r : Int32} {H : Heap} {locs : List Loc} {ls : Array Slot} (X : jq_X bs D ct s.heap h H locs) (hl : lv_has ls 4 [(0, .ref b), (1, .ref ax), (2, .ref am), (3, .int x3)]) {cells slots : Nat} (hcl : cells + 15 ≤ room_1.cells) (hsl : slots + 2481 ≤ room_1.slots) (e1 : jq_ci h ax = 9) (e2 : X10_hint n h ax (xs (x3 + 1).toNatClampNeg) (xs (x3 + 2).toNatClampNeg) (xs (x3 + 3).toNatClampNeg) = some (r, hA)) (e3 : jq_ci hA am = 10) (e4 : X11_hint n hA am (xs (x3 + 1).toNatClampNeg) (xs (x3 + 2).toNatClampNeg) (xs (x3 + 3).toNatClampNeg) = some (r, hB)) (kk : ∀ H1 locs1, jq_X bs D ct s.heap hB H1 locs1 → W p l e room_1 s m #[Value.ref b] below meth c H1 locs1 (cells + 15) (slots + 2481) Q (F0 m 1066 ls [])) : W p l e room_1 s m #[Value.ref b] below meth c H locs cells slots Q (F0 m 533 ls []) := by
  refine lv_aload_n C.1 C.2.1 dL_law_533 rfl (lv_at hl 1 rfl) ?_
  refine lv_aload_n C.1 C.2.1 dL_law_534 rfl (lv_at hl 0 rfl) ?_
  refine lv_iload_n C.1 C.2.1 dL_law_535 rfl (lv_at hl 3 rfl) ?_
  refine lv_iconst (v := 1) C.1 C.2.1 dL_law_536 (by decide) ?_
  refine lv_iadd C.1 C.2.1 dL_law_537 ?_
  refine va_sld C.1 C.2.1 hX hbl hbA X.2 hi1 dL_law_538 ?_
  refine lv_aload_n C.1 C.2.1 dL_law_539 rfl (lv_at hl 0 rfl) ?_
  refine lv_iload_n C.1 C.2.1 dL_law_540 rfl (lv_at hl 3 rfl) ?_
  refine lv_iconst (v := 2) C.1 C.2.1 dL_law_541 (by decide) ?_
  refine lv_iadd C.1 C.2.1 dL_law_542 ?_
  refine va_sld C.1 C.2.1 hX hbl hbA X.2 hi2 dL_law_543 ?_
  refine lv_aload_n C.1 C.2.1 dL_law_544 rfl (lv_at hl 0 rfl) ?_
  refine lv_iload_n C.1 C.2.1 dL_law_545 rfl (lv_at hl 3 rfl) ?_
  refine lv_iconst (v := 3) C.1 C.2.1 dL_law_546 (by decide) ?_
  refine lv_iadd C.1 C.2.1 dL_law_547 ?_
  refine va_sld C.1 C.2.1 hX hbl hbA X.2 hi3 dL_law_548 ?_
  refine jq_gi (jq_runV (a := ax) (av := [.int (xs (x3 + 1).toNatClampNeg), .int (xs (x3 + 2).toNatClampNeg), .int (xs (x3 + 3).toNatClampNeg)]) C X (M_X10_hint l bs D ct n h ax (xs (x3 + 1).toNatClampNeg) (xs (x3 + 2).toNatClampNeg) (xs (x3 + 3).toNatClampNeg) _ e2) mf_X10_hint gw_602 gw_603 (Or.inl gw_601) rc_X10 e1 (by decide) rfl hl.1 rfl (Nat.le_of_ble_eq_true rfl) ⟨by decide, by decide⟩ ⟨Nat.le_trans (Nat.add_le_add_left (by decide) _) hcl, Nat.le_trans (Nat.add_le_add_left (by decide) _) hsl⟩ dL_law_549) X (fun H locs X => ?_)
  refine lv_aload_n C.1 C.2.1 dL_law_552 rfl (lv_at hl 2 rfl) ?_
  refine lv_aload_n C.1 C.2.1 dL_law_553 rfl (lv_at hl 0 rfl) ?_
  refine lv_iload_n C.1 C.2.1 dL_law_554 rfl (lv_at hl 3 rfl) ?_
  refine lv_iconst (v := 1) C.1 C.2.1 dL_law_555 (by decide) ?_
  refine lv_iadd C.1 C.2.1 dL_law_556 ?_
  refine va_sld C.1 C.2.1 hX hbl hbA X.2 hi1 dL_law_557 ?_
  refine lv_aload_n C.1 C.2.1 dL_law_558 rfl (lv_at hl 0 rfl) ?_
  refine lv_iload_n C.1 C.2.1 dL_law_559 rfl (lv_at hl 3 rfl) ?_
  refine lv_iconst (v := 2) C.1 C.2.1 dL_law_560 (by decide) ?_
  refine lv_iadd C.1 C.2.1 dL_law_561 ?_
  refine va_sld C.1 C.2.1 hX hbl hbA X.2 hi2 dL_law_562 ?_
  refine lv_aload_n C.1 C.2.1 dL_law_563 rfl (lv_at hl 0 rfl) ?_
  refine lv_iload_n C.1 C.2.1 dL_law_564 rfl (lv_at hl 3 rfl) ?_
  refine lv_iconst (v := 3) C.1 C.2.1 dL_law_565 (by decide) ?_
  refine lv_iadd C.1 C.2.1 dL_law_566 ?_
  refine va_sld C.1 C.2.1 hX hbl hbA X.2 hi3 dL_law_567 ?_
  refine jq_gi (jq_runV (a := am) (av := [.int (xs (x3 + 1).toNatClampNeg), .int (xs (x3 + 2).toNatClampNeg), .int (xs (x3 + 3).toNatClampNeg)]) C X (M_X11_hint l bs D ct n hA am (xs (x3 + 1).toNatClampNeg) (xs (x3 + 2).toNatClampNeg) (xs (x3 + 3).toNatClampNeg) _ e4) mf_X11_hint gw_944 gw_945 (Or.inl gw_943) rc_X11 e3 (by decide) rfl hl.1 rfl (Nat.le_of_ble_eq_true rfl) ⟨by decide, by decide⟩ ⟨Nat.le_trans (Nat.le_trans (Nat.le_of_eq (Nat.add_assoc _ _ _)) (Nat.add_le_add_left (by decide) _)) hcl, Nat.le_trans (Nat.le_trans (Nat.le_of_eq (Nat.add_assoc _ _ _)) (Nat.add_le_add_left (by decide) _)) hsl⟩ dL_law_568) X (fun H locs X => ?_)
  refine lv_icmp_eq (tgt := 1066) C.1 C.2.1 dL_law_571 (by decide) (fun _ => ?_) (fun hq => absurd rfl hq)
  exact W.widen (Nat.le_trans (Nat.le_of_eq (Nat.add_assoc _ _ _)) (Nat.add_le_add_left (by decide) _)) (Nat.le_trans (Nat.le_of_eq (Nat.add_assoc _ _ _)) (Nat.add_le_add_left (by decide) _)) (kk H locs X)
set_option maxRecDepth 100000 in
set_option maxHeartbeats 4000000 in
theorem law_c12 {p : Program} {l : Launch} {e : Env} {s : State} {m : MethodId} {below : List Frame} {meth : Method} {c : Code} {D : va_G} {ct : Nat → ClassId} {bs b L : Nat} {xs : Nat → Int32} {Q : State → Prop} (C : jq_C p s m #[Value.ref b] c code 4 RL D ct bs) (hX : va_X b L xs s s.heap) (hbl : b < s.heap.size) (hbA : ¬ bs ≤ b) {x3 : Int32} (hi1 : vp_in (x3 + 1) L) (hi2 : vp_in (x3 + 2) L) (hi3 : vp_in (x3 + 3) L) (hi4 : vp_in (x3 + 4) L) (hi5 : vp_in (x3 + 5) L) {ax am n : Nat} {h hA hB : jq_H} {r : Int32} {H : Heap} {locs : List Loc} {ls : Array Slot} (X : jq_X bs D ct s.heap h H locs) (hl : lv_has ls 4 [(0, .ref b), (1, .ref ax), (2, .ref am), (3, .int x3)]) {cells slots : Nat} (hcl : cells + 15 ≤ room_1.cells) (hsl : slots + 2481 ≤ room_1.slots) (e1 : jq_ci h ax = 9) (e2 : X10_profile n h ax (xs (x3 + 1).toNatClampNeg) = some (r, hA)) (e3 : jq_ci hA am = 10) (e4 : X11_profile n hA am (xs (x3 + 1).toNatClampNeg) = some (r, hB)) (kk : ∀ H1 locs1, jq_X bs D ct s.heap hB H1 locs1 → W p l e room_1 s m #[Value.ref b] below meth c H1 locs1 (cells + 15) (slots + 2481) Q (F0 m 1066 ls [])) : W p l e room_1 s m #[Value.ref b] below meth c H locs cells slots Q (F0 m 576 ls []) := by
  refine lv_aload_n C.1 C.2.1 dL_law_576 rfl (lv_at hl 1 rfl) ?_
  refine lv_aload_n C.1 C.2.1 dL_law_577 rfl (lv_at hl 0 rfl) ?_
  refine lv_iload_n C.1 C.2.1 dL_law_578 rfl (lv_at hl 3 rfl) ?_
  refine lv_iconst (v := 1) C.1 C.2.1 dL_law_579 (by decide) ?_
  refine lv_iadd C.1 C.2.1 dL_law_580 ?_
  refine va_sld C.1 C.2.1 hX hbl hbA X.2 hi1 dL_law_581 ?_
  refine jq_gi (jq_runV (a := ax) (av := [.int (xs (x3 + 1).toNatClampNeg)]) C X (M_X10_profile l bs D ct n h ax (xs (x3 + 1).toNatClampNeg) _ e2) mf_X10_profile gw_606 gw_607 (Or.inl gw_605) rc_X10 e1 (by decide) rfl hl.1 rfl (Nat.le_of_ble_eq_true rfl) ⟨by decide, by decide⟩ ⟨Nat.le_trans (Nat.add_le_add_left (by decide) _) hcl, Nat.le_trans (Nat.add_le_add_left (by decide) _) hsl⟩ dL_law_582) X (fun H locs X => ?_)
  refine lv_aload_n C.1 C.2.1 dL_law_585 rfl (lv_at hl 2 rfl) ?_
  refine lv_aload_n C.1 C.2.1 dL_law_586 rfl (lv_at hl 0 rfl) ?_
  refine lv_iload_n C.1 C.2.1 dL_law_587 rfl (lv_at hl 3 rfl) ?_
  refine lv_iconst (v := 1) C.1 C.2.1 dL_law_588 (by decide) ?_
  refine lv_iadd C.1 C.2.1 dL_law_589 ?_
  refine va_sld C.1 C.2.1 hX hbl hbA X.2 hi1 dL_law_590 ?_
  refine jq_gi (jq_runV (a := am) (av := [.int (xs (x3 + 1).toNatClampNeg)]) C X (M_X11_profile l bs D ct n hA am (xs (x3 + 1).toNatClampNeg) _ e4) mf_X11_profile gw_948 gw_949 (Or.inl gw_947) rc_X11 e3 (by decide) rfl hl.1 rfl (Nat.le_of_ble_eq_true rfl) ⟨by decide, by decide⟩ ⟨Nat.le_trans (Nat.le_trans (Nat.le_of_eq (Nat.add_assoc _ _ _)) (Nat.add_le_add_left (by decide) _)) hcl, Nat.le_trans (Nat.le_trans (Nat.le_of_eq (Nat.add_assoc _ _ _)) (Nat.add_le_add_left (by decide) _)) hsl⟩ dL_law_591) X (fun H locs X => ?_)
  refine lv_icmp_eq (tgt := 1066) C.1 C.2.1 dL_law_594 (by decide) (fun _ => ?_) (fun hq => absurd rfl hq)
  exact W.widen (Nat.le_trans (Nat.le_of_eq (Nat.add_assoc _ _ _)) (Nat.add_le_add_left (by decide) _)) (Nat.le_trans (Nat.le_of_eq (Nat.add_assoc _ _ _)) (Nat.add_le_add_left (by decide) _)) (kk H locs X)
set_option maxRecDepth 100000 in
set_option maxHeartbeats 4000000 in
theorem law_c13 {p : Program} {l : Launch} {e : Env} {s : State} {m : MethodId} {below : List Frame} {meth : Method} {c : Code} {D : va_G} {ct : Nat → ClassId} {bs b L : Nat} {xs : Nat → Int32} {Q : State → Prop} (C : jq_C p s m #[Value.ref b] c code 4 RL D ct bs) (hX : va_X b L xs s s.heap) (hbl : b < s.heap.size) (hbA : ¬ bs ≤ b) {x3 : Int32} (hi1 : vp_in (x3 + 1) L) (hi2 : vp_in (x3 + 2) L) (hi3 : vp_in (x3 + 3) L) (hi4 : vp_in (x3 + 4) L) (hi5 : vp_in (x3 + 5) L) {ax am n : Nat} {h hA hB : jq_H} {r : Int32} {H : Heap} {locs : List Loc} {ls : Array Slot} (X : jq_X bs D ct s.heap h H locs) (hl : lv_has ls 4 [(0, .ref b), (1, .ref ax), (2, .ref am), (3, .int x3)]) {cells slots : Nat} (hcl : cells + 15 ≤ room_1.cells) (hsl : slots + 2481 ≤ room_1.slots) (e1 : jq_ci h ax = 9) (e2 : X10_misses n h ax (xs (x3 + 1).toNatClampNeg) (xs (x3 + 2).toNatClampNeg) = some (r, hA)) (e3 : jq_ci hA am = 10) (e4 : X11_misses n hA am (xs (x3 + 1).toNatClampNeg) (xs (x3 + 2).toNatClampNeg) = some (r, hB)) (kk : ∀ H1 locs1, jq_X bs D ct s.heap hB H1 locs1 → W p l e room_1 s m #[Value.ref b] below meth c H1 locs1 (cells + 15) (slots + 2481) Q (F0 m 1066 ls [])) : W p l e room_1 s m #[Value.ref b] below meth c H locs cells slots Q (F0 m 599 ls []) := by
  refine lv_aload_n C.1 C.2.1 dL_law_599 rfl (lv_at hl 1 rfl) ?_
  refine lv_aload_n C.1 C.2.1 dL_law_600 rfl (lv_at hl 0 rfl) ?_
  refine lv_iload_n C.1 C.2.1 dL_law_601 rfl (lv_at hl 3 rfl) ?_
  refine lv_iconst (v := 1) C.1 C.2.1 dL_law_602 (by decide) ?_
  refine lv_iadd C.1 C.2.1 dL_law_603 ?_
  refine va_sld C.1 C.2.1 hX hbl hbA X.2 hi1 dL_law_604 ?_
  refine lv_aload_n C.1 C.2.1 dL_law_605 rfl (lv_at hl 0 rfl) ?_
  refine lv_iload_n C.1 C.2.1 dL_law_606 rfl (lv_at hl 3 rfl) ?_
  refine lv_iconst (v := 2) C.1 C.2.1 dL_law_607 (by decide) ?_
  refine lv_iadd C.1 C.2.1 dL_law_608 ?_
  refine va_sld C.1 C.2.1 hX hbl hbA X.2 hi2 dL_law_609 ?_
  refine jq_gi (jq_runV (a := ax) (av := [.int (xs (x3 + 1).toNatClampNeg), .int (xs (x3 + 2).toNatClampNeg)]) C X (M_X10_misses l bs D ct n h ax (xs (x3 + 1).toNatClampNeg) (xs (x3 + 2).toNatClampNeg) _ e2) mf_X10_misses gw_618 gw_619 (Or.inl gw_617) rc_X10 e1 (by decide) rfl hl.1 rfl (Nat.le_of_ble_eq_true rfl) ⟨by decide, by decide⟩ ⟨Nat.le_trans (Nat.add_le_add_left (by decide) _) hcl, Nat.le_trans (Nat.add_le_add_left (by decide) _) hsl⟩ dL_law_610) X (fun H locs X => ?_)
  refine lv_aload_n C.1 C.2.1 dL_law_613 rfl (lv_at hl 2 rfl) ?_
  refine lv_aload_n C.1 C.2.1 dL_law_614 rfl (lv_at hl 0 rfl) ?_
  refine lv_iload_n C.1 C.2.1 dL_law_615 rfl (lv_at hl 3 rfl) ?_
  refine lv_iconst (v := 1) C.1 C.2.1 dL_law_616 (by decide) ?_
  refine lv_iadd C.1 C.2.1 dL_law_617 ?_
  refine va_sld C.1 C.2.1 hX hbl hbA X.2 hi1 dL_law_618 ?_
  refine lv_aload_n C.1 C.2.1 dL_law_619 rfl (lv_at hl 0 rfl) ?_
  refine lv_iload_n C.1 C.2.1 dL_law_620 rfl (lv_at hl 3 rfl) ?_
  refine lv_iconst (v := 2) C.1 C.2.1 dL_law_621 (by decide) ?_
  refine lv_iadd C.1 C.2.1 dL_law_622 ?_
  refine va_sld C.1 C.2.1 hX hbl hbA X.2 hi2 dL_law_623 ?_
  refine jq_gi (jq_runV (a := am) (av := [.int (xs (x3 + 1).toNatClampNeg), .int (xs (x3 + 2).toNatClampNeg)]) C X (M_X11_misses l bs D ct n hA am (xs (x3 + 1).toNatClampNeg) (xs (x3 + 2).toNatClampNeg) _ e4) mf_X11_misses gw_956 gw_957 (Or.inl gw_955) rc_X11 e3 (by decide) rfl hl.1 rfl (Nat.le_of_ble_eq_true rfl) ⟨by decide, by decide⟩ ⟨Nat.le_trans (Nat.le_trans (Nat.le_of_eq (Nat.add_assoc _ _ _)) (Nat.add_le_add_left (by decide) _)) hcl, Nat.le_trans (Nat.le_trans (Nat.le_of_eq (Nat.add_assoc _ _ _)) (Nat.add_le_add_left (by decide) _)) hsl⟩ dL_law_624) X (fun H locs X => ?_)
  refine lv_icmp_eq (tgt := 1066) C.1 C.2.1 dL_law_627 (by decide) (fun _ => ?_) (fun hq => absurd rfl hq)
  exact W.widen (Nat.le_trans (Nat.le_of_eq (Nat.add_assoc _ _ _)) (Nat.add_le_add_left (by decide) _)) (Nat.le_trans (Nat.le_of_eq (Nat.add_assoc _ _ _)) (Nat.add_le_add_left (by decide) _)) (kk H locs X)
set_option maxRecDepth 100000 in
set_option maxHeartbeats 4000000 in
theorem law_c14 {p : Program} {l : Launch} {e : Env} {s : State} {m : MethodId} {below : List Frame} {meth : Method} {c : Code} {D : va_G} {ct : Nat → ClassId} {bs b L : Nat} {xs : Nat → Int32} {Q : State → Prop} (C : jq_C p s m #[Value.ref b] c code 4 RL D ct bs) (hX : va_X b L xs s s.heap) (hbl : b < s.heap.size) (hbA : ¬ bs ≤ b) {x3 : Int32} (hi1 : vp_in (x3 + 1) L) (hi2 : vp_in (x3 + 2) L) (hi3 : vp_in (x3 + 3) L) (hi4 : vp_in (x3 + 4) L) (hi5 : vp_in (x3 + 5) L) {ax am n : Nat} {h hA hB : jq_H} {r : Int32} {H : Heap} {locs : List Loc} {ls : Array Slot} (X : jq_X bs D ct s.heap h H locs) (hl : lv_has ls 4 [(0, .ref b), (1, .ref ax), (2, .ref am), (3, .int x3)]) {cells slots : Nat} (hcl : cells + 15 ≤ room_1.cells) (hsl : slots + 2481 ≤ room_1.slots) (e1 : jq_ci h ax = 9) (e2 : X10_asked n h ax (xs (x3 + 1).toNatClampNeg) = some (r, hA)) (e3 : jq_ci hA am = 10) (e4 : X11_asked n hA am (xs (x3 + 1).toNatClampNeg) = some (r, hB)) (kk : ∀ H1 locs1, jq_X bs D ct s.heap hB H1 locs1 → W p l e room_1 s m #[Value.ref b] below meth c H1 locs1 (cells + 15) (slots + 2481) Q (F0 m 1066 ls [])) : W p l e room_1 s m #[Value.ref b] below meth c H locs cells slots Q (F0 m 632 ls []) := by
  refine lv_aload_n C.1 C.2.1 dL_law_632 rfl (lv_at hl 1 rfl) ?_
  refine lv_aload_n C.1 C.2.1 dL_law_633 rfl (lv_at hl 0 rfl) ?_
  refine lv_iload_n C.1 C.2.1 dL_law_634 rfl (lv_at hl 3 rfl) ?_
  refine lv_iconst (v := 1) C.1 C.2.1 dL_law_635 (by decide) ?_
  refine lv_iadd C.1 C.2.1 dL_law_636 ?_
  refine va_sld C.1 C.2.1 hX hbl hbA X.2 hi1 dL_law_637 ?_
  refine jq_gi (jq_runV (a := ax) (av := [.int (xs (x3 + 1).toNatClampNeg)]) C X (M_X10_asked l bs D ct n h ax (xs (x3 + 1).toNatClampNeg) _ e2) mf_X10_asked gw_622 gw_623 (Or.inl gw_621) rc_X10 e1 (by decide) rfl hl.1 rfl (Nat.le_of_ble_eq_true rfl) ⟨by decide, by decide⟩ ⟨Nat.le_trans (Nat.add_le_add_left (by decide) _) hcl, Nat.le_trans (Nat.add_le_add_left (by decide) _) hsl⟩ dL_law_638) X (fun H locs X => ?_)
  refine lv_aload_n C.1 C.2.1 dL_law_641 rfl (lv_at hl 2 rfl) ?_
  refine lv_aload_n C.1 C.2.1 dL_law_642 rfl (lv_at hl 0 rfl) ?_
  refine lv_iload_n C.1 C.2.1 dL_law_643 rfl (lv_at hl 3 rfl) ?_
  refine lv_iconst (v := 1) C.1 C.2.1 dL_law_644 (by decide) ?_
  refine lv_iadd C.1 C.2.1 dL_law_645 ?_
  refine va_sld C.1 C.2.1 hX hbl hbA X.2 hi1 dL_law_646 ?_
  refine jq_gi (jq_runV (a := am) (av := [.int (xs (x3 + 1).toNatClampNeg)]) C X (M_X11_asked l bs D ct n hA am (xs (x3 + 1).toNatClampNeg) _ e4) mf_X11_asked gw_964 gw_965 (Or.inl gw_963) rc_X11 e3 (by decide) rfl hl.1 rfl (Nat.le_of_ble_eq_true rfl) ⟨by decide, by decide⟩ ⟨Nat.le_trans (Nat.le_trans (Nat.le_of_eq (Nat.add_assoc _ _ _)) (Nat.add_le_add_left (by decide) _)) hcl, Nat.le_trans (Nat.le_trans (Nat.le_of_eq (Nat.add_assoc _ _ _)) (Nat.add_le_add_left (by decide) _)) hsl⟩ dL_law_647) X (fun H locs X => ?_)
  refine lv_icmp_eq (tgt := 1066) C.1 C.2.1 dL_law_650 (by decide) (fun _ => ?_) (fun hq => absurd rfl hq)
  exact W.widen (Nat.le_trans (Nat.le_of_eq (Nat.add_assoc _ _ _)) (Nat.add_le_add_left (by decide) _)) (Nat.le_trans (Nat.le_of_eq (Nat.add_assoc _ _ _)) (Nat.add_le_add_left (by decide) _)) (kk H locs X)
set_option maxRecDepth 100000 in
set_option maxHeartbeats 4000000 in
theorem law_c15 {p : Program} {l : Launch} {e : Env} {s : State} {m : MethodId} {below : List Frame} {meth : Method} {c : Code} {D : va_G} {ct : Nat → ClassId} {bs b L : Nat} {xs : Nat → Int32} {Q : State → Prop} (C : jq_C p s m #[Value.ref b] c code 4 RL D ct bs) (hX : va_X b L xs s s.heap) (hbl : b < s.heap.size) (hbA : ¬ bs ≤ b) {x3 : Int32} (hi1 : vp_in (x3 + 1) L) (hi2 : vp_in (x3 + 2) L) (hi3 : vp_in (x3 + 3) L) (hi4 : vp_in (x3 + 4) L) (hi5 : vp_in (x3 + 5) L) {ax am n : Nat} {h hA hB : jq_H} {r : Int32} {H : Heap} {locs : List Loc} {ls : Array Slot} (X : jq_X bs D ct s.heap h H locs) (hl : lv_has ls 4 [(0, .ref b), (1, .ref ax), (2, .ref am), (3, .int x3)]) {cells slots : Nat} (hcl : cells + 15 ≤ room_1.cells) (hsl : slots + 2481 ≤ room_1.slots) (e1 : jq_ci h ax = 9) (e2 : X10_clashes n h ax (xs (x3 + 1).toNatClampNeg) = some (r, hA)) (e3 : jq_ci hA am = 10) (e4 : X11_clashes n hA am (xs (x3 + 1).toNatClampNeg) = some (r, hB)) (kk : ∀ H1 locs1, jq_X bs D ct s.heap hB H1 locs1 → W p l e room_1 s m #[Value.ref b] below meth c H1 locs1 (cells + 15) (slots + 2481) Q (F0 m 1066 ls [])) : W p l e room_1 s m #[Value.ref b] below meth c H locs cells slots Q (F0 m 655 ls []) := by
  refine lv_aload_n C.1 C.2.1 dL_law_655 rfl (lv_at hl 1 rfl) ?_
  refine lv_aload_n C.1 C.2.1 dL_law_656 rfl (lv_at hl 0 rfl) ?_
  refine lv_iload_n C.1 C.2.1 dL_law_657 rfl (lv_at hl 3 rfl) ?_
  refine lv_iconst (v := 1) C.1 C.2.1 dL_law_658 (by decide) ?_
  refine lv_iadd C.1 C.2.1 dL_law_659 ?_
  refine va_sld C.1 C.2.1 hX hbl hbA X.2 hi1 dL_law_660 ?_
  refine jq_gi (jq_runV (a := ax) (av := [.int (xs (x3 + 1).toNatClampNeg)]) C X (M_X10_clashes l bs D ct n h ax (xs (x3 + 1).toNatClampNeg) _ e2) mf_X10_clashes gw_626 gw_627 (Or.inl gw_625) rc_X10 e1 (by decide) rfl hl.1 rfl (Nat.le_of_ble_eq_true rfl) ⟨by decide, by decide⟩ ⟨Nat.le_trans (Nat.add_le_add_left (by decide) _) hcl, Nat.le_trans (Nat.add_le_add_left (by decide) _) hsl⟩ dL_law_661) X (fun H locs X => ?_)
  refine lv_aload_n C.1 C.2.1 dL_law_664 rfl (lv_at hl 2 rfl) ?_
  refine lv_aload_n C.1 C.2.1 dL_law_665 rfl (lv_at hl 0 rfl) ?_
  refine lv_iload_n C.1 C.2.1 dL_law_666 rfl (lv_at hl 3 rfl) ?_
  refine lv_iconst (v := 1) C.1 C.2.1 dL_law_667 (by decide) ?_
  refine lv_iadd C.1 C.2.1 dL_law_668 ?_
  refine va_sld C.1 C.2.1 hX hbl hbA X.2 hi1 dL_law_669 ?_
  refine jq_gi (jq_runV (a := am) (av := [.int (xs (x3 + 1).toNatClampNeg)]) C X (M_X11_clashes l bs D ct n hA am (xs (x3 + 1).toNatClampNeg) _ e4) mf_X11_clashes gw_968 gw_969 (Or.inl gw_967) rc_X11 e3 (by decide) rfl hl.1 rfl (Nat.le_of_ble_eq_true rfl) ⟨by decide, by decide⟩ ⟨Nat.le_trans (Nat.le_trans (Nat.le_of_eq (Nat.add_assoc _ _ _)) (Nat.add_le_add_left (by decide) _)) hcl, Nat.le_trans (Nat.le_trans (Nat.le_of_eq (Nat.add_assoc _ _ _)) (Nat.add_le_add_left (by decide) _)) hsl⟩ dL_law_670) X (fun H locs X => ?_)
  refine lv_icmp_eq (tgt := 1066) C.1 C.2.1 dL_law_673 (by decide) (fun _ => ?_) (fun hq => absurd rfl hq)
  exact W.widen (Nat.le_trans (Nat.le_of_eq (Nat.add_assoc _ _ _)) (Nat.add_le_add_left (by decide) _)) (Nat.le_trans (Nat.le_of_eq (Nat.add_assoc _ _ _)) (Nat.add_le_add_left (by decide) _)) (kk H locs X)
set_option maxRecDepth 100000 in
set_option maxHeartbeats 4000000 in
theorem law_c16 {p : Program} {l : Launch} {e : Env} {s : State} {m : MethodId} {below : List Frame} {meth : Method} {c : Code} {D : va_G} {ct : Nat → ClassId} {bs b L : Nat} {xs : Nat → Int32} {Q : State → Prop} (C : jq_C p s m #[Value.ref b] c code 4 RL D ct bs) (hX : va_X b L xs s s.heap) (hbl : b < s.heap.size) (hbA : ¬ bs ≤ b) {x3 : Int32} (hi1 : vp_in (x3 + 1) L) (hi2 : vp_in (x3 + 2) L) (hi3 : vp_in (x3 + 3) L) (hi4 : vp_in (x3 + 4) L) (hi5 : vp_in (x3 + 5) L) {ax am n : Nat} {h hA hB : jq_H} {r : Int32} {H : Heap} {locs : List Loc} {ls : Array Slot} (X : jq_X bs D ct s.heap h H locs) (hl : lv_has ls 4 [(0, .ref b), (1, .ref ax), (2, .ref am), (3, .int x3)]) {cells slots : Nat} (hcl : cells + 15 ≤ room_1.cells) (hsl : slots + 2481 ≤ room_1.slots) (e1 : jq_ci h ax = 9) (e2 : X10_pair n h ax (xs (x3 + 1).toNatClampNeg) (xs (x3 + 2).toNatClampNeg) = some (r, hA)) (e3 : jq_ci hA am = 10) (e4 : X11_pair n hA am (xs (x3 + 1).toNatClampNeg) (xs (x3 + 2).toNatClampNeg) = some (r, hB)) (kk : ∀ H1 locs1, jq_X bs D ct s.heap hB H1 locs1 → W p l e room_1 s m #[Value.ref b] below meth c H1 locs1 (cells + 15) (slots + 2481) Q (F0 m 1066 ls [])) : W p l e room_1 s m #[Value.ref b] below meth c H locs cells slots Q (F0 m 678 ls []) := by
  refine lv_aload_n C.1 C.2.1 dL_law_678 rfl (lv_at hl 1 rfl) ?_
  refine lv_aload_n C.1 C.2.1 dL_law_679 rfl (lv_at hl 0 rfl) ?_
  refine lv_iload_n C.1 C.2.1 dL_law_680 rfl (lv_at hl 3 rfl) ?_
  refine lv_iconst (v := 1) C.1 C.2.1 dL_law_681 (by decide) ?_
  refine lv_iadd C.1 C.2.1 dL_law_682 ?_
  refine va_sld C.1 C.2.1 hX hbl hbA X.2 hi1 dL_law_683 ?_
  refine lv_aload_n C.1 C.2.1 dL_law_684 rfl (lv_at hl 0 rfl) ?_
  refine lv_iload_n C.1 C.2.1 dL_law_685 rfl (lv_at hl 3 rfl) ?_
  refine lv_iconst (v := 2) C.1 C.2.1 dL_law_686 (by decide) ?_
  refine lv_iadd C.1 C.2.1 dL_law_687 ?_
  refine va_sld C.1 C.2.1 hX hbl hbA X.2 hi2 dL_law_688 ?_
  refine jq_gi (jq_runV (a := ax) (av := [.int (xs (x3 + 1).toNatClampNeg), .int (xs (x3 + 2).toNatClampNeg)]) C X (M_X10_pair l bs D ct n h ax (xs (x3 + 1).toNatClampNeg) (xs (x3 + 2).toNatClampNeg) _ e2) mf_X10_pair gw_640 gw_641 (Or.inl gw_639) rc_X10 e1 (by decide) rfl hl.1 rfl (Nat.le_of_ble_eq_true rfl) ⟨by decide, by decide⟩ ⟨Nat.le_trans (Nat.add_le_add_left (by decide) _) hcl, Nat.le_trans (Nat.add_le_add_left (by decide) _) hsl⟩ dL_law_689) X (fun H locs X => ?_)
  refine lv_aload_n C.1 C.2.1 dL_law_692 rfl (lv_at hl 2 rfl) ?_
  refine lv_aload_n C.1 C.2.1 dL_law_693 rfl (lv_at hl 0 rfl) ?_
  refine lv_iload_n C.1 C.2.1 dL_law_694 rfl (lv_at hl 3 rfl) ?_
  refine lv_iconst (v := 1) C.1 C.2.1 dL_law_695 (by decide) ?_
  refine lv_iadd C.1 C.2.1 dL_law_696 ?_
  refine va_sld C.1 C.2.1 hX hbl hbA X.2 hi1 dL_law_697 ?_
  refine lv_aload_n C.1 C.2.1 dL_law_698 rfl (lv_at hl 0 rfl) ?_
  refine lv_iload_n C.1 C.2.1 dL_law_699 rfl (lv_at hl 3 rfl) ?_
  refine lv_iconst (v := 2) C.1 C.2.1 dL_law_700 (by decide) ?_
  refine lv_iadd C.1 C.2.1 dL_law_701 ?_
  refine va_sld C.1 C.2.1 hX hbl hbA X.2 hi2 dL_law_702 ?_
  refine jq_gi (jq_runV (a := am) (av := [.int (xs (x3 + 1).toNatClampNeg), .int (xs (x3 + 2).toNatClampNeg)]) C X (M_X11_pair l bs D ct n hA am (xs (x3 + 1).toNatClampNeg) (xs (x3 + 2).toNatClampNeg) _ e4) mf_X11_pair gw_972 gw_973 (Or.inl gw_971) rc_X11 e3 (by decide) rfl hl.1 rfl (Nat.le_of_ble_eq_true rfl) ⟨by decide, by decide⟩ ⟨Nat.le_trans (Nat.le_trans (Nat.le_of_eq (Nat.add_assoc _ _ _)) (Nat.add_le_add_left (by decide) _)) hcl, Nat.le_trans (Nat.le_trans (Nat.le_of_eq (Nat.add_assoc _ _ _)) (Nat.add_le_add_left (by decide) _)) hsl⟩ dL_law_703) X (fun H locs X => ?_)
  refine lv_icmp_eq (tgt := 1066) C.1 C.2.1 dL_law_706 (by decide) (fun _ => ?_) (fun hq => absurd rfl hq)
  exact W.widen (Nat.le_trans (Nat.le_of_eq (Nat.add_assoc _ _ _)) (Nat.add_le_add_left (by decide) _)) (Nat.le_trans (Nat.le_of_eq (Nat.add_assoc _ _ _)) (Nat.add_le_add_left (by decide) _)) (kk H locs X)
set_option maxRecDepth 100000 in
set_option maxHeartbeats 4000000 in
theorem law_c17 {p : Program} {l : Launch} {e : Env} {s : State} {m : MethodId} {below : List Frame} {meth : Method} {c : Code} {D : va_G} {ct : Nat → ClassId} {bs b L : Nat} {xs : Nat → Int32} {Q : State → Prop} (C : jq_C p s m #[Value.ref b] c code 4 RL D ct bs) (hX : va_X b L xs s s.heap) (hbl : b < s.heap.size) (hbA : ¬ bs ≤ b) {x3 : Int32} (hi1 : vp_in (x3 + 1) L) (hi2 : vp_in (x3 + 2) L) (hi3 : vp_in (x3 + 3) L) (hi4 : vp_in (x3 + 4) L) (hi5 : vp_in (x3 + 5) L) {ax am n : Nat} {h hA hB : jq_H} {r : Int32} {H : Heap} {locs : List Loc} {ls : Array Slot} (X : jq_X bs D ct s.heap h H locs) (hl : lv_has ls 4 [(0, .ref b), (1, .ref ax), (2, .ref am), (3, .int x3)]) {cells slots : Nat} (hcl : cells + 15 ≤ room_1.cells) (hsl : slots + 2481 ≤ room_1.slots) (e1 : jq_ci h ax = 9) (e2 : X10_inside n h ax (xs (x3 + 1).toNatClampNeg) (xs (x3 + 2).toNatClampNeg) (xs (x3 + 3).toNatClampNeg) = some (r, hA)) (e3 : jq_ci hA am = 10) (e4 : X11_inside n hA am (xs (x3 + 1).toNatClampNeg) (xs (x3 + 2).toNatClampNeg) (xs (x3 + 3).toNatClampNeg) = some (r, hB)) (kk : ∀ H1 locs1, jq_X bs D ct s.heap hB H1 locs1 → W p l e room_1 s m #[Value.ref b] below meth c H1 locs1 (cells + 15) (slots + 2481) Q (F0 m 1066 ls [])) : W p l e room_1 s m #[Value.ref b] below meth c H locs cells slots Q (F0 m 711 ls []) := by
  refine lv_aload_n C.1 C.2.1 dL_law_711 rfl (lv_at hl 1 rfl) ?_
  refine lv_aload_n C.1 C.2.1 dL_law_712 rfl (lv_at hl 0 rfl) ?_
  refine lv_iload_n C.1 C.2.1 dL_law_713 rfl (lv_at hl 3 rfl) ?_
  refine lv_iconst (v := 1) C.1 C.2.1 dL_law_714 (by decide) ?_
  refine lv_iadd C.1 C.2.1 dL_law_715 ?_
  refine va_sld C.1 C.2.1 hX hbl hbA X.2 hi1 dL_law_716 ?_
  refine lv_aload_n C.1 C.2.1 dL_law_717 rfl (lv_at hl 0 rfl) ?_
  refine lv_iload_n C.1 C.2.1 dL_law_718 rfl (lv_at hl 3 rfl) ?_
  refine lv_iconst (v := 2) C.1 C.2.1 dL_law_719 (by decide) ?_
  refine lv_iadd C.1 C.2.1 dL_law_720 ?_
  refine va_sld C.1 C.2.1 hX hbl hbA X.2 hi2 dL_law_721 ?_
  refine lv_aload_n C.1 C.2.1 dL_law_722 rfl (lv_at hl 0 rfl) ?_
  refine lv_iload_n C.1 C.2.1 dL_law_723 rfl (lv_at hl 3 rfl) ?_
  refine lv_iconst (v := 3) C.1 C.2.1 dL_law_724 (by decide) ?_
  refine lv_iadd C.1 C.2.1 dL_law_725 ?_
  refine va_sld C.1 C.2.1 hX hbl hbA X.2 hi3 dL_law_726 ?_
  refine jq_gi (jq_runV (a := ax) (av := [.int (xs (x3 + 1).toNatClampNeg), .int (xs (x3 + 2).toNatClampNeg), .int (xs (x3 + 3).toNatClampNeg)]) C X (M_X10_inside l bs D ct n h ax (xs (x3 + 1).toNatClampNeg) (xs (x3 + 2).toNatClampNeg) (xs (x3 + 3).toNatClampNeg) _ e2) mf_X10_inside gw_644 gw_645 (Or.inl gw_643) rc_X10 e1 (by decide) rfl hl.1 rfl (Nat.le_of_ble_eq_true rfl) ⟨by decide, by decide⟩ ⟨Nat.le_trans (Nat.add_le_add_left (by decide) _) hcl, Nat.le_trans (Nat.add_le_add_left (by decide) _) hsl⟩ dL_law_727) X (fun H locs X => ?_)
  refine lv_aload_n C.1 C.2.1 dL_law_730 rfl (lv_at hl 2 rfl) ?_
  refine lv_aload_n C.1 C.2.1 dL_law_731 rfl (lv_at hl 0 rfl) ?_
  refine lv_iload_n C.1 C.2.1 dL_law_732 rfl (lv_at hl 3 rfl) ?_
  refine lv_iconst (v := 1) C.1 C.2.1 dL_law_733 (by decide) ?_
  refine lv_iadd C.1 C.2.1 dL_law_734 ?_
  refine va_sld C.1 C.2.1 hX hbl hbA X.2 hi1 dL_law_735 ?_
  refine lv_aload_n C.1 C.2.1 dL_law_736 rfl (lv_at hl 0 rfl) ?_
  refine lv_iload_n C.1 C.2.1 dL_law_737 rfl (lv_at hl 3 rfl) ?_
  refine lv_iconst (v := 2) C.1 C.2.1 dL_law_738 (by decide) ?_
  refine lv_iadd C.1 C.2.1 dL_law_739 ?_
  refine va_sld C.1 C.2.1 hX hbl hbA X.2 hi2 dL_law_740 ?_
  refine lv_aload_n C.1 C.2.1 dL_law_741 rfl (lv_at hl 0 rfl) ?_
  refine lv_iload_n C.1 C.2.1 dL_law_742 rfl (lv_at hl 3 rfl) ?_
  refine lv_iconst (v := 3) C.1 C.2.1 dL_law_743 (by decide) ?_
  refine lv_iadd C.1 C.2.1 dL_law_744 ?_
  refine va_sld C.1 C.2.1 hX hbl hbA X.2 hi3 dL_law_745 ?_
  refine jq_gi (jq_runV (a := am) (av := [.int (xs (x3 + 1).toNatClampNeg), .int (xs (x3 + 2).toNatClampNeg), .int (xs (x3 + 3).toNatClampNeg)]) C X (M_X11_inside l bs D ct n hA am (xs (x3 + 1).toNatClampNeg) (xs (x3 + 2).toNatClampNeg) (xs (x3 + 3).toNatClampNeg) _ e4) mf_X11_inside gw_976 gw_977 (Or.inl gw_975) rc_X11 e3 (by decide) rfl hl.1 rfl (Nat.le_of_ble_eq_true rfl) ⟨by decide, by decide⟩ ⟨Nat.le_trans (Nat.le_trans (Nat.le_of_eq (Nat.add_assoc _ _ _)) (Nat.add_le_add_left (by decide) _)) hcl, Nat.le_trans (Nat.le_trans (Nat.le_of_eq (Nat.add_assoc _ _ _)) (Nat.add_le_add_left (by decide) _)) hsl⟩ dL_law_746) X (fun H locs X => ?_)
  refine lv_icmp_eq (tgt := 1066) C.1 C.2.1 dL_law_749 (by decide) (fun _ => ?_) (fun hq => absurd rfl hq)
  exact W.widen (Nat.le_trans (Nat.le_of_eq (Nat.add_assoc _ _ _)) (Nat.add_le_add_left (by decide) _)) (Nat.le_trans (Nat.le_of_eq (Nat.add_assoc _ _ _)) (Nat.add_le_add_left (by decide) _)) (kk H locs X)
set_option maxRecDepth 100000 in
set_option maxHeartbeats 4000000 in
theorem law_c18 {p : Program} {l : Launch} {e : Env} {s : State} {m : MethodId} {below : List Frame} {meth : Method} {c : Code} {D : va_G} {ct : Nat → ClassId} {bs b L : Nat} {xs : Nat → Int32} {Q : State → Prop} (C : jq_C p s m #[Value.ref b] c code 4 RL D ct bs) (hX : va_X b L xs s s.heap) (hbl : b < s.heap.size) (hbA : ¬ bs ≤ b) {x3 : Int32} (hi1 : vp_in (x3 + 1) L) (hi2 : vp_in (x3 + 2) L) (hi3 : vp_in (x3 + 3) L) (hi4 : vp_in (x3 + 4) L) (hi5 : vp_in (x3 + 5) L) {ax am n : Nat} {h hA hB : jq_H} {r : Int32} {H : Heap} {locs : List Loc} {ls : Array Slot} (X : jq_X bs D ct s.heap h H locs) (hl : lv_has ls 4 [(0, .ref b), (1, .ref ax), (2, .ref am), (3, .int x3)]) {cells slots : Nat} (hcl : cells + 15 ≤ room_1.cells) (hsl : slots + 2481 ≤ room_1.slots) (e1 : jq_ci h ax = 9) (e2 : X10_fresh n h ax (xs (x3 + 1).toNatClampNeg) = some (r, hA)) (e3 : jq_ci hA am = 10) (e4 : X11_fresh n hA am (xs (x3 + 1).toNatClampNeg) = some (r, hB)) (kk : ∀ H1 locs1, jq_X bs D ct s.heap hB H1 locs1 → W p l e room_1 s m #[Value.ref b] below meth c H1 locs1 (cells + 15) (slots + 2481) Q (F0 m 1066 ls [])) : W p l e room_1 s m #[Value.ref b] below meth c H locs cells slots Q (F0 m 754 ls []) := by
  refine lv_aload_n C.1 C.2.1 dL_law_754 rfl (lv_at hl 1 rfl) ?_
  refine lv_aload_n C.1 C.2.1 dL_law_755 rfl (lv_at hl 0 rfl) ?_
  refine lv_iload_n C.1 C.2.1 dL_law_756 rfl (lv_at hl 3 rfl) ?_
  refine lv_iconst (v := 1) C.1 C.2.1 dL_law_757 (by decide) ?_
  refine lv_iadd C.1 C.2.1 dL_law_758 ?_
  refine va_sld C.1 C.2.1 hX hbl hbA X.2 hi1 dL_law_759 ?_
  refine jq_gi (jq_runV (a := ax) (av := [.int (xs (x3 + 1).toNatClampNeg)]) C X (M_X10_fresh l bs D ct n h ax (xs (x3 + 1).toNatClampNeg) _ e2) mf_X10_fresh gw_661 gw_662 (Or.inl gw_660) rc_X10 e1 (by decide) rfl hl.1 rfl (Nat.le_of_ble_eq_true rfl) ⟨by decide, by decide⟩ ⟨Nat.le_trans (Nat.add_le_add_left (by decide) _) hcl, Nat.le_trans (Nat.add_le_add_left (by decide) _) hsl⟩ dL_law_760) X (fun H locs X => ?_)
  refine lv_aload_n C.1 C.2.1 dL_law_763 rfl (lv_at hl 2 rfl) ?_
  refine lv_aload_n C.1 C.2.1 dL_law_764 rfl (lv_at hl 0 rfl) ?_
  refine lv_iload_n C.1 C.2.1 dL_law_765 rfl (lv_at hl 3 rfl) ?_
  refine lv_iconst (v := 1) C.1 C.2.1 dL_law_766 (by decide) ?_
  refine lv_iadd C.1 C.2.1 dL_law_767 ?_
  refine va_sld C.1 C.2.1 hX hbl hbA X.2 hi1 dL_law_768 ?_
  refine jq_gi (jq_runV (a := am) (av := [.int (xs (x3 + 1).toNatClampNeg)]) C X (M_X11_fresh l bs D ct n hA am (xs (x3 + 1).toNatClampNeg) _ e4) mf_X11_fresh gw_980 gw_981 (Or.inl gw_979) rc_X11 e3 (by decide) rfl hl.1 rfl (Nat.le_of_ble_eq_true rfl) ⟨by decide, by decide⟩ ⟨Nat.le_trans (Nat.le_trans (Nat.le_of_eq (Nat.add_assoc _ _ _)) (Nat.add_le_add_left (by decide) _)) hcl, Nat.le_trans (Nat.le_trans (Nat.le_of_eq (Nat.add_assoc _ _ _)) (Nat.add_le_add_left (by decide) _)) hsl⟩ dL_law_769) X (fun H locs X => ?_)
  refine lv_icmp_eq (tgt := 1066) C.1 C.2.1 dL_law_772 (by decide) (fun _ => ?_) (fun hq => absurd rfl hq)
  exact W.widen (Nat.le_trans (Nat.le_of_eq (Nat.add_assoc _ _ _)) (Nat.add_le_add_left (by decide) _)) (Nat.le_trans (Nat.le_of_eq (Nat.add_assoc _ _ _)) (Nat.add_le_add_left (by decide) _)) (kk H locs X)
set_option maxRecDepth 100000 in
set_option maxHeartbeats 4000000 in
theorem law_c19 {p : Program} {l : Launch} {e : Env} {s : State} {m : MethodId} {below : List Frame} {meth : Method} {c : Code} {D : va_G} {ct : Nat → ClassId} {bs b L : Nat} {xs : Nat → Int32} {Q : State → Prop} (C : jq_C p s m #[Value.ref b] c code 4 RL D ct bs) (hX : va_X b L xs s s.heap) (hbl : b < s.heap.size) (hbA : ¬ bs ≤ b) {x3 : Int32} (hi1 : vp_in (x3 + 1) L) (hi2 : vp_in (x3 + 2) L) (hi3 : vp_in (x3 + 3) L) (hi4 : vp_in (x3 + 4) L) (hi5 : vp_in (x3 + 5) L) {ax am n : Nat} {h hA hB : jq_H} {r : Int32} {H : Heap} {locs : List Loc} {ls : Array Slot} (X : jq_X bs D ct s.heap h H locs) (hl : lv_has ls 4 [(0, .ref b), (1, .ref ax), (2, .ref am), (3, .int x3)]) {cells slots : Nat} (hcl : cells + 15 ≤ room_1.cells) (hsl : slots + 2481 ≤ room_1.slots) (e1 : jq_ci h ax = 9) (e2 : X10_again n h ax (xs (x3 + 1).toNatClampNeg) = some (r, hA)) (e3 : jq_ci hA am = 10) (e4 : X11_again n hA am (xs (x3 + 1).toNatClampNeg) = some (r, hB)) (kk : ∀ H1 locs1, jq_X bs D ct s.heap hB H1 locs1 → W p l e room_1 s m #[Value.ref b] below meth c H1 locs1 (cells + 15) (slots + 2481) Q (F0 m 1066 ls [])) : W p l e room_1 s m #[Value.ref b] below meth c H locs cells slots Q (F0 m 777 ls []) := by
  refine lv_aload_n C.1 C.2.1 dL_law_777 rfl (lv_at hl 1 rfl) ?_
  refine lv_aload_n C.1 C.2.1 dL_law_778 rfl (lv_at hl 0 rfl) ?_
  refine lv_iload_n C.1 C.2.1 dL_law_779 rfl (lv_at hl 3 rfl) ?_
  refine lv_iconst (v := 1) C.1 C.2.1 dL_law_780 (by decide) ?_
  refine lv_iadd C.1 C.2.1 dL_law_781 ?_
  refine va_sld C.1 C.2.1 hX hbl hbA X.2 hi1 dL_law_782 ?_
  refine jq_gi (jq_runV (a := ax) (av := [.int (xs (x3 + 1).toNatClampNeg)]) C X (M_X10_again l bs D ct n h ax (xs (x3 + 1).toNatClampNeg) _ e2) mf_X10_again gw_675 gw_676 (Or.inl gw_674) rc_X10 e1 (by decide) rfl hl.1 rfl (Nat.le_of_ble_eq_true rfl) ⟨by decide, by decide⟩ ⟨Nat.le_trans (Nat.add_le_add_left (by decide) _) hcl, Nat.le_trans (Nat.add_le_add_left (by decide) _) hsl⟩ dL_law_783) X (fun H locs X => ?_)
  refine lv_aload_n C.1 C.2.1 dL_law_786 rfl (lv_at hl 2 rfl) ?_
  refine lv_aload_n C.1 C.2.1 dL_law_787 rfl (lv_at hl 0 rfl) ?_
  refine lv_iload_n C.1 C.2.1 dL_law_788 rfl (lv_at hl 3 rfl) ?_
  refine lv_iconst (v := 1) C.1 C.2.1 dL_law_789 (by decide) ?_
  refine lv_iadd C.1 C.2.1 dL_law_790 ?_
  refine va_sld C.1 C.2.1 hX hbl hbA X.2 hi1 dL_law_791 ?_
  refine jq_gi (jq_runV (a := am) (av := [.int (xs (x3 + 1).toNatClampNeg)]) C X (M_X11_again l bs D ct n hA am (xs (x3 + 1).toNatClampNeg) _ e4) mf_X11_again gw_984 gw_985 (Or.inl gw_983) rc_X11 e3 (by decide) rfl hl.1 rfl (Nat.le_of_ble_eq_true rfl) ⟨by decide, by decide⟩ ⟨Nat.le_trans (Nat.le_trans (Nat.le_of_eq (Nat.add_assoc _ _ _)) (Nat.add_le_add_left (by decide) _)) hcl, Nat.le_trans (Nat.le_trans (Nat.le_of_eq (Nat.add_assoc _ _ _)) (Nat.add_le_add_left (by decide) _)) hsl⟩ dL_law_792) X (fun H locs X => ?_)
  refine lv_icmp_eq (tgt := 1066) C.1 C.2.1 dL_law_795 (by decide) (fun _ => ?_) (fun hq => absurd rfl hq)
  exact W.widen (Nat.le_trans (Nat.le_of_eq (Nat.add_assoc _ _ _)) (Nat.add_le_add_left (by decide) _)) (Nat.le_trans (Nat.le_of_eq (Nat.add_assoc _ _ _)) (Nat.add_le_add_left (by decide) _)) (kk H locs X)
set_option maxRecDepth 100000 in
set_option maxHeartbeats 4000000 in
theorem law_c20 {p : Program} {l : Launch} {e : Env} {s : State} {m : MethodId} {below : List Frame} {meth : Method} {c : Code} {D : va_G} {ct : Nat → ClassId} {bs b L : Nat} {xs : Nat → Int32} {Q : State → Prop} (C : jq_C p s m #[Value.ref b] c code 4 RL D ct bs) (hX : va_X b L xs s s.heap) (hbl : b < s.heap.size) (hbA : ¬ bs ≤ b) {x3 : Int32} (hi1 : vp_in (x3 + 1) L) (hi2 : vp_in (x3 + 2) L) (hi3 : vp_in (x3 + 3) L) (hi4 : vp_in (x3 + 4) L) (hi5 : vp_in (x3 + 5) L) {ax am n : Nat} {h hA hB : jq_H} {r : Int32} {H : Heap} {locs : List Loc} {ls : Array Slot} (X : jq_X bs D ct s.heap h H locs) (hl : lv_has ls 4 [(0, .ref b), (1, .ref ax), (2, .ref am), (3, .int x3)]) {cells slots : Nat} (hcl : cells + 15 ≤ room_1.cells) (hsl : slots + 2481 ≤ room_1.slots) (e1 : jq_ci h ax = 9) (e2 : X10_keep n h ax (xs (x3 + 1).toNatClampNeg) (xs (x3 + 2).toNatClampNeg) = some (r, hA)) (e3 : jq_ci hA am = 10) (e4 : X11_keep n hA am (xs (x3 + 1).toNatClampNeg) (xs (x3 + 2).toNatClampNeg) = some (r, hB)) (kk : ∀ H1 locs1, jq_X bs D ct s.heap hB H1 locs1 → W p l e room_1 s m #[Value.ref b] below meth c H1 locs1 (cells + 15) (slots + 2481) Q (F0 m 1066 ls [])) : W p l e room_1 s m #[Value.ref b] below meth c H locs cells slots Q (F0 m 800 ls []) := by
  refine lv_aload_n C.1 C.2.1 dL_law_800 rfl (lv_at hl 1 rfl) ?_
  refine lv_aload_n C.1 C.2.1 dL_law_801 rfl (lv_at hl 0 rfl) ?_
  refine lv_iload_n C.1 C.2.1 dL_law_802 rfl (lv_at hl 3 rfl) ?_
  refine lv_iconst (v := 1) C.1 C.2.1 dL_law_803 (by decide) ?_
  refine lv_iadd C.1 C.2.1 dL_law_804 ?_
  refine va_sld C.1 C.2.1 hX hbl hbA X.2 hi1 dL_law_805 ?_
  refine lv_aload_n C.1 C.2.1 dL_law_806 rfl (lv_at hl 0 rfl) ?_
  refine lv_iload_n C.1 C.2.1 dL_law_807 rfl (lv_at hl 3 rfl) ?_
  refine lv_iconst (v := 2) C.1 C.2.1 dL_law_808 (by decide) ?_
  refine lv_iadd C.1 C.2.1 dL_law_809 ?_
  refine va_sld C.1 C.2.1 hX hbl hbA X.2 hi2 dL_law_810 ?_
  refine jq_gi (jq_runV (a := ax) (av := [.int (xs (x3 + 1).toNatClampNeg), .int (xs (x3 + 2).toNatClampNeg)]) C X (M_X10_keep l bs D ct n h ax (xs (x3 + 1).toNatClampNeg) (xs (x3 + 2).toNatClampNeg) _ e2) mf_X10_keep gw_698 gw_699 (Or.inl gw_697) rc_X10 e1 (by decide) rfl hl.1 rfl (Nat.le_of_ble_eq_true rfl) ⟨by decide, by decide⟩ ⟨Nat.le_trans (Nat.add_le_add_left (by decide) _) hcl, Nat.le_trans (Nat.add_le_add_left (by decide) _) hsl⟩ dL_law_811) X (fun H locs X => ?_)
  refine lv_aload_n C.1 C.2.1 dL_law_814 rfl (lv_at hl 2 rfl) ?_
  refine lv_aload_n C.1 C.2.1 dL_law_815 rfl (lv_at hl 0 rfl) ?_
  refine lv_iload_n C.1 C.2.1 dL_law_816 rfl (lv_at hl 3 rfl) ?_
  refine lv_iconst (v := 1) C.1 C.2.1 dL_law_817 (by decide) ?_
  refine lv_iadd C.1 C.2.1 dL_law_818 ?_
  refine va_sld C.1 C.2.1 hX hbl hbA X.2 hi1 dL_law_819 ?_
  refine lv_aload_n C.1 C.2.1 dL_law_820 rfl (lv_at hl 0 rfl) ?_
  refine lv_iload_n C.1 C.2.1 dL_law_821 rfl (lv_at hl 3 rfl) ?_
  refine lv_iconst (v := 2) C.1 C.2.1 dL_law_822 (by decide) ?_
  refine lv_iadd C.1 C.2.1 dL_law_823 ?_
  refine va_sld C.1 C.2.1 hX hbl hbA X.2 hi2 dL_law_824 ?_
  refine jq_gi (jq_runV (a := am) (av := [.int (xs (x3 + 1).toNatClampNeg), .int (xs (x3 + 2).toNatClampNeg)]) C X (M_X11_keep l bs D ct n hA am (xs (x3 + 1).toNatClampNeg) (xs (x3 + 2).toNatClampNeg) _ e4) mf_X11_keep gw_988 gw_989 (Or.inl gw_987) rc_X11 e3 (by decide) rfl hl.1 rfl (Nat.le_of_ble_eq_true rfl) ⟨by decide, by decide⟩ ⟨Nat.le_trans (Nat.le_trans (Nat.le_of_eq (Nat.add_assoc _ _ _)) (Nat.add_le_add_left (by decide) _)) hcl, Nat.le_trans (Nat.le_trans (Nat.le_of_eq (Nat.add_assoc _ _ _)) (Nat.add_le_add_left (by decide) _)) hsl⟩ dL_law_825) X (fun H locs X => ?_)
  refine lv_icmp_eq (tgt := 1066) C.1 C.2.1 dL_law_828 (by decide) (fun _ => ?_) (fun hq => absurd rfl hq)
  exact W.widen (Nat.le_trans (Nat.le_of_eq (Nat.add_assoc _ _ _)) (Nat.add_le_add_left (by decide) _)) (Nat.le_trans (Nat.le_of_eq (Nat.add_assoc _ _ _)) (Nat.add_le_add_left (by decide) _)) (kk H locs X)
set_option maxRecDepth 100000 in
set_option maxHeartbeats 4000000 in
theorem law_c21 {p : Program} {l : Launch} {e : Env} {s : State} {m : MethodId} {below : List Frame} {meth : Method} {c : Code} {D : va_G} {ct : Nat → ClassId} {bs b L : Nat} {xs : Nat → Int32} {Q : State → Prop} (C : jq_C p s m #[Value.ref b] c code 4 RL D ct bs) (hX : va_X b L xs s s.heap) (hbl : b < s.heap.size) (hbA : ¬ bs ≤ b) {x3 : Int32} (hi1 : vp_in (x3 + 1) L) (hi2 : vp_in (x3 + 2) L) (hi3 : vp_in (x3 + 3) L) (hi4 : vp_in (x3 + 4) L) (hi5 : vp_in (x3 + 5) L) {ax am n : Nat} {h hA hB : jq_H} {r : Int32} {H : Heap} {locs : List Loc} {ls : Array Slot} (X : jq_X bs D ct s.heap h H locs) (hl : lv_has ls 4 [(0, .ref b), (1, .ref ax), (2, .ref am), (3, .int x3)]) {cells slots : Nat} (hcl : cells + 15 ≤ room_1.cells) (hsl : slots + 2481 ≤ room_1.slots) (e1 : jq_ci h ax = 9) (e2 : X10_back n h ax (xs (x3 + 1).toNatClampNeg) (xs (x3 + 2).toNatClampNeg) = some (r, hA)) (e3 : jq_ci hA am = 10) (e4 : X11_back n hA am (xs (x3 + 1).toNatClampNeg) (xs (x3 + 2).toNatClampNeg) = some (r, hB)) (kk : ∀ H1 locs1, jq_X bs D ct s.heap hB H1 locs1 → W p l e room_1 s m #[Value.ref b] below meth c H1 locs1 (cells + 15) (slots + 2481) Q (F0 m 1066 ls [])) : W p l e room_1 s m #[Value.ref b] below meth c H locs cells slots Q (F0 m 833 ls []) := by
  refine lv_aload_n C.1 C.2.1 dL_law_833 rfl (lv_at hl 1 rfl) ?_
  refine lv_aload_n C.1 C.2.1 dL_law_834 rfl (lv_at hl 0 rfl) ?_
  refine lv_iload_n C.1 C.2.1 dL_law_835 rfl (lv_at hl 3 rfl) ?_
  refine lv_iconst (v := 1) C.1 C.2.1 dL_law_836 (by decide) ?_
  refine lv_iadd C.1 C.2.1 dL_law_837 ?_
  refine va_sld C.1 C.2.1 hX hbl hbA X.2 hi1 dL_law_838 ?_
  refine lv_aload_n C.1 C.2.1 dL_law_839 rfl (lv_at hl 0 rfl) ?_
  refine lv_iload_n C.1 C.2.1 dL_law_840 rfl (lv_at hl 3 rfl) ?_
  refine lv_iconst (v := 2) C.1 C.2.1 dL_law_841 (by decide) ?_
  refine lv_iadd C.1 C.2.1 dL_law_842 ?_
  refine va_sld C.1 C.2.1 hX hbl hbA X.2 hi2 dL_law_843 ?_
  refine jq_gi (jq_runV (a := ax) (av := [.int (xs (x3 + 1).toNatClampNeg), .int (xs (x3 + 2).toNatClampNeg)]) C X (M_X10_back l bs D ct n h ax (xs (x3 + 1).toNatClampNeg) (xs (x3 + 2).toNatClampNeg) _ e2) mf_X10_back gw_704 gw_705 (Or.inl gw_703) rc_X10 e1 (by decide) rfl hl.1 rfl (Nat.le_of_ble_eq_true rfl) ⟨by decide, by decide⟩ ⟨Nat.le_trans (Nat.add_le_add_left (by decide) _) hcl, Nat.le_trans (Nat.add_le_add_left (by decide) _) hsl⟩ dL_law_844) X (fun H locs X => ?_)
  refine lv_aload_n C.1 C.2.1 dL_law_847 rfl (lv_at hl 2 rfl) ?_
  refine lv_aload_n C.1 C.2.1 dL_law_848 rfl (lv_at hl 0 rfl) ?_
  refine lv_iload_n C.1 C.2.1 dL_law_849 rfl (lv_at hl 3 rfl) ?_
  refine lv_iconst (v := 1) C.1 C.2.1 dL_law_850 (by decide) ?_
  refine lv_iadd C.1 C.2.1 dL_law_851 ?_
  refine va_sld C.1 C.2.1 hX hbl hbA X.2 hi1 dL_law_852 ?_
  refine lv_aload_n C.1 C.2.1 dL_law_853 rfl (lv_at hl 0 rfl) ?_
  refine lv_iload_n C.1 C.2.1 dL_law_854 rfl (lv_at hl 3 rfl) ?_
  refine lv_iconst (v := 2) C.1 C.2.1 dL_law_855 (by decide) ?_
  refine lv_iadd C.1 C.2.1 dL_law_856 ?_
  refine va_sld C.1 C.2.1 hX hbl hbA X.2 hi2 dL_law_857 ?_
  refine jq_gi (jq_runV (a := am) (av := [.int (xs (x3 + 1).toNatClampNeg), .int (xs (x3 + 2).toNatClampNeg)]) C X (M_X11_back l bs D ct n hA am (xs (x3 + 1).toNatClampNeg) (xs (x3 + 2).toNatClampNeg) _ e4) mf_X11_back gw_992 gw_993 (Or.inl gw_991) rc_X11 e3 (by decide) rfl hl.1 rfl (Nat.le_of_ble_eq_true rfl) ⟨by decide, by decide⟩ ⟨Nat.le_trans (Nat.le_trans (Nat.le_of_eq (Nat.add_assoc _ _ _)) (Nat.add_le_add_left (by decide) _)) hcl, Nat.le_trans (Nat.le_trans (Nat.le_of_eq (Nat.add_assoc _ _ _)) (Nat.add_le_add_left (by decide) _)) hsl⟩ dL_law_858) X (fun H locs X => ?_)
  refine lv_icmp_eq (tgt := 1066) C.1 C.2.1 dL_law_861 (by decide) (fun _ => ?_) (fun hq => absurd rfl hq)
  exact W.widen (Nat.le_trans (Nat.le_of_eq (Nat.add_assoc _ _ _)) (Nat.add_le_add_left (by decide) _)) (Nat.le_trans (Nat.le_of_eq (Nat.add_assoc _ _ _)) (Nat.add_le_add_left (by decide) _)) (kk H locs X)
set_option maxRecDepth 100000 in
set_option maxHeartbeats 4000000 in
theorem law_c22t {p : Program} {l : Launch} {e : Env} {s : State} {m : MethodId} {below : List Frame} {meth : Method} {c : Code} {D : va_G} {ct : Nat → ClassId} {bs b L : Nat} {xs : Nat → Int32} {Q : State → Prop} (C : jq_C p s m #[Value.ref b] c code 4 RL D ct bs) (hX : va_X b L xs s s.heap) (hbl : b < s.heap.size) (hbA : ¬ bs ≤ b) {x3 : Int32} (hi1 : vp_in (x3 + 1) L) (hi2 : vp_in (x3 + 2) L) (hi3 : vp_in (x3 + 3) L) (hi4 : vp_in (x3 + 4) L) (hi5 : vp_in (x3 + 5) L) {ax am n : Nat} {h hA hB : jq_H} {r : Int32} {H : Heap} {locs : List Loc} {ls : Array Slot} (X : jq_X bs D ct s.heap h H locs) (hl : lv_has ls 4 [(0, .ref b), (1, .ref ax), (2, .ref am), (3, .int x3)]) {cells slots : Nat} (hcl : cells + 15 ≤ room_1.cells) (hsl : slots + 2481 ≤ room_1.slots) (hz : (xs (x3 + 2).toNatClampNeg) = 0) (e1 : jq_ci h ax = 9) (e2 : X10_best n h ax (xs (x3 + 1).toNatClampNeg) 0 = some (r, hA)) (e3 : jq_ci hA am = 10) (e4 : X11_best n hA am (xs (x3 + 1).toNatClampNeg) 0 = some (r, hB)) (kk : ∀ H1 locs1, jq_X bs D ct s.heap hB H1 locs1 → W p l e room_1 s m #[Value.ref b] below meth c H1 locs1 (cells + 15) (slots + 2481) Q (F0 m 1066 ls [])) : W p l e room_1 s m #[Value.ref b] below meth c H locs cells slots Q (F0 m 866 ls []) := by
  refine lv_aload_n C.1 C.2.1 dL_law_866 rfl (lv_at hl 1 rfl) ?_
  refine lv_aload_n C.1 C.2.1 dL_law_867 rfl (lv_at hl 0 rfl) ?_
  refine lv_iload_n C.1 C.2.1 dL_law_868 rfl (lv_at hl 3 rfl) ?_
  refine lv_iconst (v := 1) C.1 C.2.1 dL_law_869 (by decide) ?_
  refine lv_iadd C.1 C.2.1 dL_law_870 ?_
  refine va_sld C.1 C.2.1 hX hbl hbA X.2 hi1 dL_law_871 ?_
  refine lv_aload_n C.1 C.2.1 dL_law_872 rfl (lv_at hl 0 rfl) ?_
  refine lv_iload_n C.1 C.2.1 dL_law_873 rfl (lv_at hl 3 rfl) ?_
  refine lv_iconst (v := 2) C.1 C.2.1 dL_law_874 (by decide) ?_
  refine lv_iadd C.1 C.2.1 dL_law_875 ?_
  refine va_sld C.1 C.2.1 hX hbl hbA X.2 hi2 dL_law_876 ?_
  refine lv_if_eq (tgt := 884) C.1 C.2.1 dL_law_877 (by decide) (fun hq => ?_) (fun hq => ?_)
  · refine lv_iconst (v := 0) C.1 C.2.1 dL_law_884 (by decide) ?_
    refine jq_gi (jq_runV (a := ax) (av := [.int (xs (x3 + 1).toNatClampNeg), .int 0]) C X (M_X10_best l bs D ct n h ax (xs (x3 + 1).toNatClampNeg) 0 _ e2) mf_X10_best gw_708 gw_709 (Or.inl gw_707) rc_X10 e1 (by decide) rfl hl.1 rfl (Nat.le_of_ble_eq_true rfl) ⟨by decide, by decide⟩ ⟨Nat.le_trans (Nat.add_le_add_left (by decide) _) hcl, Nat.le_trans (Nat.add_le_add_left (by decide) _) hsl⟩ dL_law_885) X (fun H locs X => ?_)
    refine lv_aload_n C.1 C.2.1 dL_law_888 rfl (lv_at hl 2 rfl) ?_
    refine lv_aload_n C.1 C.2.1 dL_law_889 rfl (lv_at hl 0 rfl) ?_
    refine lv_iload_n C.1 C.2.1 dL_law_890 rfl (lv_at hl 3 rfl) ?_
    refine lv_iconst (v := 1) C.1 C.2.1 dL_law_891 (by decide) ?_
    refine lv_iadd C.1 C.2.1 dL_law_892 ?_
    refine va_sld C.1 C.2.1 hX hbl hbA X.2 hi1 dL_law_893 ?_
    refine lv_aload_n C.1 C.2.1 dL_law_894 rfl (lv_at hl 0 rfl) ?_
    refine lv_iload_n C.1 C.2.1 dL_law_895 rfl (lv_at hl 3 rfl) ?_
    refine lv_iconst (v := 2) C.1 C.2.1 dL_law_896 (by decide) ?_
    refine lv_iadd C.1 C.2.1 dL_law_897 ?_
    refine va_sld C.1 C.2.1 hX hbl hbA X.2 hi2 dL_law_898 ?_
    refine lv_if_eq (tgt := 906) C.1 C.2.1 dL_law_899 (by decide) (fun hq => ?_) (fun hq => ?_)
    · refine lv_iconst (v := 0) C.1 C.2.1 dL_law_906 (by decide) ?_
      refine jq_gi (jq_runV (a := am) (av := [.int (xs (x3 + 1).toNatClampNeg), .int 0]) C X (M_X11_best l bs D ct n hA am (xs (x3 + 1).toNatClampNeg) 0 _ e4) mf_X11_best gw_996 gw_997 (Or.inl gw_995) rc_X11 e3 (by decide) rfl hl.1 rfl (Nat.le_of_ble_eq_true rfl) ⟨by decide, by decide⟩ ⟨Nat.le_trans (Nat.le_trans (Nat.le_of_eq (Nat.add_assoc _ _ _)) (Nat.add_le_add_left (by decide) _)) hcl, Nat.le_trans (Nat.le_trans (Nat.le_of_eq (Nat.add_assoc _ _ _)) (Nat.add_le_add_left (by decide) _)) hsl⟩ dL_law_907) X (fun H locs X => ?_)
      refine lv_icmp_eq (tgt := 1066) C.1 C.2.1 dL_law_910 (by decide) (fun _ => ?_) (fun hq => absurd rfl hq)
      exact W.widen (Nat.le_trans (Nat.le_of_eq (Nat.add_assoc _ _ _)) (Nat.add_le_add_left (by decide) _)) (Nat.le_trans (Nat.le_of_eq (Nat.add_assoc _ _ _)) (Nat.add_le_add_left (by decide) _)) (kk H locs X)
    · exact absurd hz hq
  · exact absurd hz hq
set_option maxRecDepth 100000 in
set_option maxHeartbeats 4000000 in
theorem law_c22f {p : Program} {l : Launch} {e : Env} {s : State} {m : MethodId} {below : List Frame} {meth : Method} {c : Code} {D : va_G} {ct : Nat → ClassId} {bs b L : Nat} {xs : Nat → Int32} {Q : State → Prop} (C : jq_C p s m #[Value.ref b] c code 4 RL D ct bs) (hX : va_X b L xs s s.heap) (hbl : b < s.heap.size) (hbA : ¬ bs ≤ b) {x3 : Int32} (hi1 : vp_in (x3 + 1) L) (hi2 : vp_in (x3 + 2) L) (hi3 : vp_in (x3 + 3) L) (hi4 : vp_in (x3 + 4) L) (hi5 : vp_in (x3 + 5) L) {ax am n : Nat} {h hA hB : jq_H} {r : Int32} {H : Heap} {locs : List Loc} {ls : Array Slot} (X : jq_X bs D ct s.heap h H locs) (hl : lv_has ls 4 [(0, .ref b), (1, .ref ax), (2, .ref am), (3, .int x3)]) {cells slots : Nat} (hcl : cells + 15 ≤ room_1.cells) (hsl : slots + 2481 ≤ room_1.slots) (hz : ¬ (xs (x3 + 2).toNatClampNeg) = 0) (e1 : jq_ci h ax = 9) (e2 : X10_best n h ax (xs (x3 + 1).toNatClampNeg) 1 = some (r, hA)) (e3 : jq_ci hA am = 10) (e4 : X11_best n hA am (xs (x3 + 1).toNatClampNeg) 1 = some (r, hB)) (kk : ∀ H1 locs1, jq_X bs D ct s.heap hB H1 locs1 → W p l e room_1 s m #[Value.ref b] below meth c H1 locs1 (cells + 15) (slots + 2481) Q (F0 m 1066 ls [])) : W p l e room_1 s m #[Value.ref b] below meth c H locs cells slots Q (F0 m 866 ls []) := by
  refine lv_aload_n C.1 C.2.1 dL_law_866 rfl (lv_at hl 1 rfl) ?_
  refine lv_aload_n C.1 C.2.1 dL_law_867 rfl (lv_at hl 0 rfl) ?_
  refine lv_iload_n C.1 C.2.1 dL_law_868 rfl (lv_at hl 3 rfl) ?_
  refine lv_iconst (v := 1) C.1 C.2.1 dL_law_869 (by decide) ?_
  refine lv_iadd C.1 C.2.1 dL_law_870 ?_
  refine va_sld C.1 C.2.1 hX hbl hbA X.2 hi1 dL_law_871 ?_
  refine lv_aload_n C.1 C.2.1 dL_law_872 rfl (lv_at hl 0 rfl) ?_
  refine lv_iload_n C.1 C.2.1 dL_law_873 rfl (lv_at hl 3 rfl) ?_
  refine lv_iconst (v := 2) C.1 C.2.1 dL_law_874 (by decide) ?_
  refine lv_iadd C.1 C.2.1 dL_law_875 ?_
  refine va_sld C.1 C.2.1 hX hbl hbA X.2 hi2 dL_law_876 ?_
  refine lv_if_eq (tgt := 884) C.1 C.2.1 dL_law_877 (by decide) (fun hq => ?_) (fun hq => ?_)
  · exact absurd hq hz
  · refine lv_iconst (v := 1) C.1 C.2.1 dL_law_880 (by decide) ?_
    refine lv_goto (tgt := 885) C.1 C.2.1 dL_law_881 (by decide) ?_
    refine jq_gi (jq_runV (a := ax) (av := [.int (xs (x3 + 1).toNatClampNeg), .int 1]) C X (M_X10_best l bs D ct n h ax (xs (x3 + 1).toNatClampNeg) 1 _ e2) mf_X10_best gw_708 gw_709 (Or.inl gw_707) rc_X10 e1 (by decide) rfl hl.1 rfl (Nat.le_of_ble_eq_true rfl) ⟨by decide, by decide⟩ ⟨Nat.le_trans (Nat.add_le_add_left (by decide) _) hcl, Nat.le_trans (Nat.add_le_add_left (by decide) _) hsl⟩ dL_law_885) X (fun H locs X => ?_)
    refine lv_aload_n C.1 C.2.1 dL_law_888 rfl (lv_at hl 2 rfl) ?_
    refine lv_aload_n C.1 C.2.1 dL_law_889 rfl (lv_at hl 0 rfl) ?_
    refine lv_iload_n C.1 C.2.1 dL_law_890 rfl (lv_at hl 3 rfl) ?_
    refine lv_iconst (v := 1) C.1 C.2.1 dL_law_891 (by decide) ?_
    refine lv_iadd C.1 C.2.1 dL_law_892 ?_
    refine va_sld C.1 C.2.1 hX hbl hbA X.2 hi1 dL_law_893 ?_
    refine lv_aload_n C.1 C.2.1 dL_law_894 rfl (lv_at hl 0 rfl) ?_
    refine lv_iload_n C.1 C.2.1 dL_law_895 rfl (lv_at hl 3 rfl) ?_
    refine lv_iconst (v := 2) C.1 C.2.1 dL_law_896 (by decide) ?_
    refine lv_iadd C.1 C.2.1 dL_law_897 ?_
    refine va_sld C.1 C.2.1 hX hbl hbA X.2 hi2 dL_law_898 ?_
    refine lv_if_eq (tgt := 906) C.1 C.2.1 dL_law_899 (by decide) (fun hq => ?_) (fun hq => ?_)
    · exact absurd hq hz
    · refine lv_iconst (v := 1) C.1 C.2.1 dL_law_902 (by decide) ?_
      refine lv_goto (tgt := 907) C.1 C.2.1 dL_law_903 (by decide) ?_
      refine jq_gi (jq_runV (a := am) (av := [.int (xs (x3 + 1).toNatClampNeg), .int 1]) C X (M_X11_best l bs D ct n hA am (xs (x3 + 1).toNatClampNeg) 1 _ e4) mf_X11_best gw_996 gw_997 (Or.inl gw_995) rc_X11 e3 (by decide) rfl hl.1 rfl (Nat.le_of_ble_eq_true rfl) ⟨by decide, by decide⟩ ⟨Nat.le_trans (Nat.le_trans (Nat.le_of_eq (Nat.add_assoc _ _ _)) (Nat.add_le_add_left (by decide) _)) hcl, Nat.le_trans (Nat.le_trans (Nat.le_of_eq (Nat.add_assoc _ _ _)) (Nat.add_le_add_left (by decide) _)) hsl⟩ dL_law_907) X (fun H locs X => ?_)
      refine lv_icmp_eq (tgt := 1066) C.1 C.2.1 dL_law_910 (by decide) (fun _ => ?_) (fun hq => absurd rfl hq)
      exact W.widen (Nat.le_trans (Nat.le_of_eq (Nat.add_assoc _ _ _)) (Nat.add_le_add_left (by decide) _)) (Nat.le_trans (Nat.le_of_eq (Nat.add_assoc _ _ _)) (Nat.add_le_add_left (by decide) _)) (kk H locs X)
set_option maxRecDepth 100000 in
set_option maxHeartbeats 4000000 in
theorem law_c23t {p : Program} {l : Launch} {e : Env} {s : State} {m : MethodId} {below : List Frame} {meth : Method} {c : Code} {D : va_G} {ct : Nat → ClassId} {bs b L : Nat} {xs : Nat → Int32} {Q : State → Prop} (C : jq_C p s m #[Value.ref b] c code 4 RL D ct bs) (hX : va_X b L xs s s.heap) (hbl : b < s.heap.size) (hbA : ¬ bs ≤ b) {x3 : Int32} (hi1 : vp_in (x3 + 1) L) (hi2 : vp_in (x3 + 2) L) (hi3 : vp_in (x3 + 3) L) (hi4 : vp_in (x3 + 4) L) (hi5 : vp_in (x3 + 5) L) {ax am n : Nat} {h hA hB : jq_H} {r : Int32} {H : Heap} {locs : List Loc} {ls : Array Slot} (X : jq_X bs D ct s.heap h H locs) (hl : lv_has ls 4 [(0, .ref b), (1, .ref ax), (2, .ref am), (3, .int x3)]) {cells slots : Nat} (hcl : cells + 15 ≤ room_1.cells) (hsl : slots + 2481 ≤ room_1.slots) (hz : (xs (x3 + 2).toNatClampNeg) = 0) (e1 : jq_ci h ax = 9) (e2 : X10_seen n h ax (xs (x3 + 1).toNatClampNeg) 0 = some (r, hA)) (e3 : jq_ci hA am = 10) (e4 : X11_seen n hA am (xs (x3 + 1).toNatClampNeg) 0 = some (r, hB)) (kk : ∀ H1 locs1, jq_X bs D ct s.heap hB H1 locs1 → W p l e room_1 s m #[Value.ref b] below meth c H1 locs1 (cells + 15) (slots + 2481) Q (F0 m 1066 ls [])) : W p l e room_1 s m #[Value.ref b] below meth c H locs cells slots Q (F0 m 915 ls []) := by
  refine lv_aload_n C.1 C.2.1 dL_law_915 rfl (lv_at hl 1 rfl) ?_
  refine lv_aload_n C.1 C.2.1 dL_law_916 rfl (lv_at hl 0 rfl) ?_
  refine lv_iload_n C.1 C.2.1 dL_law_917 rfl (lv_at hl 3 rfl) ?_
  refine lv_iconst (v := 1) C.1 C.2.1 dL_law_918 (by decide) ?_
  refine lv_iadd C.1 C.2.1 dL_law_919 ?_
  refine va_sld C.1 C.2.1 hX hbl hbA X.2 hi1 dL_law_920 ?_
  refine lv_aload_n C.1 C.2.1 dL_law_921 rfl (lv_at hl 0 rfl) ?_
  refine lv_iload_n C.1 C.2.1 dL_law_922 rfl (lv_at hl 3 rfl) ?_
  refine lv_iconst (v := 2) C.1 C.2.1 dL_law_923 (by decide) ?_
  refine lv_iadd C.1 C.2.1 dL_law_924 ?_
  refine va_sld C.1 C.2.1 hX hbl hbA X.2 hi2 dL_law_925 ?_
  refine lv_if_eq (tgt := 933) C.1 C.2.1 dL_law_926 (by decide) (fun hq => ?_) (fun hq => ?_)
  · refine lv_iconst (v := 0) C.1 C.2.1 dL_law_933 (by decide) ?_
    refine jq_gi (jq_runV (a := ax) (av := [.int (xs (x3 + 1).toNatClampNeg), .int 0]) C X (M_X10_seen l bs D ct n h ax (xs (x3 + 1).toNatClampNeg) 0 _ e2) mf_X10_seen gw_726 gw_727 (Or.inl gw_725) rc_X10 e1 (by decide) rfl hl.1 rfl (Nat.le_of_ble_eq_true rfl) ⟨by decide, by decide⟩ ⟨Nat.le_trans (Nat.add_le_add_left (by decide) _) hcl, Nat.le_trans (Nat.add_le_add_left (by decide) _) hsl⟩ dL_law_934) X (fun H locs X => ?_)
    refine lv_aload_n C.1 C.2.1 dL_law_937 rfl (lv_at hl 2 rfl) ?_
    refine lv_aload_n C.1 C.2.1 dL_law_938 rfl (lv_at hl 0 rfl) ?_
    refine lv_iload_n C.1 C.2.1 dL_law_939 rfl (lv_at hl 3 rfl) ?_
    refine lv_iconst (v := 1) C.1 C.2.1 dL_law_940 (by decide) ?_
    refine lv_iadd C.1 C.2.1 dL_law_941 ?_
    refine va_sld C.1 C.2.1 hX hbl hbA X.2 hi1 dL_law_942 ?_
    refine lv_aload_n C.1 C.2.1 dL_law_943 rfl (lv_at hl 0 rfl) ?_
    refine lv_iload_n C.1 C.2.1 dL_law_944 rfl (lv_at hl 3 rfl) ?_
    refine lv_iconst (v := 2) C.1 C.2.1 dL_law_945 (by decide) ?_
    refine lv_iadd C.1 C.2.1 dL_law_946 ?_
    refine va_sld C.1 C.2.1 hX hbl hbA X.2 hi2 dL_law_947 ?_
    refine lv_if_eq (tgt := 955) C.1 C.2.1 dL_law_948 (by decide) (fun hq => ?_) (fun hq => ?_)
    · refine lv_iconst (v := 0) C.1 C.2.1 dL_law_955 (by decide) ?_
      refine jq_gi (jq_runV (a := am) (av := [.int (xs (x3 + 1).toNatClampNeg), .int 0]) C X (M_X11_seen l bs D ct n hA am (xs (x3 + 1).toNatClampNeg) 0 _ e4) mf_X11_seen gw_1004 gw_1005 (Or.inl gw_1003) rc_X11 e3 (by decide) rfl hl.1 rfl (Nat.le_of_ble_eq_true rfl) ⟨by decide, by decide⟩ ⟨Nat.le_trans (Nat.le_trans (Nat.le_of_eq (Nat.add_assoc _ _ _)) (Nat.add_le_add_left (by decide) _)) hcl, Nat.le_trans (Nat.le_trans (Nat.le_of_eq (Nat.add_assoc _ _ _)) (Nat.add_le_add_left (by decide) _)) hsl⟩ dL_law_956) X (fun H locs X => ?_)
      refine lv_icmp_eq (tgt := 1066) C.1 C.2.1 dL_law_959 (by decide) (fun _ => ?_) (fun hq => absurd rfl hq)
      exact W.widen (Nat.le_trans (Nat.le_of_eq (Nat.add_assoc _ _ _)) (Nat.add_le_add_left (by decide) _)) (Nat.le_trans (Nat.le_of_eq (Nat.add_assoc _ _ _)) (Nat.add_le_add_left (by decide) _)) (kk H locs X)
    · exact absurd hz hq
  · exact absurd hz hq
set_option maxRecDepth 100000 in
set_option maxHeartbeats 4000000 in
theorem law_c23f {p : Program} {l : Launch} {e : Env} {s : State} {m : MethodId} {below : List Frame} {meth : Method} {c : Code} {D : va_G} {ct : Nat → ClassId} {bs b L : Nat} {xs : Nat → Int32} {Q : State → Prop} (C : jq_C p s m #[Value.ref b] c code 4 RL D ct bs) (hX : va_X b L xs s s.heap) (hbl : b < s.heap.size) (hbA : ¬ bs ≤ b) {x3 : Int32} (hi1 : vp_in (x3 + 1) L) (hi2 : vp_in (x3 + 2) L) (hi3 : vp_in (x3 + 3) L) (hi4 : vp_in (x3 + 4) L) (hi5 : vp_in (x3 + 5) L) {ax am n : Nat} {h hA hB : jq_H} {r : Int32} {H : Heap} {locs : List Loc} {ls : Array Slot} (X : jq_X bs D ct s.heap h H locs) (hl : lv_has ls 4 [(0, .ref b), (1, .ref ax), (2, .ref am), (3, .int x3)]) {cells slots : Nat} (hcl : cells + 15 ≤ room_1.cells) (hsl : slots + 2481 ≤ room_1.slots) (hz : ¬ (xs (x3 + 2).toNatClampNeg) = 0) (e1 : jq_ci h ax = 9) (e2 : X10_seen n h ax (xs (x3 + 1).toNatClampNeg) 1 = some (r, hA)) (e3 : jq_ci hA am = 10) (e4 : X11_seen n hA am (xs (x3 + 1).toNatClampNeg) 1 = some (r, hB)) (kk : ∀ H1 locs1, jq_X bs D ct s.heap hB H1 locs1 → W p l e room_1 s m #[Value.ref b] below meth c H1 locs1 (cells + 15) (slots + 2481) Q (F0 m 1066 ls [])) : W p l e room_1 s m #[Value.ref b] below meth c H locs cells slots Q (F0 m 915 ls []) := by
  refine lv_aload_n C.1 C.2.1 dL_law_915 rfl (lv_at hl 1 rfl) ?_
  refine lv_aload_n C.1 C.2.1 dL_law_916 rfl (lv_at hl 0 rfl) ?_
  refine lv_iload_n C.1 C.2.1 dL_law_917 rfl (lv_at hl 3 rfl) ?_
  refine lv_iconst (v := 1) C.1 C.2.1 dL_law_918 (by decide) ?_
  refine lv_iadd C.1 C.2.1 dL_law_919 ?_
  refine va_sld C.1 C.2.1 hX hbl hbA X.2 hi1 dL_law_920 ?_
  refine lv_aload_n C.1 C.2.1 dL_law_921 rfl (lv_at hl 0 rfl) ?_
  refine lv_iload_n C.1 C.2.1 dL_law_922 rfl (lv_at hl 3 rfl) ?_
  refine lv_iconst (v := 2) C.1 C.2.1 dL_law_923 (by decide) ?_
  refine lv_iadd C.1 C.2.1 dL_law_924 ?_
  refine va_sld C.1 C.2.1 hX hbl hbA X.2 hi2 dL_law_925 ?_
  refine lv_if_eq (tgt := 933) C.1 C.2.1 dL_law_926 (by decide) (fun hq => ?_) (fun hq => ?_)
  · exact absurd hq hz
  · refine lv_iconst (v := 1) C.1 C.2.1 dL_law_929 (by decide) ?_
    refine lv_goto (tgt := 934) C.1 C.2.1 dL_law_930 (by decide) ?_
    refine jq_gi (jq_runV (a := ax) (av := [.int (xs (x3 + 1).toNatClampNeg), .int 1]) C X (M_X10_seen l bs D ct n h ax (xs (x3 + 1).toNatClampNeg) 1 _ e2) mf_X10_seen gw_726 gw_727 (Or.inl gw_725) rc_X10 e1 (by decide) rfl hl.1 rfl (Nat.le_of_ble_eq_true rfl) ⟨by decide, by decide⟩ ⟨Nat.le_trans (Nat.add_le_add_left (by decide) _) hcl, Nat.le_trans (Nat.add_le_add_left (by decide) _) hsl⟩ dL_law_934) X (fun H locs X => ?_)
    refine lv_aload_n C.1 C.2.1 dL_law_937 rfl (lv_at hl 2 rfl) ?_
    refine lv_aload_n C.1 C.2.1 dL_law_938 rfl (lv_at hl 0 rfl) ?_
    refine lv_iload_n C.1 C.2.1 dL_law_939 rfl (lv_at hl 3 rfl) ?_
    refine lv_iconst (v := 1) C.1 C.2.1 dL_law_940 (by decide) ?_
    refine lv_iadd C.1 C.2.1 dL_law_941 ?_
    refine va_sld C.1 C.2.1 hX hbl hbA X.2 hi1 dL_law_942 ?_
    refine lv_aload_n C.1 C.2.1 dL_law_943 rfl (lv_at hl 0 rfl) ?_
    refine lv_iload_n C.1 C.2.1 dL_law_944 rfl (lv_at hl 3 rfl) ?_
    refine lv_iconst (v := 2) C.1 C.2.1 dL_law_945 (by decide) ?_
    refine lv_iadd C.1 C.2.1 dL_law_946 ?_
    refine va_sld C.1 C.2.1 hX hbl hbA X.2 hi2 dL_law_947 ?_
    refine lv_if_eq (tgt := 955) C.1 C.2.1 dL_law_948 (by decide) (fun hq => ?_) (fun hq => ?_)
    · exact absurd hq hz
    · refine lv_iconst (v := 1) C.1 C.2.1 dL_law_951 (by decide) ?_
      refine lv_goto (tgt := 956) C.1 C.2.1 dL_law_952 (by decide) ?_
      refine jq_gi (jq_runV (a := am) (av := [.int (xs (x3 + 1).toNatClampNeg), .int 1]) C X (M_X11_seen l bs D ct n hA am (xs (x3 + 1).toNatClampNeg) 1 _ e4) mf_X11_seen gw_1004 gw_1005 (Or.inl gw_1003) rc_X11 e3 (by decide) rfl hl.1 rfl (Nat.le_of_ble_eq_true rfl) ⟨by decide, by decide⟩ ⟨Nat.le_trans (Nat.le_trans (Nat.le_of_eq (Nat.add_assoc _ _ _)) (Nat.add_le_add_left (by decide) _)) hcl, Nat.le_trans (Nat.le_trans (Nat.le_of_eq (Nat.add_assoc _ _ _)) (Nat.add_le_add_left (by decide) _)) hsl⟩ dL_law_956) X (fun H locs X => ?_)
      refine lv_icmp_eq (tgt := 1066) C.1 C.2.1 dL_law_959 (by decide) (fun _ => ?_) (fun hq => absurd rfl hq)
      exact W.widen (Nat.le_trans (Nat.le_of_eq (Nat.add_assoc _ _ _)) (Nat.add_le_add_left (by decide) _)) (Nat.le_trans (Nat.le_of_eq (Nat.add_assoc _ _ _)) (Nat.add_le_add_left (by decide) _)) (kk H locs X)
set_option maxRecDepth 100000 in
set_option maxHeartbeats 4000000 in
theorem law_c24 {p : Program} {l : Launch} {e : Env} {s : State} {m : MethodId} {below : List Frame} {meth : Method} {c : Code} {D : va_G} {ct : Nat → ClassId} {bs b L : Nat} {xs : Nat → Int32} {Q : State → Prop} (C : jq_C p s m #[Value.ref b] c code 4 RL D ct bs) (hX : va_X b L xs s s.heap) (hbl : b < s.heap.size) (hbA : ¬ bs ≤ b) {x3 : Int32} (hi1 : vp_in (x3 + 1) L) (hi2 : vp_in (x3 + 2) L) (hi3 : vp_in (x3 + 3) L) (hi4 : vp_in (x3 + 4) L) (hi5 : vp_in (x3 + 5) L) {ax am n : Nat} {h hA hB : jq_H} {r : Int32} {H : Heap} {locs : List Loc} {ls : Array Slot} (X : jq_X bs D ct s.heap h H locs) (hl : lv_has ls 4 [(0, .ref b), (1, .ref ax), (2, .ref am), (3, .int x3)]) {cells slots : Nat} (hcl : cells + 15 ≤ room_1.cells) (hsl : slots + 2481 ≤ room_1.slots) (e1 : jq_ci h ax = 9) (e2 : X10_often n h ax (xs (x3 + 1).toNatClampNeg) (xs (x3 + 2).toNatClampNeg) = some (r, hA)) (e3 : jq_ci hA am = 10) (e4 : X11_often n hA am (xs (x3 + 1).toNatClampNeg) (xs (x3 + 2).toNatClampNeg) = some (r, hB)) (kk : ∀ H1 locs1, jq_X bs D ct s.heap hB H1 locs1 → W p l e room_1 s m #[Value.ref b] below meth c H1 locs1 (cells + 15) (slots + 2481) Q (F0 m 1066 ls [])) : W p l e room_1 s m #[Value.ref b] below meth c H locs cells slots Q (F0 m 964 ls []) := by
  refine lv_aload_n C.1 C.2.1 dL_law_964 rfl (lv_at hl 1 rfl) ?_
  refine lv_aload_n C.1 C.2.1 dL_law_965 rfl (lv_at hl 0 rfl) ?_
  refine lv_iload_n C.1 C.2.1 dL_law_966 rfl (lv_at hl 3 rfl) ?_
  refine lv_iconst (v := 1) C.1 C.2.1 dL_law_967 (by decide) ?_
  refine lv_iadd C.1 C.2.1 dL_law_968 ?_
  refine va_sld C.1 C.2.1 hX hbl hbA X.2 hi1 dL_law_969 ?_
  refine lv_aload_n C.1 C.2.1 dL_law_970 rfl (lv_at hl 0 rfl) ?_
  refine lv_iload_n C.1 C.2.1 dL_law_971 rfl (lv_at hl 3 rfl) ?_
  refine lv_iconst (v := 2) C.1 C.2.1 dL_law_972 (by decide) ?_
  refine lv_iadd C.1 C.2.1 dL_law_973 ?_
  refine va_sld C.1 C.2.1 hX hbl hbA X.2 hi2 dL_law_974 ?_
  refine jq_gi (jq_runV (a := ax) (av := [.int (xs (x3 + 1).toNatClampNeg), .int (xs (x3 + 2).toNatClampNeg)]) C X (M_X10_often l bs D ct n h ax (xs (x3 + 1).toNatClampNeg) (xs (x3 + 2).toNatClampNeg) _ e2) mf_X10_often gw_730 gw_731 (Or.inl gw_729) rc_X10 e1 (by decide) rfl hl.1 rfl (Nat.le_of_ble_eq_true rfl) ⟨by decide, by decide⟩ ⟨Nat.le_trans (Nat.add_le_add_left (by decide) _) hcl, Nat.le_trans (Nat.add_le_add_left (by decide) _) hsl⟩ dL_law_975) X (fun H locs X => ?_)
  refine lv_aload_n C.1 C.2.1 dL_law_978 rfl (lv_at hl 2 rfl) ?_
  refine lv_aload_n C.1 C.2.1 dL_law_979 rfl (lv_at hl 0 rfl) ?_
  refine lv_iload_n C.1 C.2.1 dL_law_980 rfl (lv_at hl 3 rfl) ?_
  refine lv_iconst (v := 1) C.1 C.2.1 dL_law_981 (by decide) ?_
  refine lv_iadd C.1 C.2.1 dL_law_982 ?_
  refine va_sld C.1 C.2.1 hX hbl hbA X.2 hi1 dL_law_983 ?_
  refine lv_aload_n C.1 C.2.1 dL_law_984 rfl (lv_at hl 0 rfl) ?_
  refine lv_iload_n C.1 C.2.1 dL_law_985 rfl (lv_at hl 3 rfl) ?_
  refine lv_iconst (v := 2) C.1 C.2.1 dL_law_986 (by decide) ?_
  refine lv_iadd C.1 C.2.1 dL_law_987 ?_
  refine va_sld C.1 C.2.1 hX hbl hbA X.2 hi2 dL_law_988 ?_
  refine jq_gi (jq_runV (a := am) (av := [.int (xs (x3 + 1).toNatClampNeg), .int (xs (x3 + 2).toNatClampNeg)]) C X (M_X11_often l bs D ct n hA am (xs (x3 + 1).toNatClampNeg) (xs (x3 + 2).toNatClampNeg) _ e4) mf_X11_often gw_1008 gw_1009 (Or.inl gw_1007) rc_X11 e3 (by decide) rfl hl.1 rfl (Nat.le_of_ble_eq_true rfl) ⟨by decide, by decide⟩ ⟨Nat.le_trans (Nat.le_trans (Nat.le_of_eq (Nat.add_assoc _ _ _)) (Nat.add_le_add_left (by decide) _)) hcl, Nat.le_trans (Nat.le_trans (Nat.le_of_eq (Nat.add_assoc _ _ _)) (Nat.add_le_add_left (by decide) _)) hsl⟩ dL_law_989) X (fun H locs X => ?_)
  refine lv_icmp_eq (tgt := 1066) C.1 C.2.1 dL_law_992 (by decide) (fun _ => ?_) (fun hq => absurd rfl hq)
  exact W.widen (Nat.le_trans (Nat.le_of_eq (Nat.add_assoc _ _ _)) (Nat.add_le_add_left (by decide) _)) (Nat.le_trans (Nat.le_of_eq (Nat.add_assoc _ _ _)) (Nat.add_le_add_left (by decide) _)) (kk H locs X)
set_option maxRecDepth 100000 in
set_option maxHeartbeats 4000000 in
theorem law_c25 {p : Program} {l : Launch} {e : Env} {s : State} {m : MethodId} {below : List Frame} {meth : Method} {c : Code} {D : va_G} {ct : Nat → ClassId} {bs b L : Nat} {xs : Nat → Int32} {Q : State → Prop} (C : jq_C p s m #[Value.ref b] c code 4 RL D ct bs) (hX : va_X b L xs s s.heap) (hbl : b < s.heap.size) (hbA : ¬ bs ≤ b) {x3 : Int32} (hi1 : vp_in (x3 + 1) L) (hi2 : vp_in (x3 + 2) L) (hi3 : vp_in (x3 + 3) L) (hi4 : vp_in (x3 + 4) L) (hi5 : vp_in (x3 + 5) L) {ax am n : Nat} {h hA hB : jq_H} {r : Int32} {H : Heap} {locs : List Loc} {ls : Array Slot} (X : jq_X bs D ct s.heap h H locs) (hl : lv_has ls 4 [(0, .ref b), (1, .ref ax), (2, .ref am), (3, .int x3)]) {cells slots : Nat} (hcl : cells + 15 ≤ room_1.cells) (hsl : slots + 2481 ≤ room_1.slots) (e1 : jq_ci h ax = 9) (e2 : X10_ticks n h ax (xs (x3 + 1).toNatClampNeg) (xs (x3 + 2).toNatClampNeg) = some (r, hA)) (e3 : jq_ci hA am = 10) (e4 : X11_ticks n hA am (xs (x3 + 1).toNatClampNeg) (xs (x3 + 2).toNatClampNeg) = some (r, hB)) (kk : ∀ H1 locs1, jq_X bs D ct s.heap hB H1 locs1 → W p l e room_1 s m #[Value.ref b] below meth c H1 locs1 (cells + 15) (slots + 2481) Q (F0 m 1066 ls [])) : W p l e room_1 s m #[Value.ref b] below meth c H locs cells slots Q (F0 m 997 ls []) := by
  refine lv_aload_n C.1 C.2.1 dL_law_997 rfl (lv_at hl 1 rfl) ?_
  refine lv_aload_n C.1 C.2.1 dL_law_998 rfl (lv_at hl 0 rfl) ?_
  refine lv_iload_n C.1 C.2.1 dL_law_999 rfl (lv_at hl 3 rfl) ?_
  refine lv_iconst (v := 1) C.1 C.2.1 dL_law_1000 (by decide) ?_
  refine lv_iadd C.1 C.2.1 dL_law_1001 ?_
  refine va_sld C.1 C.2.1 hX hbl hbA X.2 hi1 dL_law_1002 ?_
  refine lv_aload_n C.1 C.2.1 dL_law_1003 rfl (lv_at hl 0 rfl) ?_
  refine lv_iload_n C.1 C.2.1 dL_law_1004 rfl (lv_at hl 3 rfl) ?_
  refine lv_iconst (v := 2) C.1 C.2.1 dL_law_1005 (by decide) ?_
  refine lv_iadd C.1 C.2.1 dL_law_1006 ?_
  refine va_sld C.1 C.2.1 hX hbl hbA X.2 hi2 dL_law_1007 ?_
  refine jq_gi (jq_runV (a := ax) (av := [.int (xs (x3 + 1).toNatClampNeg), .int (xs (x3 + 2).toNatClampNeg)]) C X (M_X10_ticks l bs D ct n h ax (xs (x3 + 1).toNatClampNeg) (xs (x3 + 2).toNatClampNeg) _ e2) mf_X10_ticks gw_735 gw_736 (Or.inl gw_734) rc_X10 e1 (by decide) rfl hl.1 rfl (Nat.le_of_ble_eq_true rfl) ⟨by decide, by decide⟩ ⟨Nat.le_trans (Nat.add_le_add_left (by decide) _) hcl, Nat.le_trans (Nat.add_le_add_left (by decide) _) hsl⟩ dL_law_1008) X (fun H locs X => ?_)
  refine lv_aload_n C.1 C.2.1 dL_law_1011 rfl (lv_at hl 2 rfl) ?_
  refine lv_aload_n C.1 C.2.1 dL_law_1012 rfl (lv_at hl 0 rfl) ?_
  refine lv_iload_n C.1 C.2.1 dL_law_1013 rfl (lv_at hl 3 rfl) ?_
  refine lv_iconst (v := 1) C.1 C.2.1 dL_law_1014 (by decide) ?_
  refine lv_iadd C.1 C.2.1 dL_law_1015 ?_
  refine va_sld C.1 C.2.1 hX hbl hbA X.2 hi1 dL_law_1016 ?_
  refine lv_aload_n C.1 C.2.1 dL_law_1017 rfl (lv_at hl 0 rfl) ?_
  refine lv_iload_n C.1 C.2.1 dL_law_1018 rfl (lv_at hl 3 rfl) ?_
  refine lv_iconst (v := 2) C.1 C.2.1 dL_law_1019 (by decide) ?_
  refine lv_iadd C.1 C.2.1 dL_law_1020 ?_
  refine va_sld C.1 C.2.1 hX hbl hbA X.2 hi2 dL_law_1021 ?_
  refine jq_gi (jq_runV (a := am) (av := [.int (xs (x3 + 1).toNatClampNeg), .int (xs (x3 + 2).toNatClampNeg)]) C X (M_X11_ticks l bs D ct n hA am (xs (x3 + 1).toNatClampNeg) (xs (x3 + 2).toNatClampNeg) _ e4) mf_X11_ticks gw_1012 gw_1013 (Or.inl gw_1011) rc_X11 e3 (by decide) rfl hl.1 rfl (Nat.le_of_ble_eq_true rfl) ⟨by decide, by decide⟩ ⟨Nat.le_trans (Nat.le_trans (Nat.le_of_eq (Nat.add_assoc _ _ _)) (Nat.add_le_add_left (by decide) _)) hcl, Nat.le_trans (Nat.le_trans (Nat.le_of_eq (Nat.add_assoc _ _ _)) (Nat.add_le_add_left (by decide) _)) hsl⟩ dL_law_1022) X (fun H locs X => ?_)
  refine lv_icmp_eq (tgt := 1066) C.1 C.2.1 dL_law_1025 (by decide) (fun _ => ?_) (fun hq => absurd rfl hq)
  exact W.widen (Nat.le_trans (Nat.le_of_eq (Nat.add_assoc _ _ _)) (Nat.add_le_add_left (by decide) _)) (Nat.le_trans (Nat.le_of_eq (Nat.add_assoc _ _ _)) (Nat.add_le_add_left (by decide) _)) (kk H locs X)
set_option maxRecDepth 100000 in
set_option maxHeartbeats 4000000 in
theorem law_c26 {p : Program} {l : Launch} {e : Env} {s : State} {m : MethodId} {below : List Frame} {meth : Method} {c : Code} {D : va_G} {ct : Nat → ClassId} {bs b L : Nat} {xs : Nat → Int32} {Q : State → Prop} (C : jq_C p s m #[Value.ref b] c code 4 RL D ct bs) (hX : va_X b L xs s s.heap) (hbl : b < s.heap.size) (hbA : ¬ bs ≤ b) {x3 : Int32} (hi1 : vp_in (x3 + 1) L) (hi2 : vp_in (x3 + 2) L) (hi3 : vp_in (x3 + 3) L) (hi4 : vp_in (x3 + 4) L) (hi5 : vp_in (x3 + 5) L) {ax am n : Nat} {h hA hB : jq_H} {r : Int32} {H : Heap} {locs : List Loc} {ls : Array Slot} (X : jq_X bs D ct s.heap h H locs) (hl : lv_has ls 4 [(0, .ref b), (1, .ref ax), (2, .ref am), (3, .int x3)]) {cells slots : Nat} (hcl : cells + 15 ≤ room_1.cells) (hsl : slots + 2481 ≤ room_1.slots) (e1 : jq_ci h ax = 9) (e2 : X10_told n h ax (xs (x3 + 1).toNatClampNeg) = some (r, hA)) (e3 : jq_ci hA am = 10) (e4 : X11_told n hA am (xs (x3 + 1).toNatClampNeg) = some (r, hB)) (kk : ∀ H1 locs1, jq_X bs D ct s.heap hB H1 locs1 → W p l e room_1 s m #[Value.ref b] below meth c H1 locs1 (cells + 15) (slots + 2481) Q (F0 m 1066 ls [])) : W p l e room_1 s m #[Value.ref b] below meth c H locs cells slots Q (F0 m 1030 ls []) := by
  refine lv_aload_n C.1 C.2.1 dL_law_1030 rfl (lv_at hl 1 rfl) ?_
  refine lv_aload_n C.1 C.2.1 dL_law_1031 rfl (lv_at hl 0 rfl) ?_
  refine lv_iload_n C.1 C.2.1 dL_law_1032 rfl (lv_at hl 3 rfl) ?_
  refine lv_iconst (v := 1) C.1 C.2.1 dL_law_1033 (by decide) ?_
  refine lv_iadd C.1 C.2.1 dL_law_1034 ?_
  refine va_sld C.1 C.2.1 hX hbl hbA X.2 hi1 dL_law_1035 ?_
  refine jq_gi (jq_runV (a := ax) (av := [.int (xs (x3 + 1).toNatClampNeg)]) C X (M_X10_told l bs D ct n h ax (xs (x3 + 1).toNatClampNeg) _ e2) mf_X10_told gw_739 gw_740 (Or.inl gw_738) rc_X10 e1 (by decide) rfl hl.1 rfl (Nat.le_of_ble_eq_true rfl) ⟨by decide, by decide⟩ ⟨Nat.le_trans (Nat.add_le_add_left (by decide) _) hcl, Nat.le_trans (Nat.add_le_add_left (by decide) _) hsl⟩ dL_law_1036) X (fun H locs X => ?_)
  refine lv_aload_n C.1 C.2.1 dL_law_1039 rfl (lv_at hl 2 rfl) ?_
  refine lv_aload_n C.1 C.2.1 dL_law_1040 rfl (lv_at hl 0 rfl) ?_
  refine lv_iload_n C.1 C.2.1 dL_law_1041 rfl (lv_at hl 3 rfl) ?_
  refine lv_iconst (v := 1) C.1 C.2.1 dL_law_1042 (by decide) ?_
  refine lv_iadd C.1 C.2.1 dL_law_1043 ?_
  refine va_sld C.1 C.2.1 hX hbl hbA X.2 hi1 dL_law_1044 ?_
  refine jq_gi (jq_runV (a := am) (av := [.int (xs (x3 + 1).toNatClampNeg)]) C X (M_X11_told l bs D ct n hA am (xs (x3 + 1).toNatClampNeg) _ e4) mf_X11_told gw_1016 gw_1017 (Or.inl gw_1015) rc_X11 e3 (by decide) rfl hl.1 rfl (Nat.le_of_ble_eq_true rfl) ⟨by decide, by decide⟩ ⟨Nat.le_trans (Nat.le_trans (Nat.le_of_eq (Nat.add_assoc _ _ _)) (Nat.add_le_add_left (by decide) _)) hcl, Nat.le_trans (Nat.le_trans (Nat.le_of_eq (Nat.add_assoc _ _ _)) (Nat.add_le_add_left (by decide) _)) hsl⟩ dL_law_1045) X (fun H locs X => ?_)
  refine lv_icmp_eq (tgt := 1066) C.1 C.2.1 dL_law_1048 (by decide) (fun _ => ?_) (fun hq => absurd rfl hq)
  exact W.widen (Nat.le_trans (Nat.le_of_eq (Nat.add_assoc _ _ _)) (Nat.add_le_add_left (by decide) _)) (Nat.le_trans (Nat.le_of_eq (Nat.add_assoc _ _ _)) (Nat.add_le_add_left (by decide) _)) (kk H locs X)
set_option maxRecDepth 100000 in
set_option maxHeartbeats 4000000 in
theorem law_c27 {p : Program} {l : Launch} {e : Env} {s : State} {m : MethodId} {below : List Frame} {meth : Method} {c : Code} {D : va_G} {ct : Nat → ClassId} {bs b L : Nat} {xs : Nat → Int32} {Q : State → Prop} (C : jq_C p s m #[Value.ref b] c code 4 RL D ct bs) (hX : va_X b L xs s s.heap) (hbl : b < s.heap.size) (hbA : ¬ bs ≤ b) {x3 : Int32} (hi1 : vp_in (x3 + 1) L) (hi2 : vp_in (x3 + 2) L) (hi3 : vp_in (x3 + 3) L) (hi4 : vp_in (x3 + 4) L) (hi5 : vp_in (x3 + 5) L) {ax am n : Nat} {h hA hB : jq_H} {r : Int32} {H : Heap} {locs : List Loc} {ls : Array Slot} (X : jq_X bs D ct s.heap h H locs) (hl : lv_has ls 4 [(0, .ref b), (1, .ref ax), (2, .ref am), (3, .int x3)]) {cells slots : Nat} (hcl : cells + 15 ≤ room_1.cells) (hsl : slots + 2481 ≤ room_1.slots) (e1 : jq_ci h ax = 9) (e2 : X10_empty n h ax = some (r, hA)) (e3 : jq_ci hA am = 10) (e4 : X11_empty n hA am = some (r, hB)) (kk : ∀ H1 locs1, jq_X bs D ct s.heap hB H1 locs1 → W p l e room_1 s m #[Value.ref b] below meth c H1 locs1 (cells + 15) (slots + 2481) Q (F0 m 1066 ls [])) : W p l e room_1 s m #[Value.ref b] below meth c H locs cells slots Q (F0 m 1053 ls []) := by
  refine lv_aload_n C.1 C.2.1 dL_law_1053 rfl (lv_at hl 1 rfl) ?_
  refine jq_gi (jq_runV (a := ax) (av := []) C X (M_X10_empty l bs D ct n h ax _ e2) mf_X10_empty gw_743 gw_744 (Or.inl gw_742) rc_X10 e1 (by decide) rfl hl.1 rfl (Nat.le_of_ble_eq_true rfl) ⟨by decide, by decide⟩ ⟨Nat.le_trans (Nat.add_le_add_left (by decide) _) hcl, Nat.le_trans (Nat.add_le_add_left (by decide) _) hsl⟩ dL_law_1054) X (fun H locs X => ?_)
  refine lv_aload_n C.1 C.2.1 dL_law_1057 rfl (lv_at hl 2 rfl) ?_
  refine jq_gi (jq_runV (a := am) (av := []) C X (M_X11_empty l bs D ct n hA am _ e4) mf_X11_empty gw_1020 gw_1021 (Or.inl gw_1019) rc_X11 e3 (by decide) rfl hl.1 rfl (Nat.le_of_ble_eq_true rfl) ⟨by decide, by decide⟩ ⟨Nat.le_trans (Nat.le_trans (Nat.le_of_eq (Nat.add_assoc _ _ _)) (Nat.add_le_add_left (by decide) _)) hcl, Nat.le_trans (Nat.le_trans (Nat.le_of_eq (Nat.add_assoc _ _ _)) (Nat.add_le_add_left (by decide) _)) hsl⟩ dL_law_1058) X (fun H locs X => ?_)
  refine lv_icmp_eq (tgt := 1066) C.1 C.2.1 dL_law_1061 (by decide) (fun _ => ?_) (fun hq => absurd rfl hq)
  exact W.widen (Nat.le_trans (Nat.le_of_eq (Nat.add_assoc _ _ _)) (Nat.add_le_add_left (by decide) _)) (Nat.le_trans (Nat.le_of_eq (Nat.add_assoc _ _ _)) (Nat.add_le_add_left (by decide) _)) (kk H locs X)
