set_option maxHeartbeats 4000000 in
set_option maxRecDepth 100000 in
theorem st_valley {p : Program} {l : Launch} {e : Env} {s : State} {m : MethodId} {below : List Frame} {meth : Method} {c : Code} {b L i cells slots : Nat} {xs : Nat → Int32} {Γ : Gam} {G : Nat → va_E} {H : Heap} {locs : List Loc} {ls : Array Slot} (hL0 : L ≤ 2560) (hx : p.tables.exec = Jvm.exec) (hb : c.code = cL_law) (hml : c.maxLocals = 4) (hown : s.vm.findClass RL = some m.cls) (hts : ∀ w ∈ lw_tbl, w.before #[Value.ref b] s = true) (hX : va_X b L xs s s.heap) (hbl : b < s.heap.size) {Q : State → Prop} (hi5 : i + 5 ≤ L) (hj : winj Γ 89) (hA : ∀ q, wA Γ 89 q → s.heap.size ≤ q) (hS : va_S (fun q : Nat => s.heap.size ≤ q) s.heap H locs) (hw1 : hw Γ 89 G s H) (I : SI Γ G 0 76) (hroom : cells ≤ 600000 ∧ slots ≤ 7302250) (hl : lv_has ls 4 [(0, .ref b), (1, .ref (ad Γ 0)), (2, .ref (ad Γ 76)), (3, .int (nI i))])
    (kk : ∀ (G3 : Nat → va_E) (H3 : Heap) (locs3 : List Loc), SI Γ G3 0 76 → hw Γ 89 G3 s H3 → va_S (fun q : Nat => s.heap.size ≤ q) s.heap H3 locs3 → W p l e room_1 s m #[Value.ref b] below meth c H3 locs3 cells slots Q (F0 m 1152 ls [])) :
    W p l e room_1 s m #[Value.ref b] below meth c H locs cells slots Q (F0 m 192 ls []) := by
  have hw := hw1
  have hbA : ¬ (fun q : Nat => s.heap.size ≤ q) b := Nat.not_le.mpr hbl
  obtain ⟨by0, tv, gv, Dv, lf, vs, cv, V, J0, J1, kp, rf, R, K, ca, rc, hd, fw, tl, an, vl, iv, ⟨hO, hT, hRd, hD, hRw, hGs, hCh, hV, hP0, hP1, -⟩, hM, S⟩ := I
  have S1 := S
  obtain ⟨-, -, -, ⟨ht, hL, hbt⟩, ⟨hDv, hgv, hlf, hvs⟩, hkp, ⟨hhd, hfw, htl, hvl⟩, hAi, hKB, -, -⟩ := S1
  refine lv_aload_n hx hb dL_law_192 rfl (lv_at hl 1 rfl) ?_
  refine nr_goI (nr_runV (As := []) (C := RX11) (T := TX11) (N := 11) ⟨hx, hb, hml, hown, hts⟩ hw (by decide) (isO_0 hO) rfl (c_X11_valley l Γ 89 G 0 kp rf by0 tv gv Dv lf vs cv V J0 J1 hO hT hRd hD hRw hGs hCh hV hP0 hP1 (by decide) hj S.1.1.1) (cwV 0 hts gL_law_X11_valley rfl rfl rfl (by decide +kernel) ⟨Nat.le_of_ble_eq_true rfl, Nat.le_of_ble_eq_true rfl⟩) rfl hl.1 rfl (Nat.le_of_ble_eq_true rfl) dL_law_193 hroom) hw hA hS (fun z1 G1 H locs p1 hw hS => ?_)
  have hf1 : fr G G1 (0 + 0) (0 + 76) := (by repeat' (first | exact p1 | refine Or.elim p1 (fun p1 => ?_) (fun p1 => ?_) | refine Exists.elim p1 (fun _ p1 => ?_) | replace p1 := p1.2))
  have hM1 := isM_fr hM hf1 (Or.inr (by decide))
  refine lv_aload_n hx hb dL_law_196 rfl (lv_at hl 2 rfl) ?_
  refine nr_goI (nr_runV (As := []) (C := RX12) (T := TX12) (N := 19) ⟨hx, hb, hml, hown, hts⟩ hw (by decide) (isM_0 hM1) rfl (c_X12_valley l Γ 89 G1 76 R K kp rf ca rc hd fw tl by0 an vl iv hM1 (by decide) S.1.2.1.1.1.1 hj) (cwV 0 hts gL_law_X12_valley rfl rfl rfl (by decide +kernel) ⟨Nat.le_of_ble_eq_true rfl, Nat.le_of_ble_eq_true rfl⟩) rfl hl.1 rfl (Nat.le_of_ble_eq_true rfl) dL_law_197 hroom) hw hA hS (fun z2 G2 H locs p2 hw hS => ?_)
  obtain ⟨hz, I⟩ := op_valley (ca := ca) (rc := rc) (fw := fw) (hd := hd) (by decide) S p1 p2
  refine lv_icmp_eq (tgt := 1152) hx hb dL_law_200 (by decide) (fun c9 => ?_) (fun c9 => ?_)
  · exact kk _ _ _ I hw hS
  · exact absurd hz c9
set_option maxHeartbeats 4000000 in
set_option maxRecDepth 100000 in
theorem st_one {p : Program} {l : Launch} {e : Env} {s : State} {m : MethodId} {below : List Frame} {meth : Method} {c : Code} {b L i cells slots : Nat} {xs : Nat → Int32} {Γ : Gam} {G : Nat → va_E} {H : Heap} {locs : List Loc} {ls : Array Slot} (hL0 : L ≤ 2560) (hx : p.tables.exec = Jvm.exec) (hb : c.code = cL_law) (hml : c.maxLocals = 4) (hown : s.vm.findClass RL = some m.cls) (hts : ∀ w ∈ lw_tbl, w.before #[Value.ref b] s = true) (hX : va_X b L xs s s.heap) (hbl : b < s.heap.size) {Q : State → Prop} (hi5 : i + 5 ≤ L) (hj : winj Γ 89) (hA : ∀ q, wA Γ 89 q → s.heap.size ≤ q) (hS : va_S (fun q : Nat => s.heap.size ≤ q) s.heap H locs) (hw1 : hw Γ 89 G s H) (I : SI Γ G 0 76) (hroom : cells ≤ 600000 ∧ slots ≤ 7302250) (hl : lv_has ls 4 [(0, .ref b), (1, .ref (ad Γ 0)), (2, .ref (ad Γ 76)), (3, .int (nI i))])
    (kk : ∀ (G3 : Nat → va_E) (H3 : Heap) (locs3 : List Loc), SI Γ G3 0 76 → hw Γ 89 G3 s H3 → va_S (fun q : Nat => s.heap.size ≤ q) s.heap H3 locs3 → W p l e room_1 s m #[Value.ref b] below meth c H3 locs3 cells slots Q (F0 m 1152 ls [])) :
    W p l e room_1 s m #[Value.ref b] below meth c H locs cells slots Q (F0 m 205 ls []) := by
  have hw := hw1
  have hbA : ¬ (fun q : Nat => s.heap.size ≤ q) b := Nat.not_le.mpr hbl
  obtain ⟨by0, tv, gv, Dv, lf, vs, cv, V, J0, J1, kp, rf, R, K, ca, rc, hd, fw, tl, an, vl, iv, ⟨hO, hT, hRd, hD, hRw, hGs, hCh, hV, hP0, hP1, -⟩, hM, S⟩ := I
  have S1 := S
  obtain ⟨-, -, -, ⟨ht, hL, hbt⟩, ⟨hDv, hgv, hlf, hvs⟩, hkp, ⟨hhd, hfw, htl, hvl⟩, hAi, hKB, -, -⟩ := S1
  refine lv_aload_n hx hb dL_law_205 rfl (lv_at hl 1 rfl) ?_
  refine lv_aload_n hx hb dL_law_206 rfl (lv_at hl 0 rfl) ?_
  refine lv_iload_n hx hb dL_law_207 rfl (lv_at hl 3 rfl) ?_
  refine lv_iconst (v := nI 1) hx hb dL_law_208 (by decide) ?_
  refine nr_iadd hx hb dL_law_209 ?_
  refine va_sld hx hb hX hbl hbA hS (vp_in_nI (by omega) (by omega)) dL_law_210 ?_
  obtain ⟨y1, ey1⟩ : ∃ y, y = xs (nI (i + 1)).toNatClampNeg := ⟨_, rfl⟩
  rw [← ey1]
  refine nr_goI (nr_runV (As := [.int y1]) (C := RX11) (T := TX11) (N := 11) ⟨hx, hb, hml, hown, hts⟩ hw (by decide) (isO_0 hO) rfl (c_X11_one l Γ 89 G 0 kp rf by0 tv gv Dv lf vs cv V J0 J1 hO hT hRd hD hRw hGs hCh hV hP0 hP1 (by decide) hj y1 S.1.1.1) (cwV 1 hts gL_law_X11_one rfl rfl rfl (by decide +kernel) ⟨Nat.le_of_ble_eq_true rfl, Nat.le_of_ble_eq_true rfl⟩) rfl hl.1 rfl (Nat.le_of_ble_eq_true rfl) dL_law_211 hroom) hw hA hS (fun z1 G1 H locs p1 hw hS => ?_)
  have hf1 : fr G G1 (0 + 0) (0 + 76) := (by repeat' (first | exact p1 | refine Or.elim p1 (fun p1 => ?_) (fun p1 => ?_) | refine Exists.elim p1 (fun _ p1 => ?_) | replace p1 := p1.2))
  have hM1 := isM_fr hM hf1 (Or.inr (by decide))
  refine lv_aload_n hx hb dL_law_214 rfl (lv_at hl 2 rfl) ?_
  refine lv_aload_n hx hb dL_law_215 rfl (lv_at hl 0 rfl) ?_
  refine lv_iload_n hx hb dL_law_216 rfl (lv_at hl 3 rfl) ?_
  refine lv_iconst (v := nI 1) hx hb dL_law_217 (by decide) ?_
  refine nr_iadd hx hb dL_law_218 ?_
  refine va_sld hx hb hX hbl hbA hS (vp_in_nI (by omega) (by omega)) dL_law_219 ?_
  rw [← ey1]
  refine nr_goI (nr_runV (As := [.int y1]) (C := RX12) (T := TX12) (N := 19) ⟨hx, hb, hml, hown, hts⟩ hw (by decide) (isM_0 hM1) rfl (c_X12_one l Γ 89 G1 76 R K kp rf ca rc hd fw tl by0 an vl iv hM1 (by decide) S.1.2.1.1.1.1 hj y1) (cwV 1 hts gL_law_X12_one rfl rfl rfl (by decide +kernel) ⟨Nat.le_of_ble_eq_true rfl, Nat.le_of_ble_eq_true rfl⟩) rfl hl.1 rfl (Nat.le_of_ble_eq_true rfl) dL_law_220 hroom) hw hA hS (fun z2 G2 H locs p2 hw hS => ?_)
  obtain ⟨hz, I⟩ := op_one (ca := ca) (rc := rc) (fw := fw) (hd := hd) (by decide) S p1 p2
  refine lv_icmp_eq (tgt := 1152) hx hb dL_law_223 (by decide) (fun c9 => ?_) (fun c9 => ?_)
  · exact kk _ _ _ I hw hS
  · exact absurd hz c9
set_option maxHeartbeats 4000000 in
set_option maxRecDepth 100000 in
theorem st_wrong {p : Program} {l : Launch} {e : Env} {s : State} {m : MethodId} {below : List Frame} {meth : Method} {c : Code} {b L i cells slots : Nat} {xs : Nat → Int32} {Γ : Gam} {G : Nat → va_E} {H : Heap} {locs : List Loc} {ls : Array Slot} (hL0 : L ≤ 2560) (hx : p.tables.exec = Jvm.exec) (hb : c.code = cL_law) (hml : c.maxLocals = 4) (hown : s.vm.findClass RL = some m.cls) (hts : ∀ w ∈ lw_tbl, w.before #[Value.ref b] s = true) (hX : va_X b L xs s s.heap) (hbl : b < s.heap.size) {Q : State → Prop} (hi5 : i + 5 ≤ L) (hj : winj Γ 89) (hA : ∀ q, wA Γ 89 q → s.heap.size ≤ q) (hS : va_S (fun q : Nat => s.heap.size ≤ q) s.heap H locs) (hw1 : hw Γ 89 G s H) (I : SI Γ G 0 76) (hroom : cells ≤ 600000 ∧ slots ≤ 7302250) (hl : lv_has ls 4 [(0, .ref b), (1, .ref (ad Γ 0)), (2, .ref (ad Γ 76)), (3, .int (nI i))])
    (kk : ∀ (G3 : Nat → va_E) (H3 : Heap) (locs3 : List Loc), SI Γ G3 0 76 → hw Γ 89 G3 s H3 → va_S (fun q : Nat => s.heap.size ≤ q) s.heap H3 locs3 → W p l e room_1 s m #[Value.ref b] below meth c H3 locs3 cells slots Q (F0 m 1152 ls [])) :
    W p l e room_1 s m #[Value.ref b] below meth c H locs cells slots Q (F0 m 228 ls []) := by
  have hw := hw1
  have hbA : ¬ (fun q : Nat => s.heap.size ≤ q) b := Nat.not_le.mpr hbl
  obtain ⟨by0, tv, gv, Dv, lf, vs, cv, V, J0, J1, kp, rf, R, K, ca, rc, hd, fw, tl, an, vl, iv, ⟨hO, hT, hRd, hD, hRw, hGs, hCh, hV, hP0, hP1, -⟩, hM, S⟩ := I
  have S1 := S
  obtain ⟨-, -, -, ⟨ht, hL, hbt⟩, ⟨hDv, hgv, hlf, hvs⟩, hkp, ⟨hhd, hfw, htl, hvl⟩, hAi, hKB, -, -⟩ := S1
  refine lv_aload_n hx hb dL_law_228 rfl (lv_at hl 1 rfl) ?_
  refine lv_aload_n hx hb dL_law_229 rfl (lv_at hl 0 rfl) ?_
  refine lv_iload_n hx hb dL_law_230 rfl (lv_at hl 3 rfl) ?_
  refine lv_iconst (v := nI 1) hx hb dL_law_231 (by decide) ?_
  refine nr_iadd hx hb dL_law_232 ?_
  refine va_sld hx hb hX hbl hbA hS (vp_in_nI (by omega) (by omega)) dL_law_233 ?_
  obtain ⟨y1, ey1⟩ : ∃ y, y = xs (nI (i + 1)).toNatClampNeg := ⟨_, rfl⟩
  rw [← ey1]
  refine lv_aload_n hx hb dL_law_234 rfl (lv_at hl 0 rfl) ?_
  refine lv_iload_n hx hb dL_law_235 rfl (lv_at hl 3 rfl) ?_
  refine lv_iconst (v := nI 2) hx hb dL_law_236 (by decide) ?_
  refine nr_iadd hx hb dL_law_237 ?_
  refine va_sld hx hb hX hbl hbA hS (vp_in_nI (by omega) (by omega)) dL_law_238 ?_
  obtain ⟨y2, ey2⟩ : ∃ y, y = xs (nI (i + 2)).toNatClampNeg := ⟨_, rfl⟩
  rw [← ey2]
  refine lv_aload_n hx hb dL_law_239 rfl (lv_at hl 0 rfl) ?_
  refine lv_iload_n hx hb dL_law_240 rfl (lv_at hl 3 rfl) ?_
  refine lv_iconst (v := nI 3) hx hb dL_law_241 (by decide) ?_
  refine nr_iadd hx hb dL_law_242 ?_
  refine va_sld hx hb hX hbl hbA hS (vp_in_nI (by omega) (by omega)) dL_law_243 ?_
  obtain ⟨y3, ey3⟩ : ∃ y, y = xs (nI (i + 3)).toNatClampNeg := ⟨_, rfl⟩
  rw [← ey3]
  refine lv_aload_n hx hb dL_law_244 rfl (lv_at hl 0 rfl) ?_
  refine lv_iload_n hx hb dL_law_245 rfl (lv_at hl 3 rfl) ?_
  refine lv_iconst (v := nI 4) hx hb dL_law_246 (by decide) ?_
  refine nr_iadd hx hb dL_law_247 ?_
  refine va_sld hx hb hX hbl hbA hS (vp_in_nI (by omega) (by omega)) dL_law_248 ?_
  obtain ⟨y4, ey4⟩ : ∃ y, y = xs (nI (i + 4)).toNatClampNeg := ⟨_, rfl⟩
  rw [← ey4]
  refine nr_goI (nr_runV (As := [.int y1, .int y2, .int y3, .int y4]) (C := RX11) (T := TX11) (N := 11) ⟨hx, hb, hml, hown, hts⟩ hw (by decide) (isO_0 hO) rfl (c_X11_wrong l Γ 89 G 0 kp rf by0 tv gv Dv lf vs cv V J0 J1 hO hT hRd hD hRw hGs hCh hV hP0 hP1 (by decide) hj y1 y2 y3 y4 S.1.1.1) (cwV 4 hts gL_law_X11_wrong rfl rfl rfl (by decide +kernel) ⟨Nat.le_of_ble_eq_true rfl, Nat.le_of_ble_eq_true rfl⟩) rfl hl.1 rfl (Nat.le_of_ble_eq_true rfl) dL_law_249 hroom) hw hA hS (fun z1 G1 H locs p1 hw hS => ?_)
  have hf1 : fr G G1 (0 + 0) (0 + 76) := (by repeat' (first | exact p1 | refine Or.elim p1 (fun p1 => ?_) (fun p1 => ?_) | refine Exists.elim p1 (fun _ p1 => ?_) | replace p1 := p1.2))
  have hM1 := isM_fr hM hf1 (Or.inr (by decide))
  refine lv_aload_n hx hb dL_law_252 rfl (lv_at hl 2 rfl) ?_
  refine lv_aload_n hx hb dL_law_253 rfl (lv_at hl 0 rfl) ?_
  refine lv_iload_n hx hb dL_law_254 rfl (lv_at hl 3 rfl) ?_
  refine lv_iconst (v := nI 1) hx hb dL_law_255 (by decide) ?_
  refine nr_iadd hx hb dL_law_256 ?_
  refine va_sld hx hb hX hbl hbA hS (vp_in_nI (by omega) (by omega)) dL_law_257 ?_
  rw [← ey1]
  refine lv_aload_n hx hb dL_law_258 rfl (lv_at hl 0 rfl) ?_
  refine lv_iload_n hx hb dL_law_259 rfl (lv_at hl 3 rfl) ?_
  refine lv_iconst (v := nI 2) hx hb dL_law_260 (by decide) ?_
  refine nr_iadd hx hb dL_law_261 ?_
  refine va_sld hx hb hX hbl hbA hS (vp_in_nI (by omega) (by omega)) dL_law_262 ?_
  rw [← ey2]
  refine lv_aload_n hx hb dL_law_263 rfl (lv_at hl 0 rfl) ?_
  refine lv_iload_n hx hb dL_law_264 rfl (lv_at hl 3 rfl) ?_
  refine lv_iconst (v := nI 3) hx hb dL_law_265 (by decide) ?_
  refine nr_iadd hx hb dL_law_266 ?_
  refine va_sld hx hb hX hbl hbA hS (vp_in_nI (by omega) (by omega)) dL_law_267 ?_
  rw [← ey3]
  refine lv_aload_n hx hb dL_law_268 rfl (lv_at hl 0 rfl) ?_
  refine lv_iload_n hx hb dL_law_269 rfl (lv_at hl 3 rfl) ?_
  refine lv_iconst (v := nI 4) hx hb dL_law_270 (by decide) ?_
  refine nr_iadd hx hb dL_law_271 ?_
  refine va_sld hx hb hX hbl hbA hS (vp_in_nI (by omega) (by omega)) dL_law_272 ?_
  rw [← ey4]
  refine nr_goI (nr_runV (As := [.int y1, .int y2, .int y3, .int y4]) (C := RX12) (T := TX12) (N := 19) ⟨hx, hb, hml, hown, hts⟩ hw (by decide) (isM_0 hM1) rfl (c_X12_wrong l Γ 89 G1 76 R K kp rf ca rc hd fw tl by0 an vl iv hM1 (by decide) S.1.2.1.1.1.1 hj y1 y2 y3 y4) (cwV 4 hts gL_law_X12_wrong rfl rfl rfl (by decide +kernel) ⟨Nat.le_of_ble_eq_true rfl, Nat.le_of_ble_eq_true rfl⟩) rfl hl.1 rfl (Nat.le_of_ble_eq_true rfl) dL_law_273 hroom) hw hA hS (fun z2 G2 H locs p2 hw hS => ?_)
  obtain ⟨hz, I⟩ := op_wrong (ca := ca) (rc := rc) (fw := fw) (hd := hd) (by decide) S p1 p2
  refine lv_icmp_eq (tgt := 1152) hx hb dL_law_276 (by decide) (fun c9 => ?_) (fun c9 => ?_)
  · exact kk _ _ _ I hw hS
  · exact absurd hz c9
set_option maxHeartbeats 4000000 in
set_option maxRecDepth 100000 in
theorem st_type {p : Program} {l : Launch} {e : Env} {s : State} {m : MethodId} {below : List Frame} {meth : Method} {c : Code} {b L i cells slots : Nat} {xs : Nat → Int32} {Γ : Gam} {G : Nat → va_E} {H : Heap} {locs : List Loc} {ls : Array Slot} (hL0 : L ≤ 2560) (hx : p.tables.exec = Jvm.exec) (hb : c.code = cL_law) (hml : c.maxLocals = 4) (hown : s.vm.findClass RL = some m.cls) (hts : ∀ w ∈ lw_tbl, w.before #[Value.ref b] s = true) (hX : va_X b L xs s s.heap) (hbl : b < s.heap.size) {Q : State → Prop} (hi5 : i + 5 ≤ L) (hj : winj Γ 89) (hA : ∀ q, wA Γ 89 q → s.heap.size ≤ q) (hS : va_S (fun q : Nat => s.heap.size ≤ q) s.heap H locs) (hw1 : hw Γ 89 G s H) (I : SI Γ G 0 76) (hroom : cells ≤ 600000 ∧ slots ≤ 7302250) (hl : lv_has ls 4 [(0, .ref b), (1, .ref (ad Γ 0)), (2, .ref (ad Γ 76)), (3, .int (nI i))])
    (kk : ∀ (G3 : Nat → va_E) (H3 : Heap) (locs3 : List Loc), SI Γ G3 0 76 → hw Γ 89 G3 s H3 → va_S (fun q : Nat => s.heap.size ≤ q) s.heap H3 locs3 → W p l e room_1 s m #[Value.ref b] below meth c H3 locs3 cells slots Q (F0 m 1152 ls [])) :
    W p l e room_1 s m #[Value.ref b] below meth c H locs cells slots Q (F0 m 281 ls []) := by
  have hw := hw1
  have hbA : ¬ (fun q : Nat => s.heap.size ≤ q) b := Nat.not_le.mpr hbl
  obtain ⟨by0, tv, gv, Dv, lf, vs, cv, V, J0, J1, kp, rf, R, K, ca, rc, hd, fw, tl, an, vl, iv, ⟨hO, hT, hRd, hD, hRw, hGs, hCh, hV, hP0, hP1, -⟩, hM, S⟩ := I
  have S1 := S
  obtain ⟨-, -, -, ⟨ht, hL, hbt⟩, ⟨hDv, hgv, hlf, hvs⟩, hkp, ⟨hhd, hfw, htl, hvl⟩, hAi, hKB, -, -⟩ := S1
  refine lv_aload_n hx hb dL_law_281 rfl (lv_at hl 1 rfl) ?_
  refine lv_aload_n hx hb dL_law_282 rfl (lv_at hl 0 rfl) ?_
  refine lv_iload_n hx hb dL_law_283 rfl (lv_at hl 3 rfl) ?_
  refine lv_iconst (v := nI 1) hx hb dL_law_284 (by decide) ?_
  refine nr_iadd hx hb dL_law_285 ?_
  refine va_sld hx hb hX hbl hbA hS (vp_in_nI (by omega) (by omega)) dL_law_286 ?_
  obtain ⟨y1, ey1⟩ : ∃ y, y = xs (nI (i + 1)).toNatClampNeg := ⟨_, rfl⟩
  rw [← ey1]
  refine nr_goI (nr_runV (As := [.int y1]) (C := RX11) (T := TX11) (N := 11) ⟨hx, hb, hml, hown, hts⟩ hw (by decide) (isO_0 hO) rfl (c_X11_type l Γ 89 G 0 kp rf by0 tv gv Dv lf vs cv V J0 J1 hO hT hRd hD hRw hGs hCh hV hP0 hP1 (by decide) hj y1 S.1.1.1 hL) (cwV 1 hts gL_law_X11_type rfl rfl rfl (by decide +kernel) ⟨Nat.le_of_ble_eq_true rfl, Nat.le_of_ble_eq_true rfl⟩) rfl hl.1 rfl (Nat.le_of_ble_eq_true rfl) dL_law_287 hroom) hw hA hS (fun z1 G1 H locs p1 hw hS => ?_)
  have hf1 : fr G G1 (0 + 0) (0 + 76) := (by repeat' (first | exact p1 | refine Or.elim p1 (fun p1 => ?_) (fun p1 => ?_) | refine Exists.elim p1 (fun _ p1 => ?_) | replace p1 := p1.2))
  have hM1 := isM_fr hM hf1 (Or.inr (by decide))
  refine lv_aload_n hx hb dL_law_290 rfl (lv_at hl 2 rfl) ?_
  refine lv_aload_n hx hb dL_law_291 rfl (lv_at hl 0 rfl) ?_
  refine lv_iload_n hx hb dL_law_292 rfl (lv_at hl 3 rfl) ?_
  refine lv_iconst (v := nI 1) hx hb dL_law_293 (by decide) ?_
  refine nr_iadd hx hb dL_law_294 ?_
  refine va_sld hx hb hX hbl hbA hS (vp_in_nI (by omega) (by omega)) dL_law_295 ?_
  rw [← ey1]
  refine nr_goI (nr_runV (As := [.int y1]) (C := RX12) (T := TX12) (N := 19) ⟨hx, hb, hml, hown, hts⟩ hw (by decide) (isM_0 hM1) rfl (c_X12_type l Γ 89 G1 76 R K kp rf ca rc hd fw tl by0 an vl iv hM1 (by decide) S.1.2.1.1.1.1 hj y1 (by rw [← ht]; exact hL)) (cwV 1 hts gL_law_X12_type rfl rfl rfl (by decide +kernel) ⟨Nat.le_of_ble_eq_true rfl, Nat.le_of_ble_eq_true rfl⟩) rfl hl.1 rfl (Nat.le_of_ble_eq_true rfl) dL_law_296 hroom) hw hA hS (fun z2 G2 H locs p2 hw hS => ?_)
  obtain ⟨hz, I⟩ := op_type (ca := ca) (rc := rc) (fw := fw) (hd := hd) (by decide) S p1 p2
  refine lv_icmp_eq (tgt := 1152) hx hb dL_law_299 (by decide) (fun c9 => ?_) (fun c9 => ?_)
  · exact kk _ _ _ I hw hS
  · exact absurd hz c9
set_option maxHeartbeats 4000000 in
set_option maxRecDepth 100000 in
theorem st_clear {p : Program} {l : Launch} {e : Env} {s : State} {m : MethodId} {below : List Frame} {meth : Method} {c : Code} {b L i cells slots : Nat} {xs : Nat → Int32} {Γ : Gam} {G : Nat → va_E} {H : Heap} {locs : List Loc} {ls : Array Slot} (hL0 : L ≤ 2560) (hx : p.tables.exec = Jvm.exec) (hb : c.code = cL_law) (hml : c.maxLocals = 4) (hown : s.vm.findClass RL = some m.cls) (hts : ∀ w ∈ lw_tbl, w.before #[Value.ref b] s = true) (hX : va_X b L xs s s.heap) (hbl : b < s.heap.size) {Q : State → Prop} (hi5 : i + 5 ≤ L) (hj : winj Γ 89) (hA : ∀ q, wA Γ 89 q → s.heap.size ≤ q) (hS : va_S (fun q : Nat => s.heap.size ≤ q) s.heap H locs) (hw1 : hw Γ 89 G s H) (I : SI Γ G 0 76) (hroom : cells ≤ 600000 ∧ slots ≤ 7302250) (hl : lv_has ls 4 [(0, .ref b), (1, .ref (ad Γ 0)), (2, .ref (ad Γ 76)), (3, .int (nI i))])
    (kk : ∀ (G3 : Nat → va_E) (H3 : Heap) (locs3 : List Loc), SI Γ G3 0 76 → hw Γ 89 G3 s H3 → va_S (fun q : Nat => s.heap.size ≤ q) s.heap H3 locs3 → W p l e room_1 s m #[Value.ref b] below meth c H3 locs3 cells slots Q (F0 m 1152 ls [])) :
    W p l e room_1 s m #[Value.ref b] below meth c H locs cells slots Q (F0 m 304 ls []) := by
  have hw := hw1
  have hbA : ¬ (fun q : Nat => s.heap.size ≤ q) b := Nat.not_le.mpr hbl
  obtain ⟨by0, tv, gv, Dv, lf, vs, cv, V, J0, J1, kp, rf, R, K, ca, rc, hd, fw, tl, an, vl, iv, ⟨hO, hT, hRd, hD, hRw, hGs, hCh, hV, hP0, hP1, -⟩, hM, S⟩ := I
  have S1 := S
  obtain ⟨-, -, -, ⟨ht, hL, hbt⟩, ⟨hDv, hgv, hlf, hvs⟩, hkp, ⟨hhd, hfw, htl, hvl⟩, hAi, hKB, -, -⟩ := S1
  refine lv_aload_n hx hb dL_law_304 rfl (lv_at hl 1 rfl) ?_
  refine nr_goI (nr_runV (As := []) (C := RX11) (T := TX11) (N := 11) ⟨hx, hb, hml, hown, hts⟩ hw (by decide) (isO_0 hO) rfl (c_X11_clear l Γ 89 G 0 kp rf by0 tv gv Dv lf vs cv V J0 J1 hO hT hRd hD hRw hGs hCh hV hP0 hP1 (by decide) hj S.1.1.1) (cwV 0 hts gL_law_X11_clear rfl rfl rfl (by decide +kernel) ⟨Nat.le_of_ble_eq_true rfl, Nat.le_of_ble_eq_true rfl⟩) rfl hl.1 rfl (Nat.le_of_ble_eq_true rfl) dL_law_305 hroom) hw hA hS (fun z1 G1 H locs p1 hw hS => ?_)
  have hf1 : fr G G1 (0 + 0) (0 + 76) := (by repeat' (first | exact p1 | refine Or.elim p1 (fun p1 => ?_) (fun p1 => ?_) | refine Exists.elim p1 (fun _ p1 => ?_) | replace p1 := p1.2))
  have hM1 := isM_fr hM hf1 (Or.inr (by decide))
  refine lv_aload_n hx hb dL_law_308 rfl (lv_at hl 2 rfl) ?_
  refine nr_goI (nr_runV (As := []) (C := RX12) (T := TX12) (N := 19) ⟨hx, hb, hml, hown, hts⟩ hw (by decide) (isM_0 hM1) rfl (c_X12_clear l Γ 89 G1 76 R K kp rf ca rc hd fw tl by0 an vl iv hM1 (by decide) S.1.2.1.1.1.1 hj) (cwV 0 hts gL_law_X12_clear rfl rfl rfl (by decide +kernel) ⟨Nat.le_of_ble_eq_true rfl, Nat.le_of_ble_eq_true rfl⟩) rfl hl.1 rfl (Nat.le_of_ble_eq_true rfl) dL_law_309 hroom) hw hA hS (fun z2 G2 H locs p2 hw hS => ?_)
  obtain ⟨hz, I⟩ := op_clear (ca := ca) (rc := rc) (fw := fw) (hd := hd) (by decide) S p1 p2
  refine lv_icmp_eq (tgt := 1152) hx hb dL_law_312 (by decide) (fun c9 => ?_) (fun c9 => ?_)
  · exact kk _ _ _ I hw hS
  · exact absurd hz c9
set_option maxHeartbeats 4000000 in
set_option maxRecDepth 100000 in
theorem st_days {p : Program} {l : Launch} {e : Env} {s : State} {m : MethodId} {below : List Frame} {meth : Method} {c : Code} {b L i cells slots : Nat} {xs : Nat → Int32} {Γ : Gam} {G : Nat → va_E} {H : Heap} {locs : List Loc} {ls : Array Slot} (hL0 : L ≤ 2560) (hx : p.tables.exec = Jvm.exec) (hb : c.code = cL_law) (hml : c.maxLocals = 4) (hown : s.vm.findClass RL = some m.cls) (hts : ∀ w ∈ lw_tbl, w.before #[Value.ref b] s = true) (hX : va_X b L xs s s.heap) (hbl : b < s.heap.size) {Q : State → Prop} (hi5 : i + 5 ≤ L) (hj : winj Γ 89) (hA : ∀ q, wA Γ 89 q → s.heap.size ≤ q) (hS : va_S (fun q : Nat => s.heap.size ≤ q) s.heap H locs) (hw1 : hw Γ 89 G s H) (I : SI Γ G 0 76) (hroom : cells ≤ 600000 ∧ slots ≤ 7302250) (hl : lv_has ls 4 [(0, .ref b), (1, .ref (ad Γ 0)), (2, .ref (ad Γ 76)), (3, .int (nI i))])
    (kk : ∀ (G3 : Nat → va_E) (H3 : Heap) (locs3 : List Loc), SI Γ G3 0 76 → hw Γ 89 G3 s H3 → va_S (fun q : Nat => s.heap.size ≤ q) s.heap H3 locs3 → W p l e room_1 s m #[Value.ref b] below meth c H3 locs3 cells slots Q (F0 m 1152 ls [])) :
    W p l e room_1 s m #[Value.ref b] below meth c H locs cells slots Q (F0 m 330 ls []) := by
  have hw := hw1
  have hbA : ¬ (fun q : Nat => s.heap.size ≤ q) b := Nat.not_le.mpr hbl
  obtain ⟨by0, tv, gv, Dv, lf, vs, cv, V, J0, J1, kp, rf, R, K, ca, rc, hd, fw, tl, an, vl, iv, ⟨hO, hT, hRd, hD, hRw, hGs, hCh, hV, hP0, hP1, -⟩, hM, S⟩ := I
  have S1 := S
  obtain ⟨-, -, -, ⟨ht, hL, hbt⟩, ⟨hDv, hgv, hlf, hvs⟩, hkp, ⟨hhd, hfw, htl, hvl⟩, hAi, hKB, -, -⟩ := S1
  refine lv_aload_n hx hb dL_law_330 rfl (lv_at hl 1 rfl) ?_
  refine lv_aload_n hx hb dL_law_331 rfl (lv_at hl 0 rfl) ?_
  refine lv_iload_n hx hb dL_law_332 rfl (lv_at hl 3 rfl) ?_
  refine lv_iconst (v := nI 1) hx hb dL_law_333 (by decide) ?_
  refine nr_iadd hx hb dL_law_334 ?_
  refine va_sld hx hb hX hbl hbA hS (vp_in_nI (by omega) (by omega)) dL_law_335 ?_
  obtain ⟨y1, ey1⟩ : ∃ y, y = xs (nI (i + 1)).toNatClampNeg := ⟨_, rfl⟩
  rw [← ey1]
  refine nr_goI (nr_runV (As := [.int y1]) (C := RX11) (T := TX11) (N := 11) ⟨hx, hb, hml, hown, hts⟩ hw (by decide) (isO_0 hO) rfl (c_X11_days l Γ 89 G 0 kp rf by0 tv gv Dv lf vs cv V J0 J1 hO hT hRd hD hRw hGs hCh hV hP0 hP1 (by decide) hj y1 S.1.1.1) (cwV 1 hts gL_law_X11_days rfl rfl rfl (by decide +kernel) ⟨Nat.le_of_ble_eq_true rfl, Nat.le_of_ble_eq_true rfl⟩) rfl hl.1 rfl (Nat.le_of_ble_eq_true rfl) dL_law_336 hroom) hw hA hS (fun z1 G1 H locs p1 hw hS => ?_)
  have hf1 : fr G G1 (0 + 0) (0 + 76) := (by repeat' (first | exact p1 | refine Or.elim p1 (fun p1 => ?_) (fun p1 => ?_) | refine Exists.elim p1 (fun _ p1 => ?_) | replace p1 := p1.2))
  have hM1 := isM_fr hM hf1 (Or.inr (by decide))
  refine lv_aload_n hx hb dL_law_339 rfl (lv_at hl 2 rfl) ?_
  refine lv_aload_n hx hb dL_law_340 rfl (lv_at hl 0 rfl) ?_
  refine lv_iload_n hx hb dL_law_341 rfl (lv_at hl 3 rfl) ?_
  refine lv_iconst (v := nI 1) hx hb dL_law_342 (by decide) ?_
  refine nr_iadd hx hb dL_law_343 ?_
  refine va_sld hx hb hX hbl hbA hS (vp_in_nI (by omega) (by omega)) dL_law_344 ?_
  rw [← ey1]
  refine nr_goI (nr_runV (As := [.int y1]) (C := RX12) (T := TX12) (N := 19) ⟨hx, hb, hml, hown, hts⟩ hw (by decide) (isM_0 hM1) rfl (c_X12_days l Γ 89 G1 76 R K kp rf ca rc hd fw tl by0 an vl iv hM1 (by decide) S.1.2.1.1.1.1 hj y1 S.1.2.1.1.1.2.1) (cwV 1 hts gL_law_X12_days rfl rfl rfl (by decide +kernel) ⟨Nat.le_of_ble_eq_true rfl, Nat.le_of_ble_eq_true rfl⟩) rfl hl.1 rfl (Nat.le_of_ble_eq_true rfl) dL_law_345 hroom) hw hA hS (fun z2 G2 H locs p2 hw hS => ?_)
  obtain ⟨hz, I⟩ := op_days (ca := ca) (rc := rc) (fw := fw) (hd := hd) (by decide) S p1 p2
  refine lv_icmp_eq (tgt := 1152) hx hb dL_law_348 (by decide) (fun c9 => ?_) (fun c9 => ?_)
  · exact kk _ _ _ I hw hS
  · exact absurd hz c9
set_option maxHeartbeats 4000000 in
set_option maxRecDepth 100000 in
theorem st_rings {p : Program} {l : Launch} {e : Env} {s : State} {m : MethodId} {below : List Frame} {meth : Method} {c : Code} {b L i cells slots : Nat} {xs : Nat → Int32} {Γ : Gam} {G : Nat → va_E} {H : Heap} {locs : List Loc} {ls : Array Slot} (hL0 : L ≤ 2560) (hx : p.tables.exec = Jvm.exec) (hb : c.code = cL_law) (hml : c.maxLocals = 4) (hown : s.vm.findClass RL = some m.cls) (hts : ∀ w ∈ lw_tbl, w.before #[Value.ref b] s = true) (hX : va_X b L xs s s.heap) (hbl : b < s.heap.size) {Q : State → Prop} (hi5 : i + 5 ≤ L) (hj : winj Γ 89) (hA : ∀ q, wA Γ 89 q → s.heap.size ≤ q) (hS : va_S (fun q : Nat => s.heap.size ≤ q) s.heap H locs) (hw1 : hw Γ 89 G s H) (I : SI Γ G 0 76) (hroom : cells ≤ 600000 ∧ slots ≤ 7302250) (hl : lv_has ls 4 [(0, .ref b), (1, .ref (ad Γ 0)), (2, .ref (ad Γ 76)), (3, .int (nI i))])
    (kk : ∀ (G3 : Nat → va_E) (H3 : Heap) (locs3 : List Loc), SI Γ G3 0 76 → hw Γ 89 G3 s H3 → va_S (fun q : Nat => s.heap.size ≤ q) s.heap H3 locs3 → W p l e room_1 s m #[Value.ref b] below meth c H3 locs3 cells slots Q (F0 m 1152 ls [])) :
    W p l e room_1 s m #[Value.ref b] below meth c H locs cells slots Q (F0 m 353 ls []) := by
  have hw := hw1
  have hbA : ¬ (fun q : Nat => s.heap.size ≤ q) b := Nat.not_le.mpr hbl
  obtain ⟨by0, tv, gv, Dv, lf, vs, cv, V, J0, J1, kp, rf, R, K, ca, rc, hd, fw, tl, an, vl, iv, ⟨hO, hT, hRd, hD, hRw, hGs, hCh, hV, hP0, hP1, -⟩, hM, S⟩ := I
  have S1 := S
  obtain ⟨-, -, -, ⟨ht, hL, hbt⟩, ⟨hDv, hgv, hlf, hvs⟩, hkp, ⟨hhd, hfw, htl, hvl⟩, hAi, hKB, -, -⟩ := S1
  refine lv_aload_n hx hb dL_law_353 rfl (lv_at hl 1 rfl) ?_
  refine lv_aload_n hx hb dL_law_354 rfl (lv_at hl 0 rfl) ?_
  refine lv_iload_n hx hb dL_law_355 rfl (lv_at hl 3 rfl) ?_
  refine lv_iconst (v := nI 1) hx hb dL_law_356 (by decide) ?_
  refine nr_iadd hx hb dL_law_357 ?_
  refine va_sld hx hb hX hbl hbA hS (vp_in_nI (by omega) (by omega)) dL_law_358 ?_
  obtain ⟨y1, ey1⟩ : ∃ y, y = xs (nI (i + 1)).toNatClampNeg := ⟨_, rfl⟩
  rw [← ey1]
  refine nr_goI (nr_runV (As := [.int y1]) (C := RX11) (T := TX11) (N := 11) ⟨hx, hb, hml, hown, hts⟩ hw (by decide) (isO_0 hO) rfl (c_X11_rings l Γ 89 G 0 kp rf by0 tv gv Dv lf vs cv V J0 J1 hO hT hRd hD hRw hGs hCh hV hP0 hP1 (by decide) hj y1 S.1.1.1) (cwV 1 hts gL_law_X11_rings rfl rfl rfl (by decide +kernel) ⟨Nat.le_of_ble_eq_true rfl, Nat.le_of_ble_eq_true rfl⟩) rfl hl.1 rfl (Nat.le_of_ble_eq_true rfl) dL_law_359 hroom) hw hA hS (fun z1 G1 H locs p1 hw hS => ?_)
  have hf1 : fr G G1 (0 + 0) (0 + 76) := (by repeat' (first | exact p1 | refine Or.elim p1 (fun p1 => ?_) (fun p1 => ?_) | refine Exists.elim p1 (fun _ p1 => ?_) | replace p1 := p1.2))
  have hM1 := isM_fr hM hf1 (Or.inr (by decide))
  refine lv_aload_n hx hb dL_law_362 rfl (lv_at hl 2 rfl) ?_
  refine lv_aload_n hx hb dL_law_363 rfl (lv_at hl 0 rfl) ?_
  refine lv_iload_n hx hb dL_law_364 rfl (lv_at hl 3 rfl) ?_
  refine lv_iconst (v := nI 1) hx hb dL_law_365 (by decide) ?_
  refine nr_iadd hx hb dL_law_366 ?_
  refine va_sld hx hb hX hbl hbA hS (vp_in_nI (by omega) (by omega)) dL_law_367 ?_
  rw [← ey1]
  refine nr_goI (nr_runV (As := [.int y1]) (C := RX12) (T := TX12) (N := 19) ⟨hx, hb, hml, hown, hts⟩ hw (by decide) (isM_0 hM1) rfl (c_X12_rings l Γ 89 G1 76 R K kp rf ca rc hd fw tl by0 an vl iv hM1 (by decide) S.1.2.1.1.1.1 hj y1) (cwV 1 hts gL_law_X12_rings rfl rfl rfl (by decide +kernel) ⟨Nat.le_of_ble_eq_true rfl, Nat.le_of_ble_eq_true rfl⟩) rfl hl.1 rfl (Nat.le_of_ble_eq_true rfl) dL_law_368 hroom) hw hA hS (fun z2 G2 H locs p2 hw hS => ?_)
  obtain ⟨hz, I⟩ := op_rings (ca := ca) (rc := rc) (fw := fw) (hd := hd) (by decide) S p1 p2
  refine lv_icmp_eq (tgt := 1152) hx hb dL_law_371 (by decide) (fun c9 => ?_) (fun c9 => ?_)
  · exact kk _ _ _ I hw hS
  · exact absurd hz c9
set_option maxHeartbeats 4000000 in
set_option maxRecDepth 100000 in
theorem st_undo {p : Program} {l : Launch} {e : Env} {s : State} {m : MethodId} {below : List Frame} {meth : Method} {c : Code} {b L i cells slots : Nat} {xs : Nat → Int32} {Γ : Gam} {G : Nat → va_E} {H : Heap} {locs : List Loc} {ls : Array Slot} (hL0 : L ≤ 2560) (hx : p.tables.exec = Jvm.exec) (hb : c.code = cL_law) (hml : c.maxLocals = 4) (hown : s.vm.findClass RL = some m.cls) (hts : ∀ w ∈ lw_tbl, w.before #[Value.ref b] s = true) (hX : va_X b L xs s s.heap) (hbl : b < s.heap.size) {Q : State → Prop} (hi5 : i + 5 ≤ L) (hj : winj Γ 89) (hA : ∀ q, wA Γ 89 q → s.heap.size ≤ q) (hS : va_S (fun q : Nat => s.heap.size ≤ q) s.heap H locs) (hw1 : hw Γ 89 G s H) (I : SI Γ G 0 76) (hroom : cells ≤ 600000 ∧ slots ≤ 7302250) (hl : lv_has ls 4 [(0, .ref b), (1, .ref (ad Γ 0)), (2, .ref (ad Γ 76)), (3, .int (nI i))])
    (kk : ∀ (G3 : Nat → va_E) (H3 : Heap) (locs3 : List Loc), SI Γ G3 0 76 → hw Γ 89 G3 s H3 → va_S (fun q : Nat => s.heap.size ≤ q) s.heap H3 locs3 → W p l e room_1 s m #[Value.ref b] below meth c H3 locs3 cells slots Q (F0 m 1152 ls [])) :
    W p l e room_1 s m #[Value.ref b] below meth c H locs cells slots Q (F0 m 376 ls []) := by
  have hw := hw1
  have hbA : ¬ (fun q : Nat => s.heap.size ≤ q) b := Nat.not_le.mpr hbl
  obtain ⟨by0, tv, gv, Dv, lf, vs, cv, V, J0, J1, kp, rf, R, K, ca, rc, hd, fw, tl, an, vl, iv, ⟨hO, hT, hRd, hD, hRw, hGs, hCh, hV, hP0, hP1, -⟩, hM, S⟩ := I
  have S1 := S
  obtain ⟨-, -, -, ⟨ht, hL, hbt⟩, ⟨hDv, hgv, hlf, hvs⟩, hkp, ⟨hhd, hfw, htl, hvl⟩, hAi, hKB, -, -⟩ := S1
  refine lv_aload_n hx hb dL_law_376 rfl (lv_at hl 1 rfl) ?_
  refine nr_goI (nr_runV (As := []) (C := RX11) (T := TX11) (N := 11) ⟨hx, hb, hml, hown, hts⟩ hw (by decide) (isO_0 hO) rfl (c_X11_undo l Γ 89 G 0 kp rf by0 tv gv Dv lf vs cv V J0 J1 hO hT hRd hD hRw hGs hCh hV hP0 hP1 (by decide) hj S.1.1.1) (cwV 0 hts gL_law_X11_undo rfl rfl rfl (by decide +kernel) ⟨Nat.le_of_ble_eq_true rfl, Nat.le_of_ble_eq_true rfl⟩) rfl hl.1 rfl (Nat.le_of_ble_eq_true rfl) dL_law_377 hroom) hw hA hS (fun z1 G1 H locs p1 hw hS => ?_)
  have hf1 : fr G G1 (0 + 0) (0 + 76) := (by repeat' (first | exact p1 | refine Or.elim p1 (fun p1 => ?_) (fun p1 => ?_) | refine Exists.elim p1 (fun _ p1 => ?_) | replace p1 := p1.2))
  have hM1 := isM_fr hM hf1 (Or.inr (by decide))
  refine lv_aload_n hx hb dL_law_380 rfl (lv_at hl 2 rfl) ?_
  refine nr_goI (nr_runV (As := []) (C := RX12) (T := TX12) (N := 19) ⟨hx, hb, hml, hown, hts⟩ hw (by decide) (isM_0 hM1) rfl (c_X12_undo l Γ 89 G1 76 R K kp rf ca rc hd fw tl by0 an vl iv hM1 (by decide) S.1.2.1.1.1.1 hj) (cwV 0 hts gL_law_X12_undo rfl rfl rfl (by decide +kernel) ⟨Nat.le_of_ble_eq_true rfl, Nat.le_of_ble_eq_true rfl⟩) rfl hl.1 rfl (Nat.le_of_ble_eq_true rfl) dL_law_381 hroom) hw hA hS (fun z2 G2 H locs p2 hw hS => ?_)
  obtain ⟨hz, I⟩ := op_undo (ca := ca) (rc := rc) (fw := fw) (hd := hd) (by decide) S p1 p2
  refine lv_icmp_eq (tgt := 1152) hx hb dL_law_384 (by decide) (fun c9 => ?_) (fun c9 => ?_)
  · exact kk _ _ _ I hw hS
  · exact absurd hz c9
set_option maxHeartbeats 4000000 in
set_option maxRecDepth 100000 in
theorem st_of {p : Program} {l : Launch} {e : Env} {s : State} {m : MethodId} {below : List Frame} {meth : Method} {c : Code} {b L i cells slots : Nat} {xs : Nat → Int32} {Γ : Gam} {G : Nat → va_E} {H : Heap} {locs : List Loc} {ls : Array Slot} (hL0 : L ≤ 2560) (hx : p.tables.exec = Jvm.exec) (hb : c.code = cL_law) (hml : c.maxLocals = 4) (hown : s.vm.findClass RL = some m.cls) (hts : ∀ w ∈ lw_tbl, w.before #[Value.ref b] s = true) (hX : va_X b L xs s s.heap) (hbl : b < s.heap.size) {Q : State → Prop} (hi5 : i + 5 ≤ L) (hj : winj Γ 89) (hA : ∀ q, wA Γ 89 q → s.heap.size ≤ q) (hS : va_S (fun q : Nat => s.heap.size ≤ q) s.heap H locs) (hw1 : hw Γ 89 G s H) (I : SI Γ G 0 76) (hroom : cells ≤ 600000 ∧ slots ≤ 7302250) (hl : lv_has ls 4 [(0, .ref b), (1, .ref (ad Γ 0)), (2, .ref (ad Γ 76)), (3, .int (nI i))])
    (kk : ∀ (G3 : Nat → va_E) (H3 : Heap) (locs3 : List Loc), SI Γ G3 0 76 → hw Γ 89 G3 s H3 → va_S (fun q : Nat => s.heap.size ≤ q) s.heap H3 locs3 → W p l e room_1 s m #[Value.ref b] below meth c H3 locs3 cells slots Q (F0 m 1152 ls [])) :
    W p l e room_1 s m #[Value.ref b] below meth c H locs cells slots Q (F0 m 389 ls []) := by
  have hw := hw1
  have hbA : ¬ (fun q : Nat => s.heap.size ≤ q) b := Nat.not_le.mpr hbl
  obtain ⟨by0, tv, gv, Dv, lf, vs, cv, V, J0, J1, kp, rf, R, K, ca, rc, hd, fw, tl, an, vl, iv, ⟨hO, hT, hRd, hD, hRw, hGs, hCh, hV, hP0, hP1, -⟩, hM, S⟩ := I
  have S1 := S
  obtain ⟨-, -, -, ⟨ht, hL, hbt⟩, ⟨hDv, hgv, hlf, hvs⟩, hkp, ⟨hhd, hfw, htl, hvl⟩, hAi, hKB, -, -⟩ := S1
  refine lv_aload_n hx hb dL_law_389 rfl (lv_at hl 1 rfl) ?_
  refine lv_aload_n hx hb dL_law_390 rfl (lv_at hl 0 rfl) ?_
  refine lv_iload_n hx hb dL_law_391 rfl (lv_at hl 3 rfl) ?_
  refine lv_iconst (v := nI 1) hx hb dL_law_392 (by decide) ?_
  refine nr_iadd hx hb dL_law_393 ?_
  refine va_sld hx hb hX hbl hbA hS (vp_in_nI (by omega) (by omega)) dL_law_394 ?_
  obtain ⟨y1, ey1⟩ : ∃ y, y = xs (nI (i + 1)).toNatClampNeg := ⟨_, rfl⟩
  rw [← ey1]
  refine lv_aload_n hx hb dL_law_395 rfl (lv_at hl 0 rfl) ?_
  refine lv_iload_n hx hb dL_law_396 rfl (lv_at hl 3 rfl) ?_
  refine lv_iconst (v := nI 2) hx hb dL_law_397 (by decide) ?_
  refine nr_iadd hx hb dL_law_398 ?_
  refine va_sld hx hb hX hbl hbA hS (vp_in_nI (by omega) (by omega)) dL_law_399 ?_
  obtain ⟨y2, ey2⟩ : ∃ y, y = xs (nI (i + 2)).toNatClampNeg := ⟨_, rfl⟩
  rw [← ey2]
  refine nr_goI (nr_runV (As := [.int y1, .int y2]) (C := RX11) (T := TX11) (N := 11) ⟨hx, hb, hml, hown, hts⟩ hw (by decide) (isO_0 hO) rfl (c_X11_of l Γ 89 G 0 kp rf by0 tv gv Dv lf vs cv V J0 J1 hO hT hRd hD hRw hGs hCh hV hP0 hP1 (by decide) hj y1 y2 S.1.1.1) (cwV 2 hts gL_law_X11_of rfl rfl rfl (by decide +kernel) ⟨Nat.le_of_ble_eq_true rfl, Nat.le_of_ble_eq_true rfl⟩) rfl hl.1 rfl (Nat.le_of_ble_eq_true rfl) dL_law_400 hroom) hw hA hS (fun z1 G1 H locs p1 hw hS => ?_)
  have hf1 : fr G G1 (0 + 0) (0 + 76) := (by repeat' (first | exact p1 | refine Or.elim p1 (fun p1 => ?_) (fun p1 => ?_) | refine Exists.elim p1 (fun _ p1 => ?_) | replace p1 := p1.2))
  have hM1 := isM_fr hM hf1 (Or.inr (by decide))
  refine lv_aload_n hx hb dL_law_403 rfl (lv_at hl 2 rfl) ?_
  refine lv_aload_n hx hb dL_law_404 rfl (lv_at hl 0 rfl) ?_
  refine lv_iload_n hx hb dL_law_405 rfl (lv_at hl 3 rfl) ?_
  refine lv_iconst (v := nI 1) hx hb dL_law_406 (by decide) ?_
  refine nr_iadd hx hb dL_law_407 ?_
  refine va_sld hx hb hX hbl hbA hS (vp_in_nI (by omega) (by omega)) dL_law_408 ?_
  rw [← ey1]
  refine lv_aload_n hx hb dL_law_409 rfl (lv_at hl 0 rfl) ?_
  refine lv_iload_n hx hb dL_law_410 rfl (lv_at hl 3 rfl) ?_
  refine lv_iconst (v := nI 2) hx hb dL_law_411 (by decide) ?_
  refine nr_iadd hx hb dL_law_412 ?_
  refine va_sld hx hb hX hbl hbA hS (vp_in_nI (by omega) (by omega)) dL_law_413 ?_
  rw [← ey2]
  refine nr_goI (nr_runV (As := [.int y1, .int y2]) (C := RX12) (T := TX12) (N := 19) ⟨hx, hb, hml, hown, hts⟩ hw (by decide) (isM_0 hM1) rfl (c_X12_of l Γ 89 G1 76 R K kp rf ca rc hd fw tl by0 an vl iv hM1 (by decide) S.1.2.1.1.1.1 hj y1 y2) (cwV 2 hts gL_law_X12_of rfl rfl rfl (by decide +kernel) ⟨Nat.le_of_ble_eq_true rfl, Nat.le_of_ble_eq_true rfl⟩) rfl hl.1 rfl (Nat.le_of_ble_eq_true rfl) dL_law_414 hroom) hw hA hS (fun z2 G2 H locs p2 hw hS => ?_)
  obtain ⟨hz, I⟩ := op_of (ca := ca) (rc := rc) (fw := fw) (hd := hd) (by decide) S p1 p2
  refine lv_icmp_eq (tgt := 1152) hx hb dL_law_417 (by decide) (fun c9 => ?_) (fun c9 => ?_)
  · exact kk _ _ _ I hw hS
  · exact absurd hz c9
set_option maxHeartbeats 4000000 in
set_option maxRecDepth 100000 in
theorem st_about {p : Program} {l : Launch} {e : Env} {s : State} {m : MethodId} {below : List Frame} {meth : Method} {c : Code} {b L i cells slots : Nat} {xs : Nat → Int32} {Γ : Gam} {G : Nat → va_E} {H : Heap} {locs : List Loc} {ls : Array Slot} (hL0 : L ≤ 2560) (hx : p.tables.exec = Jvm.exec) (hb : c.code = cL_law) (hml : c.maxLocals = 4) (hown : s.vm.findClass RL = some m.cls) (hts : ∀ w ∈ lw_tbl, w.before #[Value.ref b] s = true) (hX : va_X b L xs s s.heap) (hbl : b < s.heap.size) {Q : State → Prop} (hi5 : i + 5 ≤ L) (hj : winj Γ 89) (hA : ∀ q, wA Γ 89 q → s.heap.size ≤ q) (hS : va_S (fun q : Nat => s.heap.size ≤ q) s.heap H locs) (hw1 : hw Γ 89 G s H) (I : SI Γ G 0 76) (hroom : cells ≤ 600000 ∧ slots ≤ 7302250) (hl : lv_has ls 4 [(0, .ref b), (1, .ref (ad Γ 0)), (2, .ref (ad Γ 76)), (3, .int (nI i))])
    (kk : ∀ (G3 : Nat → va_E) (H3 : Heap) (locs3 : List Loc), SI Γ G3 0 76 → hw Γ 89 G3 s H3 → va_S (fun q : Nat => s.heap.size ≤ q) s.heap H3 locs3 → W p l e room_1 s m #[Value.ref b] below meth c H3 locs3 cells slots Q (F0 m 1152 ls [])) :
    W p l e room_1 s m #[Value.ref b] below meth c H locs cells slots Q (F0 m 422 ls []) := by
  have hw := hw1
  have hbA : ¬ (fun q : Nat => s.heap.size ≤ q) b := Nat.not_le.mpr hbl
  obtain ⟨by0, tv, gv, Dv, lf, vs, cv, V, J0, J1, kp, rf, R, K, ca, rc, hd, fw, tl, an, vl, iv, ⟨hO, hT, hRd, hD, hRw, hGs, hCh, hV, hP0, hP1, -⟩, hM, S⟩ := I
  have S1 := S
  obtain ⟨-, -, -, ⟨ht, hL, hbt⟩, ⟨hDv, hgv, hlf, hvs⟩, hkp, ⟨hhd, hfw, htl, hvl⟩, hAi, hKB, -, -⟩ := S1
  refine lv_aload_n hx hb dL_law_422 rfl (lv_at hl 1 rfl) ?_
  refine lv_aload_n hx hb dL_law_423 rfl (lv_at hl 0 rfl) ?_
  refine lv_iload_n hx hb dL_law_424 rfl (lv_at hl 3 rfl) ?_
  refine lv_iconst (v := nI 1) hx hb dL_law_425 (by decide) ?_
  refine nr_iadd hx hb dL_law_426 ?_
  refine va_sld hx hb hX hbl hbA hS (vp_in_nI (by omega) (by omega)) dL_law_427 ?_
  obtain ⟨y1, ey1⟩ : ∃ y, y = xs (nI (i + 1)).toNatClampNeg := ⟨_, rfl⟩
  rw [← ey1]
  refine lv_aload_n hx hb dL_law_428 rfl (lv_at hl 0 rfl) ?_
  refine lv_iload_n hx hb dL_law_429 rfl (lv_at hl 3 rfl) ?_
  refine lv_iconst (v := nI 2) hx hb dL_law_430 (by decide) ?_
  refine nr_iadd hx hb dL_law_431 ?_
  refine va_sld hx hb hX hbl hbA hS (vp_in_nI (by omega) (by omega)) dL_law_432 ?_
  obtain ⟨y2, ey2⟩ : ∃ y, y = xs (nI (i + 2)).toNatClampNeg := ⟨_, rfl⟩
  rw [← ey2]
  refine nr_goI (nr_runV (As := [.int y1, .int y2]) (C := RX11) (T := TX11) (N := 11) ⟨hx, hb, hml, hown, hts⟩ hw (by decide) (isO_0 hO) rfl (c_X11_about l Γ 89 G 0 kp rf by0 tv gv Dv lf vs cv V J0 J1 hO hT hRd hD hRw hGs hCh hV hP0 hP1 (by decide) hj y1 y2 S.1.1.1) (cwV 2 hts gL_law_X11_about rfl rfl rfl (by decide +kernel) ⟨Nat.le_of_ble_eq_true rfl, Nat.le_of_ble_eq_true rfl⟩) rfl hl.1 rfl (Nat.le_of_ble_eq_true rfl) dL_law_433 hroom) hw hA hS (fun z1 G1 H locs p1 hw hS => ?_)
  have hf1 : fr G G1 (0 + 0) (0 + 76) := (by repeat' (first | exact p1 | refine Or.elim p1 (fun p1 => ?_) (fun p1 => ?_) | refine Exists.elim p1 (fun _ p1 => ?_) | replace p1 := p1.2))
  have hM1 := isM_fr hM hf1 (Or.inr (by decide))
  refine lv_aload_n hx hb dL_law_436 rfl (lv_at hl 2 rfl) ?_
  refine lv_aload_n hx hb dL_law_437 rfl (lv_at hl 0 rfl) ?_
  refine lv_iload_n hx hb dL_law_438 rfl (lv_at hl 3 rfl) ?_
  refine lv_iconst (v := nI 1) hx hb dL_law_439 (by decide) ?_
  refine nr_iadd hx hb dL_law_440 ?_
  refine va_sld hx hb hX hbl hbA hS (vp_in_nI (by omega) (by omega)) dL_law_441 ?_
  rw [← ey1]
  refine lv_aload_n hx hb dL_law_442 rfl (lv_at hl 0 rfl) ?_
  refine lv_iload_n hx hb dL_law_443 rfl (lv_at hl 3 rfl) ?_
  refine lv_iconst (v := nI 2) hx hb dL_law_444 (by decide) ?_
  refine nr_iadd hx hb dL_law_445 ?_
  refine va_sld hx hb hX hbl hbA hS (vp_in_nI (by omega) (by omega)) dL_law_446 ?_
  rw [← ey2]
  refine nr_goI (nr_runV (As := [.int y1, .int y2]) (C := RX12) (T := TX12) (N := 19) ⟨hx, hb, hml, hown, hts⟩ hw (by decide) (isM_0 hM1) rfl (c_X12_about l Γ 89 G1 76 R K kp rf ca rc hd fw tl by0 an vl iv hM1 (by decide) S.1.2.1.1.1.1 hj y1 y2) (cwV 2 hts gL_law_X12_about rfl rfl rfl (by decide +kernel) ⟨Nat.le_of_ble_eq_true rfl, Nat.le_of_ble_eq_true rfl⟩) rfl hl.1 rfl (Nat.le_of_ble_eq_true rfl) dL_law_447 hroom) hw hA hS (fun z2 G2 H locs p2 hw hS => ?_)
  obtain ⟨hz, I⟩ := op_about (ca := ca) (rc := rc) (fw := fw) (hd := hd) (by decide) S p1 p2
  refine lv_icmp_eq (tgt := 1152) hx hb dL_law_450 (by decide) (fun c9 => ?_) (fun c9 => ?_)
  · exact kk _ _ _ I hw hS
  · exact absurd hz c9
set_option maxHeartbeats 4000000 in
set_option maxRecDepth 100000 in
theorem st_may {p : Program} {l : Launch} {e : Env} {s : State} {m : MethodId} {below : List Frame} {meth : Method} {c : Code} {b L i cells slots : Nat} {xs : Nat → Int32} {Γ : Gam} {G : Nat → va_E} {H : Heap} {locs : List Loc} {ls : Array Slot} (hL0 : L ≤ 2560) (hx : p.tables.exec = Jvm.exec) (hb : c.code = cL_law) (hml : c.maxLocals = 4) (hown : s.vm.findClass RL = some m.cls) (hts : ∀ w ∈ lw_tbl, w.before #[Value.ref b] s = true) (hX : va_X b L xs s s.heap) (hbl : b < s.heap.size) {Q : State → Prop} (hi5 : i + 5 ≤ L) (hj : winj Γ 89) (hA : ∀ q, wA Γ 89 q → s.heap.size ≤ q) (hS : va_S (fun q : Nat => s.heap.size ≤ q) s.heap H locs) (hw1 : hw Γ 89 G s H) (I : SI Γ G 0 76) (hroom : cells ≤ 600000 ∧ slots ≤ 7302250) (hl : lv_has ls 4 [(0, .ref b), (1, .ref (ad Γ 0)), (2, .ref (ad Γ 76)), (3, .int (nI i))])
    (kk : ∀ (G3 : Nat → va_E) (H3 : Heap) (locs3 : List Loc), SI Γ G3 0 76 → hw Γ 89 G3 s H3 → va_S (fun q : Nat => s.heap.size ≤ q) s.heap H3 locs3 → W p l e room_1 s m #[Value.ref b] below meth c H3 locs3 cells slots Q (F0 m 1152 ls [])) :
    W p l e room_1 s m #[Value.ref b] below meth c H locs cells slots Q (F0 m 455 ls []) := by
  have hw := hw1
  have hbA : ¬ (fun q : Nat => s.heap.size ≤ q) b := Nat.not_le.mpr hbl
  obtain ⟨by0, tv, gv, Dv, lf, vs, cv, V, J0, J1, kp, rf, R, K, ca, rc, hd, fw, tl, an, vl, iv, ⟨hO, hT, hRd, hD, hRw, hGs, hCh, hV, hP0, hP1, -⟩, hM, S⟩ := I
  have S1 := S
  obtain ⟨-, -, -, ⟨ht, hL, hbt⟩, ⟨hDv, hgv, hlf, hvs⟩, hkp, ⟨hhd, hfw, htl, hvl⟩, hAi, hKB, -, -⟩ := S1
  refine lv_aload_n hx hb dL_law_455 rfl (lv_at hl 1 rfl) ?_
  refine nr_goI (nr_runV (As := []) (C := RX11) (T := TX11) (N := 11) ⟨hx, hb, hml, hown, hts⟩ hw (by decide) (isO_0 hO) rfl (c_X11_may l Γ 89 G 0 kp rf by0 tv gv Dv lf vs cv V J0 J1 hO hT hRd hD hRw hGs hCh hV hP0 hP1 (by decide) hj S.1.1.1) (cwV 0 hts gL_law_X11_may rfl rfl rfl (by decide +kernel) ⟨Nat.le_of_ble_eq_true rfl, Nat.le_of_ble_eq_true rfl⟩) rfl hl.1 rfl (Nat.le_of_ble_eq_true rfl) dL_law_456 hroom) hw hA hS (fun z1 G1 H locs p1 hw hS => ?_)
  have hf1 : fr G G1 (0 + 0) (0 + 76) := (by repeat' (first | exact p1 | refine Or.elim p1 (fun p1 => ?_) (fun p1 => ?_) | refine Exists.elim p1 (fun _ p1 => ?_) | replace p1 := p1.2))
  have hM1 := isM_fr hM hf1 (Or.inr (by decide))
  refine lv_aload_n hx hb dL_law_459 rfl (lv_at hl 2 rfl) ?_
  refine nr_goS (nr_runV (As := []) (C := RX12) (T := TX12) (N := 19) ⟨hx, hb, hml, hown, hts⟩ hw (by decide) (isM_0 hM1) rfl (c_X12_may l Γ 89 G1 76 R K kp rf ca rc hd fw tl by0 an vl iv hM1 (by decide) S.1.2.1.1.1.1) (cwV 0 hts gL_law_X12_may rfl rfl rfl (by decide +kernel) ⟨Nat.le_of_ble_eq_true rfl, Nat.le_of_ble_eq_true rfl⟩) rfl hl.1 rfl (Nat.le_of_ble_eq_true rfl) dL_law_460 hroom) (fun z2 p2 => ?_)
  obtain ⟨hz, I⟩ := op_may (G3 := G1) (by decide) S p1 ⟨p2, hM1, fr_rf _ _ _⟩
  refine lv_icmp_eq (tgt := 1152) hx hb dL_law_463 (by decide) (fun c9 => ?_) (fun c9 => ?_)
  · exact kk _ _ _ I hw hS
  · exact absurd hz c9
set_option maxHeartbeats 4000000 in
set_option maxRecDepth 100000 in
theorem st_peal {p : Program} {l : Launch} {e : Env} {s : State} {m : MethodId} {below : List Frame} {meth : Method} {c : Code} {b L i cells slots : Nat} {xs : Nat → Int32} {Γ : Gam} {G : Nat → va_E} {H : Heap} {locs : List Loc} {ls : Array Slot} (hL0 : L ≤ 2560) (hx : p.tables.exec = Jvm.exec) (hb : c.code = cL_law) (hml : c.maxLocals = 4) (hown : s.vm.findClass RL = some m.cls) (hts : ∀ w ∈ lw_tbl, w.before #[Value.ref b] s = true) (hX : va_X b L xs s s.heap) (hbl : b < s.heap.size) {Q : State → Prop} (hi5 : i + 5 ≤ L) (hj : winj Γ 89) (hA : ∀ q, wA Γ 89 q → s.heap.size ≤ q) (hS : va_S (fun q : Nat => s.heap.size ≤ q) s.heap H locs) (hw1 : hw Γ 89 G s H) (I : SI Γ G 0 76) (hroom : cells ≤ 600000 ∧ slots ≤ 7302250) (hl : lv_has ls 4 [(0, .ref b), (1, .ref (ad Γ 0)), (2, .ref (ad Γ 76)), (3, .int (nI i))])
    (kk : ∀ (G3 : Nat → va_E) (H3 : Heap) (locs3 : List Loc), SI Γ G3 0 76 → hw Γ 89 G3 s H3 → va_S (fun q : Nat => s.heap.size ≤ q) s.heap H3 locs3 → W p l e room_1 s m #[Value.ref b] below meth c H3 locs3 cells slots Q (F0 m 1152 ls [])) :
    W p l e room_1 s m #[Value.ref b] below meth c H locs cells slots Q (F0 m 468 ls []) := by
  have hw := hw1
  have hbA : ¬ (fun q : Nat => s.heap.size ≤ q) b := Nat.not_le.mpr hbl
  obtain ⟨by0, tv, gv, Dv, lf, vs, cv, V, J0, J1, kp, rf, R, K, ca, rc, hd, fw, tl, an, vl, iv, ⟨hO, hT, hRd, hD, hRw, hGs, hCh, hV, hP0, hP1, -⟩, hM, S⟩ := I
  have S1 := S
  obtain ⟨-, -, -, ⟨ht, hL, hbt⟩, ⟨hDv, hgv, hlf, hvs⟩, hkp, ⟨hhd, hfw, htl, hvl⟩, hAi, hKB, -, -⟩ := S1
  refine lv_aload_n hx hb dL_law_468 rfl (lv_at hl 1 rfl) ?_
  refine nr_goI (nr_runV (As := []) (C := RX11) (T := TX11) (N := 11) ⟨hx, hb, hml, hown, hts⟩ hw (by decide) (isO_0 hO) rfl (c_X11_peal l Γ 89 G 0 kp rf by0 tv gv Dv lf vs cv V J0 J1 hO hT hRd hD hRw hGs hCh hV hP0 hP1 (by decide) hj S.1.1.1) (cwV 0 hts gL_law_X11_peal rfl rfl rfl (by decide +kernel) ⟨Nat.le_of_ble_eq_true rfl, Nat.le_of_ble_eq_true rfl⟩) rfl hl.1 rfl (Nat.le_of_ble_eq_true rfl) dL_law_469 hroom) hw hA hS (fun z1 G1 H locs p1 hw hS => ?_)
  have hf1 : fr G G1 (0 + 0) (0 + 76) := (by repeat' (first | exact p1 | refine Or.elim p1 (fun p1 => ?_) (fun p1 => ?_) | refine Exists.elim p1 (fun _ p1 => ?_) | replace p1 := p1.2))
  have hM1 := isM_fr hM hf1 (Or.inr (by decide))
  refine lv_aload_n hx hb dL_law_472 rfl (lv_at hl 2 rfl) ?_
  refine nr_goI (nr_runV (As := []) (C := RX12) (T := TX12) (N := 19) ⟨hx, hb, hml, hown, hts⟩ hw (by decide) (isM_0 hM1) rfl (c_X12_peal l Γ 89 G1 76 R K kp rf ca rc hd fw tl by0 an vl iv hM1 (by decide) S.1.2.1.1.1.1 hj) (cwV 0 hts gL_law_X12_peal rfl rfl rfl (by decide +kernel) ⟨Nat.le_of_ble_eq_true rfl, Nat.le_of_ble_eq_true rfl⟩) rfl hl.1 rfl (Nat.le_of_ble_eq_true rfl) dL_law_473 hroom) hw hA hS (fun z2 G2 H locs p2 hw hS => ?_)
  obtain ⟨hz, I⟩ := op_peal (ca := ca) (rc := rc) (fw := fw) (hd := hd) (by decide) S p1 p2
  refine lv_icmp_eq (tgt := 1152) hx hb dL_law_476 (by decide) (fun c9 => ?_) (fun c9 => ?_)
  · exact kk _ _ _ I hw hS
  · exact absurd hz c9
set_option maxHeartbeats 4000000 in
set_option maxRecDepth 100000 in
theorem st_when {p : Program} {l : Launch} {e : Env} {s : State} {m : MethodId} {below : List Frame} {meth : Method} {c : Code} {b L i cells slots : Nat} {xs : Nat → Int32} {Γ : Gam} {G : Nat → va_E} {H : Heap} {locs : List Loc} {ls : Array Slot} (hL0 : L ≤ 2560) (hx : p.tables.exec = Jvm.exec) (hb : c.code = cL_law) (hml : c.maxLocals = 4) (hown : s.vm.findClass RL = some m.cls) (hts : ∀ w ∈ lw_tbl, w.before #[Value.ref b] s = true) (hX : va_X b L xs s s.heap) (hbl : b < s.heap.size) {Q : State → Prop} (hi5 : i + 5 ≤ L) (hj : winj Γ 89) (hA : ∀ q, wA Γ 89 q → s.heap.size ≤ q) (hS : va_S (fun q : Nat => s.heap.size ≤ q) s.heap H locs) (hw1 : hw Γ 89 G s H) (I : SI Γ G 0 76) (hroom : cells ≤ 600000 ∧ slots ≤ 7302250) (hl : lv_has ls 4 [(0, .ref b), (1, .ref (ad Γ 0)), (2, .ref (ad Γ 76)), (3, .int (nI i))])
    (kk : ∀ (G3 : Nat → va_E) (H3 : Heap) (locs3 : List Loc), SI Γ G3 0 76 → hw Γ 89 G3 s H3 → va_S (fun q : Nat => s.heap.size ≤ q) s.heap H3 locs3 → W p l e room_1 s m #[Value.ref b] below meth c H3 locs3 cells slots Q (F0 m 1152 ls [])) :
    W p l e room_1 s m #[Value.ref b] below meth c H locs cells slots Q (F0 m 481 ls []) := by
  have hw := hw1
  have hbA : ¬ (fun q : Nat => s.heap.size ≤ q) b := Nat.not_le.mpr hbl
  obtain ⟨by0, tv, gv, Dv, lf, vs, cv, V, J0, J1, kp, rf, R, K, ca, rc, hd, fw, tl, an, vl, iv, ⟨hO, hT, hRd, hD, hRw, hGs, hCh, hV, hP0, hP1, -⟩, hM, S⟩ := I
  have S1 := S
  obtain ⟨-, -, -, ⟨ht, hL, hbt⟩, ⟨hDv, hgv, hlf, hvs⟩, hkp, ⟨hhd, hfw, htl, hvl⟩, hAi, hKB, -, -⟩ := S1
  refine lv_aload_n hx hb dL_law_481 rfl (lv_at hl 1 rfl) ?_
  refine lv_aload_n hx hb dL_law_482 rfl (lv_at hl 0 rfl) ?_
  refine lv_iload_n hx hb dL_law_483 rfl (lv_at hl 3 rfl) ?_
  refine lv_iconst (v := nI 1) hx hb dL_law_484 (by decide) ?_
  refine nr_iadd hx hb dL_law_485 ?_
  refine va_sld hx hb hX hbl hbA hS (vp_in_nI (by omega) (by omega)) dL_law_486 ?_
  obtain ⟨y1, ey1⟩ : ∃ y, y = xs (nI (i + 1)).toNatClampNeg := ⟨_, rfl⟩
  rw [← ey1]
  refine nr_goI (nr_runV (As := [.int y1]) (C := RX11) (T := TX11) (N := 11) ⟨hx, hb, hml, hown, hts⟩ hw (by decide) (isO_0 hO) rfl (c_X11_when l Γ 89 G 0 kp rf by0 tv gv Dv lf vs cv V J0 J1 hO hT hRd hD hRw hGs hCh hV hP0 hP1 (by decide) hj y1 S.1.1.1) (cwV 1 hts gL_law_X11_when rfl rfl rfl (by decide +kernel) ⟨Nat.le_of_ble_eq_true rfl, Nat.le_of_ble_eq_true rfl⟩) rfl hl.1 rfl (Nat.le_of_ble_eq_true rfl) dL_law_487 hroom) hw hA hS (fun z1 G1 H locs p1 hw hS => ?_)
  have hf1 : fr G G1 (0 + 0) (0 + 76) := (by repeat' (first | exact p1 | refine Or.elim p1 (fun p1 => ?_) (fun p1 => ?_) | refine Exists.elim p1 (fun _ p1 => ?_) | replace p1 := p1.2))
  have hM1 := isM_fr hM hf1 (Or.inr (by decide))
  refine lv_aload_n hx hb dL_law_490 rfl (lv_at hl 2 rfl) ?_
  refine lv_aload_n hx hb dL_law_491 rfl (lv_at hl 0 rfl) ?_
  refine lv_iload_n hx hb dL_law_492 rfl (lv_at hl 3 rfl) ?_
  refine lv_iconst (v := nI 1) hx hb dL_law_493 (by decide) ?_
  refine nr_iadd hx hb dL_law_494 ?_
  refine va_sld hx hb hX hbl hbA hS (vp_in_nI (by omega) (by omega)) dL_law_495 ?_
  rw [← ey1]
  refine nr_goI (nr_runV (As := [.int y1]) (C := RX12) (T := TX12) (N := 19) ⟨hx, hb, hml, hown, hts⟩ hw (by decide) (isM_0 hM1) rfl (c_X12_whenB l Γ 89 G1 76 R K kp rf ca rc hd fw tl by0 an vl iv hM1 (by decide) S.1.2.1.1.1.1 hj y1 S.1.2.1.1.1.2.1 hhd) (cwV 1 hts gL_law_X12_when rfl rfl rfl (by decide +kernel) ⟨Nat.le_of_ble_eq_true rfl, Nat.le_of_ble_eq_true rfl⟩) rfl hl.1 rfl (Nat.le_of_ble_eq_true rfl) dL_law_496 hroom) hw hA hS (fun z2 G2 H locs p2 hw hS => ?_)
  obtain ⟨hz, I⟩ := op_when (ca := ca) (rc := rc) (fw := fw) (hd := hd) (by decide) S p1 p2
  refine lv_icmp_eq (tgt := 1152) hx hb dL_law_499 (by decide) (fun c9 => ?_) (fun c9 => ?_)
  · exact kk _ _ _ I hw hS
  · exact absurd hz c9
set_option maxHeartbeats 4000000 in
set_option maxRecDepth 100000 in
theorem st_few {p : Program} {l : Launch} {e : Env} {s : State} {m : MethodId} {below : List Frame} {meth : Method} {c : Code} {b L i cells slots : Nat} {xs : Nat → Int32} {Γ : Gam} {G : Nat → va_E} {H : Heap} {locs : List Loc} {ls : Array Slot} (hL0 : L ≤ 2560) (hx : p.tables.exec = Jvm.exec) (hb : c.code = cL_law) (hml : c.maxLocals = 4) (hown : s.vm.findClass RL = some m.cls) (hts : ∀ w ∈ lw_tbl, w.before #[Value.ref b] s = true) (hX : va_X b L xs s s.heap) (hbl : b < s.heap.size) {Q : State → Prop} (hi5 : i + 5 ≤ L) (hj : winj Γ 89) (hA : ∀ q, wA Γ 89 q → s.heap.size ≤ q) (hS : va_S (fun q : Nat => s.heap.size ≤ q) s.heap H locs) (hw1 : hw Γ 89 G s H) (I : SI Γ G 0 76) (hroom : cells ≤ 600000 ∧ slots ≤ 7302250) (hl : lv_has ls 4 [(0, .ref b), (1, .ref (ad Γ 0)), (2, .ref (ad Γ 76)), (3, .int (nI i))])
    (kk : ∀ (G3 : Nat → va_E) (H3 : Heap) (locs3 : List Loc), SI Γ G3 0 76 → hw Γ 89 G3 s H3 → va_S (fun q : Nat => s.heap.size ≤ q) s.heap H3 locs3 → W p l e room_1 s m #[Value.ref b] below meth c H3 locs3 cells slots Q (F0 m 1152 ls [])) :
    W p l e room_1 s m #[Value.ref b] below meth c H locs cells slots Q (F0 m 504 ls []) := by
  have hw := hw1
  have hbA : ¬ (fun q : Nat => s.heap.size ≤ q) b := Nat.not_le.mpr hbl
  obtain ⟨by0, tv, gv, Dv, lf, vs, cv, V, J0, J1, kp, rf, R, K, ca, rc, hd, fw, tl, an, vl, iv, ⟨hO, hT, hRd, hD, hRw, hGs, hCh, hV, hP0, hP1, -⟩, hM, S⟩ := I
  have S1 := S
  obtain ⟨-, -, -, ⟨ht, hL, hbt⟩, ⟨hDv, hgv, hlf, hvs⟩, hkp, ⟨hhd, hfw, htl, hvl⟩, hAi, hKB, -, -⟩ := S1
  refine lv_aload_n hx hb dL_law_504 rfl (lv_at hl 1 rfl) ?_
  refine lv_aload_n hx hb dL_law_505 rfl (lv_at hl 0 rfl) ?_
  refine lv_iload_n hx hb dL_law_506 rfl (lv_at hl 3 rfl) ?_
  refine lv_iconst (v := nI 1) hx hb dL_law_507 (by decide) ?_
  refine nr_iadd hx hb dL_law_508 ?_
  refine va_sld hx hb hX hbl hbA hS (vp_in_nI (by omega) (by omega)) dL_law_509 ?_
  obtain ⟨y1, ey1⟩ : ∃ y, y = xs (nI (i + 1)).toNatClampNeg := ⟨_, rfl⟩
  rw [← ey1]
  refine lv_aload_n hx hb dL_law_510 rfl (lv_at hl 0 rfl) ?_
  refine lv_iload_n hx hb dL_law_511 rfl (lv_at hl 3 rfl) ?_
  refine lv_iconst (v := nI 2) hx hb dL_law_512 (by decide) ?_
  refine nr_iadd hx hb dL_law_513 ?_
  refine va_sld hx hb hX hbl hbA hS (vp_in_nI (by omega) (by omega)) dL_law_514 ?_
  obtain ⟨y2, ey2⟩ : ∃ y, y = xs (nI (i + 2)).toNatClampNeg := ⟨_, rfl⟩
  rw [← ey2]
  refine nr_goI (nr_runV (As := [.int y1, .int y2]) (C := RX11) (T := TX11) (N := 11) ⟨hx, hb, hml, hown, hts⟩ hw (by decide) (isO_0 hO) rfl (c_X11_few l Γ 89 G 0 kp rf by0 tv gv Dv lf vs cv V J0 J1 hO hT hRd hD hRw hGs hCh hV hP0 hP1 (by decide) hj y1 y2 S.1.1.1 hlf) (cwV 2 hts gL_law_X11_few rfl rfl rfl (by decide +kernel) ⟨Nat.le_of_ble_eq_true rfl, Nat.le_of_ble_eq_true rfl⟩) rfl hl.1 rfl (Nat.le_of_ble_eq_true rfl) dL_law_515 hroom) hw hA hS (fun z1 G1 H locs p1 hw hS => ?_)
  have hf1 : fr G G1 (0 + 0) (0 + 76) := (by repeat' (first | exact p1 | refine Or.elim p1 (fun p1 => ?_) (fun p1 => ?_) | refine Exists.elim p1 (fun _ p1 => ?_) | replace p1 := p1.2))
  have hM1 := isM_fr hM hf1 (Or.inr (by decide))
  refine lv_aload_n hx hb dL_law_518 rfl (lv_at hl 2 rfl) ?_
  refine lv_aload_n hx hb dL_law_519 rfl (lv_at hl 0 rfl) ?_
  refine lv_iload_n hx hb dL_law_520 rfl (lv_at hl 3 rfl) ?_
  refine lv_iconst (v := nI 1) hx hb dL_law_521 (by decide) ?_
  refine nr_iadd hx hb dL_law_522 ?_
  refine va_sld hx hb hX hbl hbA hS (vp_in_nI (by omega) (by omega)) dL_law_523 ?_
  rw [← ey1]
  refine lv_aload_n hx hb dL_law_524 rfl (lv_at hl 0 rfl) ?_
  refine lv_iload_n hx hb dL_law_525 rfl (lv_at hl 3 rfl) ?_
  refine lv_iconst (v := nI 2) hx hb dL_law_526 (by decide) ?_
  refine nr_iadd hx hb dL_law_527 ?_
  refine va_sld hx hb hX hbl hbA hS (vp_in_nI (by omega) (by omega)) dL_law_528 ?_
  rw [← ey2]
  refine nr_goI (nr_runV (As := [.int y1, .int y2]) (C := RX12) (T := TX12) (N := 19) ⟨hx, hb, hml, hown, hts⟩ hw (by decide) (isM_0 hM1) rfl (c_X12_few l Γ 89 G1 76 R K kp rf ca rc hd fw tl by0 an vl iv hM1 (by decide) S.1.2.1.1.1.1 hj y1 y2 hfw) (cwV 2 hts gL_law_X12_few rfl rfl rfl (by decide +kernel) ⟨Nat.le_of_ble_eq_true rfl, Nat.le_of_ble_eq_true rfl⟩) rfl hl.1 rfl (Nat.le_of_ble_eq_true rfl) dL_law_529 hroom) hw hA hS (fun z2 G2 H locs p2 hw hS => ?_)
  obtain ⟨hz, I⟩ := op_few (ca := ca) (rc := rc) (fw := fw) (hd := hd) (by decide) S p1 p2
  refine lv_icmp_eq (tgt := 1152) hx hb dL_law_532 (by decide) (fun c9 => ?_) (fun c9 => ?_)
  · exact kk _ _ _ I hw hS
  · exact absurd hz c9
set_option maxHeartbeats 4000000 in
set_option maxRecDepth 100000 in
theorem st_hush {p : Program} {l : Launch} {e : Env} {s : State} {m : MethodId} {below : List Frame} {meth : Method} {c : Code} {b L i cells slots : Nat} {xs : Nat → Int32} {Γ : Gam} {G : Nat → va_E} {H : Heap} {locs : List Loc} {ls : Array Slot} (hL0 : L ≤ 2560) (hx : p.tables.exec = Jvm.exec) (hb : c.code = cL_law) (hml : c.maxLocals = 4) (hown : s.vm.findClass RL = some m.cls) (hts : ∀ w ∈ lw_tbl, w.before #[Value.ref b] s = true) (hX : va_X b L xs s s.heap) (hbl : b < s.heap.size) {Q : State → Prop} (hi5 : i + 5 ≤ L) (hj : winj Γ 89) (hA : ∀ q, wA Γ 89 q → s.heap.size ≤ q) (hS : va_S (fun q : Nat => s.heap.size ≤ q) s.heap H locs) (hw1 : hw Γ 89 G s H) (I : SI Γ G 0 76) (hroom : cells ≤ 600000 ∧ slots ≤ 7302250) (hl : lv_has ls 4 [(0, .ref b), (1, .ref (ad Γ 0)), (2, .ref (ad Γ 76)), (3, .int (nI i))])
    (kk : ∀ (G3 : Nat → va_E) (H3 : Heap) (locs3 : List Loc), SI Γ G3 0 76 → hw Γ 89 G3 s H3 → va_S (fun q : Nat => s.heap.size ≤ q) s.heap H3 locs3 → W p l e room_1 s m #[Value.ref b] below meth c H3 locs3 cells slots Q (F0 m 1152 ls [])) :
    W p l e room_1 s m #[Value.ref b] below meth c H locs cells slots Q (F0 m 537 ls []) := by
  have hw := hw1
  have hbA : ¬ (fun q : Nat => s.heap.size ≤ q) b := Nat.not_le.mpr hbl
  obtain ⟨by0, tv, gv, Dv, lf, vs, cv, V, J0, J1, kp, rf, R, K, ca, rc, hd, fw, tl, an, vl, iv, ⟨hO, hT, hRd, hD, hRw, hGs, hCh, hV, hP0, hP1, -⟩, hM, S⟩ := I
  have S1 := S
  obtain ⟨-, -, -, ⟨ht, hL, hbt⟩, ⟨hDv, hgv, hlf, hvs⟩, hkp, ⟨hhd, hfw, htl, hvl⟩, hAi, hKB, -, -⟩ := S1
  refine lv_aload_n hx hb dL_law_537 rfl (lv_at hl 1 rfl) ?_
  refine lv_aload_n hx hb dL_law_538 rfl (lv_at hl 0 rfl) ?_
  refine lv_iload_n hx hb dL_law_539 rfl (lv_at hl 3 rfl) ?_
  refine lv_iconst (v := nI 1) hx hb dL_law_540 (by decide) ?_
  refine nr_iadd hx hb dL_law_541 ?_
  refine va_sld hx hb hX hbl hbA hS (vp_in_nI (by omega) (by omega)) dL_law_542 ?_
  obtain ⟨y1, ey1⟩ : ∃ y, y = xs (nI (i + 1)).toNatClampNeg := ⟨_, rfl⟩
  rw [← ey1]
  refine nr_goI (nr_runV (As := [.int y1]) (C := RX11) (T := TX11) (N := 11) ⟨hx, hb, hml, hown, hts⟩ hw (by decide) (isO_0 hO) rfl (c_X11_hush l Γ 89 G 0 kp rf by0 tv gv Dv lf vs cv V J0 J1 hO hT hRd hD hRw hGs hCh hV hP0 hP1 (by decide) hj y1 S.1.1.1) (cwV 1 hts gL_law_X11_hush rfl rfl rfl (by decide +kernel) ⟨Nat.le_of_ble_eq_true rfl, Nat.le_of_ble_eq_true rfl⟩) rfl hl.1 rfl (Nat.le_of_ble_eq_true rfl) dL_law_543 hroom) hw hA hS (fun z1 G1 H locs p1 hw hS => ?_)
  have hf1 : fr G G1 (0 + 0) (0 + 76) := (by repeat' (first | exact p1 | refine Or.elim p1 (fun p1 => ?_) (fun p1 => ?_) | refine Exists.elim p1 (fun _ p1 => ?_) | replace p1 := p1.2))
  have hM1 := isM_fr hM hf1 (Or.inr (by decide))
  refine lv_aload_n hx hb dL_law_546 rfl (lv_at hl 2 rfl) ?_
  refine lv_aload_n hx hb dL_law_547 rfl (lv_at hl 0 rfl) ?_
  refine lv_iload_n hx hb dL_law_548 rfl (lv_at hl 3 rfl) ?_
  refine lv_iconst (v := nI 1) hx hb dL_law_549 (by decide) ?_
  refine nr_iadd hx hb dL_law_550 ?_
  refine va_sld hx hb hX hbl hbA hS (vp_in_nI (by omega) (by omega)) dL_law_551 ?_
  rw [← ey1]
  refine nr_goI (nr_runV (As := [.int y1]) (C := RX12) (T := TX12) (N := 19) ⟨hx, hb, hml, hown, hts⟩ hw (by decide) (isM_0 hM1) rfl (c_X12_hush l Γ 89 G1 76 R K kp rf ca rc hd fw tl by0 an vl iv hM1 (by decide) S.1.2.1.1.1.1 hj y1 hfw) (cwV 1 hts gL_law_X12_hush rfl rfl rfl (by decide +kernel) ⟨Nat.le_of_ble_eq_true rfl, Nat.le_of_ble_eq_true rfl⟩) rfl hl.1 rfl (Nat.le_of_ble_eq_true rfl) dL_law_552 hroom) hw hA hS (fun z2 G2 H locs p2 hw hS => ?_)
  obtain ⟨hz, I⟩ := op_hush (ca := ca) (rc := rc) (fw := fw) (hd := hd) (by decide) S p1 p2
  refine lv_icmp_eq (tgt := 1152) hx hb dL_law_555 (by decide) (fun c9 => ?_) (fun c9 => ?_)
  · exact kk _ _ _ I hw hS
  · exact absurd hz c9
set_option maxHeartbeats 4000000 in
set_option maxRecDepth 100000 in
theorem st_round {p : Program} {l : Launch} {e : Env} {s : State} {m : MethodId} {below : List Frame} {meth : Method} {c : Code} {b L i cells slots : Nat} {xs : Nat → Int32} {Γ : Gam} {G : Nat → va_E} {H : Heap} {locs : List Loc} {ls : Array Slot} (hL0 : L ≤ 2560) (hx : p.tables.exec = Jvm.exec) (hb : c.code = cL_law) (hml : c.maxLocals = 4) (hown : s.vm.findClass RL = some m.cls) (hts : ∀ w ∈ lw_tbl, w.before #[Value.ref b] s = true) (hX : va_X b L xs s s.heap) (hbl : b < s.heap.size) {Q : State → Prop} (hi5 : i + 5 ≤ L) (hj : winj Γ 89) (hA : ∀ q, wA Γ 89 q → s.heap.size ≤ q) (hS : va_S (fun q : Nat => s.heap.size ≤ q) s.heap H locs) (hw1 : hw Γ 89 G s H) (I : SI Γ G 0 76) (hroom : cells ≤ 600000 ∧ slots ≤ 7302250) (hl : lv_has ls 4 [(0, .ref b), (1, .ref (ad Γ 0)), (2, .ref (ad Γ 76)), (3, .int (nI i))])
    (kk : ∀ (G3 : Nat → va_E) (H3 : Heap) (locs3 : List Loc), SI Γ G3 0 76 → hw Γ 89 G3 s H3 → va_S (fun q : Nat => s.heap.size ≤ q) s.heap H3 locs3 → W p l e room_1 s m #[Value.ref b] below meth c H3 locs3 cells slots Q (F0 m 1152 ls [])) :
    W p l e room_1 s m #[Value.ref b] below meth c H locs cells slots Q (F0 m 560 ls []) := by
  have hw := hw1
  have hbA : ¬ (fun q : Nat => s.heap.size ≤ q) b := Nat.not_le.mpr hbl
  obtain ⟨by0, tv, gv, Dv, lf, vs, cv, V, J0, J1, kp, rf, R, K, ca, rc, hd, fw, tl, an, vl, iv, ⟨hO, hT, hRd, hD, hRw, hGs, hCh, hV, hP0, hP1, -⟩, hM, S⟩ := I
  have S1 := S
  obtain ⟨-, -, -, ⟨ht, hL, hbt⟩, ⟨hDv, hgv, hlf, hvs⟩, hkp, ⟨hhd, hfw, htl, hvl⟩, hAi, hKB, -, -⟩ := S1
  refine lv_aload_n hx hb dL_law_560 rfl (lv_at hl 1 rfl) ?_
  refine lv_aload_n hx hb dL_law_561 rfl (lv_at hl 0 rfl) ?_
  refine lv_iload_n hx hb dL_law_562 rfl (lv_at hl 3 rfl) ?_
  refine lv_iconst (v := nI 1) hx hb dL_law_563 (by decide) ?_
  refine nr_iadd hx hb dL_law_564 ?_
  refine va_sld hx hb hX hbl hbA hS (vp_in_nI (by omega) (by omega)) dL_law_565 ?_
  obtain ⟨y1, ey1⟩ : ∃ y, y = xs (nI (i + 1)).toNatClampNeg := ⟨_, rfl⟩
  rw [← ey1]
  refine nr_goI (nr_runV (As := [.int y1]) (C := RX11) (T := TX11) (N := 11) ⟨hx, hb, hml, hown, hts⟩ hw (by decide) (isO_0 hO) rfl (c_X11_round l Γ 89 G 0 kp rf by0 tv gv Dv lf vs cv V J0 J1 hO hT hRd hD hRw hGs hCh hV hP0 hP1 (by decide) hj y1 S.1.1.1) (cwV 1 hts gL_law_X11_round rfl rfl rfl (by decide +kernel) ⟨Nat.le_of_ble_eq_true rfl, Nat.le_of_ble_eq_true rfl⟩) rfl hl.1 rfl (Nat.le_of_ble_eq_true rfl) dL_law_566 hroom) hw hA hS (fun z1 G1 H locs p1 hw hS => ?_)
  have hf1 : fr G G1 (0 + 0) (0 + 76) := (by repeat' (first | exact p1 | refine Or.elim p1 (fun p1 => ?_) (fun p1 => ?_) | refine Exists.elim p1 (fun _ p1 => ?_) | replace p1 := p1.2))
  have hM1 := isM_fr hM hf1 (Or.inr (by decide))
  refine lv_aload_n hx hb dL_law_569 rfl (lv_at hl 2 rfl) ?_
  refine lv_aload_n hx hb dL_law_570 rfl (lv_at hl 0 rfl) ?_
  refine lv_iload_n hx hb dL_law_571 rfl (lv_at hl 3 rfl) ?_
  refine lv_iconst (v := nI 1) hx hb dL_law_572 (by decide) ?_
  refine nr_iadd hx hb dL_law_573 ?_
  refine va_sld hx hb hX hbl hbA hS (vp_in_nI (by omega) (by omega)) dL_law_574 ?_
  rw [← ey1]
  refine nr_goI (nr_runV (As := [.int y1]) (C := RX12) (T := TX12) (N := 19) ⟨hx, hb, hml, hown, hts⟩ hw (by decide) (isM_0 hM1) rfl (c_X12_round l Γ 89 G1 76 R K kp rf ca rc hd fw tl by0 an vl iv hM1 (by decide) S.1.2.1.1.1.1 hj y1) (cwV 1 hts gL_law_X12_round rfl rfl rfl (by decide +kernel) ⟨Nat.le_of_ble_eq_true rfl, Nat.le_of_ble_eq_true rfl⟩) rfl hl.1 rfl (Nat.le_of_ble_eq_true rfl) dL_law_575 hroom) hw hA hS (fun z2 G2 H locs p2 hw hS => ?_)
  obtain ⟨hz, I⟩ := op_round (ca := ca) (rc := rc) (fw := fw) (hd := hd) (by decide) S p1 p2
  refine lv_icmp_eq (tgt := 1152) hx hb dL_law_578 (by decide) (fun c9 => ?_) (fun c9 => ?_)
  · exact kk _ _ _ I hw hS
  · exact absurd hz c9
set_option maxHeartbeats 4000000 in
set_option maxRecDepth 100000 in
theorem st_seen {p : Program} {l : Launch} {e : Env} {s : State} {m : MethodId} {below : List Frame} {meth : Method} {c : Code} {b L i cells slots : Nat} {xs : Nat → Int32} {Γ : Gam} {G : Nat → va_E} {H : Heap} {locs : List Loc} {ls : Array Slot} (hL0 : L ≤ 2560) (hx : p.tables.exec = Jvm.exec) (hb : c.code = cL_law) (hml : c.maxLocals = 4) (hown : s.vm.findClass RL = some m.cls) (hts : ∀ w ∈ lw_tbl, w.before #[Value.ref b] s = true) (hX : va_X b L xs s s.heap) (hbl : b < s.heap.size) {Q : State → Prop} (hi5 : i + 5 ≤ L) (hj : winj Γ 89) (hA : ∀ q, wA Γ 89 q → s.heap.size ≤ q) (hS : va_S (fun q : Nat => s.heap.size ≤ q) s.heap H locs) (hw1 : hw Γ 89 G s H) (I : SI Γ G 0 76) (hroom : cells ≤ 600000 ∧ slots ≤ 7302250) (hl : lv_has ls 4 [(0, .ref b), (1, .ref (ad Γ 0)), (2, .ref (ad Γ 76)), (3, .int (nI i))])
    (kk : ∀ (G3 : Nat → va_E) (H3 : Heap) (locs3 : List Loc), SI Γ G3 0 76 → hw Γ 89 G3 s H3 → va_S (fun q : Nat => s.heap.size ≤ q) s.heap H3 locs3 → W p l e room_1 s m #[Value.ref b] below meth c H3 locs3 cells slots Q (F0 m 1152 ls [])) :
    W p l e room_1 s m #[Value.ref b] below meth c H locs cells slots Q (F0 m 583 ls []) := by
  have hw := hw1
  have hbA : ¬ (fun q : Nat => s.heap.size ≤ q) b := Nat.not_le.mpr hbl
  obtain ⟨by0, tv, gv, Dv, lf, vs, cv, V, J0, J1, kp, rf, R, K, ca, rc, hd, fw, tl, an, vl, iv, ⟨hO, hT, hRd, hD, hRw, hGs, hCh, hV, hP0, hP1, -⟩, hM, S⟩ := I
  have S1 := S
  obtain ⟨-, -, -, ⟨ht, hL, hbt⟩, ⟨hDv, hgv, hlf, hvs⟩, hkp, ⟨hhd, hfw, htl, hvl⟩, hAi, hKB, -, -⟩ := S1
  refine lv_aload_n hx hb dL_law_583 rfl (lv_at hl 1 rfl) ?_
  refine lv_aload_n hx hb dL_law_584 rfl (lv_at hl 0 rfl) ?_
  refine lv_iload_n hx hb dL_law_585 rfl (lv_at hl 3 rfl) ?_
  refine lv_iconst (v := nI 1) hx hb dL_law_586 (by decide) ?_
  refine nr_iadd hx hb dL_law_587 ?_
  refine va_sld hx hb hX hbl hbA hS (vp_in_nI (by omega) (by omega)) dL_law_588 ?_
  obtain ⟨y1, ey1⟩ : ∃ y, y = xs (nI (i + 1)).toNatClampNeg := ⟨_, rfl⟩
  rw [← ey1]
  refine lv_aload_n hx hb dL_law_589 rfl (lv_at hl 0 rfl) ?_
  refine lv_iload_n hx hb dL_law_590 rfl (lv_at hl 3 rfl) ?_
  refine lv_iconst (v := nI 2) hx hb dL_law_591 (by decide) ?_
  refine nr_iadd hx hb dL_law_592 ?_
  refine va_sld hx hb hX hbl hbA hS (vp_in_nI (by omega) (by omega)) dL_law_593 ?_
  obtain ⟨y2, ey2⟩ : ∃ y, y = xs (nI (i + 2)).toNatClampNeg := ⟨_, rfl⟩
  rw [← ey2]
  refine lv_aload_n hx hb dL_law_594 rfl (lv_at hl 0 rfl) ?_
  refine lv_iload_n hx hb dL_law_595 rfl (lv_at hl 3 rfl) ?_
  refine lv_iconst (v := nI 3) hx hb dL_law_596 (by decide) ?_
  refine nr_iadd hx hb dL_law_597 ?_
  refine va_sld hx hb hX hbl hbA hS (vp_in_nI (by omega) (by omega)) dL_law_598 ?_
  obtain ⟨y3, ey3⟩ : ∃ y, y = xs (nI (i + 3)).toNatClampNeg := ⟨_, rfl⟩
  rw [← ey3]
  refine lv_aload_n hx hb dL_law_599 rfl (lv_at hl 0 rfl) ?_
  refine lv_iload_n hx hb dL_law_600 rfl (lv_at hl 3 rfl) ?_
  refine lv_iconst (v := nI 4) hx hb dL_law_601 (by decide) ?_
  refine nr_iadd hx hb dL_law_602 ?_
  refine va_sld hx hb hX hbl hbA hS (vp_in_nI (by omega) (by omega)) dL_law_603 ?_
  obtain ⟨y4, ey4⟩ : ∃ y, y = xs (nI (i + 4)).toNatClampNeg := ⟨_, rfl⟩
  rw [← ey4]
  refine nr_goI (nr_runV (As := [.int y1, .int y2, .int y3, .int y4]) (C := RX11) (T := TX11) (N := 11) ⟨hx, hb, hml, hown, hts⟩ hw (by decide) (isO_0 hO) rfl (c_X11_seen l Γ 89 G 0 kp rf by0 tv gv Dv lf vs cv V J0 J1 hO hT hRd hD hRw hGs hCh hV hP0 hP1 (by decide) hj y1 y2 y3 y4 S.1.1.1) (cwV 4 hts gL_law_X11_seen rfl rfl rfl (by decide +kernel) ⟨Nat.le_of_ble_eq_true rfl, Nat.le_of_ble_eq_true rfl⟩) rfl hl.1 rfl (Nat.le_of_ble_eq_true rfl) dL_law_604 hroom) hw hA hS (fun z1 G1 H locs p1 hw hS => ?_)
  have hf1 : fr G G1 (0 + 0) (0 + 76) := (by repeat' (first | exact p1 | refine Or.elim p1 (fun p1 => ?_) (fun p1 => ?_) | refine Exists.elim p1 (fun _ p1 => ?_) | replace p1 := p1.2))
  have hM1 := isM_fr hM hf1 (Or.inr (by decide))
  refine lv_aload_n hx hb dL_law_607 rfl (lv_at hl 2 rfl) ?_
  refine lv_aload_n hx hb dL_law_608 rfl (lv_at hl 0 rfl) ?_
  refine lv_iload_n hx hb dL_law_609 rfl (lv_at hl 3 rfl) ?_
  refine lv_iconst (v := nI 1) hx hb dL_law_610 (by decide) ?_
  refine nr_iadd hx hb dL_law_611 ?_
  refine va_sld hx hb hX hbl hbA hS (vp_in_nI (by omega) (by omega)) dL_law_612 ?_
  rw [← ey1]
  refine lv_aload_n hx hb dL_law_613 rfl (lv_at hl 0 rfl) ?_
  refine lv_iload_n hx hb dL_law_614 rfl (lv_at hl 3 rfl) ?_
  refine lv_iconst (v := nI 2) hx hb dL_law_615 (by decide) ?_
  refine nr_iadd hx hb dL_law_616 ?_
  refine va_sld hx hb hX hbl hbA hS (vp_in_nI (by omega) (by omega)) dL_law_617 ?_
  rw [← ey2]
  refine lv_aload_n hx hb dL_law_618 rfl (lv_at hl 0 rfl) ?_
  refine lv_iload_n hx hb dL_law_619 rfl (lv_at hl 3 rfl) ?_
  refine lv_iconst (v := nI 3) hx hb dL_law_620 (by decide) ?_
  refine nr_iadd hx hb dL_law_621 ?_
  refine va_sld hx hb hX hbl hbA hS (vp_in_nI (by omega) (by omega)) dL_law_622 ?_
  rw [← ey3]
  refine lv_aload_n hx hb dL_law_623 rfl (lv_at hl 0 rfl) ?_
  refine lv_iload_n hx hb dL_law_624 rfl (lv_at hl 3 rfl) ?_
  refine lv_iconst (v := nI 4) hx hb dL_law_625 (by decide) ?_
  refine nr_iadd hx hb dL_law_626 ?_
  refine va_sld hx hb hX hbl hbA hS (vp_in_nI (by omega) (by omega)) dL_law_627 ?_
  rw [← ey4]
  refine nr_goI (nr_runV (As := [.int y1, .int y2, .int y3, .int y4]) (C := RX12) (T := TX12) (N := 19) ⟨hx, hb, hml, hown, hts⟩ hw (by decide) (isM_0 hM1) rfl (c_X12_seen l Γ 89 G1 76 R K kp rf ca rc hd fw tl by0 an vl iv hM1 (by decide) S.1.2.1.1.1.1 hj y1 y2 y3 y4) (cwV 4 hts gL_law_X12_seen rfl rfl rfl (by decide +kernel) ⟨Nat.le_of_ble_eq_true rfl, Nat.le_of_ble_eq_true rfl⟩) rfl hl.1 rfl (Nat.le_of_ble_eq_true rfl) dL_law_628 hroom) hw hA hS (fun z2 G2 H locs p2 hw hS => ?_)
  obtain ⟨hz, I⟩ := op_seen (ca := ca) (rc := rc) (fw := fw) (hd := hd) (by decide) S p1 p2
  refine lv_icmp_eq (tgt := 1152) hx hb dL_law_631 (by decide) (fun c9 => ?_) (fun c9 => ?_)
  · exact kk _ _ _ I hw hS
  · exact absurd hz c9
set_option maxHeartbeats 4000000 in
set_option maxRecDepth 100000 in
theorem st_grave {p : Program} {l : Launch} {e : Env} {s : State} {m : MethodId} {below : List Frame} {meth : Method} {c : Code} {b L i cells slots : Nat} {xs : Nat → Int32} {Γ : Gam} {G : Nat → va_E} {H : Heap} {locs : List Loc} {ls : Array Slot} (hL0 : L ≤ 2560) (hx : p.tables.exec = Jvm.exec) (hb : c.code = cL_law) (hml : c.maxLocals = 4) (hown : s.vm.findClass RL = some m.cls) (hts : ∀ w ∈ lw_tbl, w.before #[Value.ref b] s = true) (hX : va_X b L xs s s.heap) (hbl : b < s.heap.size) {Q : State → Prop} (hi5 : i + 5 ≤ L) (hj : winj Γ 89) (hA : ∀ q, wA Γ 89 q → s.heap.size ≤ q) (hS : va_S (fun q : Nat => s.heap.size ≤ q) s.heap H locs) (hw1 : hw Γ 89 G s H) (I : SI Γ G 0 76) (hroom : cells ≤ 600000 ∧ slots ≤ 7302250) (hl : lv_has ls 4 [(0, .ref b), (1, .ref (ad Γ 0)), (2, .ref (ad Γ 76)), (3, .int (nI i))])
    (kk : ∀ (G3 : Nat → va_E) (H3 : Heap) (locs3 : List Loc), SI Γ G3 0 76 → hw Γ 89 G3 s H3 → va_S (fun q : Nat => s.heap.size ≤ q) s.heap H3 locs3 → W p l e room_1 s m #[Value.ref b] below meth c H3 locs3 cells slots Q (F0 m 1152 ls [])) :
    W p l e room_1 s m #[Value.ref b] below meth c H locs cells slots Q (F0 m 636 ls []) := by
  have hw := hw1
  have hbA : ¬ (fun q : Nat => s.heap.size ≤ q) b := Nat.not_le.mpr hbl
  obtain ⟨by0, tv, gv, Dv, lf, vs, cv, V, J0, J1, kp, rf, R, K, ca, rc, hd, fw, tl, an, vl, iv, ⟨hO, hT, hRd, hD, hRw, hGs, hCh, hV, hP0, hP1, -⟩, hM, S⟩ := I
  have S1 := S
  obtain ⟨-, -, -, ⟨ht, hL, hbt⟩, ⟨hDv, hgv, hlf, hvs⟩, hkp, ⟨hhd, hfw, htl, hvl⟩, hAi, hKB, -, -⟩ := S1
  refine lv_aload_n hx hb dL_law_636 rfl (lv_at hl 1 rfl) ?_
  refine lv_aload_n hx hb dL_law_637 rfl (lv_at hl 0 rfl) ?_
  refine lv_iload_n hx hb dL_law_638 rfl (lv_at hl 3 rfl) ?_
  refine lv_iconst (v := nI 1) hx hb dL_law_639 (by decide) ?_
  refine nr_iadd hx hb dL_law_640 ?_
  refine va_sld hx hb hX hbl hbA hS (vp_in_nI (by omega) (by omega)) dL_law_641 ?_
  obtain ⟨y1, ey1⟩ : ∃ y, y = xs (nI (i + 1)).toNatClampNeg := ⟨_, rfl⟩
  rw [← ey1]
  refine lv_aload_n hx hb dL_law_642 rfl (lv_at hl 0 rfl) ?_
  refine lv_iload_n hx hb dL_law_643 rfl (lv_at hl 3 rfl) ?_
  refine lv_iconst (v := nI 2) hx hb dL_law_644 (by decide) ?_
  refine nr_iadd hx hb dL_law_645 ?_
  refine va_sld hx hb hX hbl hbA hS (vp_in_nI (by omega) (by omega)) dL_law_646 ?_
  obtain ⟨y2, ey2⟩ : ∃ y, y = xs (nI (i + 2)).toNatClampNeg := ⟨_, rfl⟩
  rw [← ey2]
  refine nr_goI (nr_runV (As := [.int y1, .int y2]) (C := RX11) (T := TX11) (N := 11) ⟨hx, hb, hml, hown, hts⟩ hw (by decide) (isO_0 hO) rfl (c_X11_grave l Γ 89 G 0 kp rf by0 tv gv Dv lf vs cv V J0 J1 hO hT hRd hD hRw hGs hCh hV hP0 hP1 (by decide) hj y1 y2 S.1.1.1) (cwV 2 hts gL_law_X11_grave rfl rfl rfl (by decide +kernel) ⟨Nat.le_of_ble_eq_true rfl, Nat.le_of_ble_eq_true rfl⟩) rfl hl.1 rfl (Nat.le_of_ble_eq_true rfl) dL_law_647 hroom) hw hA hS (fun z1 G1 H locs p1 hw hS => ?_)
  have hf1 : fr G G1 (0 + 0) (0 + 76) := (by repeat' (first | exact p1 | refine Or.elim p1 (fun p1 => ?_) (fun p1 => ?_) | refine Exists.elim p1 (fun _ p1 => ?_) | replace p1 := p1.2))
  have hM1 := isM_fr hM hf1 (Or.inr (by decide))
  refine lv_aload_n hx hb dL_law_650 rfl (lv_at hl 2 rfl) ?_
  refine lv_aload_n hx hb dL_law_651 rfl (lv_at hl 0 rfl) ?_
  refine lv_iload_n hx hb dL_law_652 rfl (lv_at hl 3 rfl) ?_
  refine lv_iconst (v := nI 1) hx hb dL_law_653 (by decide) ?_
  refine nr_iadd hx hb dL_law_654 ?_
  refine va_sld hx hb hX hbl hbA hS (vp_in_nI (by omega) (by omega)) dL_law_655 ?_
  rw [← ey1]
  refine lv_aload_n hx hb dL_law_656 rfl (lv_at hl 0 rfl) ?_
  refine lv_iload_n hx hb dL_law_657 rfl (lv_at hl 3 rfl) ?_
  refine lv_iconst (v := nI 2) hx hb dL_law_658 (by decide) ?_
  refine nr_iadd hx hb dL_law_659 ?_
  refine va_sld hx hb hX hbl hbA hS (vp_in_nI (by omega) (by omega)) dL_law_660 ?_
  rw [← ey2]
  refine nr_goI (nr_runV (As := [.int y1, .int y2]) (C := RX12) (T := TX12) (N := 19) ⟨hx, hb, hml, hown, hts⟩ hw (by decide) (isM_0 hM1) rfl (c_X12_grave l Γ 89 G1 76 R K kp rf ca rc hd fw tl by0 an vl iv hM1 (by decide) S.1.2.1.1.1.1 hj y1 y2) (cwV 2 hts gL_law_X12_grave rfl rfl rfl (by decide +kernel) ⟨Nat.le_of_ble_eq_true rfl, Nat.le_of_ble_eq_true rfl⟩) rfl hl.1 rfl (Nat.le_of_ble_eq_true rfl) dL_law_661 hroom) hw hA hS (fun z2 G2 H locs p2 hw hS => ?_)
  obtain ⟨hz, I⟩ := op_grave (ca := ca) (rc := rc) (fw := fw) (hd := hd) (by decide) S p1 p2
  refine lv_icmp_eq (tgt := 1152) hx hb dL_law_664 (by decide) (fun c9 => ?_) (fun c9 => ?_)
  · exact kk _ _ _ I hw hS
  · exact absurd hz c9
set_option maxHeartbeats 4000000 in
set_option maxRecDepth 100000 in
theorem st_tell {p : Program} {l : Launch} {e : Env} {s : State} {m : MethodId} {below : List Frame} {meth : Method} {c : Code} {b L i cells slots : Nat} {xs : Nat → Int32} {Γ : Gam} {G : Nat → va_E} {H : Heap} {locs : List Loc} {ls : Array Slot} (hL0 : L ≤ 2560) (hx : p.tables.exec = Jvm.exec) (hb : c.code = cL_law) (hml : c.maxLocals = 4) (hown : s.vm.findClass RL = some m.cls) (hts : ∀ w ∈ lw_tbl, w.before #[Value.ref b] s = true) (hX : va_X b L xs s s.heap) (hbl : b < s.heap.size) {Q : State → Prop} (hi5 : i + 5 ≤ L) (hj : winj Γ 89) (hA : ∀ q, wA Γ 89 q → s.heap.size ≤ q) (hS : va_S (fun q : Nat => s.heap.size ≤ q) s.heap H locs) (hw1 : hw Γ 89 G s H) (I : SI Γ G 0 76) (hroom : cells ≤ 600000 ∧ slots ≤ 7302250) (hl : lv_has ls 4 [(0, .ref b), (1, .ref (ad Γ 0)), (2, .ref (ad Γ 76)), (3, .int (nI i))])
    (kk : ∀ (G3 : Nat → va_E) (H3 : Heap) (locs3 : List Loc), SI Γ G3 0 76 → hw Γ 89 G3 s H3 → va_S (fun q : Nat => s.heap.size ≤ q) s.heap H3 locs3 → W p l e room_1 s m #[Value.ref b] below meth c H3 locs3 cells slots Q (F0 m 1152 ls [])) :
    W p l e room_1 s m #[Value.ref b] below meth c H locs cells slots Q (F0 m 669 ls []) := by
  have hw := hw1
  have hbA : ¬ (fun q : Nat => s.heap.size ≤ q) b := Nat.not_le.mpr hbl
  obtain ⟨by0, tv, gv, Dv, lf, vs, cv, V, J0, J1, kp, rf, R, K, ca, rc, hd, fw, tl, an, vl, iv, ⟨hO, hT, hRd, hD, hRw, hGs, hCh, hV, hP0, hP1, -⟩, hM, S⟩ := I
  have S1 := S
  obtain ⟨-, -, -, ⟨ht, hL, hbt⟩, ⟨hDv, hgv, hlf, hvs⟩, hkp, ⟨hhd, hfw, htl, hvl⟩, hAi, hKB, -, -⟩ := S1
  refine lv_aload_n hx hb dL_law_669 rfl (lv_at hl 1 rfl) ?_
  refine lv_aload_n hx hb dL_law_670 rfl (lv_at hl 0 rfl) ?_
  refine lv_iload_n hx hb dL_law_671 rfl (lv_at hl 3 rfl) ?_
  refine lv_iconst (v := nI 1) hx hb dL_law_672 (by decide) ?_
  refine nr_iadd hx hb dL_law_673 ?_
  refine va_sld hx hb hX hbl hbA hS (vp_in_nI (by omega) (by omega)) dL_law_674 ?_
  obtain ⟨y1, ey1⟩ : ∃ y, y = xs (nI (i + 1)).toNatClampNeg := ⟨_, rfl⟩
  rw [← ey1]
  refine nr_goI (nr_runV (As := [.int y1]) (C := RX11) (T := TX11) (N := 11) ⟨hx, hb, hml, hown, hts⟩ hw (by decide) (isO_0 hO) rfl (c_X11_tell l Γ 89 G 0 kp rf by0 tv gv Dv lf vs cv V J0 J1 hO hT hRd hD hRw hGs hCh hV hP0 hP1 (by decide) hj y1 S.1.1.1) (cwV 1 hts gL_law_X11_tell rfl rfl rfl (by decide +kernel) ⟨Nat.le_of_ble_eq_true rfl, Nat.le_of_ble_eq_true rfl⟩) rfl hl.1 rfl (Nat.le_of_ble_eq_true rfl) dL_law_675 hroom) hw hA hS (fun z1 G1 H locs p1 hw hS => ?_)
  have hf1 : fr G G1 (0 + 0) (0 + 76) := (by repeat' (first | exact p1 | refine Or.elim p1 (fun p1 => ?_) (fun p1 => ?_) | refine Exists.elim p1 (fun _ p1 => ?_) | replace p1 := p1.2))
  have hM1 := isM_fr hM hf1 (Or.inr (by decide))
  refine lv_aload_n hx hb dL_law_678 rfl (lv_at hl 2 rfl) ?_
  refine lv_aload_n hx hb dL_law_679 rfl (lv_at hl 0 rfl) ?_
  refine lv_iload_n hx hb dL_law_680 rfl (lv_at hl 3 rfl) ?_
  refine lv_iconst (v := nI 1) hx hb dL_law_681 (by decide) ?_
  refine nr_iadd hx hb dL_law_682 ?_
  refine va_sld hx hb hX hbl hbA hS (vp_in_nI (by omega) (by omega)) dL_law_683 ?_
  rw [← ey1]
  refine nr_goI (nr_runV (As := [.int y1]) (C := RX12) (T := TX12) (N := 19) ⟨hx, hb, hml, hown, hts⟩ hw (by decide) (isM_0 hM1) rfl (c_X12_tell l Γ 89 G1 76 R K kp rf ca rc hd fw tl by0 an vl iv hM1 (by decide) S.1.2.1.1.1.1 hj y1) (cwV 1 hts gL_law_X12_tell rfl rfl rfl (by decide +kernel) ⟨Nat.le_of_ble_eq_true rfl, Nat.le_of_ble_eq_true rfl⟩) rfl hl.1 rfl (Nat.le_of_ble_eq_true rfl) dL_law_684 hroom) hw hA hS (fun z2 G2 H locs p2 hw hS => ?_)
  obtain ⟨hz, I⟩ := op_tell (ca := ca) (rc := rc) (fw := fw) (hd := hd) (by decide) S p1 p2
  refine lv_icmp_eq (tgt := 1152) hx hb dL_law_687 (by decide) (fun c9 => ?_) (fun c9 => ?_)
  · exact kk _ _ _ I hw hS
  · exact absurd hz c9
set_option maxHeartbeats 4000000 in
set_option maxRecDepth 100000 in
theorem st_note {p : Program} {l : Launch} {e : Env} {s : State} {m : MethodId} {below : List Frame} {meth : Method} {c : Code} {b L i cells slots : Nat} {xs : Nat → Int32} {Γ : Gam} {G : Nat → va_E} {H : Heap} {locs : List Loc} {ls : Array Slot} (hL0 : L ≤ 2560) (hx : p.tables.exec = Jvm.exec) (hb : c.code = cL_law) (hml : c.maxLocals = 4) (hown : s.vm.findClass RL = some m.cls) (hts : ∀ w ∈ lw_tbl, w.before #[Value.ref b] s = true) (hX : va_X b L xs s s.heap) (hbl : b < s.heap.size) {Q : State → Prop} (hi5 : i + 5 ≤ L) (hj : winj Γ 89) (hA : ∀ q, wA Γ 89 q → s.heap.size ≤ q) (hS : va_S (fun q : Nat => s.heap.size ≤ q) s.heap H locs) (hw1 : hw Γ 89 G s H) (I : SI Γ G 0 76) (hroom : cells ≤ 600000 ∧ slots ≤ 7302250) (hl : lv_has ls 4 [(0, .ref b), (1, .ref (ad Γ 0)), (2, .ref (ad Γ 76)), (3, .int (nI i))])
    (kk : ∀ (G3 : Nat → va_E) (H3 : Heap) (locs3 : List Loc), SI Γ G3 0 76 → hw Γ 89 G3 s H3 → va_S (fun q : Nat => s.heap.size ≤ q) s.heap H3 locs3 → W p l e room_1 s m #[Value.ref b] below meth c H3 locs3 cells slots Q (F0 m 1152 ls [])) :
    W p l e room_1 s m #[Value.ref b] below meth c H locs cells slots Q (F0 m 692 ls []) := by
  have hw := hw1
  have hbA : ¬ (fun q : Nat => s.heap.size ≤ q) b := Nat.not_le.mpr hbl
  obtain ⟨by0, tv, gv, Dv, lf, vs, cv, V, J0, J1, kp, rf, R, K, ca, rc, hd, fw, tl, an, vl, iv, ⟨hO, hT, hRd, hD, hRw, hGs, hCh, hV, hP0, hP1, -⟩, hM, S⟩ := I
  have S1 := S
  obtain ⟨-, -, -, ⟨ht, hL, hbt⟩, ⟨hDv, hgv, hlf, hvs⟩, hkp, ⟨hhd, hfw, htl, hvl⟩, hAi, hKB, -, -⟩ := S1
  refine lv_aload_n hx hb dL_law_692 rfl (lv_at hl 1 rfl) ?_
  refine lv_aload_n hx hb dL_law_693 rfl (lv_at hl 0 rfl) ?_
  refine lv_iload_n hx hb dL_law_694 rfl (lv_at hl 3 rfl) ?_
  refine lv_iconst (v := nI 1) hx hb dL_law_695 (by decide) ?_
  refine nr_iadd hx hb dL_law_696 ?_
  refine va_sld hx hb hX hbl hbA hS (vp_in_nI (by omega) (by omega)) dL_law_697 ?_
  obtain ⟨y1, ey1⟩ : ∃ y, y = xs (nI (i + 1)).toNatClampNeg := ⟨_, rfl⟩
  rw [← ey1]
  refine lv_aload_n hx hb dL_law_698 rfl (lv_at hl 0 rfl) ?_
  refine lv_iload_n hx hb dL_law_699 rfl (lv_at hl 3 rfl) ?_
  refine lv_iconst (v := nI 2) hx hb dL_law_700 (by decide) ?_
  refine nr_iadd hx hb dL_law_701 ?_
  refine va_sld hx hb hX hbl hbA hS (vp_in_nI (by omega) (by omega)) dL_law_702 ?_
  obtain ⟨y2, ey2⟩ : ∃ y, y = xs (nI (i + 2)).toNatClampNeg := ⟨_, rfl⟩
  rw [← ey2]
  refine lv_aload_n hx hb dL_law_703 rfl (lv_at hl 0 rfl) ?_
  refine lv_iload_n hx hb dL_law_704 rfl (lv_at hl 3 rfl) ?_
  refine lv_iconst (v := nI 3) hx hb dL_law_705 (by decide) ?_
  refine nr_iadd hx hb dL_law_706 ?_
  refine va_sld hx hb hX hbl hbA hS (vp_in_nI (by omega) (by omega)) dL_law_707 ?_
  obtain ⟨y3, ey3⟩ : ∃ y, y = xs (nI (i + 3)).toNatClampNeg := ⟨_, rfl⟩
  rw [← ey3]
  refine lv_aload_n hx hb dL_law_708 rfl (lv_at hl 0 rfl) ?_
  refine lv_iload_n hx hb dL_law_709 rfl (lv_at hl 3 rfl) ?_
  refine lv_iconst (v := nI 4) hx hb dL_law_710 (by decide) ?_
  refine nr_iadd hx hb dL_law_711 ?_
  refine va_sld hx hb hX hbl hbA hS (vp_in_nI (by omega) (by omega)) dL_law_712 ?_
  obtain ⟨y4, ey4⟩ : ∃ y, y = xs (nI (i + 4)).toNatClampNeg := ⟨_, rfl⟩
  rw [← ey4]
  refine nr_goI (nr_runV (As := [.int y1, .int y2, .int y3, .int y4]) (C := RX11) (T := TX11) (N := 11) ⟨hx, hb, hml, hown, hts⟩ hw (by decide) (isO_0 hO) rfl (c_X11_note l Γ 89 G 0 kp rf by0 tv gv Dv lf vs cv V J0 J1 hO hT hRd hD hRw hGs hCh hV hP0 hP1 (by decide) hj y1 y2 y3 y4 S.1.1.1) (cwV 4 hts gL_law_X11_note rfl rfl rfl (by decide +kernel) ⟨Nat.le_of_ble_eq_true rfl, Nat.le_of_ble_eq_true rfl⟩) rfl hl.1 rfl (Nat.le_of_ble_eq_true rfl) dL_law_713 hroom) hw hA hS (fun z1 G1 H locs p1 hw hS => ?_)
  have hf1 : fr G G1 (0 + 0) (0 + 76) := (by repeat' (first | exact p1 | refine Or.elim p1 (fun p1 => ?_) (fun p1 => ?_) | refine Exists.elim p1 (fun _ p1 => ?_) | replace p1 := p1.2))
  have hM1 := isM_fr hM hf1 (Or.inr (by decide))
  refine lv_aload_n hx hb dL_law_716 rfl (lv_at hl 2 rfl) ?_
  refine lv_aload_n hx hb dL_law_717 rfl (lv_at hl 0 rfl) ?_
  refine lv_iload_n hx hb dL_law_718 rfl (lv_at hl 3 rfl) ?_
  refine lv_iconst (v := nI 1) hx hb dL_law_719 (by decide) ?_
  refine nr_iadd hx hb dL_law_720 ?_
  refine va_sld hx hb hX hbl hbA hS (vp_in_nI (by omega) (by omega)) dL_law_721 ?_
  rw [← ey1]
  refine lv_aload_n hx hb dL_law_722 rfl (lv_at hl 0 rfl) ?_
  refine lv_iload_n hx hb dL_law_723 rfl (lv_at hl 3 rfl) ?_
  refine lv_iconst (v := nI 2) hx hb dL_law_724 (by decide) ?_
  refine nr_iadd hx hb dL_law_725 ?_
  refine va_sld hx hb hX hbl hbA hS (vp_in_nI (by omega) (by omega)) dL_law_726 ?_
  rw [← ey2]
  refine lv_aload_n hx hb dL_law_727 rfl (lv_at hl 0 rfl) ?_
  refine lv_iload_n hx hb dL_law_728 rfl (lv_at hl 3 rfl) ?_
  refine lv_iconst (v := nI 3) hx hb dL_law_729 (by decide) ?_
  refine nr_iadd hx hb dL_law_730 ?_
  refine va_sld hx hb hX hbl hbA hS (vp_in_nI (by omega) (by omega)) dL_law_731 ?_
  rw [← ey3]
  refine lv_aload_n hx hb dL_law_732 rfl (lv_at hl 0 rfl) ?_
  refine lv_iload_n hx hb dL_law_733 rfl (lv_at hl 3 rfl) ?_
  refine lv_iconst (v := nI 4) hx hb dL_law_734 (by decide) ?_
  refine nr_iadd hx hb dL_law_735 ?_
  refine va_sld hx hb hX hbl hbA hS (vp_in_nI (by omega) (by omega)) dL_law_736 ?_
  rw [← ey4]
  refine nr_goI (nr_runV (As := [.int y1, .int y2, .int y3, .int y4]) (C := RX12) (T := TX12) (N := 19) ⟨hx, hb, hml, hown, hts⟩ hw (by decide) (isM_0 hM1) rfl (c_X12_note l Γ 89 G1 76 R K kp rf ca rc hd fw tl by0 an vl iv hM1 (by decide) S.1.2.1.1.1.1 hj y1 y2 y3 y4) (cwV 4 hts gL_law_X12_note rfl rfl rfl (by decide +kernel) ⟨Nat.le_of_ble_eq_true rfl, Nat.le_of_ble_eq_true rfl⟩) rfl hl.1 rfl (Nat.le_of_ble_eq_true rfl) dL_law_737 hroom) hw hA hS (fun z2 G2 H locs p2 hw hS => ?_)
  obtain ⟨hz, I⟩ := op_note (ca := ca) (rc := rc) (fw := fw) (hd := hd) (by decide) S p1 p2
  refine lv_icmp_eq (tgt := 1152) hx hb dL_law_740 (by decide) (fun c9 => ?_) (fun c9 => ?_)
  · exact kk _ _ _ I hw hS
  · exact absurd hz c9
set_option maxHeartbeats 4000000 in
set_option maxRecDepth 100000 in
theorem st_mark {p : Program} {l : Launch} {e : Env} {s : State} {m : MethodId} {below : List Frame} {meth : Method} {c : Code} {b L i cells slots : Nat} {xs : Nat → Int32} {Γ : Gam} {G : Nat → va_E} {H : Heap} {locs : List Loc} {ls : Array Slot} (hL0 : L ≤ 2560) (hx : p.tables.exec = Jvm.exec) (hb : c.code = cL_law) (hml : c.maxLocals = 4) (hown : s.vm.findClass RL = some m.cls) (hts : ∀ w ∈ lw_tbl, w.before #[Value.ref b] s = true) (hX : va_X b L xs s s.heap) (hbl : b < s.heap.size) {Q : State → Prop} (hi5 : i + 5 ≤ L) (hj : winj Γ 89) (hA : ∀ q, wA Γ 89 q → s.heap.size ≤ q) (hS : va_S (fun q : Nat => s.heap.size ≤ q) s.heap H locs) (hw1 : hw Γ 89 G s H) (I : SI Γ G 0 76) (hroom : cells ≤ 600000 ∧ slots ≤ 7302250) (hl : lv_has ls 4 [(0, .ref b), (1, .ref (ad Γ 0)), (2, .ref (ad Γ 76)), (3, .int (nI i))])
    (kk : ∀ (G3 : Nat → va_E) (H3 : Heap) (locs3 : List Loc), SI Γ G3 0 76 → hw Γ 89 G3 s H3 → va_S (fun q : Nat => s.heap.size ≤ q) s.heap H3 locs3 → W p l e room_1 s m #[Value.ref b] below meth c H3 locs3 cells slots Q (F0 m 1152 ls [])) :
    W p l e room_1 s m #[Value.ref b] below meth c H locs cells slots Q (F0 m 745 ls []) := by
  have hw := hw1
  have hbA : ¬ (fun q : Nat => s.heap.size ≤ q) b := Nat.not_le.mpr hbl
  obtain ⟨by0, tv, gv, Dv, lf, vs, cv, V, J0, J1, kp, rf, R, K, ca, rc, hd, fw, tl, an, vl, iv, ⟨hO, hT, hRd, hD, hRw, hGs, hCh, hV, hP0, hP1, -⟩, hM, S⟩ := I
  have S1 := S
  obtain ⟨-, -, -, ⟨ht, hL, hbt⟩, ⟨hDv, hgv, hlf, hvs⟩, hkp, ⟨hhd, hfw, htl, hvl⟩, hAi, hKB, -, -⟩ := S1
  refine lv_aload_n hx hb dL_law_745 rfl (lv_at hl 1 rfl) ?_
  refine lv_aload_n hx hb dL_law_746 rfl (lv_at hl 0 rfl) ?_
  refine lv_iload_n hx hb dL_law_747 rfl (lv_at hl 3 rfl) ?_
  refine lv_iconst (v := nI 1) hx hb dL_law_748 (by decide) ?_
  refine nr_iadd hx hb dL_law_749 ?_
  refine va_sld hx hb hX hbl hbA hS (vp_in_nI (by omega) (by omega)) dL_law_750 ?_
  obtain ⟨y1, ey1⟩ : ∃ y, y = xs (nI (i + 1)).toNatClampNeg := ⟨_, rfl⟩
  rw [← ey1]
  refine lv_aload_n hx hb dL_law_751 rfl (lv_at hl 0 rfl) ?_
  refine lv_iload_n hx hb dL_law_752 rfl (lv_at hl 3 rfl) ?_
  refine lv_iconst (v := nI 2) hx hb dL_law_753 (by decide) ?_
  refine nr_iadd hx hb dL_law_754 ?_
  refine va_sld hx hb hX hbl hbA hS (vp_in_nI (by omega) (by omega)) dL_law_755 ?_
  obtain ⟨y2, ey2⟩ : ∃ y, y = xs (nI (i + 2)).toNatClampNeg := ⟨_, rfl⟩
  rw [← ey2]
  refine lv_aload_n hx hb dL_law_756 rfl (lv_at hl 0 rfl) ?_
  refine lv_iload_n hx hb dL_law_757 rfl (lv_at hl 3 rfl) ?_
  refine lv_iconst (v := nI 3) hx hb dL_law_758 (by decide) ?_
  refine nr_iadd hx hb dL_law_759 ?_
  refine va_sld hx hb hX hbl hbA hS (vp_in_nI (by omega) (by omega)) dL_law_760 ?_
  obtain ⟨y3, ey3⟩ : ∃ y, y = xs (nI (i + 3)).toNatClampNeg := ⟨_, rfl⟩
  rw [← ey3]
  refine lv_aload_n hx hb dL_law_761 rfl (lv_at hl 0 rfl) ?_
  refine lv_iload_n hx hb dL_law_762 rfl (lv_at hl 3 rfl) ?_
  refine lv_iconst (v := nI 4) hx hb dL_law_763 (by decide) ?_
  refine nr_iadd hx hb dL_law_764 ?_
  refine va_sld hx hb hX hbl hbA hS (vp_in_nI (by omega) (by omega)) dL_law_765 ?_
  obtain ⟨y4, ey4⟩ : ∃ y, y = xs (nI (i + 4)).toNatClampNeg := ⟨_, rfl⟩
  rw [← ey4]
  refine nr_goI (nr_runV (As := [.int y1, .int y2, .int y3, .int y4]) (C := RX11) (T := TX11) (N := 11) ⟨hx, hb, hml, hown, hts⟩ hw (by decide) (isO_0 hO) rfl (c_X11_mark l Γ 89 G 0 kp rf by0 tv gv Dv lf vs cv V J0 J1 hO hT hRd hD hRw hGs hCh hV hP0 hP1 (by decide) hj y1 y2 y3 y4 S.1.1.1) (cwV 4 hts gL_law_X11_mark rfl rfl rfl (by decide +kernel) ⟨Nat.le_of_ble_eq_true rfl, Nat.le_of_ble_eq_true rfl⟩) rfl hl.1 rfl (Nat.le_of_ble_eq_true rfl) dL_law_766 hroom) hw hA hS (fun z1 G1 H locs p1 hw hS => ?_)
  have hf1 : fr G G1 (0 + 0) (0 + 76) := (by repeat' (first | exact p1 | refine Or.elim p1 (fun p1 => ?_) (fun p1 => ?_) | refine Exists.elim p1 (fun _ p1 => ?_) | replace p1 := p1.2))
  have hM1 := isM_fr hM hf1 (Or.inr (by decide))
  refine lv_aload_n hx hb dL_law_769 rfl (lv_at hl 2 rfl) ?_
  refine lv_aload_n hx hb dL_law_770 rfl (lv_at hl 0 rfl) ?_
  refine lv_iload_n hx hb dL_law_771 rfl (lv_at hl 3 rfl) ?_
  refine lv_iconst (v := nI 1) hx hb dL_law_772 (by decide) ?_
  refine nr_iadd hx hb dL_law_773 ?_
  refine va_sld hx hb hX hbl hbA hS (vp_in_nI (by omega) (by omega)) dL_law_774 ?_
  rw [← ey1]
  refine lv_aload_n hx hb dL_law_775 rfl (lv_at hl 0 rfl) ?_
  refine lv_iload_n hx hb dL_law_776 rfl (lv_at hl 3 rfl) ?_
  refine lv_iconst (v := nI 2) hx hb dL_law_777 (by decide) ?_
  refine nr_iadd hx hb dL_law_778 ?_
  refine va_sld hx hb hX hbl hbA hS (vp_in_nI (by omega) (by omega)) dL_law_779 ?_
  rw [← ey2]
  refine lv_aload_n hx hb dL_law_780 rfl (lv_at hl 0 rfl) ?_
  refine lv_iload_n hx hb dL_law_781 rfl (lv_at hl 3 rfl) ?_
  refine lv_iconst (v := nI 3) hx hb dL_law_782 (by decide) ?_
  refine nr_iadd hx hb dL_law_783 ?_
  refine va_sld hx hb hX hbl hbA hS (vp_in_nI (by omega) (by omega)) dL_law_784 ?_
  rw [← ey3]
  refine lv_aload_n hx hb dL_law_785 rfl (lv_at hl 0 rfl) ?_
  refine lv_iload_n hx hb dL_law_786 rfl (lv_at hl 3 rfl) ?_
  refine lv_iconst (v := nI 4) hx hb dL_law_787 (by decide) ?_
  refine nr_iadd hx hb dL_law_788 ?_
  refine va_sld hx hb hX hbl hbA hS (vp_in_nI (by omega) (by omega)) dL_law_789 ?_
  rw [← ey4]
  refine nr_goI (nr_runV (As := [.int y1, .int y2, .int y3, .int y4]) (C := RX12) (T := TX12) (N := 19) ⟨hx, hb, hml, hown, hts⟩ hw (by decide) (isM_0 hM1) rfl (c_X12_mark l Γ 89 G1 76 R K kp rf ca rc hd fw tl by0 an vl iv hM1 (by decide) S.1.2.1.1.1.1 hj y1 y2 y3 y4) (cwV 4 hts gL_law_X12_mark rfl rfl rfl (by decide +kernel) ⟨Nat.le_of_ble_eq_true rfl, Nat.le_of_ble_eq_true rfl⟩) rfl hl.1 rfl (Nat.le_of_ble_eq_true rfl) dL_law_790 hroom) hw hA hS (fun z2 G2 H locs p2 hw hS => ?_)
  obtain ⟨hz, I⟩ := op_mark (ca := ca) (rc := rc) (fw := fw) (hd := hd) (by decide) S p1 p2
  refine lv_icmp_eq (tgt := 1152) hx hb dL_law_793 (by decide) (fun c9 => ?_) (fun c9 => ?_)
  · exact kk _ _ _ I hw hS
  · exact absurd hz c9
set_option maxHeartbeats 4000000 in
set_option maxRecDepth 100000 in
theorem st_forget {p : Program} {l : Launch} {e : Env} {s : State} {m : MethodId} {below : List Frame} {meth : Method} {c : Code} {b L i cells slots : Nat} {xs : Nat → Int32} {Γ : Gam} {G : Nat → va_E} {H : Heap} {locs : List Loc} {ls : Array Slot} (hL0 : L ≤ 2560) (hx : p.tables.exec = Jvm.exec) (hb : c.code = cL_law) (hml : c.maxLocals = 4) (hown : s.vm.findClass RL = some m.cls) (hts : ∀ w ∈ lw_tbl, w.before #[Value.ref b] s = true) (hX : va_X b L xs s s.heap) (hbl : b < s.heap.size) {Q : State → Prop} (hi5 : i + 5 ≤ L) (hj : winj Γ 89) (hA : ∀ q, wA Γ 89 q → s.heap.size ≤ q) (hS : va_S (fun q : Nat => s.heap.size ≤ q) s.heap H locs) (hw1 : hw Γ 89 G s H) (I : SI Γ G 0 76) (hroom : cells ≤ 600000 ∧ slots ≤ 7302250) (hl : lv_has ls 4 [(0, .ref b), (1, .ref (ad Γ 0)), (2, .ref (ad Γ 76)), (3, .int (nI i))])
    (kk : ∀ (G3 : Nat → va_E) (H3 : Heap) (locs3 : List Loc), SI Γ G3 0 76 → hw Γ 89 G3 s H3 → va_S (fun q : Nat => s.heap.size ≤ q) s.heap H3 locs3 → W p l e room_1 s m #[Value.ref b] below meth c H3 locs3 cells slots Q (F0 m 1152 ls [])) :
    W p l e room_1 s m #[Value.ref b] below meth c H locs cells slots Q (F0 m 798 ls []) := by
  have hw := hw1
  have hbA : ¬ (fun q : Nat => s.heap.size ≤ q) b := Nat.not_le.mpr hbl
  obtain ⟨by0, tv, gv, Dv, lf, vs, cv, V, J0, J1, kp, rf, R, K, ca, rc, hd, fw, tl, an, vl, iv, ⟨hO, hT, hRd, hD, hRw, hGs, hCh, hV, hP0, hP1, -⟩, hM, S⟩ := I
  have S1 := S
  obtain ⟨-, -, -, ⟨ht, hL, hbt⟩, ⟨hDv, hgv, hlf, hvs⟩, hkp, ⟨hhd, hfw, htl, hvl⟩, hAi, hKB, -, -⟩ := S1
  refine lv_aload_n hx hb dL_law_798 rfl (lv_at hl 1 rfl) ?_
  refine lv_aload_n hx hb dL_law_799 rfl (lv_at hl 0 rfl) ?_
  refine lv_iload_n hx hb dL_law_800 rfl (lv_at hl 3 rfl) ?_
  refine lv_iconst (v := nI 1) hx hb dL_law_801 (by decide) ?_
  refine nr_iadd hx hb dL_law_802 ?_
  refine va_sld hx hb hX hbl hbA hS (vp_in_nI (by omega) (by omega)) dL_law_803 ?_
  obtain ⟨y1, ey1⟩ : ∃ y, y = xs (nI (i + 1)).toNatClampNeg := ⟨_, rfl⟩
  rw [← ey1]
  refine nr_goI (nr_runV (As := [.int y1]) (C := RX11) (T := TX11) (N := 11) ⟨hx, hb, hml, hown, hts⟩ hw (by decide) (isO_0 hO) rfl (c_X11_forget l Γ 89 G 0 kp rf by0 tv gv Dv lf vs cv V J0 J1 hO hT hRd hD hRw hGs hCh hV hP0 hP1 (by decide) hj y1 S.1.1.1) (cwV 1 hts gL_law_X11_forget rfl rfl rfl (by decide +kernel) ⟨Nat.le_of_ble_eq_true rfl, Nat.le_of_ble_eq_true rfl⟩) rfl hl.1 rfl (Nat.le_of_ble_eq_true rfl) dL_law_804 hroom) hw hA hS (fun z1 G1 H locs p1 hw hS => ?_)
  have hf1 : fr G G1 (0 + 0) (0 + 76) := (by repeat' (first | exact p1 | refine Or.elim p1 (fun p1 => ?_) (fun p1 => ?_) | refine Exists.elim p1 (fun _ p1 => ?_) | replace p1 := p1.2))
  have hM1 := isM_fr hM hf1 (Or.inr (by decide))
  refine lv_aload_n hx hb dL_law_807 rfl (lv_at hl 2 rfl) ?_
  refine lv_aload_n hx hb dL_law_808 rfl (lv_at hl 0 rfl) ?_
  refine lv_iload_n hx hb dL_law_809 rfl (lv_at hl 3 rfl) ?_
  refine lv_iconst (v := nI 1) hx hb dL_law_810 (by decide) ?_
  refine nr_iadd hx hb dL_law_811 ?_
  refine va_sld hx hb hX hbl hbA hS (vp_in_nI (by omega) (by omega)) dL_law_812 ?_
  rw [← ey1]
  refine nr_goI (nr_runV (As := [.int y1]) (C := RX12) (T := TX12) (N := 19) ⟨hx, hb, hml, hown, hts⟩ hw (by decide) (isM_0 hM1) rfl (c_X12_forget l Γ 89 G1 76 R K kp rf ca rc hd fw tl by0 an vl iv hM1 (by decide) S.1.2.1.1.1.1 hj y1) (cwV 1 hts gL_law_X12_forget rfl rfl rfl (by decide +kernel) ⟨Nat.le_of_ble_eq_true rfl, Nat.le_of_ble_eq_true rfl⟩) rfl hl.1 rfl (Nat.le_of_ble_eq_true rfl) dL_law_813 hroom) hw hA hS (fun z2 G2 H locs p2 hw hS => ?_)
  obtain ⟨hz, I⟩ := op_forget (ca := ca) (rc := rc) (fw := fw) (hd := hd) (by decide) S p1 p2
  refine lv_icmp_eq (tgt := 1152) hx hb dL_law_816 (by decide) (fun c9 => ?_) (fun c9 => ?_)
  · exact kk _ _ _ I hw hS
  · exact absurd hz c9
set_option maxHeartbeats 4000000 in
set_option maxRecDepth 100000 in
theorem st_is {p : Program} {l : Launch} {e : Env} {s : State} {m : MethodId} {below : List Frame} {meth : Method} {c : Code} {b L i cells slots : Nat} {xs : Nat → Int32} {Γ : Gam} {G : Nat → va_E} {H : Heap} {locs : List Loc} {ls : Array Slot} (hL0 : L ≤ 2560) (hx : p.tables.exec = Jvm.exec) (hb : c.code = cL_law) (hml : c.maxLocals = 4) (hown : s.vm.findClass RL = some m.cls) (hts : ∀ w ∈ lw_tbl, w.before #[Value.ref b] s = true) (hX : va_X b L xs s s.heap) (hbl : b < s.heap.size) {Q : State → Prop} (hi5 : i + 5 ≤ L) (hj : winj Γ 89) (hA : ∀ q, wA Γ 89 q → s.heap.size ≤ q) (hS : va_S (fun q : Nat => s.heap.size ≤ q) s.heap H locs) (hw1 : hw Γ 89 G s H) (I : SI Γ G 0 76) (hroom : cells ≤ 600000 ∧ slots ≤ 7302250) (hl : lv_has ls 4 [(0, .ref b), (1, .ref (ad Γ 0)), (2, .ref (ad Γ 76)), (3, .int (nI i))])
    (kk : ∀ (G3 : Nat → va_E) (H3 : Heap) (locs3 : List Loc), SI Γ G3 0 76 → hw Γ 89 G3 s H3 → va_S (fun q : Nat => s.heap.size ≤ q) s.heap H3 locs3 → W p l e room_1 s m #[Value.ref b] below meth c H3 locs3 cells slots Q (F0 m 1152 ls [])) :
    W p l e room_1 s m #[Value.ref b] below meth c H locs cells slots Q (F0 m 821 ls []) := by
  have hw := hw1
  have hbA : ¬ (fun q : Nat => s.heap.size ≤ q) b := Nat.not_le.mpr hbl
  obtain ⟨by0, tv, gv, Dv, lf, vs, cv, V, J0, J1, kp, rf, R, K, ca, rc, hd, fw, tl, an, vl, iv, ⟨hO, hT, hRd, hD, hRw, hGs, hCh, hV, hP0, hP1, -⟩, hM, S⟩ := I
  have S1 := S
  obtain ⟨-, -, -, ⟨ht, hL, hbt⟩, ⟨hDv, hgv, hlf, hvs⟩, hkp, ⟨hhd, hfw, htl, hvl⟩, hAi, hKB, -, -⟩ := S1
  refine lv_aload_n hx hb dL_law_821 rfl (lv_at hl 1 rfl) ?_
  refine lv_aload_n hx hb dL_law_822 rfl (lv_at hl 0 rfl) ?_
  refine lv_iload_n hx hb dL_law_823 rfl (lv_at hl 3 rfl) ?_
  refine lv_iconst (v := nI 1) hx hb dL_law_824 (by decide) ?_
  refine nr_iadd hx hb dL_law_825 ?_
  refine va_sld hx hb hX hbl hbA hS (vp_in_nI (by omega) (by omega)) dL_law_826 ?_
  obtain ⟨y1, ey1⟩ : ∃ y, y = xs (nI (i + 1)).toNatClampNeg := ⟨_, rfl⟩
  rw [← ey1]
  refine nr_goI (nr_runV (As := [.int y1]) (C := RX11) (T := TX11) (N := 11) ⟨hx, hb, hml, hown, hts⟩ hw (by decide) (isO_0 hO) rfl (c_X11_is l Γ 89 G 0 kp rf by0 tv gv Dv lf vs cv V J0 J1 hO hT hRd hD hRw hGs hCh hV hP0 hP1 (by decide) hj y1 S.1.1.1) (cwV 1 hts gL_law_X11_is rfl rfl rfl (by decide +kernel) ⟨Nat.le_of_ble_eq_true rfl, Nat.le_of_ble_eq_true rfl⟩) rfl hl.1 rfl (Nat.le_of_ble_eq_true rfl) dL_law_827 hroom) hw hA hS (fun z1 G1 H locs p1 hw hS => ?_)
  have hf1 : fr G G1 (0 + 0) (0 + 76) := (by repeat' (first | exact p1 | refine Or.elim p1 (fun p1 => ?_) (fun p1 => ?_) | refine Exists.elim p1 (fun _ p1 => ?_) | replace p1 := p1.2))
  have hM1 := isM_fr hM hf1 (Or.inr (by decide))
  refine lv_aload_n hx hb dL_law_830 rfl (lv_at hl 2 rfl) ?_
  refine lv_aload_n hx hb dL_law_831 rfl (lv_at hl 0 rfl) ?_
  refine lv_iload_n hx hb dL_law_832 rfl (lv_at hl 3 rfl) ?_
  refine lv_iconst (v := nI 1) hx hb dL_law_833 (by decide) ?_
  refine nr_iadd hx hb dL_law_834 ?_
  refine va_sld hx hb hX hbl hbA hS (vp_in_nI (by omega) (by omega)) dL_law_835 ?_
  rw [← ey1]
  refine nr_goI (nr_runV (As := [.int y1]) (C := RX12) (T := TX12) (N := 19) ⟨hx, hb, hml, hown, hts⟩ hw (by decide) (isM_0 hM1) rfl (c_X12_is l Γ 89 G1 76 R K kp rf ca rc hd fw tl by0 an vl iv hM1 (by decide) S.1.2.1.1.1.1 hj y1) (cwV 1 hts gL_law_X12_is rfl rfl rfl (by decide +kernel) ⟨Nat.le_of_ble_eq_true rfl, Nat.le_of_ble_eq_true rfl⟩) rfl hl.1 rfl (Nat.le_of_ble_eq_true rfl) dL_law_836 hroom) hw hA hS (fun z2 G2 H locs p2 hw hS => ?_)
  obtain ⟨hz, I⟩ := op_is (ca := ca) (rc := rc) (fw := fw) (hd := hd) (by decide) S p1 p2
  refine lv_icmp_eq (tgt := 1152) hx hb dL_law_839 (by decide) (fun c9 => ?_) (fun c9 => ?_)
  · exact kk _ _ _ I hw hS
  · exact absurd hz c9
set_option maxHeartbeats 4000000 in
set_option maxRecDepth 100000 in
theorem st_look {p : Program} {l : Launch} {e : Env} {s : State} {m : MethodId} {below : List Frame} {meth : Method} {c : Code} {b L i cells slots : Nat} {xs : Nat → Int32} {Γ : Gam} {G : Nat → va_E} {H : Heap} {locs : List Loc} {ls : Array Slot} (hL0 : L ≤ 2560) (hx : p.tables.exec = Jvm.exec) (hb : c.code = cL_law) (hml : c.maxLocals = 4) (hown : s.vm.findClass RL = some m.cls) (hts : ∀ w ∈ lw_tbl, w.before #[Value.ref b] s = true) (hX : va_X b L xs s s.heap) (hbl : b < s.heap.size) {Q : State → Prop} (hi5 : i + 5 ≤ L) (hj : winj Γ 89) (hA : ∀ q, wA Γ 89 q → s.heap.size ≤ q) (hS : va_S (fun q : Nat => s.heap.size ≤ q) s.heap H locs) (hw1 : hw Γ 89 G s H) (I : SI Γ G 0 76) (hroom : cells ≤ 600000 ∧ slots ≤ 7302250) (hl : lv_has ls 4 [(0, .ref b), (1, .ref (ad Γ 0)), (2, .ref (ad Γ 76)), (3, .int (nI i))])
    (kk : ∀ (G3 : Nat → va_E) (H3 : Heap) (locs3 : List Loc), SI Γ G3 0 76 → hw Γ 89 G3 s H3 → va_S (fun q : Nat => s.heap.size ≤ q) s.heap H3 locs3 → W p l e room_1 s m #[Value.ref b] below meth c H3 locs3 cells slots Q (F0 m 1152 ls [])) :
    W p l e room_1 s m #[Value.ref b] below meth c H locs cells slots Q (F0 m 844 ls []) := by
  have hw := hw1
  have hbA : ¬ (fun q : Nat => s.heap.size ≤ q) b := Nat.not_le.mpr hbl
  obtain ⟨by0, tv, gv, Dv, lf, vs, cv, V, J0, J1, kp, rf, R, K, ca, rc, hd, fw, tl, an, vl, iv, ⟨hO, hT, hRd, hD, hRw, hGs, hCh, hV, hP0, hP1, -⟩, hM, S⟩ := I
  have S1 := S
  obtain ⟨-, -, -, ⟨ht, hL, hbt⟩, ⟨hDv, hgv, hlf, hvs⟩, hkp, ⟨hhd, hfw, htl, hvl⟩, hAi, hKB, -, -⟩ := S1
  refine lv_aload_n hx hb dL_law_844 rfl (lv_at hl 1 rfl) ?_
  refine lv_aload_n hx hb dL_law_845 rfl (lv_at hl 0 rfl) ?_
  refine lv_iload_n hx hb dL_law_846 rfl (lv_at hl 3 rfl) ?_
  refine lv_iconst (v := nI 1) hx hb dL_law_847 (by decide) ?_
  refine nr_iadd hx hb dL_law_848 ?_
  refine va_sld hx hb hX hbl hbA hS (vp_in_nI (by omega) (by omega)) dL_law_849 ?_
  obtain ⟨y1, ey1⟩ : ∃ y, y = xs (nI (i + 1)).toNatClampNeg := ⟨_, rfl⟩
  rw [← ey1]
  refine nr_goI (nr_runV (As := [.int y1]) (C := RX11) (T := TX11) (N := 11) ⟨hx, hb, hml, hown, hts⟩ hw (by decide) (isO_0 hO) rfl (c_X11_look l Γ 89 G 0 kp rf by0 tv gv Dv lf vs cv V J0 J1 hO hT hRd hD hRw hGs hCh hV hP0 hP1 (by decide) hj y1 S.1.1.1 hvs) (cwV 1 hts gL_law_X11_look rfl rfl rfl (by decide +kernel) ⟨Nat.le_of_ble_eq_true rfl, Nat.le_of_ble_eq_true rfl⟩) rfl hl.1 rfl (Nat.le_of_ble_eq_true rfl) dL_law_850 hroom) hw hA hS (fun z1 G1 H locs p1 hw hS => ?_)
  have hf1 : fr G G1 (0 + 0) (0 + 76) := (by repeat' (first | exact p1 | refine Or.elim p1 (fun p1 => ?_) (fun p1 => ?_) | refine Exists.elim p1 (fun _ p1 => ?_) | replace p1 := p1.2))
  have hM1 := isM_fr hM hf1 (Or.inr (by decide))
  refine lv_aload_n hx hb dL_law_853 rfl (lv_at hl 2 rfl) ?_
  refine lv_aload_n hx hb dL_law_854 rfl (lv_at hl 0 rfl) ?_
  refine lv_iload_n hx hb dL_law_855 rfl (lv_at hl 3 rfl) ?_
  refine lv_iconst (v := nI 1) hx hb dL_law_856 (by decide) ?_
  refine nr_iadd hx hb dL_law_857 ?_
  refine va_sld hx hb hX hbl hbA hS (vp_in_nI (by omega) (by omega)) dL_law_858 ?_
  rw [← ey1]
  refine nr_goI (nr_runV (As := [.int y1]) (C := RX12) (T := TX12) (N := 19) ⟨hx, hb, hml, hown, hts⟩ hw (by decide) (isM_0 hM1) rfl (c_X12_look l Γ 89 G1 76 R K kp rf ca rc hd fw tl by0 an vl iv hM1 (by decide) S.1.2.1.1.1.1 hj y1 htl) (cwV 1 hts gL_law_X12_look rfl rfl rfl (by decide +kernel) ⟨Nat.le_of_ble_eq_true rfl, Nat.le_of_ble_eq_true rfl⟩) rfl hl.1 rfl (Nat.le_of_ble_eq_true rfl) dL_law_859 hroom) hw hA hS (fun z2 G2 H locs p2 hw hS => ?_)
  obtain ⟨hz, I⟩ := op_look (ca := ca) (rc := rc) (fw := fw) (hd := hd) (by decide) S p1 p2
  refine lv_icmp_eq (tgt := 1152) hx hb dL_law_862 (by decide) (fun c9 => ?_) (fun c9 => ?_)
  · exact kk _ _ _ I hw hS
  · exact absurd hz c9
set_option maxHeartbeats 4000000 in
set_option maxRecDepth 100000 in
theorem st_kinds {p : Program} {l : Launch} {e : Env} {s : State} {m : MethodId} {below : List Frame} {meth : Method} {c : Code} {b L i cells slots : Nat} {xs : Nat → Int32} {Γ : Gam} {G : Nat → va_E} {H : Heap} {locs : List Loc} {ls : Array Slot} (hL0 : L ≤ 2560) (hx : p.tables.exec = Jvm.exec) (hb : c.code = cL_law) (hml : c.maxLocals = 4) (hown : s.vm.findClass RL = some m.cls) (hts : ∀ w ∈ lw_tbl, w.before #[Value.ref b] s = true) (hX : va_X b L xs s s.heap) (hbl : b < s.heap.size) {Q : State → Prop} (hi5 : i + 5 ≤ L) (hj : winj Γ 89) (hA : ∀ q, wA Γ 89 q → s.heap.size ≤ q) (hS : va_S (fun q : Nat => s.heap.size ≤ q) s.heap H locs) (hw1 : hw Γ 89 G s H) (I : SI Γ G 0 76) (hroom : cells ≤ 600000 ∧ slots ≤ 7302250) (hl : lv_has ls 4 [(0, .ref b), (1, .ref (ad Γ 0)), (2, .ref (ad Γ 76)), (3, .int (nI i))])
    (kk : ∀ (G3 : Nat → va_E) (H3 : Heap) (locs3 : List Loc), SI Γ G3 0 76 → hw Γ 89 G3 s H3 → va_S (fun q : Nat => s.heap.size ≤ q) s.heap H3 locs3 → W p l e room_1 s m #[Value.ref b] below meth c H3 locs3 cells slots Q (F0 m 1152 ls [])) :
    W p l e room_1 s m #[Value.ref b] below meth c H locs cells slots Q (F0 m 867 ls []) := by
  have hw := hw1
  have hbA : ¬ (fun q : Nat => s.heap.size ≤ q) b := Nat.not_le.mpr hbl
  obtain ⟨by0, tv, gv, Dv, lf, vs, cv, V, J0, J1, kp, rf, R, K, ca, rc, hd, fw, tl, an, vl, iv, ⟨hO, hT, hRd, hD, hRw, hGs, hCh, hV, hP0, hP1, -⟩, hM, S⟩ := I
  have S1 := S
  obtain ⟨-, -, -, ⟨ht, hL, hbt⟩, ⟨hDv, hgv, hlf, hvs⟩, hkp, ⟨hhd, hfw, htl, hvl⟩, hAi, hKB, -, -⟩ := S1
  refine lv_aload_n hx hb dL_law_867 rfl (lv_at hl 1 rfl) ?_
  refine lv_aload_n hx hb dL_law_868 rfl (lv_at hl 0 rfl) ?_
  refine lv_iload_n hx hb dL_law_869 rfl (lv_at hl 3 rfl) ?_
  refine lv_iconst (v := nI 1) hx hb dL_law_870 (by decide) ?_
  refine nr_iadd hx hb dL_law_871 ?_
  refine va_sld hx hb hX hbl hbA hS (vp_in_nI (by omega) (by omega)) dL_law_872 ?_
  obtain ⟨y1, ey1⟩ : ∃ y, y = xs (nI (i + 1)).toNatClampNeg := ⟨_, rfl⟩
  rw [← ey1]
  refine nr_goI (nr_runV (As := [.int y1]) (C := RX11) (T := TX11) (N := 11) ⟨hx, hb, hml, hown, hts⟩ hw (by decide) (isO_0 hO) rfl (c_X11_kinds l Γ 89 G 0 kp rf by0 tv gv Dv lf vs cv V J0 J1 hO hT hRd hD hRw hGs hCh hV hP0 hP1 (by decide) hj y1 S.1.1.1) (cwV 1 hts gL_law_X11_kinds rfl rfl rfl (by decide +kernel) ⟨Nat.le_of_ble_eq_true rfl, Nat.le_of_ble_eq_true rfl⟩) rfl hl.1 rfl (Nat.le_of_ble_eq_true rfl) dL_law_873 hroom) hw hA hS (fun z1 G1 H locs p1 hw hS => ?_)
  have hf1 : fr G G1 (0 + 0) (0 + 76) := (by repeat' (first | exact p1 | refine Or.elim p1 (fun p1 => ?_) (fun p1 => ?_) | refine Exists.elim p1 (fun _ p1 => ?_) | replace p1 := p1.2))
  have hM1 := isM_fr hM hf1 (Or.inr (by decide))
  refine lv_aload_n hx hb dL_law_876 rfl (lv_at hl 2 rfl) ?_
  refine lv_aload_n hx hb dL_law_877 rfl (lv_at hl 0 rfl) ?_
  refine lv_iload_n hx hb dL_law_878 rfl (lv_at hl 3 rfl) ?_
  refine lv_iconst (v := nI 1) hx hb dL_law_879 (by decide) ?_
  refine nr_iadd hx hb dL_law_880 ?_
  refine va_sld hx hb hX hbl hbA hS (vp_in_nI (by omega) (by omega)) dL_law_881 ?_
  rw [← ey1]
  refine nr_goI (nr_runV (As := [.int y1]) (C := RX12) (T := TX12) (N := 19) ⟨hx, hb, hml, hown, hts⟩ hw (by decide) (isM_0 hM1) rfl (c_X12_kinds l Γ 89 G1 76 R K kp rf ca rc hd fw tl by0 an vl iv hM1 (by decide) S.1.2.1.1.1.1 hj y1) (cwV 1 hts gL_law_X12_kinds rfl rfl rfl (by decide +kernel) ⟨Nat.le_of_ble_eq_true rfl, Nat.le_of_ble_eq_true rfl⟩) rfl hl.1 rfl (Nat.le_of_ble_eq_true rfl) dL_law_882 hroom) hw hA hS (fun z2 G2 H locs p2 hw hS => ?_)
  obtain ⟨hz, I⟩ := op_kinds (ca := ca) (rc := rc) (fw := fw) (hd := hd) (by decide) S p1 p2
  refine lv_icmp_eq (tgt := 1152) hx hb dL_law_885 (by decide) (fun c9 => ?_) (fun c9 => ?_)
  · exact kk _ _ _ I hw hS
  · exact absurd hz c9
set_option maxHeartbeats 4000000 in
set_option maxRecDepth 100000 in
theorem st_ask {p : Program} {l : Launch} {e : Env} {s : State} {m : MethodId} {below : List Frame} {meth : Method} {c : Code} {b L i cells slots : Nat} {xs : Nat → Int32} {Γ : Gam} {G : Nat → va_E} {H : Heap} {locs : List Loc} {ls : Array Slot} (hL0 : L ≤ 2560) (hx : p.tables.exec = Jvm.exec) (hb : c.code = cL_law) (hml : c.maxLocals = 4) (hown : s.vm.findClass RL = some m.cls) (hts : ∀ w ∈ lw_tbl, w.before #[Value.ref b] s = true) (hX : va_X b L xs s s.heap) (hbl : b < s.heap.size) {Q : State → Prop} (hi5 : i + 5 ≤ L) (hj : winj Γ 89) (hA : ∀ q, wA Γ 89 q → s.heap.size ≤ q) (hS : va_S (fun q : Nat => s.heap.size ≤ q) s.heap H locs) (hw1 : hw Γ 89 G s H) (I : SI Γ G 0 76) (hroom : cells ≤ 600000 ∧ slots ≤ 7302250) (hl : lv_has ls 4 [(0, .ref b), (1, .ref (ad Γ 0)), (2, .ref (ad Γ 76)), (3, .int (nI i))])
    (kk : ∀ (G3 : Nat → va_E) (H3 : Heap) (locs3 : List Loc), SI Γ G3 0 76 → hw Γ 89 G3 s H3 → va_S (fun q : Nat => s.heap.size ≤ q) s.heap H3 locs3 → W p l e room_1 s m #[Value.ref b] below meth c H3 locs3 cells slots Q (F0 m 1152 ls [])) :
    W p l e room_1 s m #[Value.ref b] below meth c H locs cells slots Q (F0 m 890 ls []) := by
  have hw := hw1
  have hbA : ¬ (fun q : Nat => s.heap.size ≤ q) b := Nat.not_le.mpr hbl
  obtain ⟨by0, tv, gv, Dv, lf, vs, cv, V, J0, J1, kp, rf, R, K, ca, rc, hd, fw, tl, an, vl, iv, ⟨hO, hT, hRd, hD, hRw, hGs, hCh, hV, hP0, hP1, -⟩, hM, S⟩ := I
  have S1 := S
  obtain ⟨-, -, -, ⟨ht, hL, hbt⟩, ⟨hDv, hgv, hlf, hvs⟩, hkp, ⟨hhd, hfw, htl, hvl⟩, hAi, hKB, -, -⟩ := S1
  refine lv_aload_n hx hb dL_law_890 rfl (lv_at hl 1 rfl) ?_
  refine lv_aload_n hx hb dL_law_891 rfl (lv_at hl 0 rfl) ?_
  refine lv_iload_n hx hb dL_law_892 rfl (lv_at hl 3 rfl) ?_
  refine lv_iconst (v := nI 1) hx hb dL_law_893 (by decide) ?_
  refine nr_iadd hx hb dL_law_894 ?_
  refine va_sld hx hb hX hbl hbA hS (vp_in_nI (by omega) (by omega)) dL_law_895 ?_
  obtain ⟨y1, ey1⟩ : ∃ y, y = xs (nI (i + 1)).toNatClampNeg := ⟨_, rfl⟩
  rw [← ey1]
  refine nr_goI (nr_runV (As := [.int y1]) (C := RX11) (T := TX11) (N := 11) ⟨hx, hb, hml, hown, hts⟩ hw (by decide) (isO_0 hO) rfl (c_X11_ask l Γ 89 G 0 kp rf by0 tv gv Dv lf vs cv V J0 J1 hO hT hRd hD hRw hGs hCh hV hP0 hP1 (by decide) hj y1 S.1.1.1 hvs) (cwV 1 hts gL_law_X11_ask rfl rfl rfl (by decide +kernel) ⟨Nat.le_of_ble_eq_true rfl, Nat.le_of_ble_eq_true rfl⟩) rfl hl.1 rfl (Nat.le_of_ble_eq_true rfl) dL_law_896 hroom) hw hA hS (fun z1 G1 H locs p1 hw hS => ?_)
  have hf1 : fr G G1 (0 + 0) (0 + 76) := (by repeat' (first | exact p1 | refine Or.elim p1 (fun p1 => ?_) (fun p1 => ?_) | refine Exists.elim p1 (fun _ p1 => ?_) | replace p1 := p1.2))
  have hM1 := isM_fr hM hf1 (Or.inr (by decide))
  refine lv_aload_n hx hb dL_law_899 rfl (lv_at hl 2 rfl) ?_
  refine lv_aload_n hx hb dL_law_900 rfl (lv_at hl 0 rfl) ?_
  refine lv_iload_n hx hb dL_law_901 rfl (lv_at hl 3 rfl) ?_
  refine lv_iconst (v := nI 1) hx hb dL_law_902 (by decide) ?_
  refine nr_iadd hx hb dL_law_903 ?_
  refine va_sld hx hb hX hbl hbA hS (vp_in_nI (by omega) (by omega)) dL_law_904 ?_
  rw [← ey1]
  refine nr_goI (nr_runV (As := [.int y1]) (C := RX12) (T := TX12) (N := 19) ⟨hx, hb, hml, hown, hts⟩ hw (by decide) (isM_0 hM1) rfl (c_X12_ask l Γ 89 G1 76 R K kp rf ca rc hd fw tl by0 an vl iv hM1 (by decide) S.1.2.1.1.1.1 hj y1 htl) (cwV 1 hts gL_law_X12_ask rfl rfl rfl (by decide +kernel) ⟨Nat.le_of_ble_eq_true rfl, Nat.le_of_ble_eq_true rfl⟩) rfl hl.1 rfl (Nat.le_of_ble_eq_true rfl) dL_law_905 hroom) hw hA hS (fun z2 G2 H locs p2 hw hS => ?_)
  obtain ⟨hz, I⟩ := op_ask (ca := ca) (rc := rc) (fw := fw) (hd := hd) (by decide) S p1 p2
  refine lv_icmp_eq (tgt := 1152) hx hb dL_law_908 (by decide) (fun c9 => ?_) (fun c9 => ?_)
  · exact kk _ _ _ I hw hS
  · exact absurd hz c9
set_option maxHeartbeats 4000000 in
set_option maxRecDepth 100000 in
theorem st_first {p : Program} {l : Launch} {e : Env} {s : State} {m : MethodId} {below : List Frame} {meth : Method} {c : Code} {b L i cells slots : Nat} {xs : Nat → Int32} {Γ : Gam} {G : Nat → va_E} {H : Heap} {locs : List Loc} {ls : Array Slot} (hL0 : L ≤ 2560) (hx : p.tables.exec = Jvm.exec) (hb : c.code = cL_law) (hml : c.maxLocals = 4) (hown : s.vm.findClass RL = some m.cls) (hts : ∀ w ∈ lw_tbl, w.before #[Value.ref b] s = true) (hX : va_X b L xs s s.heap) (hbl : b < s.heap.size) {Q : State → Prop} (hi5 : i + 5 ≤ L) (hj : winj Γ 89) (hA : ∀ q, wA Γ 89 q → s.heap.size ≤ q) (hS : va_S (fun q : Nat => s.heap.size ≤ q) s.heap H locs) (hw1 : hw Γ 89 G s H) (I : SI Γ G 0 76) (hroom : cells ≤ 600000 ∧ slots ≤ 7302250) (hl : lv_has ls 4 [(0, .ref b), (1, .ref (ad Γ 0)), (2, .ref (ad Γ 76)), (3, .int (nI i))])
    (kk : ∀ (G3 : Nat → va_E) (H3 : Heap) (locs3 : List Loc), SI Γ G3 0 76 → hw Γ 89 G3 s H3 → va_S (fun q : Nat => s.heap.size ≤ q) s.heap H3 locs3 → W p l e room_1 s m #[Value.ref b] below meth c H3 locs3 cells slots Q (F0 m 1152 ls [])) :
    W p l e room_1 s m #[Value.ref b] below meth c H locs cells slots Q (F0 m 913 ls []) := by
  have hw := hw1
  have hbA : ¬ (fun q : Nat => s.heap.size ≤ q) b := Nat.not_le.mpr hbl
  obtain ⟨by0, tv, gv, Dv, lf, vs, cv, V, J0, J1, kp, rf, R, K, ca, rc, hd, fw, tl, an, vl, iv, ⟨hO, hT, hRd, hD, hRw, hGs, hCh, hV, hP0, hP1, -⟩, hM, S⟩ := I
  have S1 := S
  obtain ⟨-, -, -, ⟨ht, hL, hbt⟩, ⟨hDv, hgv, hlf, hvs⟩, hkp, ⟨hhd, hfw, htl, hvl⟩, hAi, hKB, -, -⟩ := S1
  refine lv_aload_n hx hb dL_law_913 rfl (lv_at hl 1 rfl) ?_
  refine lv_aload_n hx hb dL_law_914 rfl (lv_at hl 0 rfl) ?_
  refine lv_iload_n hx hb dL_law_915 rfl (lv_at hl 3 rfl) ?_
  refine lv_iconst (v := nI 1) hx hb dL_law_916 (by decide) ?_
  refine nr_iadd hx hb dL_law_917 ?_
  refine va_sld hx hb hX hbl hbA hS (vp_in_nI (by omega) (by omega)) dL_law_918 ?_
  obtain ⟨y1, ey1⟩ : ∃ y, y = xs (nI (i + 1)).toNatClampNeg := ⟨_, rfl⟩
  rw [← ey1]
  refine lv_aload_n hx hb dL_law_919 rfl (lv_at hl 0 rfl) ?_
  refine lv_iload_n hx hb dL_law_920 rfl (lv_at hl 3 rfl) ?_
  refine lv_iconst (v := nI 2) hx hb dL_law_921 (by decide) ?_
  refine nr_iadd hx hb dL_law_922 ?_
  refine va_sld hx hb hX hbl hbA hS (vp_in_nI (by omega) (by omega)) dL_law_923 ?_
  obtain ⟨y2, ey2⟩ : ∃ y, y = xs (nI (i + 2)).toNatClampNeg := ⟨_, rfl⟩
  rw [← ey2]
  refine nr_goI (nr_runV (As := [.int y1, .int y2]) (C := RX11) (T := TX11) (N := 11) ⟨hx, hb, hml, hown, hts⟩ hw (by decide) (isO_0 hO) rfl (c_X11_first l Γ 89 G 0 kp rf by0 tv gv Dv lf vs cv V J0 J1 hO hT hRd hD hRw hGs hCh hV hP0 hP1 (by decide) hj y1 y2 S.1.1.1) (cwV 2 hts gL_law_X11_first rfl rfl rfl (by decide +kernel) ⟨Nat.le_of_ble_eq_true rfl, Nat.le_of_ble_eq_true rfl⟩) rfl hl.1 rfl (Nat.le_of_ble_eq_true rfl) dL_law_924 hroom) hw hA hS (fun z1 G1 H locs p1 hw hS => ?_)
  have hf1 : fr G G1 (0 + 0) (0 + 76) := (by repeat' (first | exact p1 | refine Or.elim p1 (fun p1 => ?_) (fun p1 => ?_) | refine Exists.elim p1 (fun _ p1 => ?_) | replace p1 := p1.2))
  have hM1 := isM_fr hM hf1 (Or.inr (by decide))
  refine lv_aload_n hx hb dL_law_927 rfl (lv_at hl 2 rfl) ?_
  refine lv_aload_n hx hb dL_law_928 rfl (lv_at hl 0 rfl) ?_
  refine lv_iload_n hx hb dL_law_929 rfl (lv_at hl 3 rfl) ?_
  refine lv_iconst (v := nI 1) hx hb dL_law_930 (by decide) ?_
  refine nr_iadd hx hb dL_law_931 ?_
  refine va_sld hx hb hX hbl hbA hS (vp_in_nI (by omega) (by omega)) dL_law_932 ?_
  rw [← ey1]
  refine lv_aload_n hx hb dL_law_933 rfl (lv_at hl 0 rfl) ?_
  refine lv_iload_n hx hb dL_law_934 rfl (lv_at hl 3 rfl) ?_
  refine lv_iconst (v := nI 2) hx hb dL_law_935 (by decide) ?_
  refine nr_iadd hx hb dL_law_936 ?_
  refine va_sld hx hb hX hbl hbA hS (vp_in_nI (by omega) (by omega)) dL_law_937 ?_
  rw [← ey2]
  refine nr_goI (nr_runV (As := [.int y1, .int y2]) (C := RX12) (T := TX12) (N := 19) ⟨hx, hb, hml, hown, hts⟩ hw (by decide) (isM_0 hM1) rfl (c_X12_first l Γ 89 G1 76 R K kp rf ca rc hd fw tl by0 an vl iv hM1 (by decide) S.1.2.1.1.1.1 hj y1 y2) (cwV 2 hts gL_law_X12_first rfl rfl rfl (by decide +kernel) ⟨Nat.le_of_ble_eq_true rfl, Nat.le_of_ble_eq_true rfl⟩) rfl hl.1 rfl (Nat.le_of_ble_eq_true rfl) dL_law_938 hroom) hw hA hS (fun z2 G2 H locs p2 hw hS => ?_)
  obtain ⟨hz, I⟩ := op_first (ca := ca) (rc := rc) (fw := fw) (hd := hd) (by decide) S p1 p2
  refine lv_icmp_eq (tgt := 1152) hx hb dL_law_941 (by decide) (fun c9 => ?_) (fun c9 => ?_)
  · exact kk _ _ _ I hw hS
  · exact absurd hz c9
set_option maxHeartbeats 4000000 in
set_option maxRecDepth 100000 in
theorem st_rust {p : Program} {l : Launch} {e : Env} {s : State} {m : MethodId} {below : List Frame} {meth : Method} {c : Code} {b L i cells slots : Nat} {xs : Nat → Int32} {Γ : Gam} {G : Nat → va_E} {H : Heap} {locs : List Loc} {ls : Array Slot} (hL0 : L ≤ 2560) (hx : p.tables.exec = Jvm.exec) (hb : c.code = cL_law) (hml : c.maxLocals = 4) (hown : s.vm.findClass RL = some m.cls) (hts : ∀ w ∈ lw_tbl, w.before #[Value.ref b] s = true) (hX : va_X b L xs s s.heap) (hbl : b < s.heap.size) {Q : State → Prop} (hi5 : i + 5 ≤ L) (hj : winj Γ 89) (hA : ∀ q, wA Γ 89 q → s.heap.size ≤ q) (hS : va_S (fun q : Nat => s.heap.size ≤ q) s.heap H locs) (hw1 : hw Γ 89 G s H) (I : SI Γ G 0 76) (hroom : cells ≤ 600000 ∧ slots ≤ 7302250) (hl : lv_has ls 4 [(0, .ref b), (1, .ref (ad Γ 0)), (2, .ref (ad Γ 76)), (3, .int (nI i))])
    (kk : ∀ (G3 : Nat → va_E) (H3 : Heap) (locs3 : List Loc), SI Γ G3 0 76 → hw Γ 89 G3 s H3 → va_S (fun q : Nat => s.heap.size ≤ q) s.heap H3 locs3 → W p l e room_1 s m #[Value.ref b] below meth c H3 locs3 cells slots Q (F0 m 1152 ls [])) :
    W p l e room_1 s m #[Value.ref b] below meth c H locs cells slots Q (F0 m 946 ls []) := by
  have hw := hw1
  have hbA : ¬ (fun q : Nat => s.heap.size ≤ q) b := Nat.not_le.mpr hbl
  obtain ⟨by0, tv, gv, Dv, lf, vs, cv, V, J0, J1, kp, rf, R, K, ca, rc, hd, fw, tl, an, vl, iv, ⟨hO, hT, hRd, hD, hRw, hGs, hCh, hV, hP0, hP1, -⟩, hM, S⟩ := I
  have S1 := S
  obtain ⟨-, -, -, ⟨ht, hL, hbt⟩, ⟨hDv, hgv, hlf, hvs⟩, hkp, ⟨hhd, hfw, htl, hvl⟩, hAi, hKB, -, -⟩ := S1
  refine lv_aload_n hx hb dL_law_946 rfl (lv_at hl 1 rfl) ?_
  refine lv_aload_n hx hb dL_law_947 rfl (lv_at hl 0 rfl) ?_
  refine lv_iload_n hx hb dL_law_948 rfl (lv_at hl 3 rfl) ?_
  refine lv_iconst (v := nI 1) hx hb dL_law_949 (by decide) ?_
  refine nr_iadd hx hb dL_law_950 ?_
  refine va_sld hx hb hX hbl hbA hS (vp_in_nI (by omega) (by omega)) dL_law_951 ?_
  obtain ⟨y1, ey1⟩ : ∃ y, y = xs (nI (i + 1)).toNatClampNeg := ⟨_, rfl⟩
  rw [← ey1]
  refine lv_aload_n hx hb dL_law_952 rfl (lv_at hl 0 rfl) ?_
  refine lv_iload_n hx hb dL_law_953 rfl (lv_at hl 3 rfl) ?_
  refine lv_iconst (v := nI 2) hx hb dL_law_954 (by decide) ?_
  refine nr_iadd hx hb dL_law_955 ?_
  refine va_sld hx hb hX hbl hbA hS (vp_in_nI (by omega) (by omega)) dL_law_956 ?_
  obtain ⟨y2, ey2⟩ : ∃ y, y = xs (nI (i + 2)).toNatClampNeg := ⟨_, rfl⟩
  rw [← ey2]
  refine lv_aload_n hx hb dL_law_957 rfl (lv_at hl 0 rfl) ?_
  refine lv_iload_n hx hb dL_law_958 rfl (lv_at hl 3 rfl) ?_
  refine lv_iconst (v := nI 3) hx hb dL_law_959 (by decide) ?_
  refine nr_iadd hx hb dL_law_960 ?_
  refine va_sld hx hb hX hbl hbA hS (vp_in_nI (by omega) (by omega)) dL_law_961 ?_
  obtain ⟨y3, ey3⟩ : ∃ y, y = xs (nI (i + 3)).toNatClampNeg := ⟨_, rfl⟩
  rw [← ey3]
  refine nr_goI (nr_runV (As := [.int y1, .int y2, .int y3]) (C := RX11) (T := TX11) (N := 11) ⟨hx, hb, hml, hown, hts⟩ hw (by decide) (isO_0 hO) rfl (c_X11_rust l Γ 89 G 0 kp rf by0 tv gv Dv lf vs cv V J0 J1 hO hT hRd hD hRw hGs hCh hV hP0 hP1 (by decide) hj y1 y2 y3 S.1.1.1) (cwV 3 hts gL_law_X11_rust rfl rfl rfl (by decide +kernel) ⟨Nat.le_of_ble_eq_true rfl, Nat.le_of_ble_eq_true rfl⟩) rfl hl.1 rfl (Nat.le_of_ble_eq_true rfl) dL_law_962 hroom) hw hA hS (fun z1 G1 H locs p1 hw hS => ?_)
  have hf1 : fr G G1 (0 + 0) (0 + 76) := (by repeat' (first | exact p1 | refine Or.elim p1 (fun p1 => ?_) (fun p1 => ?_) | refine Exists.elim p1 (fun _ p1 => ?_) | replace p1 := p1.2))
  have hM1 := isM_fr hM hf1 (Or.inr (by decide))
  refine lv_aload_n hx hb dL_law_965 rfl (lv_at hl 2 rfl) ?_
  refine lv_aload_n hx hb dL_law_966 rfl (lv_at hl 0 rfl) ?_
  refine lv_iload_n hx hb dL_law_967 rfl (lv_at hl 3 rfl) ?_
  refine lv_iconst (v := nI 1) hx hb dL_law_968 (by decide) ?_
  refine nr_iadd hx hb dL_law_969 ?_
  refine va_sld hx hb hX hbl hbA hS (vp_in_nI (by omega) (by omega)) dL_law_970 ?_
  rw [← ey1]
  refine lv_aload_n hx hb dL_law_971 rfl (lv_at hl 0 rfl) ?_
  refine lv_iload_n hx hb dL_law_972 rfl (lv_at hl 3 rfl) ?_
  refine lv_iconst (v := nI 2) hx hb dL_law_973 (by decide) ?_
  refine nr_iadd hx hb dL_law_974 ?_
  refine va_sld hx hb hX hbl hbA hS (vp_in_nI (by omega) (by omega)) dL_law_975 ?_
  rw [← ey2]
  refine lv_aload_n hx hb dL_law_976 rfl (lv_at hl 0 rfl) ?_
  refine lv_iload_n hx hb dL_law_977 rfl (lv_at hl 3 rfl) ?_
  refine lv_iconst (v := nI 3) hx hb dL_law_978 (by decide) ?_
  refine nr_iadd hx hb dL_law_979 ?_
  refine va_sld hx hb hX hbl hbA hS (vp_in_nI (by omega) (by omega)) dL_law_980 ?_
  rw [← ey3]
  refine nr_goI (nr_runV (As := [.int y1, .int y2, .int y3]) (C := RX12) (T := TX12) (N := 19) ⟨hx, hb, hml, hown, hts⟩ hw (by decide) (isM_0 hM1) rfl (c_X12_rust l Γ 89 G1 76 R K kp rf ca rc hd fw tl by0 an vl iv hM1 (by decide) S.1.2.1.1.1.1 hj y1 y2 y3 hhd) (cwV 3 hts gL_law_X12_rust rfl rfl rfl (by decide +kernel) ⟨Nat.le_of_ble_eq_true rfl, Nat.le_of_ble_eq_true rfl⟩) rfl hl.1 rfl (Nat.le_of_ble_eq_true rfl) dL_law_981 hroom) hw hA hS (fun z2 G2 H locs p2 hw hS => ?_)
  obtain ⟨hz, I⟩ := op_rust (ca := ca) (rc := rc) (fw := fw) (hd := hd) (by decide) S p1 p2
  refine lv_icmp_eq (tgt := 1152) hx hb dL_law_984 (by decide) (fun c9 => ?_) (fun c9 => ?_)
  · exact kk _ _ _ I hw hS
  · exact absurd hz c9
set_option maxHeartbeats 4000000 in
set_option maxRecDepth 100000 in
theorem st_easters {p : Program} {l : Launch} {e : Env} {s : State} {m : MethodId} {below : List Frame} {meth : Method} {c : Code} {b L i cells slots : Nat} {xs : Nat → Int32} {Γ : Gam} {G : Nat → va_E} {H : Heap} {locs : List Loc} {ls : Array Slot} (hL0 : L ≤ 2560) (hx : p.tables.exec = Jvm.exec) (hb : c.code = cL_law) (hml : c.maxLocals = 4) (hown : s.vm.findClass RL = some m.cls) (hts : ∀ w ∈ lw_tbl, w.before #[Value.ref b] s = true) (hX : va_X b L xs s s.heap) (hbl : b < s.heap.size) {Q : State → Prop} (hi5 : i + 5 ≤ L) (hj : winj Γ 89) (hA : ∀ q, wA Γ 89 q → s.heap.size ≤ q) (hS : va_S (fun q : Nat => s.heap.size ≤ q) s.heap H locs) (hw1 : hw Γ 89 G s H) (I : SI Γ G 0 76) (hroom : cells ≤ 600000 ∧ slots ≤ 7302250) (hl : lv_has ls 4 [(0, .ref b), (1, .ref (ad Γ 0)), (2, .ref (ad Γ 76)), (3, .int (nI i))])
    (kk : ∀ (G3 : Nat → va_E) (H3 : Heap) (locs3 : List Loc), SI Γ G3 0 76 → hw Γ 89 G3 s H3 → va_S (fun q : Nat => s.heap.size ≤ q) s.heap H3 locs3 → W p l e room_1 s m #[Value.ref b] below meth c H3 locs3 cells slots Q (F0 m 1152 ls [])) :
    W p l e room_1 s m #[Value.ref b] below meth c H locs cells slots Q (F0 m 989 ls []) := by
  have hw := hw1
  have hbA : ¬ (fun q : Nat => s.heap.size ≤ q) b := Nat.not_le.mpr hbl
  obtain ⟨by0, tv, gv, Dv, lf, vs, cv, V, J0, J1, kp, rf, R, K, ca, rc, hd, fw, tl, an, vl, iv, ⟨hO, hT, hRd, hD, hRw, hGs, hCh, hV, hP0, hP1, -⟩, hM, S⟩ := I
  have S1 := S
  obtain ⟨-, -, -, ⟨ht, hL, hbt⟩, ⟨hDv, hgv, hlf, hvs⟩, hkp, ⟨hhd, hfw, htl, hvl⟩, hAi, hKB, -, -⟩ := S1
  refine lv_aload_n hx hb dL_law_989 rfl (lv_at hl 1 rfl) ?_
  refine lv_aload_n hx hb dL_law_990 rfl (lv_at hl 0 rfl) ?_
  refine lv_iload_n hx hb dL_law_991 rfl (lv_at hl 3 rfl) ?_
  refine lv_iconst (v := nI 1) hx hb dL_law_992 (by decide) ?_
  refine nr_iadd hx hb dL_law_993 ?_
  refine va_sld hx hb hX hbl hbA hS (vp_in_nI (by omega) (by omega)) dL_law_994 ?_
  obtain ⟨y1, ey1⟩ : ∃ y, y = xs (nI (i + 1)).toNatClampNeg := ⟨_, rfl⟩
  rw [← ey1]
  refine lv_aload_n hx hb dL_law_995 rfl (lv_at hl 0 rfl) ?_
  refine lv_iload_n hx hb dL_law_996 rfl (lv_at hl 3 rfl) ?_
  refine lv_iconst (v := nI 2) hx hb dL_law_997 (by decide) ?_
  refine nr_iadd hx hb dL_law_998 ?_
  refine va_sld hx hb hX hbl hbA hS (vp_in_nI (by omega) (by omega)) dL_law_999 ?_
  obtain ⟨y2, ey2⟩ : ∃ y, y = xs (nI (i + 2)).toNatClampNeg := ⟨_, rfl⟩
  rw [← ey2]
  refine nr_goI (nr_runV (As := [.int y1, .int y2]) (C := RX11) (T := TX11) (N := 11) ⟨hx, hb, hml, hown, hts⟩ hw (by decide) (isO_0 hO) rfl (c_X11_easters l Γ 89 G 0 kp rf by0 tv gv Dv lf vs cv V J0 J1 hO hT hRd hD hRw hGs hCh hV hP0 hP1 (by decide) hj y1 y2 S.1.1.1) (cwV 2 hts gL_law_X11_easters rfl rfl rfl (by decide +kernel) ⟨Nat.le_of_ble_eq_true rfl, Nat.le_of_ble_eq_true rfl⟩) rfl hl.1 rfl (Nat.le_of_ble_eq_true rfl) dL_law_1000 hroom) hw hA hS (fun z1 G1 H locs p1 hw hS => ?_)
  have hf1 : fr G G1 (0 + 0) (0 + 76) := (by repeat' (first | exact p1 | refine Or.elim p1 (fun p1 => ?_) (fun p1 => ?_) | refine Exists.elim p1 (fun _ p1 => ?_) | replace p1 := p1.2))
  have hM1 := isM_fr hM hf1 (Or.inr (by decide))
  refine lv_aload_n hx hb dL_law_1003 rfl (lv_at hl 2 rfl) ?_
  refine lv_aload_n hx hb dL_law_1004 rfl (lv_at hl 0 rfl) ?_
  refine lv_iload_n hx hb dL_law_1005 rfl (lv_at hl 3 rfl) ?_
  refine lv_iconst (v := nI 1) hx hb dL_law_1006 (by decide) ?_
  refine nr_iadd hx hb dL_law_1007 ?_
  refine va_sld hx hb hX hbl hbA hS (vp_in_nI (by omega) (by omega)) dL_law_1008 ?_
  rw [← ey1]
  refine lv_aload_n hx hb dL_law_1009 rfl (lv_at hl 0 rfl) ?_
  refine lv_iload_n hx hb dL_law_1010 rfl (lv_at hl 3 rfl) ?_
  refine lv_iconst (v := nI 2) hx hb dL_law_1011 (by decide) ?_
  refine nr_iadd hx hb dL_law_1012 ?_
  refine va_sld hx hb hX hbl hbA hS (vp_in_nI (by omega) (by omega)) dL_law_1013 ?_
  rw [← ey2]
  refine nr_goI (nr_runV (As := [.int y1, .int y2]) (C := RX12) (T := TX12) (N := 19) ⟨hx, hb, hml, hown, hts⟩ hw (by decide) (isM_0 hM1) rfl (c_X12_eastersB l Γ 89 G1 76 R K kp rf ca rc hd fw tl by0 an vl iv hM1 (by decide) S.1.2.1.1.1.1 hj y1 y2 S.1.2.1.1.1.2.1 hhd) (cwV 2 hts gL_law_X12_easters rfl rfl rfl (by decide +kernel) ⟨Nat.le_of_ble_eq_true rfl, Nat.le_of_ble_eq_true rfl⟩) rfl hl.1 rfl (Nat.le_of_ble_eq_true rfl) dL_law_1014 hroom) hw hA hS (fun z2 G2 H locs p2 hw hS => ?_)
  obtain ⟨hz, I⟩ := op_easters (ca := ca) (rc := rc) (fw := fw) (hd := hd) (by decide) S p1 p2
  refine lv_icmp_eq (tgt := 1152) hx hb dL_law_1017 (by decide) (fun c9 => ?_) (fun c9 => ?_)
  · exact kk _ _ _ I hw hS
  · exact absurd hz c9
set_option maxHeartbeats 4000000 in
set_option maxRecDepth 100000 in
theorem st_image {p : Program} {l : Launch} {e : Env} {s : State} {m : MethodId} {below : List Frame} {meth : Method} {c : Code} {b L i cells slots : Nat} {xs : Nat → Int32} {Γ : Gam} {G : Nat → va_E} {H : Heap} {locs : List Loc} {ls : Array Slot} (hL0 : L ≤ 2560) (hx : p.tables.exec = Jvm.exec) (hb : c.code = cL_law) (hml : c.maxLocals = 4) (hown : s.vm.findClass RL = some m.cls) (hts : ∀ w ∈ lw_tbl, w.before #[Value.ref b] s = true) (hX : va_X b L xs s s.heap) (hbl : b < s.heap.size) {Q : State → Prop} (hi5 : i + 5 ≤ L) (hj : winj Γ 89) (hA : ∀ q, wA Γ 89 q → s.heap.size ≤ q) (hS : va_S (fun q : Nat => s.heap.size ≤ q) s.heap H locs) (hw1 : hw Γ 89 G s H) (I : SI Γ G 0 76) (hroom : cells ≤ 600000 ∧ slots ≤ 7302250) (hl : lv_has ls 4 [(0, .ref b), (1, .ref (ad Γ 0)), (2, .ref (ad Γ 76)), (3, .int (nI i))])
    (kk : ∀ (G3 : Nat → va_E) (H3 : Heap) (locs3 : List Loc), SI Γ G3 0 76 → hw Γ 89 G3 s H3 → va_S (fun q : Nat => s.heap.size ≤ q) s.heap H3 locs3 → W p l e room_1 s m #[Value.ref b] below meth c H3 locs3 cells slots Q (F0 m 1152 ls [])) :
    W p l e room_1 s m #[Value.ref b] below meth c H locs cells slots Q (F0 m 1046 ls []) := by
  have hw := hw1
  have hbA : ¬ (fun q : Nat => s.heap.size ≤ q) b := Nat.not_le.mpr hbl
  obtain ⟨by0, tv, gv, Dv, lf, vs, cv, V, J0, J1, kp, rf, R, K, ca, rc, hd, fw, tl, an, vl, iv, ⟨hO, hT, hRd, hD, hRw, hGs, hCh, hV, hP0, hP1, -⟩, hM, S⟩ := I
  have S1 := S
  obtain ⟨-, -, -, ⟨ht, hL, hbt⟩, ⟨hDv, hgv, hlf, hvs⟩, hkp, ⟨hhd, hfw, htl, hvl⟩, hAi, hKB, -, -⟩ := S1
  refine lv_aload_n hx hb dL_law_1046 rfl (lv_at hl 1 rfl) ?_
  refine lv_aload_n hx hb dL_law_1047 rfl (lv_at hl 0 rfl) ?_
  refine lv_iload_n hx hb dL_law_1048 rfl (lv_at hl 3 rfl) ?_
  refine lv_iconst (v := nI 1) hx hb dL_law_1049 (by decide) ?_
  refine nr_iadd hx hb dL_law_1050 ?_
  refine va_sld hx hb hX hbl hbA hS (vp_in_nI (by omega) (by omega)) dL_law_1051 ?_
  obtain ⟨y1, ey1⟩ : ∃ y, y = xs (nI (i + 1)).toNatClampNeg := ⟨_, rfl⟩
  rw [← ey1]
  refine nr_goI (nr_runV (As := [.int y1]) (C := RX11) (T := TX11) (N := 11) ⟨hx, hb, hml, hown, hts⟩ hw (by decide) (isO_0 hO) rfl (c_X11_image l Γ 89 G 0 kp rf by0 tv gv Dv lf vs cv V J0 J1 hO hT hRd hD hRw hGs hCh hV hP0 hP1 (by decide) hj y1 S.1.1.1) (cwV 1 hts gL_law_X11_image rfl rfl rfl (by decide +kernel) ⟨Nat.le_of_ble_eq_true rfl, Nat.le_of_ble_eq_true rfl⟩) rfl hl.1 rfl (Nat.le_of_ble_eq_true rfl) dL_law_1052 hroom) hw hA hS (fun z1 G1 H locs p1 hw hS => ?_)
  have hf1 : fr G G1 (0 + 0) (0 + 76) := (by repeat' (first | exact p1 | refine Or.elim p1 (fun p1 => ?_) (fun p1 => ?_) | refine Exists.elim p1 (fun _ p1 => ?_) | replace p1 := p1.2))
  have hM1 := isM_fr hM hf1 (Or.inr (by decide))
  refine lv_aload_n hx hb dL_law_1055 rfl (lv_at hl 2 rfl) ?_
  refine lv_aload_n hx hb dL_law_1056 rfl (lv_at hl 0 rfl) ?_
  refine lv_iload_n hx hb dL_law_1057 rfl (lv_at hl 3 rfl) ?_
  refine lv_iconst (v := nI 1) hx hb dL_law_1058 (by decide) ?_
  refine nr_iadd hx hb dL_law_1059 ?_
  refine va_sld hx hb hX hbl hbA hS (vp_in_nI (by omega) (by omega)) dL_law_1060 ?_
  rw [← ey1]
  refine nr_goI (nr_runV (As := [.int y1]) (C := RX12) (T := TX12) (N := 19) ⟨hx, hb, hml, hown, hts⟩ hw (by decide) (isM_0 hM1) rfl (c_X12_image l Γ 89 G1 76 R K kp rf ca rc hd fw tl by0 an vl iv hM1 (by decide) S.1.2.1.1.1.1 hj y1) (cwV 1 hts gL_law_X12_image rfl rfl rfl (by decide +kernel) ⟨Nat.le_of_ble_eq_true rfl, Nat.le_of_ble_eq_true rfl⟩) rfl hl.1 rfl (Nat.le_of_ble_eq_true rfl) dL_law_1061 hroom) hw hA hS (fun z2 G2 H locs p2 hw hS => ?_)
  obtain ⟨hz, I⟩ := op_image (ca := ca) (rc := rc) (fw := fw) (hd := hd) (by decide) S p1 p2
  refine lv_icmp_eq (tgt := 1152) hx hb dL_law_1064 (by decide) (fun c9 => ?_) (fun c9 => ?_)
  · exact kk _ _ _ I hw hS
  · exact absurd hz c9
set_option maxHeartbeats 4000000 in
set_option maxRecDepth 100000 in
theorem st_from {p : Program} {l : Launch} {e : Env} {s : State} {m : MethodId} {below : List Frame} {meth : Method} {c : Code} {b L i cells slots : Nat} {xs : Nat → Int32} {Γ : Gam} {G : Nat → va_E} {H : Heap} {locs : List Loc} {ls : Array Slot} (hL0 : L ≤ 2560) (hx : p.tables.exec = Jvm.exec) (hb : c.code = cL_law) (hml : c.maxLocals = 4) (hown : s.vm.findClass RL = some m.cls) (hts : ∀ w ∈ lw_tbl, w.before #[Value.ref b] s = true) (hX : va_X b L xs s s.heap) (hbl : b < s.heap.size) {Q : State → Prop} (hi5 : i + 5 ≤ L) (hj : winj Γ 89) (hA : ∀ q, wA Γ 89 q → s.heap.size ≤ q) (hS : va_S (fun q : Nat => s.heap.size ≤ q) s.heap H locs) (hw1 : hw Γ 89 G s H) (I : SI Γ G 0 76) (hroom : cells ≤ 600000 ∧ slots ≤ 7302250) (hl : lv_has ls 4 [(0, .ref b), (1, .ref (ad Γ 0)), (2, .ref (ad Γ 76)), (3, .int (nI i))])
    (kk : ∀ (G3 : Nat → va_E) (H3 : Heap) (locs3 : List Loc), SI Γ G3 0 76 → hw Γ 89 G3 s H3 → va_S (fun q : Nat => s.heap.size ≤ q) s.heap H3 locs3 → W p l e room_1 s m #[Value.ref b] below meth c H3 locs3 cells slots Q (F0 m 1152 ls [])) :
    W p l e room_1 s m #[Value.ref b] below meth c H locs cells slots Q (F0 m 1069 ls []) := by
  have hw := hw1
  have hbA : ¬ (fun q : Nat => s.heap.size ≤ q) b := Nat.not_le.mpr hbl
  obtain ⟨by0, tv, gv, Dv, lf, vs, cv, V, J0, J1, kp, rf, R, K, ca, rc, hd, fw, tl, an, vl, iv, ⟨hO, hT, hRd, hD, hRw, hGs, hCh, hV, hP0, hP1, -⟩, hM, S⟩ := I
  have S1 := S
  obtain ⟨-, -, -, ⟨ht, hL, hbt⟩, ⟨hDv, hgv, hlf, hvs⟩, hkp, ⟨hhd, hfw, htl, hvl⟩, hAi, hKB, -, -⟩ := S1
  refine lv_aload_n hx hb dL_law_1069 rfl (lv_at hl 1 rfl) ?_
  refine lv_aload_n hx hb dL_law_1070 rfl (lv_at hl 0 rfl) ?_
  refine lv_iload_n hx hb dL_law_1071 rfl (lv_at hl 3 rfl) ?_
  refine lv_iconst (v := nI 1) hx hb dL_law_1072 (by decide) ?_
  refine nr_iadd hx hb dL_law_1073 ?_
  refine va_sld hx hb hX hbl hbA hS (vp_in_nI (by omega) (by omega)) dL_law_1074 ?_
  obtain ⟨y1, ey1⟩ : ∃ y, y = xs (nI (i + 1)).toNatClampNeg := ⟨_, rfl⟩
  rw [← ey1]
  refine nr_goI (nr_runV (As := [.int y1]) (C := RX11) (T := TX11) (N := 11) ⟨hx, hb, hml, hown, hts⟩ hw (by decide) (isO_0 hO) rfl (c_X11_from l Γ 89 G 0 kp rf by0 tv gv Dv lf vs cv V J0 J1 hO hT hRd hD hRw hGs hCh hV hP0 hP1 (by decide) hj y1 S.1.1.1 hkp) (cwV 1 hts gL_law_X11_from rfl rfl rfl (by decide +kernel) ⟨Nat.le_of_ble_eq_true rfl, Nat.le_of_ble_eq_true rfl⟩) rfl hl.1 rfl (Nat.le_of_ble_eq_true rfl) dL_law_1075 hroom) hw hA hS (fun z1 G1 H locs p1 hw hS => ?_)
  have hf1 : fr G G1 (0 + 0) (0 + 76) := (by repeat' (first | exact p1 | refine Or.elim p1 (fun p1 => ?_) (fun p1 => ?_) | refine Exists.elim p1 (fun _ p1 => ?_) | replace p1 := p1.2))
  have hM1 := isM_fr hM hf1 (Or.inr (by decide))
  refine lv_aload_n hx hb dL_law_1078 rfl (lv_at hl 2 rfl) ?_
  refine lv_aload_n hx hb dL_law_1079 rfl (lv_at hl 0 rfl) ?_
  refine lv_iload_n hx hb dL_law_1080 rfl (lv_at hl 3 rfl) ?_
  refine lv_iconst (v := nI 1) hx hb dL_law_1081 (by decide) ?_
  refine nr_iadd hx hb dL_law_1082 ?_
  refine va_sld hx hb hX hbl hbA hS (vp_in_nI (by omega) (by omega)) dL_law_1083 ?_
  rw [← ey1]
  refine nr_goI (nr_runV (As := [.int y1]) (C := RX12) (T := TX12) (N := 19) ⟨hx, hb, hml, hown, hts⟩ hw (by decide) (isM_0 hM1) rfl (c_X12_from l Γ 89 G1 76 R K kp rf ca rc hd fw tl by0 an vl iv hM1 (by decide) S.1.2.1.1.1.1 hj y1 hkp hKB) (cwV 1 hts gL_law_X12_from rfl rfl rfl (by decide +kernel) ⟨Nat.le_of_ble_eq_true rfl, Nat.le_of_ble_eq_true rfl⟩) rfl hl.1 rfl (Nat.le_of_ble_eq_true rfl) dL_law_1084 hroom) hw hA hS (fun z2 G2 H locs p2 hw hS => ?_)
  obtain ⟨hz, I⟩ := op_from (ca := ca) (rc := rc) (fw := fw) (hd := hd) (by decide) S p1 p2
  refine lv_icmp_eq (tgt := 1152) hx hb dL_law_1087 (by decide) (fun c9 => ?_) (fun c9 => ?_)
  · exact kk _ _ _ I hw hS
  · exact absurd hz c9
set_option maxHeartbeats 4000000 in
set_option maxRecDepth 100000 in
theorem st_status {p : Program} {l : Launch} {e : Env} {s : State} {m : MethodId} {below : List Frame} {meth : Method} {c : Code} {b L i cells slots : Nat} {xs : Nat → Int32} {Γ : Gam} {G : Nat → va_E} {H : Heap} {locs : List Loc} {ls : Array Slot} (hL0 : L ≤ 2560) (hx : p.tables.exec = Jvm.exec) (hb : c.code = cL_law) (hml : c.maxLocals = 4) (hown : s.vm.findClass RL = some m.cls) (hts : ∀ w ∈ lw_tbl, w.before #[Value.ref b] s = true) (hX : va_X b L xs s s.heap) (hbl : b < s.heap.size) {Q : State → Prop} (hi5 : i + 5 ≤ L) (hj : winj Γ 89) (hA : ∀ q, wA Γ 89 q → s.heap.size ≤ q) (hS : va_S (fun q : Nat => s.heap.size ≤ q) s.heap H locs) (hw1 : hw Γ 89 G s H) (I : SI Γ G 0 76) (hroom : cells ≤ 600000 ∧ slots ≤ 7302250) (hl : lv_has ls 4 [(0, .ref b), (1, .ref (ad Γ 0)), (2, .ref (ad Γ 76)), (3, .int (nI i))])
    (kk : ∀ (G3 : Nat → va_E) (H3 : Heap) (locs3 : List Loc), SI Γ G3 0 76 → hw Γ 89 G3 s H3 → va_S (fun q : Nat => s.heap.size ≤ q) s.heap H3 locs3 → W p l e room_1 s m #[Value.ref b] below meth c H3 locs3 cells slots Q (F0 m 1152 ls [])) :
    W p l e room_1 s m #[Value.ref b] below meth c H locs cells slots Q (F0 m 1092 ls []) := by
  have hw := hw1
  have hbA : ¬ (fun q : Nat => s.heap.size ≤ q) b := Nat.not_le.mpr hbl
  obtain ⟨by0, tv, gv, Dv, lf, vs, cv, V, J0, J1, kp, rf, R, K, ca, rc, hd, fw, tl, an, vl, iv, ⟨hO, hT, hRd, hD, hRw, hGs, hCh, hV, hP0, hP1, -⟩, hM, S⟩ := I
  have S1 := S
  obtain ⟨-, -, -, ⟨ht, hL, hbt⟩, ⟨hDv, hgv, hlf, hvs⟩, hkp, ⟨hhd, hfw, htl, hvl⟩, hAi, hKB, -, -⟩ := S1
  refine lv_aload_n hx hb dL_law_1092 rfl (lv_at hl 1 rfl) ?_
  refine lv_aload_n hx hb dL_law_1093 rfl (lv_at hl 0 rfl) ?_
  refine lv_iload_n hx hb dL_law_1094 rfl (lv_at hl 3 rfl) ?_
  refine lv_iconst (v := nI 1) hx hb dL_law_1095 (by decide) ?_
  refine nr_iadd hx hb dL_law_1096 ?_
  refine va_sld hx hb hX hbl hbA hS (vp_in_nI (by omega) (by omega)) dL_law_1097 ?_
  obtain ⟨y1, ey1⟩ : ∃ y, y = xs (nI (i + 1)).toNatClampNeg := ⟨_, rfl⟩
  rw [← ey1]
  refine nr_goI (nr_runV (As := [.int y1]) (C := RX11) (T := TX11) (N := 11) ⟨hx, hb, hml, hown, hts⟩ hw (by decide) (isO_0 hO) rfl (c_X11_status l Γ 89 G 0 kp rf by0 tv gv Dv lf vs cv V J0 J1 hO hT hRd hD hRw hGs hCh hV hP0 hP1 (by decide) hj y1 S.1.1.1) (cwV 1 hts gL_law_X11_status rfl rfl rfl (by decide +kernel) ⟨Nat.le_of_ble_eq_true rfl, Nat.le_of_ble_eq_true rfl⟩) rfl hl.1 rfl (Nat.le_of_ble_eq_true rfl) dL_law_1098 hroom) hw hA hS (fun z1 G1 H locs p1 hw hS => ?_)
  have hf1 : fr G G1 (0 + 0) (0 + 76) := (by repeat' (first | exact p1 | refine Or.elim p1 (fun p1 => ?_) (fun p1 => ?_) | refine Exists.elim p1 (fun _ p1 => ?_) | replace p1 := p1.2))
  have hM1 := isM_fr hM hf1 (Or.inr (by decide))
  refine lv_aload_n hx hb dL_law_1101 rfl (lv_at hl 2 rfl) ?_
  refine lv_aload_n hx hb dL_law_1102 rfl (lv_at hl 0 rfl) ?_
  refine lv_iload_n hx hb dL_law_1103 rfl (lv_at hl 3 rfl) ?_
  refine lv_iconst (v := nI 1) hx hb dL_law_1104 (by decide) ?_
  refine nr_iadd hx hb dL_law_1105 ?_
  refine va_sld hx hb hX hbl hbA hS (vp_in_nI (by omega) (by omega)) dL_law_1106 ?_
  rw [← ey1]
  refine nr_goI (nr_runV (As := [.int y1]) (C := RX12) (T := TX12) (N := 19) ⟨hx, hb, hml, hown, hts⟩ hw (by decide) (isM_0 hM1) rfl (c_X12_status l Γ 89 G1 76 R K kp rf ca rc hd fw tl by0 an vl iv hM1 (by decide) S.1.2.1.1.1.1 hj y1) (cwV 1 hts gL_law_X12_status rfl rfl rfl (by decide +kernel) ⟨Nat.le_of_ble_eq_true rfl, Nat.le_of_ble_eq_true rfl⟩) rfl hl.1 rfl (Nat.le_of_ble_eq_true rfl) dL_law_1107 hroom) hw hA hS (fun z2 G2 H locs p2 hw hS => ?_)
  obtain ⟨hz, I⟩ := op_status (ca := ca) (rc := rc) (fw := fw) (hd := hd) (by decide) S p1 p2
  refine lv_icmp_eq (tgt := 1152) hx hb dL_law_1110 (by decide) (fun c9 => ?_) (fun c9 => ?_)
  · exact kk _ _ _ I hw hS
  · exact absurd hz c9
set_option maxHeartbeats 4000000 in
set_option maxRecDepth 100000 in
theorem st_count {p : Program} {l : Launch} {e : Env} {s : State} {m : MethodId} {below : List Frame} {meth : Method} {c : Code} {b L i cells slots : Nat} {xs : Nat → Int32} {Γ : Gam} {G : Nat → va_E} {H : Heap} {locs : List Loc} {ls : Array Slot} (hL0 : L ≤ 2560) (hx : p.tables.exec = Jvm.exec) (hb : c.code = cL_law) (hml : c.maxLocals = 4) (hown : s.vm.findClass RL = some m.cls) (hts : ∀ w ∈ lw_tbl, w.before #[Value.ref b] s = true) (hX : va_X b L xs s s.heap) (hbl : b < s.heap.size) {Q : State → Prop} (hi5 : i + 5 ≤ L) (hj : winj Γ 89) (hA : ∀ q, wA Γ 89 q → s.heap.size ≤ q) (hS : va_S (fun q : Nat => s.heap.size ≤ q) s.heap H locs) (hw1 : hw Γ 89 G s H) (I : SI Γ G 0 76) (hroom : cells ≤ 600000 ∧ slots ≤ 7302250) (hl : lv_has ls 4 [(0, .ref b), (1, .ref (ad Γ 0)), (2, .ref (ad Γ 76)), (3, .int (nI i))])
    (kk : ∀ (G3 : Nat → va_E) (H3 : Heap) (locs3 : List Loc), SI Γ G3 0 76 → hw Γ 89 G3 s H3 → va_S (fun q : Nat => s.heap.size ≤ q) s.heap H3 locs3 → W p l e room_1 s m #[Value.ref b] below meth c H3 locs3 cells slots Q (F0 m 1152 ls [])) :
    W p l e room_1 s m #[Value.ref b] below meth c H locs cells slots Q (F0 m 1115 ls []) := by
  have hw := hw1
  have hbA : ¬ (fun q : Nat => s.heap.size ≤ q) b := Nat.not_le.mpr hbl
  obtain ⟨by0, tv, gv, Dv, lf, vs, cv, V, J0, J1, kp, rf, R, K, ca, rc, hd, fw, tl, an, vl, iv, ⟨hO, hT, hRd, hD, hRw, hGs, hCh, hV, hP0, hP1, -⟩, hM, S⟩ := I
  have S1 := S
  obtain ⟨-, -, -, ⟨ht, hL, hbt⟩, ⟨hDv, hgv, hlf, hvs⟩, hkp, ⟨hhd, hfw, htl, hvl⟩, hAi, hKB, -, -⟩ := S1
  refine lv_aload_n hx hb dL_law_1115 rfl (lv_at hl 1 rfl) ?_
  refine lv_aload_n hx hb dL_law_1116 rfl (lv_at hl 0 rfl) ?_
  refine lv_iload_n hx hb dL_law_1117 rfl (lv_at hl 3 rfl) ?_
  refine lv_iconst (v := nI 1) hx hb dL_law_1118 (by decide) ?_
  refine nr_iadd hx hb dL_law_1119 ?_
  refine va_sld hx hb hX hbl hbA hS (vp_in_nI (by omega) (by omega)) dL_law_1120 ?_
  obtain ⟨y1, ey1⟩ : ∃ y, y = xs (nI (i + 1)).toNatClampNeg := ⟨_, rfl⟩
  rw [← ey1]
  refine nr_goI (nr_runV (As := [.int y1]) (C := RX11) (T := TX11) (N := 11) ⟨hx, hb, hml, hown, hts⟩ hw (by decide) (isO_0 hO) rfl (c_X11_count l Γ 89 G 0 kp rf by0 tv gv Dv lf vs cv V J0 J1 hO hT hRd hD hRw hGs hCh hV hP0 hP1 (by decide) hj y1 S.1.1.1) (cwV 1 hts gL_law_X11_count rfl rfl rfl (by decide +kernel) ⟨Nat.le_of_ble_eq_true rfl, Nat.le_of_ble_eq_true rfl⟩) rfl hl.1 rfl (Nat.le_of_ble_eq_true rfl) dL_law_1121 hroom) hw hA hS (fun z1 G1 H locs p1 hw hS => ?_)
  have hf1 : fr G G1 (0 + 0) (0 + 76) := (by repeat' (first | exact p1 | refine Or.elim p1 (fun p1 => ?_) (fun p1 => ?_) | refine Exists.elim p1 (fun _ p1 => ?_) | replace p1 := p1.2))
  have hM1 := isM_fr hM hf1 (Or.inr (by decide))
  refine lv_aload_n hx hb dL_law_1124 rfl (lv_at hl 2 rfl) ?_
  refine lv_aload_n hx hb dL_law_1125 rfl (lv_at hl 0 rfl) ?_
  refine lv_iload_n hx hb dL_law_1126 rfl (lv_at hl 3 rfl) ?_
  refine lv_iconst (v := nI 1) hx hb dL_law_1127 (by decide) ?_
  refine nr_iadd hx hb dL_law_1128 ?_
  refine va_sld hx hb hX hbl hbA hS (vp_in_nI (by omega) (by omega)) dL_law_1129 ?_
  rw [← ey1]
  refine nr_goI (nr_runV (As := [.int y1]) (C := RX12) (T := TX12) (N := 19) ⟨hx, hb, hml, hown, hts⟩ hw (by decide) (isM_0 hM1) rfl (c_X12_count l Γ 89 G1 76 R K kp rf ca rc hd fw tl by0 an vl iv hM1 (by decide) S.1.2.1.1.1.1 hj y1 (by rw [← ht]; exact hL)) (cwV 1 hts gL_law_X12_count rfl rfl rfl (by decide +kernel) ⟨Nat.le_of_ble_eq_true rfl, Nat.le_of_ble_eq_true rfl⟩) rfl hl.1 rfl (Nat.le_of_ble_eq_true rfl) dL_law_1130 hroom) hw hA hS (fun z2 G2 H locs p2 hw hS => ?_)
  obtain ⟨hz, I⟩ := op_count (ca := ca) (rc := rc) (fw := fw) (hd := hd) (by decide) S p1 p2
  refine lv_icmp_eq (tgt := 1152) hx hb dL_law_1133 (by decide) (fun c9 => ?_) (fun c9 => ?_)
  · exact kk _ _ _ I hw hS
  · exact absurd hz c9
