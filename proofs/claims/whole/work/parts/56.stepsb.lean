theorem lcmp_self (x : Int64) : lg_cmp x x = 0 := by simp [lg_cmp]
theorem kS_low {A B : Nat → Prop} {ak av : Nat → Nat} {fr0 : Option Nat} {U : State} {H : Heap} (h : kSt A ak av fr0 U H) (hAB : ∀ q, B q → A q) : kSt B ak av fr0 U H := ⟨h.1.narrow hAB, h.2.1, h.2.2.1.narrow hAB, h.2.2.2.narrow hAB⟩
theorem hkH_preV {Γ : Gam} {n : Nat} {G : Nat → va_E} {A : Nat → Prop} {ak av : Nat → Nat} {fr0 : Option Nat} {s : State} {H : Heap} (hw1 : hw Γ n G s H) (h : kSt A ak av fr0 s H) (As : List Value) {i ci : Nat} (hi : i < n) {fs : List Value} (hG : G i = .inr (ci, fs)) {q : vw_C} (hc : vwCl[ci]? = some q) : PreV s H q.1 (ad Γ i) (va_Pc (.ref (ad Γ i) :: As) (fun U => hw Γ n G U U.heap ∧ kSt A ak av fr0 U U.heap)) As :=
  ⟨hk_blind Γ n G A ak av fr0 _, va_recv hw1.2.1 hw1.1 hc (q0 := i) (by rw [wld_at Γ _ hi, hG]), fun _ hU hW => ⟨rfl, hw_to hw1 hU hW, kS_to h hU hW⟩⟩
set_option maxHeartbeats 4000000 in
set_option maxRecDepth 100000 in
theorem st_part {p : Program} {l : Launch} {e : Env} {s : State} {m : MethodId} {below : List Frame} {meth : Method} {c : Code} {b L i cells slots : Nat} {xs : Nat → Int32} {Γ : Gam} {G : Nat → va_E} {H : Heap} {locs : List Loc} {ls : Array Slot} (hL0 : L ≤ 2560) (hx : p.tables.exec = Jvm.exec) (hb : c.code = cL_law) (hml : c.maxLocals = 4) (hown : s.vm.findClass RL = some m.cls) (hts : ∀ w ∈ lw_tbl, w.before #[Value.ref b] s = true) (hX : va_X b L xs s s.heap) (hbl : b < s.heap.size) {Q : State → Prop} (hi5 : i + 5 ≤ L) (hj : winj Γ 89) (hA : ∀ q, wA Γ 89 q → s.heap.size ≤ q) (hS : va_S (fun q : Nat => s.heap.size ≤ q) s.heap H locs) (hw1 : hw Γ 89 G s H) (I : SI Γ G 0 76) (hroom : cells ≤ 600000 ∧ slots ≤ 7302250) (hl : lv_has ls 4 [(0, .ref b), (1, .ref (ad Γ 0)), (2, .ref (ad Γ 76)), (3, .int (nI i))])

    (kk : ∀ (G3 : Nat → va_E) (H3 : Heap) (locs3 : List Loc), SI Γ G3 0 76 → hw Γ 89 G3 s H3 → va_S (fun q : Nat => s.heap.size ≤ q) s.heap H3 locs3 → W p l e room_1 s m #[Value.ref b] below meth c H3 locs3 cells slots Q (F0 m 1152 ls [])) :
    W p l e room_1 s m #[Value.ref b] below meth c H locs cells slots Q (F0 m 1022 ls []) := by
  have hw := hw1
  have hbA : ¬ (fun q : Nat => s.heap.size ≤ q) b := Nat.not_le.mpr hbl
  obtain ⟨by0, tv, gv, Dv, lf, vs, cv, V, J0, J1, kp, rf, R, K, ca, rc, hd, fw, tl, an, vl, iv, ⟨hO, hT, hRd, hD, hRw, hGs, hCh, hV, hP0, hP1, -⟩, hM, S⟩ := I
  have S1 := S
  obtain ⟨-, -, -, ⟨ht, hL, hbt⟩, ⟨hDv, hgv, hlf, hvs⟩, hkp, ⟨hhd, hfw, htl, hvl⟩, hAi, hKB, -, -⟩ := S1
  refine lv_aload_n hx hb dL_law_1022 rfl (lv_at hl 1 rfl) ?_
  refine lv_aload_n hx hb dL_law_1023 rfl (lv_at hl 0 rfl) ?_
  refine lv_iload_n hx hb dL_law_1024 rfl (lv_at hl 3 rfl) ?_
  refine lv_iconst (v := nI 1) hx hb dL_law_1025 (by decide) ?_
  refine nr_iadd hx hb dL_law_1026 ?_
  refine va_sld hx hb hX hbl hbA hS (vp_in_nI (by omega) (by omega)) dL_law_1027 ?_
  obtain ⟨y1, ey1⟩ : ∃ y, y = xs (nI (i + 1)).toNatClampNeg := ⟨_, rfl⟩
  rw [← ey1]
  refine nr_goIL (nr_runV (As := [.int y1]) (C := RX11) (T := TX11) (N := 11) ⟨hx, hb, hml, hown, hts⟩ hw (by decide) (isO_0 hO) rfl (c_X11_part l Γ 89 G 0 kp rf by0 tv gv Dv lf vs cv V J0 J1 hO hT hRd hD hRw hGs hCh hV hP0 hP1 (by decide) hj y1 S.1.1.1) (cwV 1 hts gL_law_X11_part rfl rfl rfl (by decide +kernel) ⟨Nat.le_of_ble_eq_true rfl, Nat.le_of_ble_eq_true rfl⟩) rfl hl.1 rfl (Nat.le_of_ble_eq_true rfl) dL_law_1028 hroom) hw hA hS (fun z1 G1 H locs p1 hw hS => ?_)
  have hf1 : fr G G1 (0 + 0) (0 + 76) := (by repeat' (first | exact p1 | refine Or.elim p1 (fun p1 => ?_) (fun p1 => ?_) | refine Exists.elim p1 (fun _ p1 => ?_) | replace p1 := p1.2))
  have hM1 := isM_fr hM hf1 (Or.inr (by decide))
  refine lv_aload_n hx hb dL_law_1031 rfl (lv_at hl 2 rfl) ?_
  refine lv_aload_n hx hb dL_law_1032 rfl (lv_at hl 0 rfl) ?_
  refine lv_iload_n hx hb dL_law_1033 rfl (lv_at hl 3 rfl) ?_
  refine lv_iconst (v := nI 1) hx hb dL_law_1034 (by decide) ?_
  refine nr_iadd hx hb dL_law_1035 ?_
  refine va_sld hx hb hX hbl hbA hS (vp_in_nI (by omega) (by omega)) dL_law_1036 ?_
  rw [← ey1]
  refine nr_goIL (nr_runV (As := [.int y1]) (C := RX12) (T := TX12) (N := 19) ⟨hx, hb, hml, hown, hts⟩ hw (by decide) (isM_0 hM1) rfl (c_X12_part l Γ 89 G1 76 R K kp rf ca rc hd fw tl by0 an vl iv hM1 (by decide) S.1.2.1.1.1.1 hj y1) (cwV 1 hts gL_law_X12_part rfl rfl rfl (by decide +kernel) ⟨Nat.le_of_ble_eq_true rfl, Nat.le_of_ble_eq_true rfl⟩) rfl hl.1 rfl (Nat.le_of_ble_eq_true rfl) dL_law_1037 hroom) hw hA hS (fun z2 G2 H locs p2 hw hS => ?_)
  obtain ⟨hz, I⟩ := op_part (ca := ca) (rc := rc) (fw := fw) (hd := hd) (by decide) S p1 p2
  refine W.lcmp hx hb dL_law_1040 ?_
  refine lv_if_eq (tgt := 1152) hx hb dL_law_1041 (by decide) (fun c9 => ?_) (fun c9 => ?_)
  · exact kk _ _ _ I hw hS
  · exact absurd (by rw [hz]; exact lcmp_self _) c9
set_option maxHeartbeats 4000000 in
set_option maxRecDepth 100000 in
theorem st_digest {p : Program} {l : Launch} {e : Env} {s : State} {m : MethodId} {below : List Frame} {meth : Method} {c : Code} {b L i cells slots : Nat} {xs : Nat → Int32} {Γ : Gam} {G : Nat → va_E} {H : Heap} {locs : List Loc} {ls : Array Slot} (hL0 : L ≤ 2560) (hx : p.tables.exec = Jvm.exec) (hb : c.code = cL_law) (hml : c.maxLocals = 4) (hown : s.vm.findClass RL = some m.cls) (hts : ∀ w ∈ lw_tbl, w.before #[Value.ref b] s = true) (hX : va_X b L xs s s.heap) (hbl : b < s.heap.size) {Q : State → Prop} (hi5 : i + 5 ≤ L) (hj : winj Γ 89) (hA : ∀ q, wA Γ 89 q → s.heap.size ≤ q) (hS : va_S (fun q : Nat => s.heap.size ≤ q) s.heap H locs) (hw1 : hw Γ 89 G s H) (I : SI Γ G 0 76) (hroom : cells ≤ 600000 ∧ slots ≤ 7302250) (hl : lv_has ls 4 [(0, .ref b), (1, .ref (ad Γ 0)), (2, .ref (ad Γ 76)), (3, .int (nI i))])

    (kk : ∀ (G3 : Nat → va_E) (H3 : Heap) (locs3 : List Loc), SI Γ G3 0 76 → hw Γ 89 G3 s H3 → va_S (fun q : Nat => s.heap.size ≤ q) s.heap H3 locs3 → W p l e room_1 s m #[Value.ref b] below meth c H3 locs3 cells slots Q (F0 m 1152 ls [])) :
    W p l e room_1 s m #[Value.ref b] below meth c H locs cells slots Q (F0 m 1138 ls []) := by
  have hw := hw1
  have hbA : ¬ (fun q : Nat => s.heap.size ≤ q) b := Nat.not_le.mpr hbl
  obtain ⟨by0, tv, gv, Dv, lf, vs, cv, V, J0, J1, kp, rf, R, K, ca, rc, hd, fw, tl, an, vl, iv, ⟨hO, hT, hRd, hD, hRw, hGs, hCh, hV, hP0, hP1, -⟩, hM, S⟩ := I
  have S1 := S
  obtain ⟨-, -, -, ⟨ht, hL, hbt⟩, ⟨hDv, hgv, hlf, hvs⟩, hkp, ⟨hhd, hfw, htl, hvl⟩, hAi, hKB, -, -⟩ := S1
  refine lv_aload_n hx hb dL_law_1138 rfl (lv_at hl 1 rfl) ?_
  refine nr_goIL (nr_runV (As := []) (C := RX11) (T := TX11) (N := 11) ⟨hx, hb, hml, hown, hts⟩ hw (by decide) (isO_0 hO) rfl (c_X11_digest l Γ 89 G 0 kp rf by0 tv gv Dv lf vs cv V J0 J1 hO hT hRd hD hRw hGs hCh hV hP0 hP1 (by decide) hj S.1.1.1 hL) (cwV 0 hts gL_law_X11_digest rfl rfl rfl (by decide +kernel) ⟨Nat.le_of_ble_eq_true rfl, Nat.le_of_ble_eq_true rfl⟩) rfl hl.1 rfl (Nat.le_of_ble_eq_true rfl) dL_law_1139 hroom) hw hA hS (fun z1 G1 H locs p1 hw hS => ?_)
  have hf1 : fr G G1 (0 + 0) (0 + 76) := (by repeat' (first | exact p1 | refine Or.elim p1 (fun p1 => ?_) (fun p1 => ?_) | refine Exists.elim p1 (fun _ p1 => ?_) | replace p1 := p1.2))
  have hM1 := isM_fr hM hf1 (Or.inr (by decide))
  refine lv_aload_n hx hb dL_law_1142 rfl (lv_at hl 2 rfl) ?_
  refine nr_goL (nr_runV (As := []) (C := RX12) (T := TX12) (N := 19) ⟨hx, hb, hml, hown, hts⟩ hw (by decide) (isM_0 hM1) rfl (c_X12_digest l Γ 89 G1 76 R K kp rf ca rc hd fw tl by0 an vl iv hM1 (by decide) S.1.2.1.1.1.1 (by rw [← ht]; exact hL)) (cwV 0 hts gL_law_X12_digest rfl rfl rfl (by decide +kernel) ⟨Nat.le_of_ble_eq_true rfl, Nat.le_of_ble_eq_true rfl⟩) rfl hl.1 rfl (Nat.le_of_ble_eq_true rfl) dL_law_1143 hroom) (fun z2 p2 => ?_)
  obtain ⟨hz, I⟩ := op_digest (G3 := G1) (by decide) S p1 ⟨p2, hM1, fr_rf _ _ _⟩
  refine W.lcmp hx hb dL_law_1146 ?_
  refine lv_if_eq (tgt := 1152) hx hb dL_law_1147 (by decide) (fun c9 => ?_) (fun c9 => ?_)
  · exact kk _ _ _ I hw hS
  · exact absurd (by rw [hz]; exact lcmp_self _) c9
set_option maxHeartbeats 4000000 in
set_option maxRecDepth 100000 in
theorem st_read {p : Program} {l : Launch} {e : Env} {s : State} {m : MethodId} {below : List Frame} {meth : Method} {c : Code} {b L i cells slots : Nat} {xs : Nat → Int32} {Γ : Gam} {G : Nat → va_E} {H : Heap} {locs : List Loc} {ls : Array Slot} (hL0 : L ≤ 2560) (hx : p.tables.exec = Jvm.exec) (hb : c.code = cL_law) (hml : c.maxLocals = 4) (hown : s.vm.findClass RL = some m.cls) (hts : ∀ w ∈ lw_tbl, w.before #[Value.ref b] s = true) (hX : va_X b L xs s s.heap) (hbl : b < s.heap.size) {Q : State → Prop} (hi5 : i + 5 ≤ L) (hj : winj Γ 89) (hA : ∀ q, wA Γ 89 q → s.heap.size ≤ q) (hS : va_S (fun q : Nat => s.heap.size ≤ q) s.heap H locs) (hw1 : hw Γ 89 G s H) (I : SI Γ G 0 76) (hroom : cells ≤ 600000 ∧ slots ≤ 7302250) (hl : lv_has ls 4 [(0, .ref b), (1, .ref (ad Γ 0)), (2, .ref (ad Γ 76)), (3, .int (nI i))])
 (ak av : Nat → Nat) (fr0 : Option Nat) (hE : kSt (fun q : Nat => s.heap.size ≤ q) ak av fr0 s s.heap)
    (kk : ∀ (G3 : Nat → va_E) (H3 : Heap) (locs3 : List Loc), SI Γ G3 0 76 → hw Γ 89 G3 s H3 → va_S (fun q : Nat => s.heap.size ≤ q) s.heap H3 locs3 → W p l e room_1 s m #[Value.ref b] below meth c H3 locs3 cells slots Q (F0 m 1152 ls [])) :
    W p l e room_1 s m #[Value.ref b] below meth c H locs cells slots Q (F0 m 317 ls []) := by
  have hw := hw1
  have hbA : ¬ (fun q : Nat => s.heap.size ≤ q) b := Nat.not_le.mpr hbl
  obtain ⟨by0, tv, gv, Dv, lf, vs, cv, V, J0, J1, kp, rf, R, K, ca, rc, hd, fw, tl, an, vl, iv, ⟨hO, hT, hRd, hD, hRw, hGs, hCh, hV, hP0, hP1, -⟩, hM, S⟩ := I
  have S1 := S
  obtain ⟨-, -, -, ⟨ht, hL, hbt⟩, ⟨hDv, hgv, hlf, hvs⟩, hkp, ⟨hhd, hfw, htl, hvl⟩, hAi, hKB, -, -⟩ := S1
  refine lv_aload_n hx hb dL_law_317 rfl (lv_at hl 1 rfl) ?_
  have hEH := kS_low (B := wA Γ 89) (kS_kept hE hS) hA
  refine nr_goI (va_runV (As := []) ⟨hx, hb, hml, hown, hts⟩ (c_X11_read l Γ 89 G 0 kp rf by0 tv gv Dv lf vs cv V J0 J1 hO hT hRd hD hRw hGs hCh hV hP0 hP1 (by decide) hj S.1.1.1 hbt hL hDv hgv ak av fr0) (cwV 0 hts gL_law_X11_read rfl rfl rfl (by decide +kernel) ⟨Nat.le_of_ble_eq_true rfl, Nat.le_of_ble_eq_true rfl⟩) (hkH_preV hw hEH [] (i := 0) (by decide) (isO_0 hO) rfl) rfl rfl hl.1 rfl (lv_room (Nat.le_of_ble_eq_true rfl)) dL_law_318 hroom) hw hA hS (fun z1 G1 H locs p1 hw hS => ?_)
  have hf1 : fr G G1 (0 + 0) (0 + 76) := (by repeat' (first | exact p1 | refine Or.elim p1 (fun p1 => ?_) (fun p1 => ?_) | refine Exists.elim p1 (fun _ p1 => ?_) | replace p1 := p1.2))
  have hM1 := isM_fr hM hf1 (Or.inr (by decide))
  refine lv_aload_n hx hb dL_law_321 rfl (lv_at hl 2 rfl) ?_
  refine nr_goI (nr_runV (As := []) (C := RX12) (T := TX12) (N := 19) ⟨hx, hb, hml, hown, hts⟩ hw (by decide) (isM_0 hM1) rfl (c_X12_read l Γ 89 G1 76 R K kp rf ca rc hd fw tl by0 an vl iv hM1 (by decide) S.1.2.1.1.1.1 hj (by rw [← ht]; exact hL) hbt hAi hvl) (cwV 0 hts gL_law_X12_read rfl rfl rfl (by decide +kernel) ⟨Nat.le_of_ble_eq_true rfl, Nat.le_of_ble_eq_true rfl⟩) rfl hl.1 rfl (Nat.le_of_ble_eq_true rfl) dL_law_322 hroom) hw hA hS (fun z2 G2 H locs p2 hw hS => ?_)
  obtain ⟨hz, I⟩ := op_read (ca := ca) (rc := rc) (fw := fw) (hd := hd) (by decide) S p1 p2
  refine lv_icmp_eq (tgt := 1152) hx hb dL_law_325 (by decide) (fun c9 => ?_) (fun c9 => ?_)
  · exact kk _ _ _ I hw hS
  · exact absurd hz c9
