section SBB
theorem sM_lt {V : Nat → Nat} (hI : vI V) (i : Nat) : sM V i 0 0 < 2147483648 := by
  have h1 := sMercy_le (V (22 + i)) (V (6 + i) + cntBy V i 0 (V 1)) (V 21 + 0)
  have h2 := cntBy_le V i 0 (V 1)
  have h3 := hI.1 (6 + i)
  have h4 := hI.2.2.1
  unfold sM
  omega
theorem bc_10 : ∀ q, q < 1024 → bcF q = cnt (bt q) 10 := by decide +kernel
theorem bc_subb (q : Nat) : q / 2 ^ 1 &&& 1431655765 ≤ q := bc_sub q
theorem tly_lt {V tv : Nat → Nat} (hI : vI V) (hL : tv 0 ≤ 150) (w : Nat) : tlyC V tv w < 2147483648 := rTally_lt hI hL _
theorem lk_dflt {x : Int32} (h0 : ¬ x = 0) (h1 : ¬ x = nI 1) : Op.lookupswitch.offset [(0, 27), (1, 35)] 43 x.toInt = 43 := by
  have a : ¬ x.toInt = 0 := fun z => h0 (Int32.toInt_inj.mp (by rw [z]; rfl))
  have b : ¬ x.toInt = 1 := fun z => h1 (Int32.toInt_inj.mp (by rw [z, nI_toInt (by decide)]; rfl))
  have a' : ¬ (0 : Int) = x.toInt := fun z => a z.symm
  have b' : ¬ (1 : Int) = x.toInt := fun z => b z.symm
  simp [Op.lookupswitch.offset, a', b', a, b]
end SBB
section SBB2
theorem m10 (p : Nat) : (-10 : Int32) - nI p = nI 0 - nI (10 + p) := by
  rw [show (-10 : Int32) = nI 0 - nI 10 from by decide, ← nI_add]
  simp only [Int32.sub_eq_add_neg, Int32.neg_add]
  rw [Int32.add_assoc]
theorem rdk_le {T : Nat → Nat} {L k : Nat} {V0 : Nat → Nat} (hL : L ≤ 150) (h : rdGood T L V0 k) : k ≤ 150 := by
  have := rdS_b k h.2.1
  omega
end SBB2
theorem tk_up {f W : Nat → Nat} {k j : Nat} (h : ¬ j = k → W j = f j) : W j = va_up f k (W k) j := by
  by_cases q : j = k
  · rw [q, va_up_self]
  · rw [va_up_ne _ _ q]; exact h q
theorem tk_cp {f W : Nat → Nat} {o q j : Nat} (h : ¬ (o + 0 ≤ j ∧ j < o + 0 + q) → W j = f j) : W j = cpA f (o + 0) q (fun i => W (o + (0 + i))) j := by
  unfold cpA
  by_cases z : o + 0 ≤ j ∧ j < o + 0 + q
  · rw [if_pos z]; exact congrArg W (by omega)
  · rw [if_neg z]; exact h z
set_option maxHeartbeats 4000000 in
set_option maxRecDepth 100000 in
theorem c_J6b (l : Launch) (Γ : Gam) (n : Nat) (G : Nat → va_E) (q : Nat) (hq : q < 1024)  : Met l yJ6_bitCount_0f7a4 wsJ6_bitCount_0f7a4 ({ frames := 0, cells := 0, slots := 0, locals := 0 }) (va_Pc [.int (nI q)] (fun U => hw Γ n G U U.heap)) (vp_Si (fun z => z = nI (cnt (bt q) 10))) 0 0 (fun _ => False) := by
  refine Met.ofW (cc := cJ6_bitCount_0f7a4) (maxL := 1) (ret := (some .int)) (by decide) rfl ?_
  intro p e s m args below meth c s₁ B hml hv
  obtain ⟨rfl, hw⟩ := hv
  have hx := B.exec
  have hb := B.bytes
  have hr := B.returns
  have hts := atoms_spec (ws := wsJ6_bitCount_0f7a4) B.pre
  have hown : s.vm.findClass RJ6 = some m.cls := findClass_of_methodNamed B.named
  have hlocks := B.notSynchronized
  have hl := lv_entry ([.int (nI q)]) (n := 1) (Nat.le_of_ble_eq_true rfl)
  rw [lg_entry_eq]
  generalize (lg_sl ([.int (nI q)]) ++ List.replicate (1 - (lg_sl ([.int (nI q)])).length) Slot.unset).toArray = ls at hl ⊢
  have hl : lv_has ls 1 [(0, .int (nI q))] := hl
  have hs1 := bc_sub q
  refine lv_iload_n hx hb dJ6_bitCount_0f7a4_0 rfl (lv_at hl 0 rfl) ?_
  refine lv_iload_n hx hb dJ6_bitCount_0f7a4_1 rfl (lv_at hl 0 rfl) ?_
  refine lv_iconst (v := nI 1) hx hb dJ6_bitCount_0f7a4_2 (by decide) ?_
  refine nr_iushr hx hb (by omega) (by decide) dJ6_bitCount_0f7a4_3 ?_
  refine nr_ldcw (k := 1431655765) hx hb hown (hts _ wl_J6_bitCount_0f7a4_1) (by decide) dJ6_bitCount_0f7a4_4 ?_
  refine nr_iand hx hb dJ6_bitCount_0f7a4_7 ?_
  refine nr_isub hx hb (by omega) dJ6_bitCount_0f7a4_8 ?_
  refine lv_istore_n (lv' := [(0, .int (nI (q - ((q / 2 ^ 1) &&& 1431655765))))]) hx hb dJ6_bitCount_0f7a4_9 rfl hl (by decide) rfl (fun ls hl => ?_)
  obtain ⟨a1, ha1⟩ : ∃ y, y = q - ((q / 2 ^ 1) &&& 1431655765) := ⟨_, rfl⟩
  rw [← ha1] at hl
  have hand1 : a1 &&& 858993459 ≤ a1 := Nat.and_le_left
  have hand2 : a1 / 2 ^ 2 &&& 858993459 ≤ a1 / 2 ^ 2 := Nat.and_le_left
  have hle1 : a1 ≤ q := by omega
  have hle2 : a1 / 2 ^ 2 ≤ a1 := Nat.div_le_self _ _
  refine lv_iload_n hx hb dJ6_bitCount_0f7a4_10 rfl (lv_at hl 0 rfl) ?_
  refine nr_ldcw (k := 858993459) hx hb hown (hts _ wl_J6_bitCount_0f7a4_2) (by decide) dJ6_bitCount_0f7a4_11 ?_
  refine nr_iand hx hb dJ6_bitCount_0f7a4_14 ?_
  refine lv_iload_n hx hb dJ6_bitCount_0f7a4_15 rfl (lv_at hl 0 rfl) ?_
  refine lv_iconst (v := nI 2) hx hb dJ6_bitCount_0f7a4_16 (by decide) ?_
  refine nr_iushr hx hb (by omega) (by decide) dJ6_bitCount_0f7a4_17 ?_
  refine nr_ldcw (k := 858993459) hx hb hown (hts _ wl_J6_bitCount_0f7a4_2) (by decide) dJ6_bitCount_0f7a4_18 ?_
  refine nr_iand hx hb dJ6_bitCount_0f7a4_21 ?_
  refine nr_iadd hx hb dJ6_bitCount_0f7a4_22 ?_
  refine lv_istore_n (lv' := [(0, .int (nI ((a1 &&& 858993459) + ((a1 / 2 ^ 2) &&& 858993459))))]) hx hb dJ6_bitCount_0f7a4_23 rfl hl (by decide) rfl (fun ls hl => ?_)
  obtain ⟨a2, ha2⟩ : ∃ y, y = (a1 &&& 858993459) + ((a1 / 2 ^ 2) &&& 858993459) := ⟨_, rfl⟩
  rw [← ha2] at hl
  have hle3 : a2 ≤ 2048 := by omega
  have hle4 : a2 / 2 ^ 4 ≤ a2 := Nat.div_le_self _ _
  have hand3 : a2 + a2 / 2 ^ 4 &&& 252645135 ≤ a2 + a2 / 2 ^ 4 := Nat.and_le_left
  refine lv_iload_n hx hb dJ6_bitCount_0f7a4_24 rfl (lv_at hl 0 rfl) ?_
  refine lv_iload_n hx hb dJ6_bitCount_0f7a4_25 rfl (lv_at hl 0 rfl) ?_
  refine lv_iconst (v := nI 4) hx hb dJ6_bitCount_0f7a4_26 (by decide) ?_
  refine nr_iushr hx hb (by omega) (by decide) dJ6_bitCount_0f7a4_27 ?_
  refine nr_iadd hx hb dJ6_bitCount_0f7a4_28 ?_
  refine nr_ldcw (k := 252645135) hx hb hown (hts _ wl_J6_bitCount_0f7a4_3) (by decide) dJ6_bitCount_0f7a4_29 ?_
  refine nr_iand hx hb dJ6_bitCount_0f7a4_32 ?_
  refine lv_istore_n (lv' := [(0, .int (nI ((a2 + (a2 / 2 ^ 4)) &&& 252645135)))]) hx hb dJ6_bitCount_0f7a4_33 rfl hl (by decide) rfl (fun ls hl => ?_)
  obtain ⟨a3, ha3⟩ : ∃ y, y = (a2 + (a2 / 2 ^ 4)) &&& 252645135 := ⟨_, rfl⟩
  rw [← ha3] at hl
  have hle5 : a3 ≤ 4096 := by omega
  have hle6 : a3 / 2 ^ 8 ≤ a3 := Nat.div_le_self _ _
  refine lv_iload_n hx hb dJ6_bitCount_0f7a4_34 rfl (lv_at hl 0 rfl) ?_
  refine lv_iload_n hx hb dJ6_bitCount_0f7a4_35 rfl (lv_at hl 0 rfl) ?_
  refine lv_bipush (v := nI 8) hx hb dJ6_bitCount_0f7a4_36 (by decide) ?_
  refine nr_iushr hx hb (by omega) (by decide) dJ6_bitCount_0f7a4_38 ?_
  refine nr_iadd hx hb dJ6_bitCount_0f7a4_39 ?_
  refine lv_istore_n (lv' := [(0, .int (nI (a3 + (a3 / 2 ^ 8))))]) hx hb dJ6_bitCount_0f7a4_40 rfl hl (by decide) rfl (fun ls hl => ?_)
  obtain ⟨a4, ha4⟩ : ∃ y, y = a3 + (a3 / 2 ^ 8) := ⟨_, rfl⟩
  rw [← ha4] at hl
  have hle7 : a4 ≤ 8192 := by omega
  refine lv_iload_n hx hb dJ6_bitCount_0f7a4_41 rfl (lv_at hl 0 rfl) ?_
  refine lv_iload_n hx hb dJ6_bitCount_0f7a4_42 rfl (lv_at hl 0 rfl) ?_
  refine lv_bipush (v := nI 16) hx hb dJ6_bitCount_0f7a4_43 (by decide) ?_
  refine nr_iushr hx hb (by omega) (by decide) dJ6_bitCount_0f7a4_45 ?_
  refine nr_iadd hx hb dJ6_bitCount_0f7a4_46 ?_
  refine lv_istore_n (lv' := [(0, .int (nI (a4 + (a4 / 2 ^ 16))))]) hx hb dJ6_bitCount_0f7a4_47 rfl hl (by decide) rfl (fun ls hl => ?_)
  obtain ⟨a5, ha5⟩ : ∃ y, y = a4 + (a4 / 2 ^ 16) := ⟨_, rfl⟩
  rw [← ha5] at hl
  refine lv_iload_n hx hb dJ6_bitCount_0f7a4_48 rfl (lv_at hl 0 rfl) ?_
  refine lv_bipush (v := nI 63) hx hb dJ6_bitCount_0f7a4_49 (by decide) ?_
  refine nr_iand hx hb dJ6_bitCount_0f7a4_51 ?_
  exact nr_retS hx hb hr hlocks (by rw [← bc_10 q hq]; unfold bcF; simp only [*]) rfl dJ6_bitCount_0f7a4_52
theorem wl_X10_take_1 : Cond.fieldLink RX10 55 "BellForgiven$Valley" "people" "I" ∈ wsX10_take := List.mem_of_getElem? (i := 1) rfl
theorem wl_X10_take_2 : Cond.fieldLink RX10 59 "BellForgiven$Valley" "wrongs" "I" ∈ wsX10_take := List.mem_of_getElem? (i := 2) rfl
theorem wl_X10_take_3 : Cond.fieldLink RX10 62 "BellForgiven$Valley" "letOff" "I" ∈ wsX10_take := List.mem_of_getElem? (i := 3) rfl
theorem wl_X10_take_4 : Cond.fieldLink RX10 65 "BellForgiven$Valley" "day" "I" ∈ wsX10_take := List.mem_of_getElem? (i := 4) rfl
theorem wl_X10_take_5 : Cond.fieldLink RX10 9 "BellForgiven$Valley" "nature" "[I" ∈ wsX10_take := List.mem_of_getElem? (i := 5) rfl
theorem wl_X10_take_6 : Cond.methodLink RX10 72 arraycopyName ∈ wsX10_take := List.mem_of_getElem? (i := 6) rfl
theorem wl_X10_take_7 : Cond.native arraycopyName ∈ wsX10_take := List.mem_of_getElem? (i := 7) rfl
theorem wl_X10_take_8 : Cond.static arraycopyName ∈ wsX10_take := List.mem_of_getElem? (i := 8) rfl
theorem wl_X10_take_9 : Cond.initialized "java/lang/System" ∈ wsX10_take := List.mem_of_getElem? (i := 9) rfl
theorem wl_X10_take_10 : Cond.fieldLink RX10 15 "BellForgiven$Valley" "rung" "[I" ∈ wsX10_take := List.mem_of_getElem? (i := 10) rfl
theorem wl_X10_take_11 : Cond.fieldLink RX10 18 "BellForgiven$Valley" "kind" "[I" ∈ wsX10_take := List.mem_of_getElem? (i := 11) rfl
theorem wl_X10_take_12 : Cond.fieldLink RX10 21 "BellForgiven$Valley" "by" "[I" ∈ wsX10_take := List.mem_of_getElem? (i := 12) rfl
theorem wl_X10_take_13 : Cond.fieldLink RX10 24 "BellForgiven$Valley" "to" "[I" ∈ wsX10_take := List.mem_of_getElem? (i := 13) rfl
theorem wl_X10_take_14 : Cond.fieldLink RX10 27 "BellForgiven$Valley" "gravity" "[I" ∈ wsX10_take := List.mem_of_getElem? (i := 14) rfl
theorem wl_X10_take_15 : Cond.fieldLink RX10 30 "BellForgiven$Valley" "age" "[I" ∈ wsX10_take := List.mem_of_getElem? (i := 15) rfl
theorem wl_X10_take_16 : Cond.fieldLink RX10 38 "BellForgiven$Valley" "seen" "LBellForgiven$Rows;" ∈ wsX10_take := List.mem_of_getElem? (i := 16) rfl
theorem wl_X10_take_17 : Cond.fieldLink RX10 42 "BellForgiven$Valley" "notes" "LBellForgiven$Rows;" ∈ wsX10_take := List.mem_of_getElem? (i := 17) rfl
theorem wl_X10_take_18 : Cond.fieldLink RX10 45 "BellForgiven$Valley" "marks" "LBellForgiven$Rows;" ∈ wsX10_take := List.mem_of_getElem? (i := 18) rfl
theorem wl_X10_take_19 : Cond.fieldLink RX10 51 "BellForgiven$Valley" "past" "LBellForgiven$Past;" ∈ wsX10_take := List.mem_of_getElem? (i := 19) rfl
theorem hi_X10_take_X10 : ∀ w ∈ u_ws RX10 TX10 15, w ∈ wsX10_take := fun w h => (List.mem_cons_of_mem _ (List.mem_append_left _ (List.mem_append_left _ (List.mem_append_right _ h))))
set_option maxHeartbeats 4000000 in
set_option maxRecDepth 100000 in
theorem c_X10_take (l : Launch) (Γ : Gam) (n : Nat) (G : Nat → va_E) (b o : Nat) (V W : Nat → Nat) (hV : isV Γ G b V) (hW : isV Γ G o W) (hn_b : b + 16 ≤ n) (hn_o : o + 16 ≤ n) (hj : winj Γ n) (hdis : o + 16 ≤ b ∨ b + 16 ≤ o)  : Met l yX10_take wsX10_take ({ frames := 2, cells := 0, slots := 0, locals := 47 }) (va_Pc [.ref (ad Γ (b + 0)), .ref (ad Γ (o + 0))] (fun U => hw Γ n G U U.heap)) (wQv Γ n (fun G2 => isV Γ G2 b W ∧ fr G G2 (b + 0) (b + 16))) 0 0 (wA Γ n) := by
  refine Met.ofW (cc := cX10_take) (maxL := 2) (ret := none) (by decide) rfl ?_
  intro p e s m args below meth c s₁ B hml hv
  obtain ⟨rfl, hw⟩ := hv
  have hx := B.exec
  have hb := B.bytes
  have hr := B.returns
  have hts := atoms_spec (ws := wsX10_take) B.pre
  have hown : s.vm.findClass RX10 = some m.cls := findClass_of_methodNamed B.named
  have hlocks := B.notSynchronized
  have hS : va_S (wA Γ n) s.heap s.heap [] := va_S.rf
  have hA : ∀ q, wA Γ n q → wA Γ n q := fun _ h => h
  have hl := lv_entry ([.ref (ad Γ (b + 0)), .ref (ad Γ (o + 0))]) (n := 2) (Nat.le_of_ble_eq_true rfl)
  rw [lg_entry_eq]
  generalize (lg_sl ([.ref (ad Γ (b + 0)), .ref (ad Γ (o + 0))]) ++ List.replicate (2 - (lg_sl ([.ref (ad Γ (b + 0)), .ref (ad Γ (o + 0))])).length) Slot.unset).toArray = ls at hl ⊢
  have hl : lv_has ls 2 [(0, .ref (ad Γ (b + 0))), (1, .ref (ad Γ (o + 0)))] := hl
  have hfr := fr_rf G (b + 0) (b + 16)
  refine lv_aload_n hx hb dX10_take_0 rfl (lv_at hl 0 rfl) ?_
  refine lv_aload_n hx hb dX10_take_1 rfl (lv_at hl 1 rfl) ?_
  refine nr_get (own := RX10) (C := RX10) (T := TX10) (N := 15) (v := .int (nI (W 0))) hx hb hts hi_X10_take_X10 hown hw (by omega) (isV_0 hW) rfl 0 (by decide) wl_X10_take_1 rfl rfl dX10_take_2 ?_
  obtain ⟨w2, ew2⟩ : ∃ f, f = va_up V 0 (W 0) := ⟨_, rfl⟩
  refine nr_put (own := RX10) (C := RX10) (T := TX10) (N := 15) (ty := .int) (v := .int (nI (W 0))) (fs' := [.int (nI (w2 0)), .ref (ad Γ (b + 1)), .ref (ad Γ (b + 2)), .int (nI (w2 1)), .ref (ad Γ (b + 3)), .ref (ad Γ (b + 4)), .ref (ad Γ (b + 5)), .ref (ad Γ (b + 6)), .ref (ad Γ (b + 7)), .int (nI (w2 20)), .int (nI (w2 21)), .ref (ad Γ (b + 8)), .ref (ad Γ (b + 9)), .ref (ad Γ (b + 10)), .ref (ad Γ (b + 11))]) hx hb hts hi_X10_take_X10 tyX10 tyX10_ok nmX10 hown hw hj hA hS (by omega) (isV_0 hV) rfl 0 (by decide) wl_X10_take_1 rfl rfl (by decide +kernel) rfl rfl (Nat.le_of_ble_eq_true rfl) (by rw [ew2]; rfl) dX10_take_5 (fun H locs hw hS => ?_)
  subst ew2
  obtain ⟨G1, hw, hV, hf1⟩ := nv_c0 hV (va_up V 0 (W 0)) hw (fun j h1 h2 h3 h4 => va_up_ne _ _ (by assumption))
  have hW := isV_fr hW hf1 (by omega)
  have hfr := fr_tr hfr hf1 (by omega) (by omega)
  refine lv_aload_n hx hb dX10_take_8 rfl (lv_at hl 0 rfl) ?_
  refine lv_aload_n hx hb dX10_take_9 rfl (lv_at hl 1 rfl) ?_
  refine nr_get (own := RX10) (C := RX10) (T := TX10) (N := 15) (v := .int (nI (W 1))) hx hb hts hi_X10_take_X10 hown hw (by omega) (isV_0 hW) rfl 3 (by decide) wl_X10_take_2 rfl rfl dX10_take_10 ?_
  obtain ⟨w4, ew4⟩ : ∃ f, f = va_up (va_up V 0 (W 0)) 1 (W 1) := ⟨_, rfl⟩
  refine nr_put (own := RX10) (C := RX10) (T := TX10) (N := 15) (ty := .int) (v := .int (nI (W 1))) (fs' := [.int (nI (w4 0)), .ref (ad Γ (b + 1)), .ref (ad Γ (b + 2)), .int (nI (w4 1)), .ref (ad Γ (b + 3)), .ref (ad Γ (b + 4)), .ref (ad Γ (b + 5)), .ref (ad Γ (b + 6)), .ref (ad Γ (b + 7)), .int (nI (w4 20)), .int (nI (w4 21)), .ref (ad Γ (b + 8)), .ref (ad Γ (b + 9)), .ref (ad Γ (b + 10)), .ref (ad Γ (b + 11))]) hx hb hts hi_X10_take_X10 tyX10 tyX10_ok nmX10 hown hw hj hA hS (by omega) (isV_0 hV) rfl 3 (by decide) wl_X10_take_2 rfl rfl (by decide +kernel) rfl rfl (Nat.le_of_ble_eq_true rfl) (by rw [ew4]; rfl) dX10_take_13 (fun H locs hw hS => ?_)
  subst ew4
  obtain ⟨G3, hw, hV, hf3⟩ := nv_c0 hV (va_up (va_up V 0 (W 0)) 1 (W 1)) hw (fun j h1 h2 h3 h4 => va_up_ne _ _ (by assumption))
  have hW := isV_fr hW hf3 (by omega)
  have hfr := fr_tr hfr hf3 (by omega) (by omega)
  refine lv_aload_n hx hb dX10_take_16 rfl (lv_at hl 0 rfl) ?_
  refine lv_aload_n hx hb dX10_take_17 rfl (lv_at hl 1 rfl) ?_
  refine nr_get (own := RX10) (C := RX10) (T := TX10) (N := 15) (v := .int (nI (W 20))) hx hb hts hi_X10_take_X10 hown hw (by omega) (isV_0 hW) rfl 9 (by decide) wl_X10_take_3 rfl rfl dX10_take_18 ?_
  obtain ⟨w6, ew6⟩ : ∃ f, f = va_up (va_up (va_up V 0 (W 0)) 1 (W 1)) 20 (W 20) := ⟨_, rfl⟩
  refine nr_put (own := RX10) (C := RX10) (T := TX10) (N := 15) (ty := .int) (v := .int (nI (W 20))) (fs' := [.int (nI (w6 0)), .ref (ad Γ (b + 1)), .ref (ad Γ (b + 2)), .int (nI (w6 1)), .ref (ad Γ (b + 3)), .ref (ad Γ (b + 4)), .ref (ad Γ (b + 5)), .ref (ad Γ (b + 6)), .ref (ad Γ (b + 7)), .int (nI (w6 20)), .int (nI (w6 21)), .ref (ad Γ (b + 8)), .ref (ad Γ (b + 9)), .ref (ad Γ (b + 10)), .ref (ad Γ (b + 11))]) hx hb hts hi_X10_take_X10 tyX10 tyX10_ok nmX10 hown hw hj hA hS (by omega) (isV_0 hV) rfl 9 (by decide) wl_X10_take_3 rfl rfl (by decide +kernel) rfl rfl (Nat.le_of_ble_eq_true rfl) (by rw [ew6]; rfl) dX10_take_21 (fun H locs hw hS => ?_)
  subst ew6
  obtain ⟨G5, hw, hV, hf5⟩ := nv_c0 hV (va_up (va_up (va_up V 0 (W 0)) 1 (W 1)) 20 (W 20)) hw (fun j h1 h2 h3 h4 => va_up_ne _ _ (by assumption))
  have hW := isV_fr hW hf5 (by omega)
  have hfr := fr_tr hfr hf5 (by omega) (by omega)
  refine lv_aload_n hx hb dX10_take_24 rfl (lv_at hl 0 rfl) ?_
  refine lv_aload_n hx hb dX10_take_25 rfl (lv_at hl 1 rfl) ?_
  refine nr_get (own := RX10) (C := RX10) (T := TX10) (N := 15) (v := .int (nI (W 21))) hx hb hts hi_X10_take_X10 hown hw (by omega) (isV_0 hW) rfl 10 (by decide) wl_X10_take_4 rfl rfl dX10_take_26 ?_
  obtain ⟨w8, ew8⟩ : ∃ f, f = va_up (va_up (va_up (va_up V 0 (W 0)) 1 (W 1)) 20 (W 20)) 21 (W 21) := ⟨_, rfl⟩
  refine nr_put (own := RX10) (C := RX10) (T := TX10) (N := 15) (ty := .int) (v := .int (nI (W 21))) (fs' := [.int (nI (w8 0)), .ref (ad Γ (b + 1)), .ref (ad Γ (b + 2)), .int (nI (w8 1)), .ref (ad Γ (b + 3)), .ref (ad Γ (b + 4)), .ref (ad Γ (b + 5)), .ref (ad Γ (b + 6)), .ref (ad Γ (b + 7)), .int (nI (w8 20)), .int (nI (w8 21)), .ref (ad Γ (b + 8)), .ref (ad Γ (b + 9)), .ref (ad Γ (b + 10)), .ref (ad Γ (b + 11))]) hx hb hts hi_X10_take_X10 tyX10 tyX10_ok nmX10 hown hw hj hA hS (by omega) (isV_0 hV) rfl 10 (by decide) wl_X10_take_4 rfl rfl (by decide +kernel) rfl rfl (Nat.le_of_ble_eq_true rfl) (by rw [ew8]; rfl) dX10_take_29 (fun H locs hw hS => ?_)
  subst ew8
  obtain ⟨G7, hw, hV, hf7⟩ := nv_c0 hV (va_up (va_up (va_up (va_up V 0 (W 0)) 1 (W 1)) 20 (W 20)) 21 (W 21)) hw (fun j h1 h2 h3 h4 => va_up_ne _ _ (by assumption))
  have hW := isV_fr hW hf7 (by omega)
  have hfr := fr_tr hfr hf7 (by omega) (by omega)
  refine lv_aload_n hx hb dX10_take_32 rfl (lv_at hl 1 rfl) ?_
  refine nr_get (own := RX10) (C := RX10) (T := TX10) (N := 15) (v := .ref (ad Γ (o + 1))) hx hb hts hi_X10_take_X10 hown hw (by omega) (isV_0 hW) rfl 1 (by decide) wl_X10_take_5 rfl rfl dX10_take_33 ?_
  refine lv_iconst (v := nI 0) hx hb dX10_take_36 (by decide) ?_
  refine lv_aload_n hx hb dX10_take_37 rfl (lv_at hl 0 rfl) ?_
  refine nr_get (own := RX10) (C := RX10) (T := TX10) (N := 15) (v := .ref (ad Γ (b + 1))) hx hb hts hi_X10_take_X10 hown hw (by omega) (isV_0 hV) rfl 1 (by decide) wl_X10_take_5 rfl rfl dX10_take_38 ?_
  refine lv_iconst (v := nI 0) hx hb dX10_take_41 (by decide) ?_
  refine lv_bipush (v := nI 6) hx hb dX10_take_42 (by decide) ?_
  refine nr_copyi hx hb (hml.trans hl.1.symm) hown (hts _ wl_X10_take_6) (hts _ wl_X10_take_7) (hts _ wl_X10_take_8) (hts _ wl_X10_take_9) hw hj hA hS (by omega) (by omega) (isV_1 hW) (isV_1 hV) (by decide) (by decide) (by decide) (by omega) (by omega) (Nat.le_of_ble_eq_true rfl) (Nat.le_of_ble_eq_true rfl) dX10_take_44 (fun H locs hw hS => ?_)
  obtain ⟨G9, hw, hV, hf9⟩ := nv_c1 hV (cpA (va_up (va_up (va_up (va_up V 0 (W 0)) 1 (W 1)) 20 (W 20)) 21 (W 21)) (22 + 0) 6 (fun i => W (22 + (0 + i)))) (va_cpy (fun j => W (22 + j)) (fun j => (va_up (va_up (va_up (va_up V 0 (W 0)) 1 (W 1)) 20 (W 20)) 21 (W 21)) (22 + j)) 0 0 6) hw (fun j hj => cpA_out (by omega)) (fun j hj => cp_sh _ _ _ _ _ _ _)
  have hW := isV_fr hW hf9 (by omega)
  have hfr := fr_tr hfr hf9 (by omega) (by omega)
  refine lv_aload_n hx hb dX10_take_47 rfl (lv_at hl 1 rfl) ?_
  refine nr_get (own := RX10) (C := RX10) (T := TX10) (N := 15) (v := .ref (ad Γ (o + 2))) hx hb hts hi_X10_take_X10 hown hw (by omega) (isV_0 hW) rfl 2 (by decide) wl_X10_take_10 rfl rfl dX10_take_48 ?_
  refine lv_iconst (v := nI 0) hx hb dX10_take_51 (by decide) ?_
  refine lv_aload_n hx hb dX10_take_52 rfl (lv_at hl 0 rfl) ?_
  refine nr_get (own := RX10) (C := RX10) (T := TX10) (N := 15) (v := .ref (ad Γ (b + 2))) hx hb hts hi_X10_take_X10 hown hw (by omega) (isV_0 hV) rfl 2 (by decide) wl_X10_take_10 rfl rfl dX10_take_53 ?_
  refine lv_iconst (v := nI 0) hx hb dX10_take_56 (by decide) ?_
  refine lv_bipush (v := nI 6) hx hb dX10_take_57 (by decide) ?_
  refine nr_copyi hx hb (hml.trans hl.1.symm) hown (hts _ wl_X10_take_6) (hts _ wl_X10_take_7) (hts _ wl_X10_take_8) (hts _ wl_X10_take_9) hw hj hA hS (by omega) (by omega) (isV_2 hW) (isV_2 hV) (by decide) (by decide) (by decide) (by omega) (by omega) (Nat.le_of_ble_eq_true rfl) (Nat.le_of_ble_eq_true rfl) dX10_take_59 (fun H locs hw hS => ?_)
  obtain ⟨G10, hw, hV, hf10⟩ := nv_c2 hV (cpA (cpA (va_up (va_up (va_up (va_up V 0 (W 0)) 1 (W 1)) 20 (W 20)) 21 (W 21)) (22 + 0) 6 (fun i => W (22 + (0 + i)))) (6 + 0) 6 (fun i => W (6 + (0 + i)))) (va_cpy (fun j => W (6 + j)) (fun j => (cpA (va_up (va_up (va_up (va_up V 0 (W 0)) 1 (W 1)) 20 (W 20)) 21 (W 21)) (22 + 0) 6 (fun i => W (22 + (0 + i)))) (6 + j)) 0 0 6) hw (fun j hj => cpA_out (by omega)) (fun j hj => cp_sh _ _ _ _ _ _ _)
  have hW := isV_fr hW hf10 (by omega)
  have hfr := fr_tr hfr hf10 (by omega) (by omega)
  refine lv_aload_n hx hb dX10_take_62 rfl (lv_at hl 1 rfl) ?_
  refine nr_get (own := RX10) (C := RX10) (T := TX10) (N := 15) (v := .ref (ad Γ (o + 3))) hx hb hts hi_X10_take_X10 hown hw (by omega) (isV_0 hW) rfl 4 (by decide) wl_X10_take_11 rfl rfl dX10_take_63 ?_
  refine lv_iconst (v := nI 0) hx hb dX10_take_66 (by decide) ?_
  refine lv_aload_n hx hb dX10_take_67 rfl (lv_at hl 0 rfl) ?_
  refine nr_get (own := RX10) (C := RX10) (T := TX10) (N := 15) (v := .ref (ad Γ (b + 3))) hx hb hts hi_X10_take_X10 hown hw (by omega) (isV_0 hV) rfl 4 (by decide) wl_X10_take_11 rfl rfl dX10_take_68 ?_
  refine lv_iconst (v := nI 0) hx hb dX10_take_71 (by decide) ?_
  refine lv_bipush (v := nI 8) hx hb dX10_take_72 (by decide) ?_
  refine nr_copyi hx hb (hml.trans hl.1.symm) hown (hts _ wl_X10_take_6) (hts _ wl_X10_take_7) (hts _ wl_X10_take_8) (hts _ wl_X10_take_9) hw hj hA hS (by omega) (by omega) (isV_3 hW) (isV_3 hV) (by decide) (by decide) (by decide) (by omega) (by omega) (Nat.le_of_ble_eq_true rfl) (Nat.le_of_ble_eq_true rfl) dX10_take_74 (fun H locs hw hS => ?_)
  obtain ⟨G11, hw, hV, hf11⟩ := nv_c3 hV (cpA (cpA (cpA (va_up (va_up (va_up (va_up V 0 (W 0)) 1 (W 1)) 20 (W 20)) 21 (W 21)) (22 + 0) 6 (fun i => W (22 + (0 + i)))) (6 + 0) 6 (fun i => W (6 + (0 + i)))) (28 + 0) 8 (fun i => W (28 + (0 + i)))) (va_cpy (fun j => W (28 + j)) (fun j => (cpA (cpA (va_up (va_up (va_up (va_up V 0 (W 0)) 1 (W 1)) 20 (W 20)) 21 (W 21)) (22 + 0) 6 (fun i => W (22 + (0 + i)))) (6 + 0) 6 (fun i => W (6 + (0 + i)))) (28 + j)) 0 0 8) hw (fun j hj => cpA_out (by omega)) (fun j hj => cp_sh _ _ _ _ _ _ _)
  have hW := isV_fr hW hf11 (by omega)
  have hfr := fr_tr hfr hf11 (by omega) (by omega)
  refine lv_aload_n hx hb dX10_take_77 rfl (lv_at hl 1 rfl) ?_
  refine nr_get (own := RX10) (C := RX10) (T := TX10) (N := 15) (v := .ref (ad Γ (o + 4))) hx hb hts hi_X10_take_X10 hown hw (by omega) (isV_0 hW) rfl 5 (by decide) wl_X10_take_12 rfl rfl dX10_take_78 ?_
  refine lv_iconst (v := nI 0) hx hb dX10_take_81 (by decide) ?_
  refine lv_aload_n hx hb dX10_take_82 rfl (lv_at hl 0 rfl) ?_
  refine nr_get (own := RX10) (C := RX10) (T := TX10) (N := 15) (v := .ref (ad Γ (b + 4))) hx hb hts hi_X10_take_X10 hown hw (by omega) (isV_0 hV) rfl 5 (by decide) wl_X10_take_12 rfl rfl dX10_take_83 ?_
  refine lv_iconst (v := nI 0) hx hb dX10_take_86 (by decide) ?_
  refine lv_bipush (v := nI 8) hx hb dX10_take_87 (by decide) ?_
  refine nr_copyi hx hb (hml.trans hl.1.symm) hown (hts _ wl_X10_take_6) (hts _ wl_X10_take_7) (hts _ wl_X10_take_8) (hts _ wl_X10_take_9) hw hj hA hS (by omega) (by omega) (isV_4 hW) (isV_4 hV) (by decide) (by decide) (by decide) (by omega) (by omega) (Nat.le_of_ble_eq_true rfl) (Nat.le_of_ble_eq_true rfl) dX10_take_89 (fun H locs hw hS => ?_)
  obtain ⟨G12, hw, hV, hf12⟩ := nv_c4 hV (cpA (cpA (cpA (cpA (va_up (va_up (va_up (va_up V 0 (W 0)) 1 (W 1)) 20 (W 20)) 21 (W 21)) (22 + 0) 6 (fun i => W (22 + (0 + i)))) (6 + 0) 6 (fun i => W (6 + (0 + i)))) (28 + 0) 8 (fun i => W (28 + (0 + i)))) (36 + 0) 8 (fun i => W (36 + (0 + i)))) (va_cpy (fun j => W (36 + j)) (fun j => (cpA (cpA (cpA (va_up (va_up (va_up (va_up V 0 (W 0)) 1 (W 1)) 20 (W 20)) 21 (W 21)) (22 + 0) 6 (fun i => W (22 + (0 + i)))) (6 + 0) 6 (fun i => W (6 + (0 + i)))) (28 + 0) 8 (fun i => W (28 + (0 + i)))) (36 + j)) 0 0 8) hw (fun j hj => cpA_out (by omega)) (fun j hj => cp_sh _ _ _ _ _ _ _)
  have hW := isV_fr hW hf12 (by omega)
  have hfr := fr_tr hfr hf12 (by omega) (by omega)
  refine lv_aload_n hx hb dX10_take_92 rfl (lv_at hl 1 rfl) ?_
  refine nr_get (own := RX10) (C := RX10) (T := TX10) (N := 15) (v := .ref (ad Γ (o + 5))) hx hb hts hi_X10_take_X10 hown hw (by omega) (isV_0 hW) rfl 6 (by decide) wl_X10_take_13 rfl rfl dX10_take_93 ?_
  refine lv_iconst (v := nI 0) hx hb dX10_take_96 (by decide) ?_
  refine lv_aload_n hx hb dX10_take_97 rfl (lv_at hl 0 rfl) ?_
  refine nr_get (own := RX10) (C := RX10) (T := TX10) (N := 15) (v := .ref (ad Γ (b + 5))) hx hb hts hi_X10_take_X10 hown hw (by omega) (isV_0 hV) rfl 6 (by decide) wl_X10_take_13 rfl rfl dX10_take_98 ?_
  refine lv_iconst (v := nI 0) hx hb dX10_take_101 (by decide) ?_
  refine lv_bipush (v := nI 8) hx hb dX10_take_102 (by decide) ?_
  refine nr_copyi hx hb (hml.trans hl.1.symm) hown (hts _ wl_X10_take_6) (hts _ wl_X10_take_7) (hts _ wl_X10_take_8) (hts _ wl_X10_take_9) hw hj hA hS (by omega) (by omega) (isV_5 hW) (isV_5 hV) (by decide) (by decide) (by decide) (by omega) (by omega) (Nat.le_of_ble_eq_true rfl) (Nat.le_of_ble_eq_true rfl) dX10_take_104 (fun H locs hw hS => ?_)
  obtain ⟨G13, hw, hV, hf13⟩ := nv_c5 hV (cpA (cpA (cpA (cpA (cpA (va_up (va_up (va_up (va_up V 0 (W 0)) 1 (W 1)) 20 (W 20)) 21 (W 21)) (22 + 0) 6 (fun i => W (22 + (0 + i)))) (6 + 0) 6 (fun i => W (6 + (0 + i)))) (28 + 0) 8 (fun i => W (28 + (0 + i)))) (36 + 0) 8 (fun i => W (36 + (0 + i)))) (44 + 0) 8 (fun i => W (44 + (0 + i)))) (va_cpy (fun j => W (44 + j)) (fun j => (cpA (cpA (cpA (cpA (va_up (va_up (va_up (va_up V 0 (W 0)) 1 (W 1)) 20 (W 20)) 21 (W 21)) (22 + 0) 6 (fun i => W (22 + (0 + i)))) (6 + 0) 6 (fun i => W (6 + (0 + i)))) (28 + 0) 8 (fun i => W (28 + (0 + i)))) (36 + 0) 8 (fun i => W (36 + (0 + i)))) (44 + j)) 0 0 8) hw (fun j hj => cpA_out (by omega)) (fun j hj => cp_sh _ _ _ _ _ _ _)
  have hW := isV_fr hW hf13 (by omega)
  have hfr := fr_tr hfr hf13 (by omega) (by omega)
  refine lv_aload_n hx hb dX10_take_107 rfl (lv_at hl 1 rfl) ?_
  refine nr_get (own := RX10) (C := RX10) (T := TX10) (N := 15) (v := .ref (ad Γ (o + 6))) hx hb hts hi_X10_take_X10 hown hw (by omega) (isV_0 hW) rfl 7 (by decide) wl_X10_take_14 rfl rfl dX10_take_108 ?_
  refine lv_iconst (v := nI 0) hx hb dX10_take_111 (by decide) ?_
  refine lv_aload_n hx hb dX10_take_112 rfl (lv_at hl 0 rfl) ?_
  refine nr_get (own := RX10) (C := RX10) (T := TX10) (N := 15) (v := .ref (ad Γ (b + 6))) hx hb hts hi_X10_take_X10 hown hw (by omega) (isV_0 hV) rfl 7 (by decide) wl_X10_take_14 rfl rfl dX10_take_113 ?_
  refine lv_iconst (v := nI 0) hx hb dX10_take_116 (by decide) ?_
  refine lv_bipush (v := nI 8) hx hb dX10_take_117 (by decide) ?_
  refine nr_copyi hx hb (hml.trans hl.1.symm) hown (hts _ wl_X10_take_6) (hts _ wl_X10_take_7) (hts _ wl_X10_take_8) (hts _ wl_X10_take_9) hw hj hA hS (by omega) (by omega) (isV_6 hW) (isV_6 hV) (by decide) (by decide) (by decide) (by omega) (by omega) (Nat.le_of_ble_eq_true rfl) (Nat.le_of_ble_eq_true rfl) dX10_take_119 (fun H locs hw hS => ?_)
  obtain ⟨G14, hw, hV, hf14⟩ := nv_c6 hV (cpA (cpA (cpA (cpA (cpA (cpA (va_up (va_up (va_up (va_up V 0 (W 0)) 1 (W 1)) 20 (W 20)) 21 (W 21)) (22 + 0) 6 (fun i => W (22 + (0 + i)))) (6 + 0) 6 (fun i => W (6 + (0 + i)))) (28 + 0) 8 (fun i => W (28 + (0 + i)))) (36 + 0) 8 (fun i => W (36 + (0 + i)))) (44 + 0) 8 (fun i => W (44 + (0 + i)))) (52 + 0) 8 (fun i => W (52 + (0 + i)))) (va_cpy (fun j => W (52 + j)) (fun j => (cpA (cpA (cpA (cpA (cpA (va_up (va_up (va_up (va_up V 0 (W 0)) 1 (W 1)) 20 (W 20)) 21 (W 21)) (22 + 0) 6 (fun i => W (22 + (0 + i)))) (6 + 0) 6 (fun i => W (6 + (0 + i)))) (28 + 0) 8 (fun i => W (28 + (0 + i)))) (36 + 0) 8 (fun i => W (36 + (0 + i)))) (44 + 0) 8 (fun i => W (44 + (0 + i)))) (52 + j)) 0 0 8) hw (fun j hj => cpA_out (by omega)) (fun j hj => cp_sh _ _ _ _ _ _ _)
  have hW := isV_fr hW hf14 (by omega)
  have hfr := fr_tr hfr hf14 (by omega) (by omega)
  refine lv_aload_n hx hb dX10_take_122 rfl (lv_at hl 1 rfl) ?_
  refine nr_get (own := RX10) (C := RX10) (T := TX10) (N := 15) (v := .ref (ad Γ (o + 7))) hx hb hts hi_X10_take_X10 hown hw (by omega) (isV_0 hW) rfl 8 (by decide) wl_X10_take_15 rfl rfl dX10_take_123 ?_
  refine lv_iconst (v := nI 0) hx hb dX10_take_126 (by decide) ?_
  refine lv_aload_n hx hb dX10_take_127 rfl (lv_at hl 0 rfl) ?_
  refine nr_get (own := RX10) (C := RX10) (T := TX10) (N := 15) (v := .ref (ad Γ (b + 7))) hx hb hts hi_X10_take_X10 hown hw (by omega) (isV_0 hV) rfl 8 (by decide) wl_X10_take_15 rfl rfl dX10_take_128 ?_
  refine lv_iconst (v := nI 0) hx hb dX10_take_131 (by decide) ?_
  refine lv_bipush (v := nI 8) hx hb dX10_take_132 (by decide) ?_
  refine nr_copyi hx hb (hml.trans hl.1.symm) hown (hts _ wl_X10_take_6) (hts _ wl_X10_take_7) (hts _ wl_X10_take_8) (hts _ wl_X10_take_9) hw hj hA hS (by omega) (by omega) (isV_7 hW) (isV_7 hV) (by decide) (by decide) (by decide) (by omega) (by omega) (Nat.le_of_ble_eq_true rfl) (Nat.le_of_ble_eq_true rfl) dX10_take_134 (fun H locs hw hS => ?_)
  obtain ⟨G15, hw, hV, hf15⟩ := nv_c7 hV (cpA (cpA (cpA (cpA (cpA (cpA (cpA (va_up (va_up (va_up (va_up V 0 (W 0)) 1 (W 1)) 20 (W 20)) 21 (W 21)) (22 + 0) 6 (fun i => W (22 + (0 + i)))) (6 + 0) 6 (fun i => W (6 + (0 + i)))) (28 + 0) 8 (fun i => W (28 + (0 + i)))) (36 + 0) 8 (fun i => W (36 + (0 + i)))) (44 + 0) 8 (fun i => W (44 + (0 + i)))) (52 + 0) 8 (fun i => W (52 + (0 + i)))) (12 + 0) 8 (fun i => W (12 + (0 + i)))) (va_cpy (fun j => W (12 + j)) (fun j => (cpA (cpA (cpA (cpA (cpA (cpA (va_up (va_up (va_up (va_up V 0 (W 0)) 1 (W 1)) 20 (W 20)) 21 (W 21)) (22 + 0) 6 (fun i => W (22 + (0 + i)))) (6 + 0) 6 (fun i => W (6 + (0 + i)))) (28 + 0) 8 (fun i => W (28 + (0 + i)))) (36 + 0) 8 (fun i => W (36 + (0 + i)))) (44 + 0) 8 (fun i => W (44 + (0 + i)))) (52 + 0) 8 (fun i => W (52 + (0 + i)))) (12 + j)) 0 0 8) hw (fun j hj => cpA_out (by omega)) (fun j hj => cp_sh _ _ _ _ _ _ _)
  have hW := isV_fr hW hf15 (by omega)
  have hfr := fr_tr hfr hf15 (by omega) (by omega)
  refine lv_aload_n hx hb dX10_take_137 rfl (lv_at hl 0 rfl) ?_
  refine nr_get (own := RX10) (C := RX10) (T := TX10) (N := 15) (v := .ref (ad Γ (b + 8))) hx hb hts hi_X10_take_X10 hown hw (by omega) (isV_0 hV) rfl 11 (by decide) wl_X10_take_16 rfl rfl dX10_take_138 ?_
  refine lv_aload_n hx hb dX10_take_141 rfl (lv_at hl 1 rfl) ?_
  refine nr_get (own := RX10) (C := RX10) (T := TX10) (N := 15) (v := .ref (ad Γ (o + 8))) hx hb hts hi_X10_take_X10 hown hw (by omega) (isV_0 hW) rfl 11 (by decide) wl_X10_take_16 rfl rfl dX10_take_142 ?_
  refine nr_goV (nr_runV (As := [.ref (ad Γ (o + 8))]) (C := RX7) (T := TX7) (N := 3) ⟨hx, hb, hml, hown, hts⟩ hw (by omega) (isV_8 hV) rfl (c_X7_take_r8 l Γ n G15 b o (cpA (cpA (cpA (cpA (cpA (cpA (cpA (va_up (va_up (va_up (va_up V 0 (W 0)) 1 (W 1)) 20 (W 20)) 21 (W 21)) (22 + 0) 6 (fun i => W (22 + (0 + i)))) (6 + 0) 6 (fun i => W (6 + (0 + i)))) (28 + 0) 8 (fun i => W (28 + (0 + i)))) (36 + 0) 8 (fun i => W (36 + (0 + i)))) (44 + 0) 8 (fun i => W (44 + (0 + i)))) (52 + 0) 8 (fun i => W (52 + (0 + i)))) (12 + 0) 8 (fun i => W (12 + (0 + i)))) W hV hW (by omega) (by omega) hj (by first | assumption | omega)) (cwV 1 hts gX10_take_X7_take rfl rfl rfl (by decide +kernel) ⟨Nat.le_of_ble_eq_true rfl, Nat.le_of_ble_eq_true rfl⟩) rfl hl.1 rfl (Nat.le_of_ble_eq_true rfl) dX10_take_145 ⟨Nat.zero_le _, Nat.zero_le _⟩) hw hA hS (fun G16 H locs hp hw hS => ?_)
  obtain ⟨hV, hf16⟩ := hp
  have hW := isV_fr hW hf16 (by omega)
  have hfr := fr_tr hfr hf16 (by omega) (by omega)
  have hV : isV Γ G16 b (va_up (cpA (cpA (cpA (cpA (cpA (cpA (cpA (cpA (va_up (va_up (va_up (va_up V 0 (W 0)) 1 (W 1)) 20 (W 20)) 21 (W 21)) (22 + 0) 6 (fun i => W (22 + (0 + i)))) (6 + 0) 6 (fun i => W (6 + (0 + i)))) (28 + 0) 8 (fun i => W (28 + (0 + i)))) (36 + 0) 8 (fun i => W (36 + (0 + i)))) (44 + 0) 8 (fun i => W (44 + (0 + i)))) (52 + 0) 8 (fun i => W (52 + (0 + i)))) (12 + 0) 8 (fun i => W (12 + (0 + i)))) (60 + 0) 20 (fun i => W (60 + (0 + i)))) 2 (W 2)) := hV
  refine lv_aload_n hx hb dX10_take_148 rfl (lv_at hl 0 rfl) ?_
  refine nr_get (own := RX10) (C := RX10) (T := TX10) (N := 15) (v := .ref (ad Γ (b + 9))) hx hb hts hi_X10_take_X10 hown hw (by omega) (isV_0 hV) rfl 12 (by decide) wl_X10_take_17 rfl rfl dX10_take_149 ?_
  refine lv_aload_n hx hb dX10_take_152 rfl (lv_at hl 1 rfl) ?_
  refine nr_get (own := RX10) (C := RX10) (T := TX10) (N := 15) (v := .ref (ad Γ (o + 9))) hx hb hts hi_X10_take_X10 hown hw (by omega) (isV_0 hW) rfl 12 (by decide) wl_X10_take_17 rfl rfl dX10_take_153 ?_
  refine nr_goV (nr_runV (As := [.ref (ad Γ (o + 9))]) (C := RX7) (T := TX7) (N := 3) ⟨hx, hb, hml, hown, hts⟩ hw (by omega) (isV_9 hV) rfl (c_X7_take_r9 l Γ n G16 b o (va_up (cpA (cpA (cpA (cpA (cpA (cpA (cpA (cpA (va_up (va_up (va_up (va_up V 0 (W 0)) 1 (W 1)) 20 (W 20)) 21 (W 21)) (22 + 0) 6 (fun i => W (22 + (0 + i)))) (6 + 0) 6 (fun i => W (6 + (0 + i)))) (28 + 0) 8 (fun i => W (28 + (0 + i)))) (36 + 0) 8 (fun i => W (36 + (0 + i)))) (44 + 0) 8 (fun i => W (44 + (0 + i)))) (52 + 0) 8 (fun i => W (52 + (0 + i)))) (12 + 0) 8 (fun i => W (12 + (0 + i)))) (60 + 0) 20 (fun i => W (60 + (0 + i)))) 2 (W 2)) W hV hW (by omega) (by omega) hj (by first | assumption | omega)) (cwV 1 hts gX10_take_X7_take rfl rfl rfl (by decide +kernel) ⟨Nat.le_of_ble_eq_true rfl, Nat.le_of_ble_eq_true rfl⟩) rfl hl.1 rfl (Nat.le_of_ble_eq_true rfl) dX10_take_156 ⟨Nat.zero_le _, Nat.zero_le _⟩) hw hA hS (fun G17 H locs hp hw hS => ?_)
  obtain ⟨hV, hf17⟩ := hp
  have hW := isV_fr hW hf17 (by omega)
  have hfr := fr_tr hfr hf17 (by omega) (by omega)
  have hV : isV Γ G17 b (va_up (cpA (va_up (cpA (cpA (cpA (cpA (cpA (cpA (cpA (cpA (va_up (va_up (va_up (va_up V 0 (W 0)) 1 (W 1)) 20 (W 20)) 21 (W 21)) (22 + 0) 6 (fun i => W (22 + (0 + i)))) (6 + 0) 6 (fun i => W (6 + (0 + i)))) (28 + 0) 8 (fun i => W (28 + (0 + i)))) (36 + 0) 8 (fun i => W (36 + (0 + i)))) (44 + 0) 8 (fun i => W (44 + (0 + i)))) (52 + 0) 8 (fun i => W (52 + (0 + i)))) (12 + 0) 8 (fun i => W (12 + (0 + i)))) (60 + 0) 20 (fun i => W (60 + (0 + i)))) 2 (W 2)) (80 + 0) 24 (fun i => W (80 + (0 + i)))) 3 (W 3)) := hV
  refine lv_aload_n hx hb dX10_take_159 rfl (lv_at hl 0 rfl) ?_
  refine nr_get (own := RX10) (C := RX10) (T := TX10) (N := 15) (v := .ref (ad Γ (b + 10))) hx hb hts hi_X10_take_X10 hown hw (by omega) (isV_0 hV) rfl 13 (by decide) wl_X10_take_18 rfl rfl dX10_take_160 ?_
  refine lv_aload_n hx hb dX10_take_163 rfl (lv_at hl 1 rfl) ?_
  refine nr_get (own := RX10) (C := RX10) (T := TX10) (N := 15) (v := .ref (ad Γ (o + 10))) hx hb hts hi_X10_take_X10 hown hw (by omega) (isV_0 hW) rfl 13 (by decide) wl_X10_take_18 rfl rfl dX10_take_164 ?_
  refine nr_goV (nr_runV (As := [.ref (ad Γ (o + 10))]) (C := RX7) (T := TX7) (N := 3) ⟨hx, hb, hml, hown, hts⟩ hw (by omega) (isV_10 hV) rfl (c_X7_take_r10 l Γ n G17 b o (va_up (cpA (va_up (cpA (cpA (cpA (cpA (cpA (cpA (cpA (cpA (va_up (va_up (va_up (va_up V 0 (W 0)) 1 (W 1)) 20 (W 20)) 21 (W 21)) (22 + 0) 6 (fun i => W (22 + (0 + i)))) (6 + 0) 6 (fun i => W (6 + (0 + i)))) (28 + 0) 8 (fun i => W (28 + (0 + i)))) (36 + 0) 8 (fun i => W (36 + (0 + i)))) (44 + 0) 8 (fun i => W (44 + (0 + i)))) (52 + 0) 8 (fun i => W (52 + (0 + i)))) (12 + 0) 8 (fun i => W (12 + (0 + i)))) (60 + 0) 20 (fun i => W (60 + (0 + i)))) 2 (W 2)) (80 + 0) 24 (fun i => W (80 + (0 + i)))) 3 (W 3)) W hV hW (by omega) (by omega) hj (by first | assumption | omega)) (cwV 1 hts gX10_take_X7_take rfl rfl rfl (by decide +kernel) ⟨Nat.le_of_ble_eq_true rfl, Nat.le_of_ble_eq_true rfl⟩) rfl hl.1 rfl (Nat.le_of_ble_eq_true rfl) dX10_take_167 ⟨Nat.zero_le _, Nat.zero_le _⟩) hw hA hS (fun G18 H locs hp hw hS => ?_)
  obtain ⟨hV, hf18⟩ := hp
  have hW := isV_fr hW hf18 (by omega)
  have hfr := fr_tr hfr hf18 (by omega) (by omega)
  have hV : isV Γ G18 b (va_up (cpA (va_up (cpA (va_up (cpA (cpA (cpA (cpA (cpA (cpA (cpA (cpA (va_up (va_up (va_up (va_up V 0 (W 0)) 1 (W 1)) 20 (W 20)) 21 (W 21)) (22 + 0) 6 (fun i => W (22 + (0 + i)))) (6 + 0) 6 (fun i => W (6 + (0 + i)))) (28 + 0) 8 (fun i => W (28 + (0 + i)))) (36 + 0) 8 (fun i => W (36 + (0 + i)))) (44 + 0) 8 (fun i => W (44 + (0 + i)))) (52 + 0) 8 (fun i => W (52 + (0 + i)))) (12 + 0) 8 (fun i => W (12 + (0 + i)))) (60 + 0) 20 (fun i => W (60 + (0 + i)))) 2 (W 2)) (80 + 0) 24 (fun i => W (80 + (0 + i)))) 3 (W 3)) (104 + 0) 24 (fun i => W (104 + (0 + i)))) 4 (W 4)) := hV
  refine lv_aload_n hx hb dX10_take_170 rfl (lv_at hl 0 rfl) ?_
  refine nr_get (own := RX10) (C := RX10) (T := TX10) (N := 15) (v := .ref (ad Γ (b + 11))) hx hb hts hi_X10_take_X10 hown hw (by omega) (isV_0 hV) rfl 14 (by decide) wl_X10_take_19 rfl rfl dX10_take_171 ?_
  refine lv_aload_n hx hb dX10_take_174 rfl (lv_at hl 1 rfl) ?_
  refine nr_get (own := RX10) (C := RX10) (T := TX10) (N := 15) (v := .ref (ad Γ (o + 11))) hx hb hts hi_X10_take_X10 hown hw (by omega) (isV_0 hW) rfl 14 (by decide) wl_X10_take_19 rfl rfl dX10_take_175 ?_
  refine nr_goV (nr_runV (As := [.ref (ad Γ (o + 11))]) (C := RX4) (T := TX4) (N := 2) ⟨hx, hb, hml, hown, hts⟩ hw (by omega) (isV_11 hV) rfl (c_X4_take l Γ n G18 b o (va_up (cpA (va_up (cpA (va_up (cpA (cpA (cpA (cpA (cpA (cpA (cpA (cpA (va_up (va_up (va_up (va_up V 0 (W 0)) 1 (W 1)) 20 (W 20)) 21 (W 21)) (22 + 0) 6 (fun i => W (22 + (0 + i)))) (6 + 0) 6 (fun i => W (6 + (0 + i)))) (28 + 0) 8 (fun i => W (28 + (0 + i)))) (36 + 0) 8 (fun i => W (36 + (0 + i)))) (44 + 0) 8 (fun i => W (44 + (0 + i)))) (52 + 0) 8 (fun i => W (52 + (0 + i)))) (12 + 0) 8 (fun i => W (12 + (0 + i)))) (60 + 0) 20 (fun i => W (60 + (0 + i)))) 2 (W 2)) (80 + 0) 24 (fun i => W (80 + (0 + i)))) 3 (W 3)) (104 + 0) 24 (fun i => W (104 + (0 + i)))) 4 (W 4)) W hV hW (by omega) (by omega) hj (by first | assumption | omega)) (cwV 1 hts gX10_take_X4_take rfl rfl rfl (by decide +kernel) ⟨Nat.le_of_ble_eq_true rfl, Nat.le_of_ble_eq_true rfl⟩) rfl hl.1 rfl (Nat.le_of_ble_eq_true rfl) dX10_take_178 ⟨Nat.zero_le _, Nat.zero_le _⟩) hw hA hS (fun G19 H locs hp hw hS => ?_)
  obtain ⟨hV, hf19⟩ := hp
  have hW := isV_fr hW hf19 (by omega)
  have hfr := fr_tr hfr hf19 (by omega) (by omega)
  have hV : isV Γ G19 b (va_up (cpA (va_up (cpA (va_up (cpA (va_up (cpA (cpA (cpA (cpA (cpA (cpA (cpA (cpA (va_up (va_up (va_up (va_up V 0 (W 0)) 1 (W 1)) 20 (W 20)) 21 (W 21)) (22 + 0) 6 (fun i => W (22 + (0 + i)))) (6 + 0) 6 (fun i => W (6 + (0 + i)))) (28 + 0) 8 (fun i => W (28 + (0 + i)))) (36 + 0) 8 (fun i => W (36 + (0 + i)))) (44 + 0) 8 (fun i => W (44 + (0 + i)))) (52 + 0) 8 (fun i => W (52 + (0 + i)))) (12 + 0) 8 (fun i => W (12 + (0 + i)))) (60 + 0) 20 (fun i => W (60 + (0 + i)))) 2 (W 2)) (80 + 0) 24 (fun i => W (80 + (0 + i)))) 3 (W 3)) (104 + 0) 24 (fun i => W (104 + (0 + i)))) 4 (W 4)) (128 + 0) 128 (fun i => W (128 + (0 + i)))) 5 (W 5)) := hV
  obtain ⟨GT, hw, hV, hfT⟩ := nv_cong hV W hw (fun j hj => by refine tk_up (fun q0 => ?_); refine tk_cp (fun q1 => ?_); refine tk_up (fun q2 => ?_); refine tk_cp (fun q3 => ?_); refine tk_up (fun q4 => ?_); refine tk_cp (fun q5 => ?_); refine tk_up (fun q6 => ?_); refine tk_cp (fun q7 => ?_); refine tk_cp (fun q8 => ?_); refine tk_cp (fun q9 => ?_); refine tk_cp (fun q10 => ?_); refine tk_cp (fun q11 => ?_); refine tk_cp (fun q12 => ?_); refine tk_cp (fun q13 => ?_); refine tk_cp (fun q14 => ?_); refine tk_up (fun q15 => ?_); refine tk_up (fun q16 => ?_); refine tk_up (fun q17 => ?_); refine tk_up (fun q18 => ?_); exfalso; omega)
  have hW := isV_fr hW hfT (by omega)
  have hfr := fr_tr hfr hfT (by omega) (by omega)
  exact nr_retV hx hb hr hlocks hw hS (⟨hV, hfr⟩) dX10_take_181
theorem wl_X11_grave_1 : Cond.fieldLink RX11 10 "BellForgiven" "now" "LBellForgiven$Valley;" ∈ wsX11_grave := List.mem_of_getElem? (i := 1) rfl
theorem hi_X11_grave_X11 : ∀ w ∈ u_ws RX11 TX11 11, w ∈ wsX11_grave := fun w h => (List.mem_cons_of_mem _ (List.mem_append_left _ (List.mem_append_left _ (List.mem_append_right _ h))))
set_option maxHeartbeats 4000000 in
set_option maxRecDepth 100000 in
theorem c_X11_grave (l : Launch) (Γ : Gam) (n : Nat) (G : Nat → va_E) (co : Nat) (kp rf by0 tv gv Dv lf vs cv V J0 J1 : Nat → Nat) (hO : isO Γ G co kp rf) (hT : isT Γ G (co + 3) by0 tv) (hRd : isRd Γ G (co + 5) gv) (hD : isV Γ G (co + 7) Dv) (hRw : isRw Γ G (co + 23) lf) (hGs : isGs Γ G (co + 25) vs) (hCh : isCh Γ G (co + 27) cv) (hV : isV Γ G (co + 28) V) (hP0 : isV Γ G (co + 44) J0) (hP1 : isV Γ G (co + 60) J1) (hn_co : co + 76 ≤ n) (hj : winj Γ n) (k what : Int32) (hG : vG V)  : Met l yX11_grave wsX11_grave ({ frames := 4, cells := 0, slots := 0, locals := 93 }) (va_Pc [.ref (ad Γ (co + 0)), .int k, .int what] (fun U => hw Γ n G U U.heap)) (wQi Γ n (fun z G2 => ((¬ (vBel (V 1) k ∧ vRng 0 2 what)) ∧ (z = -2) ∧ isO Γ G2 co kp (bmp rf 0) ∧ isT Γ G2 (co + 3) by0 tv ∧ isRd Γ G2 (co + 5) gv ∧ isV Γ G2 (co + 7) Dv ∧ isRw Γ G2 (co + 23) lf ∧ isGs Γ G2 (co + 25) vs ∧ isCh Γ G2 (co + 27) cv ∧ isV Γ G2 (co + 28) V ∧ isV Γ G2 (co + 44) J0 ∧ isV Γ G2 (co + 60) J1 ∧ fr G G2 (co + 0) (co + 76)) ∨ (∃ jk jw : Nat, (jk < V 1) ∧ (k = nI jk) ∧ (jw ≤ 2) ∧ (what = nI jw) ∧ (graveC V jk jw z) ∧ isO Γ G2 co kp rf ∧ isT Γ G2 (co + 3) by0 tv ∧ isRd Γ G2 (co + 5) gv ∧ isV Γ G2 (co + 7) Dv ∧ isRw Γ G2 (co + 23) lf ∧ isGs Γ G2 (co + 25) vs ∧ isCh Γ G2 (co + 27) cv ∧ isV Γ G2 (co + 28) V ∧ isV Γ G2 (co + 44) J0 ∧ isV Γ G2 (co + 60) J1 ∧ fr G G2 (co + 0) (co + 76)))) 0 0 (wA Γ n) := by
  refine Met.ofW (cc := cX11_grave) (maxL := 4) (ret := (some .int)) (by decide) rfl ?_
  intro p e s m args below meth c s₁ B hml hv
  obtain ⟨rfl, hw⟩ := hv
  have hx := B.exec
  have hb := B.bytes
  have hr := B.returns
  have hts := atoms_spec (ws := wsX11_grave) B.pre
  have hown : s.vm.findClass RX11 = some m.cls := findClass_of_methodNamed B.named
  have hlocks := B.notSynchronized
  have hS : va_S (wA Γ n) s.heap s.heap [] := va_S.rf
  have hA : ∀ q, wA Γ n q → wA Γ n q := fun _ h => h
  have hl := lv_entry ([.ref (ad Γ (co + 0)), .int k, .int what]) (n := 4) (Nat.le_of_ble_eq_true rfl)
  rw [lg_entry_eq]
  generalize (lg_sl ([.ref (ad Γ (co + 0)), .int k, .int what]) ++ List.replicate (4 - (lg_sl ([.ref (ad Γ (co + 0)), .int k, .int what])).length) Slot.unset).toArray = ls at hl ⊢
  have hl : lv_has ls 4 [(0, .ref (ad Γ (co + 0))), (1, .int k), (2, .int what)] := hl
  have hfr := fr_rf G (co + 0) (co + 76)
  have hI := hG.1
  have hB := hI.1
  have hB0 := hI.2.1
  have hB1 := hI.2.2.1
  have hB20 := hI.2.2.2.2.2.2.2.2.2
  have hBz2 := hI.2.2.2.1
  have hBz3 := hI.2.2.2.2.1
  have hBz4 := hI.2.2.2.2.2.1
  have hBz5 := hI.2.2.2.2.2.2.1
  have hBd := hB 21
  have hsf := fun k => (show sFit V k < 1024 from bitsOf_lt _ 10)
  refine lv_aload_n hx hb dX11_grave_0 rfl (lv_at hl 0 rfl) ?_
  refine nr_get (own := RX11) (C := RX11) (T := TX11) (N := 11) (v := .ref (ad Γ (co + 28))) hx hb hts hi_X11_grave_X11 hown hw (by omega) (isO_0 hO) rfl 0 (by decide) wl_X11_grave_1 rfl rfl dX11_grave_1 ?_
  refine lv_iload_n hx hb dX11_grave_4 rfl (lv_at hl 1 rfl) ?_
  refine nr_goB (P := ∃ j, j < V 1 ∧ k = nI j) (nr_runV (As := [.int k]) (C := RX10) (T := TX10) (N := 15) ⟨hx, hb, hml, hown, hts⟩ hw (by omega) (isV_0 hV) rfl (c_X10_hasWrong l Γ n G (co + 28) V hV (by assumption) (by omega) k) (cwV 1 hts gX11_grave_X10_hasWrong rfl rfl rfl (by decide +kernel) ⟨Nat.le_of_ble_eq_true rfl, Nat.le_of_ble_eq_true rfl⟩) rfl hl.1 rfl (Nat.le_of_ble_eq_true rfl) dX11_grave_5 ⟨Nat.zero_le _, Nat.zero_le _⟩) (fun b1 => ?_) (fun b1 => ?_)
  · obtain ⟨jk, hjk, rfl⟩ := b1
    refine nr_if_eq (tgt := 20) hx hb (by decide) dX11_grave_8 (by decide) (fun c2 => absurd c2 (by decide)) (fun c2 => ?_)
    refine lv_iload_n hx hb dX11_grave_11 rfl (lv_at hl 2 rfl) ?_
    refine lv_iconst (v := nI 0) hx hb dX11_grave_12 (by decide) ?_
    refine lv_iconst (v := nI 2) hx hb dX11_grave_13 (by decide) ?_
    refine nr_goB (P := (nI 0) ≤ what ∧ what ≤ (nI 2)) (nr_runS (As := [.int what, .int (nI 0), .int (nI 2)]) ⟨hx, hb, hml, hown, hts⟩ hw (c_X11_within l Γ n G what (nI 0) (nI 2)) (va_cwS 3 hts gX11_grave_X11_within rfl rfl rfl (by decide +kernel) ⟨Nat.le_of_ble_eq_true rfl, Nat.le_of_ble_eq_true rfl⟩) rfl hl.1 rfl (Nat.le_of_ble_eq_true rfl) dX11_grave_14 ⟨Nat.zero_le _, Nat.zero_le _⟩) (fun b3 => ?_) (fun b3 => ?_)
    · obtain ⟨jw, hjwa, hjwb, rfl⟩ := (with_c (a := 0) (b := 2) (by first | decide | omega) (by first | decide | omega)).mp b3
      refine nr_if_ne (tgt := 25) hx hb (by decide) dX11_grave_17 (by decide) (fun c4 => ?_) (fun c4 => absurd c4 (by decide))
      refine lv_aload_n hx hb dX11_grave_25 rfl (lv_at hl 0 rfl) ?_
      refine nr_get (own := RX11) (C := RX11) (T := TX11) (N := 11) (v := .ref (ad Γ (co + 28))) hx hb hts hi_X11_grave_X11 hown hw (by omega) (isO_0 hO) rfl 0 (by decide) wl_X11_grave_1 rfl rfl dX11_grave_26 ?_
      refine lv_iload_n hx hb dX11_grave_29 rfl (lv_at hl 1 rfl) ?_
      refine nr_goS (nr_runS (As := [.ref (ad Γ (co + 28)), .int (nI jk)]) ⟨hx, hb, hml, hown, hts⟩ hw (c_X1_gravities l Γ n G (co + 28) V hV (by assumption) (by omega) jk (by omega)) (va_cwS 2 hts gX11_grave_X1_gravities rfl rfl rfl (by decide +kernel) ⟨Nat.le_of_ble_eq_true rfl, Nat.le_of_ble_eq_true rfl⟩) rfl hl.1 rfl (Nat.le_of_ble_eq_true rfl) dX11_grave_30 ⟨Nat.zero_le _, Nat.zero_le _⟩) (fun r5 hr5 => ?_)
      obtain rfl : r5 = (nI (sFit V jk)) := hr5
      refine lv_istore_n (lv' := [(3, .int (nI (sFit V jk))), (0, .ref (ad Γ (co + 0))), (1, .int (nI jk)), (2, .int (nI jw))]) hx hb dX11_grave_33 rfl hl (by decide) rfl (fun ls hl => ?_)
      refine lv_iload_n hx hb dX11_grave_34 rfl (lv_at hl 3 rfl) ?_
      rcases (show jw = 0 ∨ jw = 1 ∨ jw = 2 by omega) with rfl | rfl | rfl
      · refine lv_lookup (off := 25) (tgt := 60) hx hb dX11_grave_35 (by decide) (by decide) (by decide) ?_
        refine lv_iload_n hx hb dX11_grave_60 rfl (lv_at hl 0 rfl) ?_
        refine nr_goS (nr_runS (As := [.int (nI (sFit V jk))]) ⟨hx, hb, hml, hown, hts⟩ hw (c_J6b l Γ n G (sFit V jk) (hsf jk)) (va_cwS 1 hts gX11_grave_J6_bitCount_0f7a4 rfl rfl rfl (by decide +kernel) ⟨Nat.le_of_ble_eq_true rfl, Nat.le_of_ble_eq_true rfl⟩) rfl hl.1 rfl (Nat.le_of_ble_eq_true rfl) dX11_grave_61 ⟨Nat.zero_le _, Nat.zero_le _⟩) (fun r6 hr6 => ?_)
        obtain rfl : r6 = (nI (cnt (bt (sFit V jk)) 10)) := hr6
        exact nr_retI hx hb hr hlocks hw hS (Or.inr (⟨jk, 0, hjk, rfl, hjwb, rfl, ⟨fun e9 => by first | rfl | (exact absurd e9 (by decide)), fun e9 => by first | assumption | (exact absurd e9 (by decide)), fun e9 => by first | assumption | (exact absurd e9 (by decide))⟩, hO, hT, hRd, hD, hRw, hGs, hCh, hV, hP0, hP1, hfr⟩)) dX11_grave_64
      · refine lv_lookup (off := 30) (tgt := 65) hx hb dX11_grave_35 (by decide) (by decide) (by decide) ?_
        refine lv_iload_n hx hb dX11_grave_65 rfl (lv_at hl 0 rfl) ?_
        refine nr_goS (nr_runS (As := [.int (nI (sFit V jk))]) ⟨hx, hb, hml, hown, hts⟩ hw (c_X11_lowest l Γ n G (sFit V jk) (Nat.lt_trans (hsf jk) (by decide))) (va_cwS 1 hts gX11_grave_X11_lowest rfl rfl rfl (by decide +kernel) ⟨Nat.le_of_ble_eq_true rfl, Nat.le_of_ble_eq_true rfl⟩) rfl hl.1 rfl (Nat.le_of_ble_eq_true rfl) dX11_grave_66 ⟨Nat.zero_le _, Nat.zero_le _⟩) (fun r7 hr7 => ?_)
        exact nr_retI hx hb hr hlocks hw hS (Or.inr (⟨jk, 1, hjk, rfl, hjwb, rfl, ⟨fun e9 => by first | rfl | (exact absurd e9 (by decide)), fun e9 => by first | assumption | (exact absurd e9 (by decide)), fun e9 => by first | assumption | (exact absurd e9 (by decide))⟩, hO, hT, hRd, hD, hRw, hGs, hCh, hV, hP0, hP1, hfr⟩)) dX11_grave_69
      · refine lv_lookup (off := 35) (tgt := 70) hx hb dX11_grave_35 (by decide) (by decide) (by decide) ?_
        refine lv_iload_n hx hb dX11_grave_70 rfl (lv_at hl 0 rfl) ?_
        refine nr_goS (nr_runS (As := [.int (nI (sFit V jk))]) ⟨hx, hb, hml, hown, hts⟩ hw (c_X11_highest l Γ n G (sFit V jk) (Nat.lt_trans (hsf jk) (by decide))) (va_cwS 1 hts gX11_grave_X11_highest rfl rfl rfl (by decide +kernel) ⟨Nat.le_of_ble_eq_true rfl, Nat.le_of_ble_eq_true rfl⟩) rfl hl.1 rfl (Nat.le_of_ble_eq_true rfl) dX11_grave_71 ⟨Nat.zero_le _, Nat.zero_le _⟩) (fun r8 hr8 => ?_)
        exact nr_retI hx hb hr hlocks hw hS (Or.inr (⟨jk, 2, hjk, rfl, hjwb, rfl, ⟨fun e9 => by first | rfl | (exact absurd e9 (by decide)), fun e9 => by first | assumption | (exact absurd e9 (by decide)), fun e9 => by first | assumption | (exact absurd e9 (by decide))⟩, hO, hT, hRd, hD, hRw, hGs, hCh, hV, hP0, hP1, hfr⟩)) dX11_grave_74
    · have b3n : ¬ vRng (0) (2) what := fun hh => b3 ((with_c (by first | decide | omega) (by first | decide | omega)).mpr hh)
      refine nr_if_ne (tgt := 25) hx hb (by decide) dX11_grave_17 (by decide) (fun c9 => absurd c9 (by decide)) (fun c9 => ?_)
      refine lv_aload_n hx hb dX11_grave_20 rfl (lv_at hl 0 rfl) ?_
      refine nr_goI (nr_runV (As := []) (C := RX11) (T := TX11) (N := 11) ⟨hx, hb, hml, hown, hts⟩ hw (by omega) (isO_0 hO) rfl (c_X11_bad l Γ n G co kp rf hO (by omega) hj) (cwV 0 hts gX11_grave_X11_bad rfl rfl rfl (by decide +kernel) ⟨Nat.le_of_ble_eq_true rfl, Nat.le_of_ble_eq_true rfl⟩) rfl hl.1 rfl (Nat.le_of_ble_eq_true rfl) dX11_grave_21 ⟨Nat.zero_le _, Nat.zero_le _⟩) hw hA hS (fun z10 G10 H locs hp hw hS => ?_)
      obtain ⟨ha10, hO, hf10⟩ := hp
      have hT := isT_fr hT hf10 (by omega)
      have hRd := isRd_fr hRd hf10 (by omega)
      have hD := isV_fr hD hf10 (by omega)
      have hRw := isRw_fr hRw hf10 (by omega)
      have hGs := isGs_fr hGs hf10 (by omega)
      have hCh := isCh_fr hCh hf10 (by omega)
      have hV := isV_fr hV hf10 (by omega)
      have hP0 := isV_fr hP0 hf10 (by omega)
      have hP1 := isV_fr hP1 hf10 (by omega)
      have hfr := fr_tr hfr hf10 (by omega) (by omega)
      have hO : isO Γ G10 co kp (bmp rf 0) := hO
      subst ha10
      exact nr_retI hx hb hr hlocks hw hS (Or.inl ⟨by intro hh; first | contradiction | (obtain ⟨hq1, hq2⟩ := hh; first | contradiction | (obtain ⟨hq2, hq3⟩ := hq2; first | contradiction | (obtain ⟨hq3, hq4⟩ := hq3; first | contradiction | (obtain ⟨hq4, hq5⟩ := hq4; first | contradiction | (exact hq4 (congrArg nI (by assumption))))))), rfl, hO, hT, hRd, hD, hRw, hGs, hCh, hV, hP0, hP1, hfr⟩) dX11_grave_24
  · refine nr_if_eq (tgt := 20) hx hb (by decide) dX11_grave_8 (by decide) (fun c11 => ?_) (fun c11 => absurd c11 (by decide))
    refine lv_aload_n hx hb dX11_grave_20 rfl (lv_at hl 0 rfl) ?_
    refine nr_goI (nr_runV (As := []) (C := RX11) (T := TX11) (N := 11) ⟨hx, hb, hml, hown, hts⟩ hw (by omega) (isO_0 hO) rfl (c_X11_bad l Γ n G co kp rf hO (by omega) hj) (cwV 0 hts gX11_grave_X11_bad rfl rfl rfl (by decide +kernel) ⟨Nat.le_of_ble_eq_true rfl, Nat.le_of_ble_eq_true rfl⟩) rfl hl.1 rfl (Nat.le_of_ble_eq_true rfl) dX11_grave_21 ⟨Nat.zero_le _, Nat.zero_le _⟩) hw hA hS (fun z12 G12 H locs hp hw hS => ?_)
    obtain ⟨ha12, hO, hf12⟩ := hp
    have hT := isT_fr hT hf12 (by omega)
    have hRd := isRd_fr hRd hf12 (by omega)
    have hD := isV_fr hD hf12 (by omega)
    have hRw := isRw_fr hRw hf12 (by omega)
    have hGs := isGs_fr hGs hf12 (by omega)
    have hCh := isCh_fr hCh hf12 (by omega)
    have hV := isV_fr hV hf12 (by omega)
    have hP0 := isV_fr hP0 hf12 (by omega)
    have hP1 := isV_fr hP1 hf12 (by omega)
    have hfr := fr_tr hfr hf12 (by omega) (by omega)
    have hO : isO Γ G12 co kp (bmp rf 0) := hO
    subst ha12
    exact nr_retI hx hb hr hlocks hw hS (Or.inl ⟨by intro hh; first | contradiction | (obtain ⟨hq1, hq2⟩ := hh; first | contradiction | (obtain ⟨hq2, hq3⟩ := hq2; first | contradiction | (obtain ⟨hq3, hq4⟩ := hq3; first | contradiction | (obtain ⟨hq4, hq5⟩ := hq4; first | contradiction | (exact hq4 (congrArg nI (by assumption))))))), rfl, hO, hT, hRd, hD, hRw, hGs, hCh, hV, hP0, hP1, hfr⟩) dX11_grave_24
theorem wl_X11_forget_1 : Cond.fieldLink RX11 10 "BellForgiven" "now" "LBellForgiven$Valley;" ∈ wsX11_forget := List.mem_of_getElem? (i := 1) rfl
theorem wl_X11_forget_2 : Cond.fieldLink RX11 188 "BellForgiven$Valley" "seen" "LBellForgiven$Rows;" ∈ wsX11_forget := List.mem_of_getElem? (i := 2) rfl
theorem wl_X11_forget_3 : Cond.fieldLink RX11 217 "BellForgiven$Valley" "notes" "LBellForgiven$Rows;" ∈ wsX11_forget := List.mem_of_getElem? (i := 3) rfl
theorem wl_X11_forget_4 : Cond.fieldLink RX11 220 "BellForgiven$Valley" "marks" "LBellForgiven$Rows;" ∈ wsX11_forget := List.mem_of_getElem? (i := 4) rfl
theorem hi_X11_forget_X11 : ∀ w ∈ u_ws RX11 TX11 11, w ∈ wsX11_forget := fun w h => (List.mem_cons_of_mem _ (List.mem_append_left _ (List.mem_append_left _ (List.mem_append_right _ h))))
theorem hi_X11_forget_X10 : ∀ w ∈ u_ws RX10 TX10 15, w ∈ wsX11_forget := fun w h => (List.mem_cons_of_mem _ (List.mem_append_left _ (List.mem_append_right _ h)))
set_option maxHeartbeats 4000000 in
set_option maxRecDepth 100000 in
theorem c_X11_forget (l : Launch) (Γ : Gam) (n : Nat) (G : Nat → va_E) (co : Nat) (kp rf by0 tv gv Dv lf vs cv V J0 J1 : Nat → Nat) (hO : isO Γ G co kp rf) (hT : isT Γ G (co + 3) by0 tv) (hRd : isRd Γ G (co + 5) gv) (hD : isV Γ G (co + 7) Dv) (hRw : isRw Γ G (co + 23) lf) (hGs : isGs Γ G (co + 25) vs) (hCh : isCh Γ G (co + 27) cv) (hV : isV Γ G (co + 28) V) (hP0 : isV Γ G (co + 44) J0) (hP1 : isV Γ G (co + 60) J1) (hn_co : co + 76 ≤ n) (hj : winj Γ n) (what : Int32) (hG : vG V)  : Met l yX11_forget wsX11_forget ({ frames := 1, cells := 0, slots := 0, locals := 21 }) (va_Pc [.ref (ad Γ (co + 0)), .int what] (fun U => hw Γ n G U U.heap)) (wQi Γ n (fun z G2 => ((¬ vRng 0 2 what) ∧ (z = -2) ∧ isO Γ G2 co kp (bmp rf 0) ∧ isT Γ G2 (co + 3) by0 tv ∧ isRd Γ G2 (co + 5) gv ∧ isV Γ G2 (co + 7) Dv ∧ isRw Γ G2 (co + 23) lf ∧ isGs Γ G2 (co + 25) vs ∧ isCh Γ G2 (co + 27) cv ∧ isV Γ G2 (co + 28) V ∧ isV Γ G2 (co + 44) J0 ∧ isV Γ G2 (co + 60) J1 ∧ fr G G2 (co + 0) (co + 76)) ∨ (∃ jw : Nat, (jw ≤ 2) ∧ (what = nI jw) ∧ (z = nI (V (2 + jw))) ∧ isO Γ G2 co kp rf ∧ isT Γ G2 (co + 3) by0 tv ∧ isRd Γ G2 (co + 5) gv ∧ isV Γ G2 (co + 7) Dv ∧ isRw Γ G2 (co + 23) lf ∧ isGs Γ G2 (co + 25) vs ∧ isCh Γ G2 (co + 27) cv ∧ isV Γ G2 (co + 28) (va_up V (2 + jw) 0) ∧ isV Γ G2 (co + 44) J0 ∧ isV Γ G2 (co + 60) J1 ∧ fr G G2 (co + 0) (co + 76)))) 0 0 (wA Γ n) := by
  refine Met.ofW (cc := cX11_forget) (maxL := 2) (ret := (some .int)) (by decide) rfl ?_
  intro p e s m args below meth c s₁ B hml hv
  obtain ⟨rfl, hw⟩ := hv
  have hx := B.exec
  have hb := B.bytes
  have hr := B.returns
  have hts := atoms_spec (ws := wsX11_forget) B.pre
  have hown : s.vm.findClass RX11 = some m.cls := findClass_of_methodNamed B.named
  have hlocks := B.notSynchronized
  have hS : va_S (wA Γ n) s.heap s.heap [] := va_S.rf
  have hA : ∀ q, wA Γ n q → wA Γ n q := fun _ h => h
  have hl := lv_entry ([.ref (ad Γ (co + 0)), .int what]) (n := 2) (Nat.le_of_ble_eq_true rfl)
  rw [lg_entry_eq]
  generalize (lg_sl ([.ref (ad Γ (co + 0)), .int what]) ++ List.replicate (2 - (lg_sl ([.ref (ad Γ (co + 0)), .int what])).length) Slot.unset).toArray = ls at hl ⊢
  have hl : lv_has ls 2 [(0, .ref (ad Γ (co + 0))), (1, .int what)] := hl
  have hfr := fr_rf G (co + 0) (co + 76)
  have hI := hG.1
  have hB := hI.1
  have hB0 := hI.2.1
  have hB1 := hI.2.2.1
  have hB20 := hI.2.2.2.2.2.2.2.2.2
  have hBz2 := hI.2.2.2.1
  have hBz3 := hI.2.2.2.2.1
  have hBz4 := hI.2.2.2.2.2.1
  have hBz5 := hI.2.2.2.2.2.2.1
  have hBd := hB 21
  refine lv_iload_n hx hb dX11_forget_0 rfl (lv_at hl 1 rfl) ?_
  by_cases hwz : vRng 0 2 what
  · obtain ⟨jw, hjwa, hjwb, rfl⟩ := hwz
    rcases (show jw = 0 ∨ jw = 1 ∨ jw = 2 by omega) with c1 | c1 | c1
    · refine nr_tabIn (j := 0) (tgt := 28) hx hb (by omega) c1 dX11_forget_1 (by decide) (by decide) rfl (by decide) ?_
      refine lv_aload_n hx hb dX11_forget_28 rfl (lv_at hl 0 rfl) ?_
      refine nr_get (own := RX11) (C := RX11) (T := TX11) (N := 11) (v := .ref (ad Γ (co + 28))) hx hb hts hi_X11_forget_X11 hown hw (by omega) (isO_0 hO) rfl 0 (by decide) wl_X11_forget_1 rfl rfl dX11_forget_29 ?_
      refine nr_get (own := RX11) (C := RX10) (T := TX10) (N := 15) (v := .ref (ad Γ (co + 36))) hx hb hts hi_X11_forget_X10 hown hw (by omega) (isV_0 hV) rfl 11 (by decide) wl_X11_forget_2 rfl rfl dX11_forget_32 ?_
      refine nr_goI (nr_runV (As := []) (C := RX7) (T := TX7) (N := 3) ⟨hx, hb, hml, hown, hts⟩ hw (by omega) (isV_8 hV) rfl (c_X7_drop_r8 l Γ n G (co + 28) V hV (by omega) hj (by first | assumption | omega)) (cwV 0 hts gX11_forget_X7_drop rfl rfl rfl (by decide +kernel) ⟨Nat.le_of_ble_eq_true rfl, Nat.le_of_ble_eq_true rfl⟩) rfl hl.1 rfl (Nat.le_of_ble_eq_true rfl) dX11_forget_35 ⟨Nat.zero_le _, Nat.zero_le _⟩) hw hA hS (fun z2 G2 H locs hp hw hS => ?_)
      obtain ⟨ha2, hV, hf2⟩ := hp
      have hO := isO_fr hO hf2 (by omega)
      have hT := isT_fr hT hf2 (by omega)
      have hRd := isRd_fr hRd hf2 (by omega)
      have hD := isV_fr hD hf2 (by omega)
      have hRw := isRw_fr hRw hf2 (by omega)
      have hGs := isGs_fr hGs hf2 (by omega)
      have hCh := isCh_fr hCh hf2 (by omega)
      have hP0 := isV_fr hP0 hf2 (by omega)
      have hP1 := isV_fr hP1 hf2 (by omega)
      have hfr := fr_tr hfr hf2 (by omega) (by omega)
      have hV : isV Γ G2 (co + 28) (va_up V 2 0) := hV
      subst ha2
      have ej : jw = 0 := by omega
      subst ej
      exact nr_retI hx hb hr hlocks hw hS (Or.inr (⟨0, hjwb, rfl, rfl, hO, hT, hRd, hD, hRw, hGs, hCh, hV, hP0, hP1, hfr⟩)) dX11_forget_38
    · refine nr_tabIn (j := 1) (tgt := 39) hx hb (by omega) c1 dX11_forget_1 (by decide) (by decide) rfl (by decide) ?_
      refine lv_aload_n hx hb dX11_forget_39 rfl (lv_at hl 0 rfl) ?_
      refine nr_get (own := RX11) (C := RX11) (T := TX11) (N := 11) (v := .ref (ad Γ (co + 28))) hx hb hts hi_X11_forget_X11 hown hw (by omega) (isO_0 hO) rfl 0 (by decide) wl_X11_forget_1 rfl rfl dX11_forget_40 ?_
      refine nr_get (own := RX11) (C := RX10) (T := TX10) (N := 15) (v := .ref (ad Γ (co + 37))) hx hb hts hi_X11_forget_X10 hown hw (by omega) (isV_0 hV) rfl 12 (by decide) wl_X11_forget_3 rfl rfl dX11_forget_43 ?_
      refine nr_goI (nr_runV (As := []) (C := RX7) (T := TX7) (N := 3) ⟨hx, hb, hml, hown, hts⟩ hw (by omega) (isV_9 hV) rfl (c_X7_drop_r9 l Γ n G (co + 28) V hV (by omega) hj (by first | assumption | omega)) (cwV 0 hts gX11_forget_X7_drop rfl rfl rfl (by decide +kernel) ⟨Nat.le_of_ble_eq_true rfl, Nat.le_of_ble_eq_true rfl⟩) rfl hl.1 rfl (Nat.le_of_ble_eq_true rfl) dX11_forget_46 ⟨Nat.zero_le _, Nat.zero_le _⟩) hw hA hS (fun z3 G3 H locs hp hw hS => ?_)
      obtain ⟨ha3, hV, hf3⟩ := hp
      have hO := isO_fr hO hf3 (by omega)
      have hT := isT_fr hT hf3 (by omega)
      have hRd := isRd_fr hRd hf3 (by omega)
      have hD := isV_fr hD hf3 (by omega)
      have hRw := isRw_fr hRw hf3 (by omega)
      have hGs := isGs_fr hGs hf3 (by omega)
      have hCh := isCh_fr hCh hf3 (by omega)
      have hP0 := isV_fr hP0 hf3 (by omega)
      have hP1 := isV_fr hP1 hf3 (by omega)
      have hfr := fr_tr hfr hf3 (by omega) (by omega)
      have hV : isV Γ G3 (co + 28) (va_up V 3 0) := hV
      subst ha3
      have ej : jw = 1 := by omega
      subst ej
      exact nr_retI hx hb hr hlocks hw hS (Or.inr (⟨1, hjwb, rfl, rfl, hO, hT, hRd, hD, hRw, hGs, hCh, hV, hP0, hP1, hfr⟩)) dX11_forget_49
    · refine nr_tabIn (j := 2) (tgt := 50) hx hb (by omega) c1 dX11_forget_1 (by decide) (by decide) rfl (by decide) ?_
      refine lv_aload_n hx hb dX11_forget_50 rfl (lv_at hl 0 rfl) ?_
      refine nr_get (own := RX11) (C := RX11) (T := TX11) (N := 11) (v := .ref (ad Γ (co + 28))) hx hb hts hi_X11_forget_X11 hown hw (by omega) (isO_0 hO) rfl 0 (by decide) wl_X11_forget_1 rfl rfl dX11_forget_51 ?_
      refine nr_get (own := RX11) (C := RX10) (T := TX10) (N := 15) (v := .ref (ad Γ (co + 38))) hx hb hts hi_X11_forget_X10 hown hw (by omega) (isV_0 hV) rfl 13 (by decide) wl_X11_forget_4 rfl rfl dX11_forget_54 ?_
      refine nr_goI (nr_runV (As := []) (C := RX7) (T := TX7) (N := 3) ⟨hx, hb, hml, hown, hts⟩ hw (by omega) (isV_10 hV) rfl (c_X7_drop_r10 l Γ n G (co + 28) V hV (by omega) hj (by first | assumption | omega)) (cwV 0 hts gX11_forget_X7_drop rfl rfl rfl (by decide +kernel) ⟨Nat.le_of_ble_eq_true rfl, Nat.le_of_ble_eq_true rfl⟩) rfl hl.1 rfl (Nat.le_of_ble_eq_true rfl) dX11_forget_57 ⟨Nat.zero_le _, Nat.zero_le _⟩) hw hA hS (fun z4 G4 H locs hp hw hS => ?_)
      obtain ⟨ha4, hV, hf4⟩ := hp
      have hO := isO_fr hO hf4 (by omega)
      have hT := isT_fr hT hf4 (by omega)
      have hRd := isRd_fr hRd hf4 (by omega)
      have hD := isV_fr hD hf4 (by omega)
      have hRw := isRw_fr hRw hf4 (by omega)
      have hGs := isGs_fr hGs hf4 (by omega)
      have hCh := isCh_fr hCh hf4 (by omega)
      have hP0 := isV_fr hP0 hf4 (by omega)
      have hP1 := isV_fr hP1 hf4 (by omega)
      have hfr := fr_tr hfr hf4 (by omega) (by omega)
      have hV : isV Γ G4 (co + 28) (va_up V 4 0) := hV
      subst ha4
      have ej : jw = 2 := by omega
      subst ej
      exact nr_retI hx hb hr hlocks hw hS (Or.inr (⟨2, hjwb, rfl, rfl, hO, hT, hRd, hD, hRw, hGs, hCh, hV, hP0, hP1, hfr⟩)) dX11_forget_60
  · refine lv_tableOut (tgt := 61) hx hb dX11_forget_1 (vn_out (by decide) hwz) (by decide) ?_
    refine lv_aload_n hx hb dX11_forget_61 rfl (lv_at hl 0 rfl) ?_
    refine nr_goI (nr_runV (As := []) (C := RX11) (T := TX11) (N := 11) ⟨hx, hb, hml, hown, hts⟩ hw (by omega) (isO_0 hO) rfl (c_X11_bad l Γ n G co kp rf hO (by omega) hj) (cwV 0 hts gX11_forget_X11_bad rfl rfl rfl (by decide +kernel) ⟨Nat.le_of_ble_eq_true rfl, Nat.le_of_ble_eq_true rfl⟩) rfl hl.1 rfl (Nat.le_of_ble_eq_true rfl) dX11_forget_62 ⟨Nat.zero_le _, Nat.zero_le _⟩) hw hA hS (fun z5 G5 H locs hp hw hS => ?_)
    obtain ⟨ha5, hO, hf5⟩ := hp
    have hT := isT_fr hT hf5 (by omega)
    have hRd := isRd_fr hRd hf5 (by omega)
    have hD := isV_fr hD hf5 (by omega)
    have hRw := isRw_fr hRw hf5 (by omega)
    have hGs := isGs_fr hGs hf5 (by omega)
    have hCh := isCh_fr hCh hf5 (by omega)
    have hV := isV_fr hV hf5 (by omega)
    have hP0 := isV_fr hP0 hf5 (by omega)
    have hP1 := isV_fr hP1 hf5 (by omega)
    have hfr := fr_tr hfr hf5 (by omega) (by omega)
    have hO : isO Γ G5 co kp (bmp rf 0) := hO
    subst ha5
    exact nr_retI hx hb hr hlocks hw hS (Or.inl ⟨by assumption, rfl, hO, hT, hRd, hD, hRw, hGs, hCh, hV, hP0, hP1, hfr⟩) dX11_forget_65
theorem wl_X11_look_1 : Cond.fieldLink RX11 10 "BellForgiven" "now" "LBellForgiven$Valley;" ∈ wsX11_look := List.mem_of_getElem? (i := 1) rfl
theorem wl_X11_look_2 : Cond.fieldLink RX11 48 "BellForgiven" "guess" "LBellForgiven$Guess;" ∈ wsX11_look := List.mem_of_getElem? (i := 2) rfl
theorem hi_X11_look_X11 : ∀ w ∈ u_ws RX11 TX11 11, w ∈ wsX11_look := fun w h => (List.mem_cons_of_mem _ (List.mem_append_left _ (List.mem_append_left _ (List.mem_append_left _ (List.mem_append_right _ h)))))
set_option maxHeartbeats 4000000 in
set_option maxRecDepth 100000 in
theorem c_X11_look (l : Launch) (Γ : Gam) (n : Nat) (G : Nat → va_E) (co : Nat) (kp rf by0 tv gv Dv lf vs cv V J0 J1 : Nat → Nat) (hO : isO Γ G co kp rf) (hT : isT Γ G (co + 3) by0 tv) (hRd : isRd Γ G (co + 5) gv) (hD : isV Γ G (co + 7) Dv) (hRw : isRw Γ G (co + 23) lf) (hGs : isGs Γ G (co + 25) vs) (hCh : isCh Γ G (co + 27) cv) (hV : isV Γ G (co + 28) V) (hP0 : isV Γ G (co + 44) J0) (hP1 : isV Γ G (co + 60) J1) (hn_co : co + 76 ≤ n) (hj : winj Γ n) (k : Int32) (hG : vG V) (hvs : ∀ j, vs j < 2147483648)  : Met l yX11_look wsX11_look ({ frames := 4, cells := 0, slots := 0, locals := 96 }) (va_Pc [.ref (ad Γ (co + 0)), .int k] (fun U => hw Γ n G U U.heap)) (wQi Γ n (fun z G2 => ((¬ vBel (V 1) k) ∧ (z = -2) ∧ isO Γ G2 co kp (bmp rf 0) ∧ isT Γ G2 (co + 3) by0 tv ∧ isRd Γ G2 (co + 5) gv ∧ isV Γ G2 (co + 7) Dv ∧ isRw Γ G2 (co + 23) lf ∧ isGs Γ G2 (co + 25) vs ∧ isCh Γ G2 (co + 27) cv ∧ isV Γ G2 (co + 28) V ∧ isV Γ G2 (co + 44) J0 ∧ isV Γ G2 (co + 60) J1 ∧ fr G G2 (co + 0) (co + 76)) ∨ (∃ jk : Nat, (jk < V 1) ∧ (k = nI jk) ∧ (lookM V jk 100 z) ∧ ∃ vs2 : Nat → Nat, (∀ j, vs2 j < 2147483648) ∧ isO Γ G2 co kp rf ∧ isT Γ G2 (co + 3) by0 tv ∧ isRd Γ G2 (co + 5) gv ∧ isV Γ G2 (co + 7) Dv ∧ isRw Γ G2 (co + 23) lf ∧ isGs Γ G2 (co + 25) vs2 ∧ isCh Γ G2 (co + 27) cv ∧ isV Γ G2 (co + 28) V ∧ isV Γ G2 (co + 44) J0 ∧ isV Γ G2 (co + 60) J1 ∧ fr G G2 (co + 0) (co + 76)))) 0 0 (wA Γ n) := by
  refine Met.ofW (cc := cX11_look) (maxL := 2) (ret := (some .int)) (by decide) rfl ?_
  intro p e s m args below meth c s₁ B hml hv
  obtain ⟨rfl, hw⟩ := hv
  have hx := B.exec
  have hb := B.bytes
  have hr := B.returns
  have hts := atoms_spec (ws := wsX11_look) B.pre
  have hown : s.vm.findClass RX11 = some m.cls := findClass_of_methodNamed B.named
  have hlocks := B.notSynchronized
  have hS : va_S (wA Γ n) s.heap s.heap [] := va_S.rf
  have hA : ∀ q, wA Γ n q → wA Γ n q := fun _ h => h
  have hl := lv_entry ([.ref (ad Γ (co + 0)), .int k]) (n := 2) (Nat.le_of_ble_eq_true rfl)
  rw [lg_entry_eq]
  generalize (lg_sl ([.ref (ad Γ (co + 0)), .int k]) ++ List.replicate (2 - (lg_sl ([.ref (ad Γ (co + 0)), .int k])).length) Slot.unset).toArray = ls at hl ⊢
  have hl : lv_has ls 2 [(0, .ref (ad Γ (co + 0))), (1, .int k)] := hl
  have hfr := fr_rf G (co + 0) (co + 76)
  have hI := hG.1
  have hB := hI.1
  have hB0 := hI.2.1
  have hB1 := hI.2.2.1
  have hB20 := hI.2.2.2.2.2.2.2.2.2
  have hBz2 := hI.2.2.2.1
  have hBz3 := hI.2.2.2.2.1
  have hBz4 := hI.2.2.2.2.2.1
  have hBz5 := hI.2.2.2.2.2.2.1
  have hBd := hB 21
  refine lv_aload_n hx hb dX11_look_0 rfl (lv_at hl 0 rfl) ?_
  refine nr_get (own := RX11) (C := RX11) (T := TX11) (N := 11) (v := .ref (ad Γ (co + 28))) hx hb hts hi_X11_look_X11 hown hw (by omega) (isO_0 hO) rfl 0 (by decide) wl_X11_look_1 rfl rfl dX11_look_1 ?_
  refine lv_iload_n hx hb dX11_look_4 rfl (lv_at hl 1 rfl) ?_
  refine nr_goB (P := ∃ j, j < V 1 ∧ k = nI j) (nr_runV (As := [.int k]) (C := RX10) (T := TX10) (N := 15) ⟨hx, hb, hml, hown, hts⟩ hw (by omega) (isV_0 hV) rfl (c_X10_hasWrong l Γ n G (co + 28) V hV (by assumption) (by omega) k) (cwV 1 hts gX11_look_X10_hasWrong rfl rfl rfl (by decide +kernel) ⟨Nat.le_of_ble_eq_true rfl, Nat.le_of_ble_eq_true rfl⟩) rfl hl.1 rfl (Nat.le_of_ble_eq_true rfl) dX11_look_5 ⟨Nat.zero_le _, Nat.zero_le _⟩) (fun b1 => ?_) (fun b1 => ?_)
  · obtain ⟨jk, hjk, rfl⟩ := b1
    refine nr_if_eq (tgt := 26) hx hb (by decide) dX11_look_8 (by decide) (fun c2 => absurd c2 (by decide)) (fun c2 => ?_)
    refine lv_aload_n hx hb dX11_look_11 rfl (lv_at hl 0 rfl) ?_
    refine nr_get (own := RX11) (C := RX11) (T := TX11) (N := 11) (v := .ref (ad Γ (co + 25))) hx hb hts hi_X11_look_X11 hown hw (by omega) (isO_0 hO) rfl 6 (by decide) wl_X11_look_2 rfl rfl dX11_look_12 ?_
    refine lv_aload_n hx hb dX11_look_15 rfl (lv_at hl 0 rfl) ?_
    refine nr_get (own := RX11) (C := RX11) (T := TX11) (N := 11) (v := .ref (ad Γ (co + 28))) hx hb hts hi_X11_look_X11 hown hw (by omega) (isO_0 hO) rfl 0 (by decide) wl_X11_look_1 rfl rfl dX11_look_16 ?_
    refine lv_iload_n hx hb dX11_look_19 rfl (lv_at hl 1 rfl) ?_
    refine nr_goI (nr_runV (As := [.ref (ad Γ (co + 28)), .int (nI jk)]) (C := RX1) (T := TX1) (N := 1) ⟨hx, hb, hml, hown, hts⟩ hw (by omega) (isGs_0 hGs) rfl (c_X1_nextLook l Γ n G (co + 25) (co + 28) vs V hGs hV (by omega) (by omega) hj jk (by first | assumption | omega) (by first | assumption | omega) (by first | assumption | omega) (by first | assumption | omega)) (cwV 2 hts gX11_look_X1_nextLook rfl rfl rfl (by decide +kernel) ⟨Nat.le_of_ble_eq_true rfl, Nat.le_of_ble_eq_true rfl⟩) rfl hl.1 rfl (Nat.le_of_ble_eq_true rfl) dX11_look_20 ⟨Nat.zero_le _, Nat.zero_le _⟩) hw hA hS (fun z3 G3 H locs hp hw hS => ?_)
    obtain ⟨ha3, vs3, hx3, hGs, hf3⟩ := hp
    have hO := isO_fr hO hf3 (by omega)
    have hT := isT_fr hT hf3 (by omega)
    have hRd := isRd_fr hRd hf3 (by omega)
    have hD := isV_fr hD hf3 (by omega)
    have hRw := isRw_fr hRw hf3 (by omega)
    have hCh := isCh_fr hCh hf3 (by omega)
    have hV := isV_fr hV hf3 (by omega)
    have hP0 := isV_fr hP0 hf3 (by omega)
    have hP1 := isV_fr hP1 hf3 (by omega)
    have hfr := fr_tr hfr hf3 (by omega) (by omega)
    have hGs : isGs Γ G3 (co + 25) vs3 := hGs
    refine lv_goto (tgt := 30) hx hb dX11_look_23 (by decide) ?_
    exact nr_retI hx hb hr hlocks hw hS (Or.inr (⟨jk, hjk, rfl, by assumption, _, by assumption, hO, hT, hRd, hD, hRw, hGs, hCh, hV, hP0, hP1, hfr⟩)) dX11_look_30
  · refine nr_if_eq (tgt := 26) hx hb (by decide) dX11_look_8 (by decide) (fun c4 => ?_) (fun c4 => absurd c4 (by decide))
    refine lv_aload_n hx hb dX11_look_26 rfl (lv_at hl 0 rfl) ?_
    refine nr_goI (nr_runV (As := []) (C := RX11) (T := TX11) (N := 11) ⟨hx, hb, hml, hown, hts⟩ hw (by omega) (isO_0 hO) rfl (c_X11_bad l Γ n G co kp rf hO (by omega) hj) (cwV 0 hts gX11_look_X11_bad rfl rfl rfl (by decide +kernel) ⟨Nat.le_of_ble_eq_true rfl, Nat.le_of_ble_eq_true rfl⟩) rfl hl.1 rfl (Nat.le_of_ble_eq_true rfl) dX11_look_27 ⟨Nat.zero_le _, Nat.zero_le _⟩) hw hA hS (fun z5 G5 H locs hp hw hS => ?_)
    obtain ⟨ha5, hO, hf5⟩ := hp
    have hT := isT_fr hT hf5 (by omega)
    have hRd := isRd_fr hRd hf5 (by omega)
    have hD := isV_fr hD hf5 (by omega)
    have hRw := isRw_fr hRw hf5 (by omega)
    have hGs := isGs_fr hGs hf5 (by omega)
    have hCh := isCh_fr hCh hf5 (by omega)
    have hV := isV_fr hV hf5 (by omega)
    have hP0 := isV_fr hP0 hf5 (by omega)
    have hP1 := isV_fr hP1 hf5 (by omega)
    have hfr := fr_tr hfr hf5 (by omega) (by omega)
    have hO : isO Γ G5 co kp (bmp rf 0) := hO
    subst ha5
    exact nr_retI hx hb hr hlocks hw hS (Or.inl ⟨by assumption, rfl, hO, hT, hRd, hD, hRw, hGs, hCh, hV, hP0, hP1, hfr⟩) dX11_look_30
theorem wl_X11_ask_1 : Cond.fieldLink RX11 10 "BellForgiven" "now" "LBellForgiven$Valley;" ∈ wsX11_ask := List.mem_of_getElem? (i := 1) rfl
theorem wl_X11_ask_2 : Cond.fieldLink RX11 48 "BellForgiven" "guess" "LBellForgiven$Guess;" ∈ wsX11_ask := List.mem_of_getElem? (i := 2) rfl
theorem hi_X11_ask_X11 : ∀ w ∈ u_ws RX11 TX11 11, w ∈ wsX11_ask := fun w h => (List.mem_cons_of_mem _ (List.mem_append_left _ (List.mem_append_left _ (List.mem_append_left _ (List.mem_append_right _ h)))))
set_option maxHeartbeats 4000000 in
set_option maxRecDepth 100000 in
theorem c_X11_ask (l : Launch) (Γ : Gam) (n : Nat) (G : Nat → va_E) (co : Nat) (kp rf by0 tv gv Dv lf vs cv V J0 J1 : Nat → Nat) (hO : isO Γ G co kp rf) (hT : isT Γ G (co + 3) by0 tv) (hRd : isRd Γ G (co + 5) gv) (hD : isV Γ G (co + 7) Dv) (hRw : isRw Γ G (co + 23) lf) (hGs : isGs Γ G (co + 25) vs) (hCh : isCh Γ G (co + 27) cv) (hV : isV Γ G (co + 28) V) (hP0 : isV Γ G (co + 44) J0) (hP1 : isV Γ G (co + 60) J1) (hn_co : co + 76 ≤ n) (hj : winj Γ n) (k : Int32) (hG : vG V) (hvs : ∀ j, vs j < 2147483648)  : Met l yX11_ask wsX11_ask ({ frames := 4, cells := 0, slots := 0, locals := 98 }) (va_Pc [.ref (ad Γ (co + 0)), .int k] (fun U => hw Γ n G U U.heap)) (wQi Γ n (fun z G2 => ((¬ vBel (V 0) k) ∧ (z = -2) ∧ isO Γ G2 co kp (bmp rf 0) ∧ isT Γ G2 (co + 3) by0 tv ∧ isRd Γ G2 (co + 5) gv ∧ isV Γ G2 (co + 7) Dv ∧ isRw Γ G2 (co + 23) lf ∧ isGs Γ G2 (co + 25) vs ∧ isCh Γ G2 (co + 27) cv ∧ isV Γ G2 (co + 28) V ∧ isV Γ G2 (co + 44) J0 ∧ isV Γ G2 (co + 60) J1 ∧ fr G G2 (co + 0) (co + 76)) ∨ (∃ jk : Nat, (jk < V 0) ∧ (k = nI jk) ∧ (askM V jk 100 z) ∧ ∃ vs2 : Nat → Nat, (∀ j, vs2 j < 2147483648) ∧ isO Γ G2 co kp rf ∧ isT Γ G2 (co + 3) by0 tv ∧ isRd Γ G2 (co + 5) gv ∧ isV Γ G2 (co + 7) Dv ∧ isRw Γ G2 (co + 23) lf ∧ isGs Γ G2 (co + 25) vs2 ∧ isCh Γ G2 (co + 27) cv ∧ isV Γ G2 (co + 28) V ∧ isV Γ G2 (co + 44) J0 ∧ isV Γ G2 (co + 60) J1 ∧ fr G G2 (co + 0) (co + 76)))) 0 0 (wA Γ n) := by
  refine Met.ofW (cc := cX11_ask) (maxL := 2) (ret := (some .int)) (by decide) rfl ?_
  intro p e s m args below meth c s₁ B hml hv
  obtain ⟨rfl, hw⟩ := hv
  have hx := B.exec
  have hb := B.bytes
  have hr := B.returns
  have hts := atoms_spec (ws := wsX11_ask) B.pre
  have hown : s.vm.findClass RX11 = some m.cls := findClass_of_methodNamed B.named
  have hlocks := B.notSynchronized
  have hS : va_S (wA Γ n) s.heap s.heap [] := va_S.rf
  have hA : ∀ q, wA Γ n q → wA Γ n q := fun _ h => h
  have hl := lv_entry ([.ref (ad Γ (co + 0)), .int k]) (n := 2) (Nat.le_of_ble_eq_true rfl)
  rw [lg_entry_eq]
  generalize (lg_sl ([.ref (ad Γ (co + 0)), .int k]) ++ List.replicate (2 - (lg_sl ([.ref (ad Γ (co + 0)), .int k])).length) Slot.unset).toArray = ls at hl ⊢
  have hl : lv_has ls 2 [(0, .ref (ad Γ (co + 0))), (1, .int k)] := hl
  have hfr := fr_rf G (co + 0) (co + 76)
  have hI := hG.1
  have hB := hI.1
  have hB0 := hI.2.1
  have hB1 := hI.2.2.1
  have hB20 := hI.2.2.2.2.2.2.2.2.2
  have hBz2 := hI.2.2.2.1
  have hBz3 := hI.2.2.2.2.1
  have hBz4 := hI.2.2.2.2.2.1
  have hBz5 := hI.2.2.2.2.2.2.1
  have hBd := hB 21
  refine lv_aload_n hx hb dX11_ask_0 rfl (lv_at hl 0 rfl) ?_
  refine nr_get (own := RX11) (C := RX11) (T := TX11) (N := 11) (v := .ref (ad Γ (co + 28))) hx hb hts hi_X11_ask_X11 hown hw (by omega) (isO_0 hO) rfl 0 (by decide) wl_X11_ask_1 rfl rfl dX11_ask_1 ?_
  refine lv_iload_n hx hb dX11_ask_4 rfl (lv_at hl 1 rfl) ?_
  refine nr_goB (P := ∃ j, j < V 0 ∧ k = nI j) (nr_runV (As := [.int k]) (C := RX10) (T := TX10) (N := 15) ⟨hx, hb, hml, hown, hts⟩ hw (by omega) (isV_0 hV) rfl (c_X10_hasPerson l Γ n G (co + 28) V hV (by assumption) (by omega) k) (cwV 1 hts gX11_ask_X10_hasPerson rfl rfl rfl (by decide +kernel) ⟨Nat.le_of_ble_eq_true rfl, Nat.le_of_ble_eq_true rfl⟩) rfl hl.1 rfl (Nat.le_of_ble_eq_true rfl) dX11_ask_5 ⟨Nat.zero_le _, Nat.zero_le _⟩) (fun b1 => ?_) (fun b1 => ?_)
  · obtain ⟨jk, hjk, rfl⟩ := b1
    refine nr_if_eq (tgt := 26) hx hb (by decide) dX11_ask_8 (by decide) (fun c2 => absurd c2 (by decide)) (fun c2 => ?_)
    refine lv_aload_n hx hb dX11_ask_11 rfl (lv_at hl 0 rfl) ?_
    refine nr_get (own := RX11) (C := RX11) (T := TX11) (N := 11) (v := .ref (ad Γ (co + 25))) hx hb hts hi_X11_ask_X11 hown hw (by omega) (isO_0 hO) rfl 6 (by decide) wl_X11_ask_2 rfl rfl dX11_ask_12 ?_
    refine lv_aload_n hx hb dX11_ask_15 rfl (lv_at hl 0 rfl) ?_
    refine nr_get (own := RX11) (C := RX11) (T := TX11) (N := 11) (v := .ref (ad Γ (co + 28))) hx hb hts hi_X11_ask_X11 hown hw (by omega) (isO_0 hO) rfl 0 (by decide) wl_X11_ask_1 rfl rfl dX11_ask_16 ?_
    refine lv_iload_n hx hb dX11_ask_19 rfl (lv_at hl 1 rfl) ?_
    refine nr_goI (nr_runV (As := [.ref (ad Γ (co + 28)), .int (nI jk)]) (C := RX1) (T := TX1) (N := 1) ⟨hx, hb, hml, hown, hts⟩ hw (by omega) (isGs_0 hGs) rfl (c_X1_nextAsk l Γ n G (co + 25) (co + 28) vs V hGs hV (by omega) (by omega) hj jk (by first | assumption | omega) (by first | assumption | omega) (by first | assumption | omega) (by first | assumption | omega)) (cwV 2 hts gX11_ask_X1_nextAsk rfl rfl rfl (by decide +kernel) ⟨Nat.le_of_ble_eq_true rfl, Nat.le_of_ble_eq_true rfl⟩) rfl hl.1 rfl (Nat.le_of_ble_eq_true rfl) dX11_ask_20 ⟨Nat.zero_le _, Nat.zero_le _⟩) hw hA hS (fun z3 G3 H locs hp hw hS => ?_)
    obtain ⟨ha3, vs3, hx3, hGs, hf3⟩ := hp
    have hO := isO_fr hO hf3 (by omega)
    have hT := isT_fr hT hf3 (by omega)
    have hRd := isRd_fr hRd hf3 (by omega)
    have hD := isV_fr hD hf3 (by omega)
    have hRw := isRw_fr hRw hf3 (by omega)
    have hCh := isCh_fr hCh hf3 (by omega)
    have hV := isV_fr hV hf3 (by omega)
    have hP0 := isV_fr hP0 hf3 (by omega)
    have hP1 := isV_fr hP1 hf3 (by omega)
    have hfr := fr_tr hfr hf3 (by omega) (by omega)
    have hGs : isGs Γ G3 (co + 25) vs3 := hGs
    refine lv_goto (tgt := 30) hx hb dX11_ask_23 (by decide) ?_
    exact nr_retI hx hb hr hlocks hw hS (Or.inr (⟨jk, hjk, rfl, by assumption, _, by assumption, hO, hT, hRd, hD, hRw, hGs, hCh, hV, hP0, hP1, hfr⟩)) dX11_ask_30
  · refine nr_if_eq (tgt := 26) hx hb (by decide) dX11_ask_8 (by decide) (fun c4 => ?_) (fun c4 => absurd c4 (by decide))
    refine lv_aload_n hx hb dX11_ask_26 rfl (lv_at hl 0 rfl) ?_
    refine nr_goI (nr_runV (As := []) (C := RX11) (T := TX11) (N := 11) ⟨hx, hb, hml, hown, hts⟩ hw (by omega) (isO_0 hO) rfl (c_X11_bad l Γ n G co kp rf hO (by omega) hj) (cwV 0 hts gX11_ask_X11_bad rfl rfl rfl (by decide +kernel) ⟨Nat.le_of_ble_eq_true rfl, Nat.le_of_ble_eq_true rfl⟩) rfl hl.1 rfl (Nat.le_of_ble_eq_true rfl) dX11_ask_27 ⟨Nat.zero_le _, Nat.zero_le _⟩) hw hA hS (fun z5 G5 H locs hp hw hS => ?_)
    obtain ⟨ha5, hO, hf5⟩ := hp
    have hT := isT_fr hT hf5 (by omega)
    have hRd := isRd_fr hRd hf5 (by omega)
    have hD := isV_fr hD hf5 (by omega)
    have hRw := isRw_fr hRw hf5 (by omega)
    have hGs := isGs_fr hGs hf5 (by omega)
    have hCh := isCh_fr hCh hf5 (by omega)
    have hV := isV_fr hV hf5 (by omega)
    have hP0 := isV_fr hP0 hf5 (by omega)
    have hP1 := isV_fr hP1 hf5 (by omega)
    have hfr := fr_tr hfr hf5 (by omega) (by omega)
    have hO : isO Γ G5 co kp (bmp rf 0) := hO
    subst ha5
    exact nr_retI hx hb hr hlocks hw hS (Or.inl ⟨by assumption, rfl, hO, hT, hRd, hD, hRw, hGs, hCh, hV, hP0, hP1, hfr⟩) dX11_ask_30
theorem wl_X11_first_1 : Cond.fieldLink RX11 10 "BellForgiven" "now" "LBellForgiven$Valley;" ∈ wsX11_first := List.mem_of_getElem? (i := 1) rfl
theorem hi_X11_first_X11 : ∀ w ∈ u_ws RX11 TX11 11, w ∈ wsX11_first := fun w h => (List.mem_cons_of_mem _ (List.mem_append_left _ (List.mem_append_right _ h)))
set_option maxHeartbeats 4000000 in
set_option maxRecDepth 100000 in
theorem c_X11_first (l : Launch) (Γ : Gam) (n : Nat) (G : Nat → va_E) (co : Nat) (kp rf by0 tv gv Dv lf vs cv V J0 J1 : Nat → Nat) (hO : isO Γ G co kp rf) (hT : isT Γ G (co + 3) by0 tv) (hRd : isRd Γ G (co + 5) gv) (hD : isV Γ G (co + 7) Dv) (hRw : isRw Γ G (co + 23) lf) (hGs : isGs Γ G (co + 25) vs) (hCh : isCh Γ G (co + 27) cv) (hV : isV Γ G (co + 28) V) (hP0 : isV Γ G (co + 44) J0) (hP1 : isV Γ G (co + 60) J1) (hn_co : co + 76 ≤ n) (hj : winj Γ n) (a b : Int32) (hG : vG V)  : Met l yX11_first wsX11_first ({ frames := 3, cells := 0, slots := 0, locals := 71 }) (va_Pc [.ref (ad Γ (co + 0)), .int a, .int b] (fun U => hw Γ n G U U.heap)) (wQi Γ n (fun z G2 => ((¬ (vBel (V 0) a ∧ vBel (V 0) b ∧ ¬ a = b)) ∧ (z = -2) ∧ isO Γ G2 co kp (bmp rf 0) ∧ isT Γ G2 (co + 3) by0 tv ∧ isRd Γ G2 (co + 5) gv ∧ isV Γ G2 (co + 7) Dv ∧ isRw Γ G2 (co + 23) lf ∧ isGs Γ G2 (co + 25) vs ∧ isCh Γ G2 (co + 27) cv ∧ isV Γ G2 (co + 28) V ∧ isV Γ G2 (co + 44) J0 ∧ isV Γ G2 (co + 60) J1 ∧ fr G G2 (co + 0) (co + 76)) ∨ (∃ ja jb : Nat, (ja < V 0) ∧ (a = nI ja) ∧ (jb < V 0) ∧ (b = nI jb) ∧ (¬ ja = jb) ∧ (z = nI (restV (if sM V ja 0 0 < 3 then 1 else 0) (if sM V jb 0 0 < 3 then 1 else 0))) ∧ isO Γ G2 co kp rf ∧ isT Γ G2 (co + 3) by0 tv ∧ isRd Γ G2 (co + 5) gv ∧ isV Γ G2 (co + 7) Dv ∧ isRw Γ G2 (co + 23) lf ∧ isGs Γ G2 (co + 25) vs ∧ isCh Γ G2 (co + 27) cv ∧ isV Γ G2 (co + 28) V ∧ isV Γ G2 (co + 44) J0 ∧ isV Γ G2 (co + 60) J1 ∧ fr G G2 (co + 0) (co + 76)))) 0 0 (wA Γ n) := by
  refine Met.ofW (cc := cX11_first) (maxL := 3) (ret := (some .int)) (by decide) rfl ?_
  intro p e s m args below meth c s₁ B hml hv
  obtain ⟨rfl, hw⟩ := hv
  have hx := B.exec
  have hb := B.bytes
  have hr := B.returns
  have hts := atoms_spec (ws := wsX11_first) B.pre
  have hown : s.vm.findClass RX11 = some m.cls := findClass_of_methodNamed B.named
  have hlocks := B.notSynchronized
  have hS : va_S (wA Γ n) s.heap s.heap [] := va_S.rf
  have hA : ∀ q, wA Γ n q → wA Γ n q := fun _ h => h
  have hl := lv_entry ([.ref (ad Γ (co + 0)), .int a, .int b]) (n := 3) (Nat.le_of_ble_eq_true rfl)
  rw [lg_entry_eq]
  generalize (lg_sl ([.ref (ad Γ (co + 0)), .int a, .int b]) ++ List.replicate (3 - (lg_sl ([.ref (ad Γ (co + 0)), .int a, .int b])).length) Slot.unset).toArray = ls at hl ⊢
  have hl : lv_has ls 3 [(0, .ref (ad Γ (co + 0))), (1, .int a), (2, .int b)] := hl
  have hfr := fr_rf G (co + 0) (co + 76)
  have hI := hG.1
  have hB := hI.1
  have hB0 := hI.2.1
  have hB1 := hI.2.2.1
  have hB20 := hI.2.2.2.2.2.2.2.2.2
  have hBz2 := hI.2.2.2.1
  have hBz3 := hI.2.2.2.2.1
  have hBz4 := hI.2.2.2.2.2.1
  have hBz5 := hI.2.2.2.2.2.2.1
  have hBd := hB 21
  refine lv_aload_n hx hb dX11_first_0 rfl (lv_at hl 0 rfl) ?_
  refine nr_get (own := RX11) (C := RX11) (T := TX11) (N := 11) (v := .ref (ad Γ (co + 28))) hx hb hts hi_X11_first_X11 hown hw (by omega) (isO_0 hO) rfl 0 (by decide) wl_X11_first_1 rfl rfl dX11_first_1 ?_
  refine lv_iload_n hx hb dX11_first_4 rfl (lv_at hl 1 rfl) ?_
  refine nr_goB (P := ∃ j, j < V 0 ∧ a = nI j) (nr_runV (As := [.int a]) (C := RX10) (T := TX10) (N := 15) ⟨hx, hb, hml, hown, hts⟩ hw (by omega) (isV_0 hV) rfl (c_X10_hasPerson l Γ n G (co + 28) V hV (by assumption) (by omega) a) (cwV 1 hts gX11_first_X10_hasPerson rfl rfl rfl (by decide +kernel) ⟨Nat.le_of_ble_eq_true rfl, Nat.le_of_ble_eq_true rfl⟩) rfl hl.1 rfl (Nat.le_of_ble_eq_true rfl) dX11_first_5 ⟨Nat.zero_le _, Nat.zero_le _⟩) (fun b1 => ?_) (fun b1 => ?_)
  · obtain ⟨ja, hja_, rfl⟩ := b1
    refine nr_if_eq (tgt := 27) hx hb (by decide) dX11_first_8 (by decide) (fun c2 => absurd c2 (by decide)) (fun c2 => ?_)
    refine lv_aload_n hx hb dX11_first_11 rfl (lv_at hl 0 rfl) ?_
    refine nr_get (own := RX11) (C := RX11) (T := TX11) (N := 11) (v := .ref (ad Γ (co + 28))) hx hb hts hi_X11_first_X11 hown hw (by omega) (isO_0 hO) rfl 0 (by decide) wl_X11_first_1 rfl rfl dX11_first_12 ?_
    refine lv_iload_n hx hb dX11_first_15 rfl (lv_at hl 2 rfl) ?_
    refine nr_goB (P := ∃ j, j < V 0 ∧ b = nI j) (nr_runV (As := [.int b]) (C := RX10) (T := TX10) (N := 15) ⟨hx, hb, hml, hown, hts⟩ hw (by omega) (isV_0 hV) rfl (c_X10_hasPerson l Γ n G (co + 28) V hV (by assumption) (by omega) b) (cwV 1 hts gX11_first_X10_hasPerson rfl rfl rfl (by decide +kernel) ⟨Nat.le_of_ble_eq_true rfl, Nat.le_of_ble_eq_true rfl⟩) rfl hl.1 rfl (Nat.le_of_ble_eq_true rfl) dX11_first_16 ⟨Nat.zero_le _, Nat.zero_le _⟩) (fun b3 => ?_) (fun b3 => ?_)
    · obtain ⟨jb, hjb_, rfl⟩ := b3
      refine nr_if_eq (tgt := 27) hx hb (by decide) dX11_first_19 (by decide) (fun c4 => absurd c4 (by decide)) (fun c4 => ?_)
      refine lv_iload_n hx hb dX11_first_22 rfl (lv_at hl 1 rfl) ?_
      refine lv_iload_n hx hb dX11_first_23 rfl (lv_at hl 2 rfl) ?_
      refine nr_icmp_ne (tgt := 32) hx hb (by omega) (by omega) dX11_first_24 (by decide) (fun c5 => ?_) (fun c5 => ?_)
      · refine lv_aload_n hx hb dX11_first_32 rfl (lv_at hl 0 rfl) ?_
        refine nr_get (own := RX11) (C := RX11) (T := TX11) (N := 11) (v := .ref (ad Γ (co + 28))) hx hb hts hi_X11_first_X11 hown hw (by omega) (isO_0 hO) rfl 0 (by decide) wl_X11_first_1 rfl rfl dX11_first_33 ?_
        refine lv_iload_n hx hb dX11_first_36 rfl (lv_at hl 1 rfl) ?_
        refine lv_iconst (v := nI 0) hx hb dX11_first_37 (by decide) ?_
        refine lv_iconst (v := nI 0) hx hb dX11_first_38 (by decide) ?_
        refine nr_goS (nr_runV (As := [.int (nI ja), .int (nI 0), .int (nI 0)]) (C := RX10) (T := TX10) (N := 15) ⟨hx, hb, hml, hown, hts⟩ hw (by omega) (isV_0 hV) rfl (c_X10_mercy l Γ n G (co + 28) V hV (by assumption) (by omega) ja 0 0 (by omega) (by omega) (by omega)) (cwV 3 hts gX11_first_X10_mercy rfl rfl rfl (by decide +kernel) ⟨Nat.le_of_ble_eq_true rfl, Nat.le_of_ble_eq_true rfl⟩) rfl hl.1 rfl (Nat.le_of_ble_eq_true rfl) dX11_first_39 ⟨Nat.zero_le _, Nat.zero_le _⟩) (fun r6 hr6 => ?_)
        obtain rfl : r6 = (nI (sM V ja 0 0)) := hr6
        have hm9 := sM_lt hI ja
        refine lv_iconst (v := nI 3) hx hb dX11_first_42 (by decide) ?_
        refine nr_icmp_ge (tgt := 50) hx hb (by omega) (by decide) dX11_first_43 (by decide) (fun c7 => ?_) (fun c7 => ?_)
        · refine lv_iconst (v := nI 0) hx hb dX11_first_50 (by decide) ?_
          refine lv_aload_n hx hb dX11_first_51 rfl (lv_at hl 0 rfl) ?_
          refine nr_get (own := RX11) (C := RX11) (T := TX11) (N := 11) (v := .ref (ad Γ (co + 28))) hx hb hts hi_X11_first_X11 hown hw (by omega) (isO_0 hO) rfl 0 (by decide) wl_X11_first_1 rfl rfl dX11_first_52 ?_
          refine lv_iload_n hx hb dX11_first_55 rfl (lv_at hl 2 rfl) ?_
          refine lv_iconst (v := nI 0) hx hb dX11_first_56 (by decide) ?_
          refine lv_iconst (v := nI 0) hx hb dX11_first_57 (by decide) ?_
          refine nr_goS (nr_runV (As := [.int (nI jb), .int (nI 0), .int (nI 0)]) (C := RX10) (T := TX10) (N := 15) ⟨hx, hb, hml, hown, hts⟩ hw (by omega) (isV_0 hV) rfl (c_X10_mercy l Γ n G (co + 28) V hV (by assumption) (by omega) jb 0 0 (by omega) (by omega) (by omega)) (cwV 3 hts gX11_first_X10_mercy rfl rfl rfl (by decide +kernel) ⟨Nat.le_of_ble_eq_true rfl, Nat.le_of_ble_eq_true rfl⟩) rfl hl.1 rfl (Nat.le_of_ble_eq_true rfl) dX11_first_58 ⟨Nat.zero_le _, Nat.zero_le _⟩) (fun r8 hr8 => ?_)
          obtain rfl : r8 = (nI (sM V jb 0 0)) := hr8
          have hm8 := sM_lt hI jb
          refine lv_iconst (v := nI 3) hx hb dX11_first_61 (by decide) ?_
          refine nr_icmp_ge (tgt := 69) hx hb (by omega) (by decide) dX11_first_62 (by decide) (fun c9 => ?_) (fun c9 => ?_)
          · refine lv_iconst (v := nI 0) hx hb dX11_first_69 (by decide) ?_
            refine nr_goS (nr_runS (As := [.int (nI 0), .int (nI 0)]) ⟨hx, hb, hml, hown, hts⟩ hw (c_X3_resting l Γ n G 0 0 (by omega) (by omega)) (va_cwS 2 hts gX11_first_X3_resting rfl rfl rfl (by decide +kernel) ⟨Nat.le_of_ble_eq_true rfl, Nat.le_of_ble_eq_true rfl⟩) rfl hl.1 rfl (Nat.le_of_ble_eq_true rfl) dX11_first_70 ⟨Nat.zero_le _, Nat.zero_le _⟩) (fun r10 hr10 => ?_)
            obtain rfl : r10 = (nI (restV 0 0)) := hr10
            exact nr_retI hx hb hr hlocks hw hS (Or.inr (⟨ja, jb, hja_, rfl, hjb_, rfl, by assumption, by first | rw [if_pos (by omega), if_pos (by omega)] | rw [if_pos (by omega), if_neg (by omega)] | rw [if_neg (by omega), if_pos (by omega)] | rw [if_neg (by omega), if_neg (by omega)], hO, hT, hRd, hD, hRw, hGs, hCh, hV, hP0, hP1, hfr⟩)) dX11_first_73
          · refine lv_iconst (v := nI 1) hx hb dX11_first_65 (by decide) ?_
            refine lv_goto (tgt := 70) hx hb dX11_first_66 (by decide) ?_
            refine nr_goS (nr_runS (As := [.int (nI 0), .int (nI 1)]) ⟨hx, hb, hml, hown, hts⟩ hw (c_X3_resting l Γ n G 0 1 (by omega) (by omega)) (va_cwS 2 hts gX11_first_X3_resting rfl rfl rfl (by decide +kernel) ⟨Nat.le_of_ble_eq_true rfl, Nat.le_of_ble_eq_true rfl⟩) rfl hl.1 rfl (Nat.le_of_ble_eq_true rfl) dX11_first_70 ⟨Nat.zero_le _, Nat.zero_le _⟩) (fun r11 hr11 => ?_)
            obtain rfl : r11 = (nI (restV 0 1)) := hr11
            exact nr_retI hx hb hr hlocks hw hS (Or.inr (⟨ja, jb, hja_, rfl, hjb_, rfl, by assumption, by first | rw [if_pos (by omega), if_pos (by omega)] | rw [if_pos (by omega), if_neg (by omega)] | rw [if_neg (by omega), if_pos (by omega)] | rw [if_neg (by omega), if_neg (by omega)], hO, hT, hRd, hD, hRw, hGs, hCh, hV, hP0, hP1, hfr⟩)) dX11_first_73
        · refine lv_iconst (v := nI 1) hx hb dX11_first_46 (by decide) ?_
          refine lv_goto (tgt := 51) hx hb dX11_first_47 (by decide) ?_
          refine lv_aload_n hx hb dX11_first_51 rfl (lv_at hl 0 rfl) ?_
          refine nr_get (own := RX11) (C := RX11) (T := TX11) (N := 11) (v := .ref (ad Γ (co + 28))) hx hb hts hi_X11_first_X11 hown hw (by omega) (isO_0 hO) rfl 0 (by decide) wl_X11_first_1 rfl rfl dX11_first_52 ?_
          refine lv_iload_n hx hb dX11_first_55 rfl (lv_at hl 2 rfl) ?_
          refine lv_iconst (v := nI 0) hx hb dX11_first_56 (by decide) ?_
          refine lv_iconst (v := nI 0) hx hb dX11_first_57 (by decide) ?_
          refine nr_goS (nr_runV (As := [.int (nI jb), .int (nI 0), .int (nI 0)]) (C := RX10) (T := TX10) (N := 15) ⟨hx, hb, hml, hown, hts⟩ hw (by omega) (isV_0 hV) rfl (c_X10_mercy l Γ n G (co + 28) V hV (by assumption) (by omega) jb 0 0 (by omega) (by omega) (by omega)) (cwV 3 hts gX11_first_X10_mercy rfl rfl rfl (by decide +kernel) ⟨Nat.le_of_ble_eq_true rfl, Nat.le_of_ble_eq_true rfl⟩) rfl hl.1 rfl (Nat.le_of_ble_eq_true rfl) dX11_first_58 ⟨Nat.zero_le _, Nat.zero_le _⟩) (fun r12 hr12 => ?_)
          obtain rfl : r12 = (nI (sM V jb 0 0)) := hr12
          have hm8 := sM_lt hI jb
          refine lv_iconst (v := nI 3) hx hb dX11_first_61 (by decide) ?_
          refine nr_icmp_ge (tgt := 69) hx hb (by omega) (by decide) dX11_first_62 (by decide) (fun c13 => ?_) (fun c13 => ?_)
          · refine lv_iconst (v := nI 0) hx hb dX11_first_69 (by decide) ?_
            refine nr_goS (nr_runS (As := [.int (nI 1), .int (nI 0)]) ⟨hx, hb, hml, hown, hts⟩ hw (c_X3_resting l Γ n G 1 0 (by omega) (by omega)) (va_cwS 2 hts gX11_first_X3_resting rfl rfl rfl (by decide +kernel) ⟨Nat.le_of_ble_eq_true rfl, Nat.le_of_ble_eq_true rfl⟩) rfl hl.1 rfl (Nat.le_of_ble_eq_true rfl) dX11_first_70 ⟨Nat.zero_le _, Nat.zero_le _⟩) (fun r14 hr14 => ?_)
            obtain rfl : r14 = (nI (restV 1 0)) := hr14
            exact nr_retI hx hb hr hlocks hw hS (Or.inr (⟨ja, jb, hja_, rfl, hjb_, rfl, by assumption, by first | rw [if_pos (by omega), if_pos (by omega)] | rw [if_pos (by omega), if_neg (by omega)] | rw [if_neg (by omega), if_pos (by omega)] | rw [if_neg (by omega), if_neg (by omega)], hO, hT, hRd, hD, hRw, hGs, hCh, hV, hP0, hP1, hfr⟩)) dX11_first_73
          · refine lv_iconst (v := nI 1) hx hb dX11_first_65 (by decide) ?_
            refine lv_goto (tgt := 70) hx hb dX11_first_66 (by decide) ?_
            refine nr_goS (nr_runS (As := [.int (nI 1), .int (nI 1)]) ⟨hx, hb, hml, hown, hts⟩ hw (c_X3_resting l Γ n G 1 1 (by omega) (by omega)) (va_cwS 2 hts gX11_first_X3_resting rfl rfl rfl (by decide +kernel) ⟨Nat.le_of_ble_eq_true rfl, Nat.le_of_ble_eq_true rfl⟩) rfl hl.1 rfl (Nat.le_of_ble_eq_true rfl) dX11_first_70 ⟨Nat.zero_le _, Nat.zero_le _⟩) (fun r15 hr15 => ?_)
            obtain rfl : r15 = (nI (restV 1 1)) := hr15
            exact nr_retI hx hb hr hlocks hw hS (Or.inr (⟨ja, jb, hja_, rfl, hjb_, rfl, by assumption, by first | rw [if_pos (by omega), if_pos (by omega)] | rw [if_pos (by omega), if_neg (by omega)] | rw [if_neg (by omega), if_pos (by omega)] | rw [if_neg (by omega), if_neg (by omega)], hO, hT, hRd, hD, hRw, hGs, hCh, hV, hP0, hP1, hfr⟩)) dX11_first_73
      · refine lv_aload_n hx hb dX11_first_27 rfl (lv_at hl 0 rfl) ?_
        refine nr_goI (nr_runV (As := []) (C := RX11) (T := TX11) (N := 11) ⟨hx, hb, hml, hown, hts⟩ hw (by omega) (isO_0 hO) rfl (c_X11_bad l Γ n G co kp rf hO (by omega) hj) (cwV 0 hts gX11_first_X11_bad rfl rfl rfl (by decide +kernel) ⟨Nat.le_of_ble_eq_true rfl, Nat.le_of_ble_eq_true rfl⟩) rfl hl.1 rfl (Nat.le_of_ble_eq_true rfl) dX11_first_28 ⟨Nat.zero_le _, Nat.zero_le _⟩) hw hA hS (fun z16 G16 H locs hp hw hS => ?_)
        obtain ⟨ha16, hO, hf16⟩ := hp
        have hT := isT_fr hT hf16 (by omega)
        have hRd := isRd_fr hRd hf16 (by omega)
        have hD := isV_fr hD hf16 (by omega)
        have hRw := isRw_fr hRw hf16 (by omega)
        have hGs := isGs_fr hGs hf16 (by omega)
        have hCh := isCh_fr hCh hf16 (by omega)
        have hV := isV_fr hV hf16 (by omega)
        have hP0 := isV_fr hP0 hf16 (by omega)
        have hP1 := isV_fr hP1 hf16 (by omega)
        have hfr := fr_tr hfr hf16 (by omega) (by omega)
        have hO : isO Γ G16 co kp (bmp rf 0) := hO
        subst ha16
        exact nr_retI hx hb hr hlocks hw hS (Or.inl ⟨by intro hh; first | exact absurd hh.1 (by assumption) | exact absurd hh.2.1 (by assumption) | exact hh.2.2 (congrArg nI (by assumption)), rfl, hO, hT, hRd, hD, hRw, hGs, hCh, hV, hP0, hP1, hfr⟩) dX11_first_31
    · refine nr_if_eq (tgt := 27) hx hb (by decide) dX11_first_19 (by decide) (fun c17 => ?_) (fun c17 => absurd c17 (by decide))
      refine lv_aload_n hx hb dX11_first_27 rfl (lv_at hl 0 rfl) ?_
      refine nr_goI (nr_runV (As := []) (C := RX11) (T := TX11) (N := 11) ⟨hx, hb, hml, hown, hts⟩ hw (by omega) (isO_0 hO) rfl (c_X11_bad l Γ n G co kp rf hO (by omega) hj) (cwV 0 hts gX11_first_X11_bad rfl rfl rfl (by decide +kernel) ⟨Nat.le_of_ble_eq_true rfl, Nat.le_of_ble_eq_true rfl⟩) rfl hl.1 rfl (Nat.le_of_ble_eq_true rfl) dX11_first_28 ⟨Nat.zero_le _, Nat.zero_le _⟩) hw hA hS (fun z18 G18 H locs hp hw hS => ?_)
      obtain ⟨ha18, hO, hf18⟩ := hp
      have hT := isT_fr hT hf18 (by omega)
      have hRd := isRd_fr hRd hf18 (by omega)
      have hD := isV_fr hD hf18 (by omega)
      have hRw := isRw_fr hRw hf18 (by omega)
      have hGs := isGs_fr hGs hf18 (by omega)
      have hCh := isCh_fr hCh hf18 (by omega)
      have hV := isV_fr hV hf18 (by omega)
      have hP0 := isV_fr hP0 hf18 (by omega)
      have hP1 := isV_fr hP1 hf18 (by omega)
      have hfr := fr_tr hfr hf18 (by omega) (by omega)
      have hO : isO Γ G18 co kp (bmp rf 0) := hO
      subst ha18
      exact nr_retI hx hb hr hlocks hw hS (Or.inl ⟨by intro hh; first | exact absurd hh.1 (by assumption) | exact absurd hh.2.1 (by assumption) | exact hh.2.2 (congrArg nI (by assumption)), rfl, hO, hT, hRd, hD, hRw, hGs, hCh, hV, hP0, hP1, hfr⟩) dX11_first_31
  · refine nr_if_eq (tgt := 27) hx hb (by decide) dX11_first_8 (by decide) (fun c19 => ?_) (fun c19 => absurd c19 (by decide))
    refine lv_aload_n hx hb dX11_first_27 rfl (lv_at hl 0 rfl) ?_
    refine nr_goI (nr_runV (As := []) (C := RX11) (T := TX11) (N := 11) ⟨hx, hb, hml, hown, hts⟩ hw (by omega) (isO_0 hO) rfl (c_X11_bad l Γ n G co kp rf hO (by omega) hj) (cwV 0 hts gX11_first_X11_bad rfl rfl rfl (by decide +kernel) ⟨Nat.le_of_ble_eq_true rfl, Nat.le_of_ble_eq_true rfl⟩) rfl hl.1 rfl (Nat.le_of_ble_eq_true rfl) dX11_first_28 ⟨Nat.zero_le _, Nat.zero_le _⟩) hw hA hS (fun z20 G20 H locs hp hw hS => ?_)
    obtain ⟨ha20, hO, hf20⟩ := hp
    have hT := isT_fr hT hf20 (by omega)
    have hRd := isRd_fr hRd hf20 (by omega)
    have hD := isV_fr hD hf20 (by omega)
    have hRw := isRw_fr hRw hf20 (by omega)
    have hGs := isGs_fr hGs hf20 (by omega)
    have hCh := isCh_fr hCh hf20 (by omega)
    have hV := isV_fr hV hf20 (by omega)
    have hP0 := isV_fr hP0 hf20 (by omega)
    have hP1 := isV_fr hP1 hf20 (by omega)
    have hfr := fr_tr hfr hf20 (by omega) (by omega)
    have hO : isO Γ G20 co kp (bmp rf 0) := hO
    subst ha20
    exact nr_retI hx hb hr hlocks hw hS (Or.inl ⟨by intro hh; first | exact absurd hh.1 (by assumption) | exact absurd hh.2.1 (by assumption) | exact hh.2.2 (congrArg nI (by assumption)), rfl, hO, hT, hRd, hD, hRw, hGs, hCh, hV, hP0, hP1, hfr⟩) dX11_first_31
theorem wl_X11_rust_1 : Cond.fieldLink RX11 10 "BellForgiven" "now" "LBellForgiven$Valley;" ∈ wsX11_rust := List.mem_of_getElem? (i := 1) rfl
theorem wl_X11_rust_2 : Cond.fieldLink RX11 55 "BellForgiven" "chance" "LBellForgiven$Chance;" ∈ wsX11_rust := List.mem_of_getElem? (i := 2) rfl
theorem hi_X11_rust_X11 : ∀ w ∈ u_ws RX11 TX11 11, w ∈ wsX11_rust := fun w h => (List.mem_cons_of_mem _ (List.mem_append_left _ (List.mem_append_left _ (List.mem_append_right _ h))))
set_option maxHeartbeats 4000000 in
set_option maxRecDepth 100000 in
theorem c_X11_rust (l : Launch) (Γ : Gam) (n : Nat) (G : Nat → va_E) (co : Nat) (kp rf by0 tv gv Dv lf vs cv V J0 J1 : Nat → Nat) (hO : isO Γ G co kp rf) (hT : isT Γ G (co + 3) by0 tv) (hRd : isRd Γ G (co + 5) gv) (hD : isV Γ G (co + 7) Dv) (hRw : isRw Γ G (co + 23) lf) (hGs : isGs Γ G (co + 25) vs) (hCh : isCh Γ G (co + 27) cv) (hV : isV Γ G (co + 28) V) (hP0 : isV Γ G (co + 44) J0) (hP1 : isV Γ G (co + 60) J1) (hn_co : co + 76 ≤ n) (hj : winj Γ n) (k ws c0 : Int32) (hG : vG V)  : Met l yX11_rust wsX11_rust ({ frames := 6, cells := 0, slots := 0, locals := 149 }) (va_Pc [.ref (ad Γ (co + 0)), .int k, .int ws, .int c0] (fun U => hw Γ n G U U.heap)) (wQi Γ n (fun z G2 => ((¬ (vBel (V 1) k ∧ vRng 0 (2 ^ V 1 - 1) ws ∧ vRng 0 10 c0 ∧ ∃ jk jw, k = nI jk ∧ jk < V 1 ∧ ws = nI jw ∧ jw < 256 ∧ ¬ bt jw jk)) ∧ (z = -2) ∧ isO Γ G2 co kp (bmp rf 0) ∧ isT Γ G2 (co + 3) by0 tv ∧ isRd Γ G2 (co + 5) gv ∧ isV Γ G2 (co + 7) Dv ∧ isRw Γ G2 (co + 23) lf ∧ isGs Γ G2 (co + 25) vs ∧ isCh Γ G2 (co + 27) cv ∧ isV Γ G2 (co + 28) V ∧ isV Γ G2 (co + 44) J0 ∧ isV Γ G2 (co + 60) J1 ∧ fr G G2 (co + 0) (co + 76)) ∨ (∃ jk jw jc : Nat, (jk < V 1) ∧ (k = nI jk) ∧ (jw ≤ 2 ^ V 1 - 1) ∧ (ws = nI jw) ∧ (jc ≤ 10) ∧ (c0 = nI jc) ∧ (¬ bt jw jk) ∧ (z = nI 1) ∧ isO Γ G2 co kp rf ∧ isT Γ G2 (co + 3) by0 tv ∧ isRd Γ G2 (co + 5) gv ∧ isV Γ G2 (co + 7) Dv ∧ isRw Γ G2 (co + 23) lf ∧ isGs Γ G2 (co + 25) vs ∧ isCh Γ G2 (co + 27) (fracC cv (sumC V jk jw jc (jw + 1)) (10 ^ pc8 jw)) ∧ isV Γ G2 (co + 28) V ∧ isV Γ G2 (co + 44) J0 ∧ isV Γ G2 (co + 60) J1 ∧ fr G G2 (co + 0) (co + 76)))) 0 0 (wA Γ n) := by
  refine Met.ofW (cc := cX11_rust) (maxL := 4) (ret := (some .int)) (by decide) rfl ?_
  intro p e s m args below meth c s₁ B hml hv
  obtain ⟨rfl, hw⟩ := hv
  have hx := B.exec
  have hb := B.bytes
  have hr := B.returns
  have hts := atoms_spec (ws := wsX11_rust) B.pre
  have hown : s.vm.findClass RX11 = some m.cls := findClass_of_methodNamed B.named
  have hlocks := B.notSynchronized
  have hS : va_S (wA Γ n) s.heap s.heap [] := va_S.rf
  have hA : ∀ q, wA Γ n q → wA Γ n q := fun _ h => h
  have hl := lv_entry ([.ref (ad Γ (co + 0)), .int k, .int ws, .int c0]) (n := 4) (Nat.le_of_ble_eq_true rfl)
  rw [lg_entry_eq]
  generalize (lg_sl ([.ref (ad Γ (co + 0)), .int k, .int ws, .int c0]) ++ List.replicate (4 - (lg_sl ([.ref (ad Γ (co + 0)), .int k, .int ws, .int c0])).length) Slot.unset).toArray = ls at hl ⊢
  have hl : lv_has ls 4 [(0, .ref (ad Γ (co + 0))), (1, .int k), (2, .int ws), (3, .int c0)] := hl
  have hfr := fr_rf G (co + 0) (co + 76)
  have hI := hG.1
  have hB := hI.1
  have hB0 := hI.2.1
  have hB1 := hI.2.2.1
  have hB20 := hI.2.2.2.2.2.2.2.2.2
  have hBz2 := hI.2.2.2.1
  have hBz3 := hI.2.2.2.2.1
  have hBz4 := hI.2.2.2.2.2.1
  have hBz5 := hI.2.2.2.2.2.2.1
  have hBd := hB 21
  have h2p := p2_le hB1
  have h2q := Nat.one_le_two_pow (n := V 1)
  refine lv_aload_n hx hb dX11_rust_0 rfl (lv_at hl 0 rfl) ?_
  refine nr_get (own := RX11) (C := RX11) (T := TX11) (N := 11) (v := .ref (ad Γ (co + 28))) hx hb hts hi_X11_rust_X11 hown hw (by omega) (isO_0 hO) rfl 0 (by decide) wl_X11_rust_1 rfl rfl dX11_rust_1 ?_
  refine lv_iload_n hx hb dX11_rust_4 rfl (lv_at hl 1 rfl) ?_
  refine nr_goB (P := ∃ j, j < V 1 ∧ k = nI j) (nr_runV (As := [.int k]) (C := RX10) (T := TX10) (N := 15) ⟨hx, hb, hml, hown, hts⟩ hw (by omega) (isV_0 hV) rfl (c_X10_hasWrong l Γ n G (co + 28) V hV (by assumption) (by omega) k) (cwV 1 hts gX11_rust_X10_hasWrong rfl rfl rfl (by decide +kernel) ⟨Nat.le_of_ble_eq_true rfl, Nat.le_of_ble_eq_true rfl⟩) rfl hl.1 rfl (Nat.le_of_ble_eq_true rfl) dX11_rust_5 ⟨Nat.zero_le _, Nat.zero_le _⟩) (fun b1 => ?_) (fun b1 => ?_)
  · obtain ⟨jk, hjk, rfl⟩ := b1
    refine nr_if_eq (tgt := 44) hx hb (by decide) dX11_rust_8 (by decide) (fun c2 => absurd c2 (by decide)) (fun c2 => ?_)
    refine lv_iload_n hx hb dX11_rust_11 rfl (lv_at hl 2 rfl) ?_
    refine lv_iconst (v := nI 0) hx hb dX11_rust_12 (by decide) ?_
    refine lv_aload_n hx hb dX11_rust_13 rfl (lv_at hl 0 rfl) ?_
    refine nr_get (own := RX11) (C := RX11) (T := TX11) (N := 11) (v := .ref (ad Γ (co + 28))) hx hb hts hi_X11_rust_X11 hown hw (by omega) (isO_0 hO) rfl 0 (by decide) wl_X11_rust_1 rfl rfl dX11_rust_14 ?_
    refine nr_goS (nr_runV (As := []) (C := RX10) (T := TX10) (N := 15) ⟨hx, hb, hml, hown, hts⟩ hw (by omega) (isV_0 hV) rfl (c_X10_allWrongs l Γ n G (co + 28) V hV (by assumption) (by omega)) (cwV 0 hts gX11_rust_X10_allWrongs rfl rfl rfl (by decide +kernel) ⟨Nat.le_of_ble_eq_true rfl, Nat.le_of_ble_eq_true rfl⟩) rfl hl.1 rfl (Nat.le_of_ble_eq_true rfl) dX11_rust_17 ⟨Nat.zero_le _, Nat.zero_le _⟩) (fun r3 hr3 => ?_)
    obtain rfl : r3 = (nI (2 ^ V 1 - 1)) := hr3
    refine nr_goB (P := (nI 0) ≤ ws ∧ ws ≤ (nI (2 ^ V 1 - 1))) (nr_runS (As := [.int ws, .int (nI 0), .int (nI (2 ^ V 1 - 1))]) ⟨hx, hb, hml, hown, hts⟩ hw (c_X11_within l Γ n G ws (nI 0) (nI (2 ^ V 1 - 1))) (va_cwS 3 hts gX11_rust_X11_within rfl rfl rfl (by decide +kernel) ⟨Nat.le_of_ble_eq_true rfl, Nat.le_of_ble_eq_true rfl⟩) rfl hl.1 rfl (Nat.le_of_ble_eq_true rfl) dX11_rust_20 ⟨Nat.zero_le _, Nat.zero_le _⟩) (fun b4 => ?_) (fun b4 => ?_)
    · obtain ⟨jw, hjwa, hjwb, rfl⟩ := (with_c (a := 0) (b := 2 ^ V 1 - 1) (by first | decide | omega) (by first | decide | omega)).mp b4
      refine nr_if_eq (tgt := 44) hx hb (by decide) dX11_rust_23 (by decide) (fun c5 => absurd c5 (by decide)) (fun c5 => ?_)
      refine lv_iload_n hx hb dX11_rust_26 rfl (lv_at hl 3 rfl) ?_
      refine lv_iconst (v := nI 0) hx hb dX11_rust_27 (by decide) ?_
      refine lv_bipush (v := nI 10) hx hb dX11_rust_28 (by decide) ?_
      refine nr_goB (P := (nI 0) ≤ c0 ∧ c0 ≤ (nI 10)) (nr_runS (As := [.int c0, .int (nI 0), .int (nI 10)]) ⟨hx, hb, hml, hown, hts⟩ hw (c_X11_within l Γ n G c0 (nI 0) (nI 10)) (va_cwS 3 hts gX11_rust_X11_within rfl rfl rfl (by decide +kernel) ⟨Nat.le_of_ble_eq_true rfl, Nat.le_of_ble_eq_true rfl⟩) rfl hl.1 rfl (Nat.le_of_ble_eq_true rfl) dX11_rust_30 ⟨Nat.zero_le _, Nat.zero_le _⟩) (fun b6 => ?_) (fun b6 => ?_)
      · obtain ⟨jc, hjca, hjcb, rfl⟩ := (with_c (a := 0) (b := 10) (by first | decide | omega) (by first | decide | omega)).mp b6
        refine nr_if_eq (tgt := 44) hx hb (by decide) dX11_rust_33 (by decide) (fun c7 => absurd c7 (by decide)) (fun c7 => ?_)
        refine lv_iload_n hx hb dX11_rust_36 rfl (lv_at hl 2 rfl) ?_
        refine lv_iload_n hx hb dX11_rust_37 rfl (lv_at hl 1 rfl) ?_
        refine nr_goB (P := bt jw jk) (nr_runS (As := [.int (nI jw), .int (nI jk)]) ⟨hx, hb, hml, hown, hts⟩ hw (c_X11_holds l Γ n G jw jk (by omega) (by omega)) (va_cwS 2 hts gX11_rust_X11_holds rfl rfl rfl (by decide +kernel) ⟨Nat.le_of_ble_eq_true rfl, Nat.le_of_ble_eq_true rfl⟩) rfl hl.1 rfl (Nat.le_of_ble_eq_true rfl) dX11_rust_38 ⟨Nat.zero_le _, Nat.zero_le _⟩) (fun b8 => ?_) (fun b8 => ?_)
        · refine nr_if_eq (tgt := 49) hx hb (by decide) dX11_rust_41 (by decide) (fun c9 => absurd c9 (by decide)) (fun c9 => ?_)
          refine lv_aload_n hx hb dX11_rust_44 rfl (lv_at hl 0 rfl) ?_
          refine nr_goI (nr_runV (As := []) (C := RX11) (T := TX11) (N := 11) ⟨hx, hb, hml, hown, hts⟩ hw (by omega) (isO_0 hO) rfl (c_X11_bad l Γ n G co kp rf hO (by omega) hj) (cwV 0 hts gX11_rust_X11_bad rfl rfl rfl (by decide +kernel) ⟨Nat.le_of_ble_eq_true rfl, Nat.le_of_ble_eq_true rfl⟩) rfl hl.1 rfl (Nat.le_of_ble_eq_true rfl) dX11_rust_45 ⟨Nat.zero_le _, Nat.zero_le _⟩) hw hA hS (fun z10 G10 H locs hp hw hS => ?_)
          obtain ⟨ha10, hO, hf10⟩ := hp
          have hT := isT_fr hT hf10 (by omega)
          have hRd := isRd_fr hRd hf10 (by omega)
          have hD := isV_fr hD hf10 (by omega)
          have hRw := isRw_fr hRw hf10 (by omega)
          have hGs := isGs_fr hGs hf10 (by omega)
          have hCh := isCh_fr hCh hf10 (by omega)
          have hV := isV_fr hV hf10 (by omega)
          have hP0 := isV_fr hP0 hf10 (by omega)
          have hP1 := isV_fr hP1 hf10 (by omega)
          have hfr := fr_tr hfr hf10 (by omega) (by omega)
          have hO : isO Γ G10 co kp (bmp rf 0) := hO
          subst ha10
          exact nr_retI hx hb hr hlocks hw hS (Or.inl ⟨by first | (intro hh; first | exact absurd hh.1 (by assumption) | exact absurd hh.2.1 (by assumption) | exact absurd hh.2.2.1 (by assumption)) | (intro hh; obtain ⟨y1, y2, y3, y4, y5, y6, y7⟩ := hh.2.2.2; exact y7 (by rw [← (nI_eq (by omega) (by omega)).mp y3, ← (nI_eq (by omega) (by omega)).mp y5]; assumption)), rfl, hO, hT, hRd, hD, hRw, hGs, hCh, hV, hP0, hP1, hfr⟩) dX11_rust_48
        · refine nr_if_eq (tgt := 49) hx hb (by decide) dX11_rust_41 (by decide) (fun c11 => ?_) (fun c11 => absurd c11 (by decide))
          refine lv_aload_n hx hb dX11_rust_49 rfl (lv_at hl 0 rfl) ?_
          refine nr_get (own := RX11) (C := RX11) (T := TX11) (N := 11) (v := .ref (ad Γ (co + 27))) hx hb hts hi_X11_rust_X11 hown hw (by omega) (isO_0 hO) rfl 7 (by decide) wl_X11_rust_2 rfl rfl dX11_rust_50 ?_
          refine lv_aload_n hx hb dX11_rust_53 rfl (lv_at hl 0 rfl) ?_
          refine nr_get (own := RX11) (C := RX11) (T := TX11) (N := 11) (v := .ref (ad Γ (co + 28))) hx hb hts hi_X11_rust_X11 hown hw (by omega) (isO_0 hO) rfl 0 (by decide) wl_X11_rust_1 rfl rfl dX11_rust_54 ?_
          refine lv_iload_n hx hb dX11_rust_57 rfl (lv_at hl 1 rfl) ?_
          refine lv_iload_n hx hb dX11_rust_58 rfl (lv_at hl 2 rfl) ?_
          refine lv_iload_n hx hb dX11_rust_59 rfl (lv_at hl 3 rfl) ?_
          refine nr_goV (nr_runV (As := [.ref (ad Γ (co + 28)), .int (nI jk), .int (nI jw), .int (nI jc)]) (C := RX0) (T := TX0) (N := 2) ⟨hx, hb, hml, hown, hts⟩ hw (by omega) (isCh_0 hCh) rfl (c_X0_ofRust l Γ n G (co + 27) (co + 28) cv V hCh hV (by omega) (by omega) hj jk jw jc (by first | assumption | omega) (by first | assumption | omega) (by first | assumption | omega) (by first | assumption | omega) (by first | assumption | omega)) (cwV 4 hts gX11_rust_X0_ofRust rfl rfl rfl (by decide +kernel) ⟨Nat.le_of_ble_eq_true rfl, Nat.le_of_ble_eq_true rfl⟩) rfl hl.1 rfl (Nat.le_of_ble_eq_true rfl) dX11_rust_60 ⟨Nat.zero_le _, Nat.zero_le _⟩) hw hA hS (fun G12 H locs hp hw hS => ?_)
          obtain ⟨hCh, hf12⟩ := hp
          have hO := isO_fr hO hf12 (by omega)
          have hT := isT_fr hT hf12 (by omega)
          have hRd := isRd_fr hRd hf12 (by omega)
          have hD := isV_fr hD hf12 (by omega)
          have hRw := isRw_fr hRw hf12 (by omega)
          have hGs := isGs_fr hGs hf12 (by omega)
          have hV := isV_fr hV hf12 (by omega)
          have hP0 := isV_fr hP0 hf12 (by omega)
          have hP1 := isV_fr hP1 hf12 (by omega)
          have hfr := fr_tr hfr hf12 (by omega) (by omega)
          have hCh : isCh Γ G12 (co + 27) (fracC cv (sumC V jk jw jc (jw + 1)) (10 ^ pc8 jw)) := hCh
          refine lv_iconst (v := nI 1) hx hb dX11_rust_63 (by decide) ?_
          exact nr_retI hx hb hr hlocks hw hS (Or.inr (⟨jk, jw, jc, hjk, rfl, hjwb, rfl, hjcb, rfl, by assumption, rfl, hO, hT, hRd, hD, hRw, hGs, hCh, hV, hP0, hP1, hfr⟩)) dX11_rust_64
      · have b6n : ¬ vRng (0) (10) c0 := fun hh => b6 ((with_c (by first | decide | omega) (by first | decide | omega)).mpr hh)
        refine nr_if_eq (tgt := 44) hx hb (by decide) dX11_rust_33 (by decide) (fun c13 => ?_) (fun c13 => absurd c13 (by decide))
        refine lv_aload_n hx hb dX11_rust_44 rfl (lv_at hl 0 rfl) ?_
        refine nr_goI (nr_runV (As := []) (C := RX11) (T := TX11) (N := 11) ⟨hx, hb, hml, hown, hts⟩ hw (by omega) (isO_0 hO) rfl (c_X11_bad l Γ n G co kp rf hO (by omega) hj) (cwV 0 hts gX11_rust_X11_bad rfl rfl rfl (by decide +kernel) ⟨Nat.le_of_ble_eq_true rfl, Nat.le_of_ble_eq_true rfl⟩) rfl hl.1 rfl (Nat.le_of_ble_eq_true rfl) dX11_rust_45 ⟨Nat.zero_le _, Nat.zero_le _⟩) hw hA hS (fun z14 G14 H locs hp hw hS => ?_)
        obtain ⟨ha14, hO, hf14⟩ := hp
        have hT := isT_fr hT hf14 (by omega)
        have hRd := isRd_fr hRd hf14 (by omega)
        have hD := isV_fr hD hf14 (by omega)
        have hRw := isRw_fr hRw hf14 (by omega)
        have hGs := isGs_fr hGs hf14 (by omega)
        have hCh := isCh_fr hCh hf14 (by omega)
        have hV := isV_fr hV hf14 (by omega)
        have hP0 := isV_fr hP0 hf14 (by omega)
        have hP1 := isV_fr hP1 hf14 (by omega)
        have hfr := fr_tr hfr hf14 (by omega) (by omega)
        have hO : isO Γ G14 co kp (bmp rf 0) := hO
        subst ha14
        exact nr_retI hx hb hr hlocks hw hS (Or.inl ⟨by first | (intro hh; first | exact absurd hh.1 (by assumption) | exact absurd hh.2.1 (by assumption) | exact absurd hh.2.2.1 (by assumption)) | (intro hh; obtain ⟨y1, y2, y3, y4, y5, y6, y7⟩ := hh.2.2.2; exact y7 (by rw [← (nI_eq (by omega) (by omega)).mp y3, ← (nI_eq (by omega) (by omega)).mp y5]; assumption)), rfl, hO, hT, hRd, hD, hRw, hGs, hCh, hV, hP0, hP1, hfr⟩) dX11_rust_48
    · have b4n : ¬ vRng (0) (2 ^ V 1 - 1) ws := fun hh => b4 ((with_c (by first | decide | omega) (by first | decide | omega)).mpr hh)
      refine nr_if_eq (tgt := 44) hx hb (by decide) dX11_rust_23 (by decide) (fun c15 => ?_) (fun c15 => absurd c15 (by decide))
      refine lv_aload_n hx hb dX11_rust_44 rfl (lv_at hl 0 rfl) ?_
      refine nr_goI (nr_runV (As := []) (C := RX11) (T := TX11) (N := 11) ⟨hx, hb, hml, hown, hts⟩ hw (by omega) (isO_0 hO) rfl (c_X11_bad l Γ n G co kp rf hO (by omega) hj) (cwV 0 hts gX11_rust_X11_bad rfl rfl rfl (by decide +kernel) ⟨Nat.le_of_ble_eq_true rfl, Nat.le_of_ble_eq_true rfl⟩) rfl hl.1 rfl (Nat.le_of_ble_eq_true rfl) dX11_rust_45 ⟨Nat.zero_le _, Nat.zero_le _⟩) hw hA hS (fun z16 G16 H locs hp hw hS => ?_)
      obtain ⟨ha16, hO, hf16⟩ := hp
      have hT := isT_fr hT hf16 (by omega)
      have hRd := isRd_fr hRd hf16 (by omega)
      have hD := isV_fr hD hf16 (by omega)
      have hRw := isRw_fr hRw hf16 (by omega)
      have hGs := isGs_fr hGs hf16 (by omega)
      have hCh := isCh_fr hCh hf16 (by omega)
      have hV := isV_fr hV hf16 (by omega)
      have hP0 := isV_fr hP0 hf16 (by omega)
      have hP1 := isV_fr hP1 hf16 (by omega)
      have hfr := fr_tr hfr hf16 (by omega) (by omega)
      have hO : isO Γ G16 co kp (bmp rf 0) := hO
      subst ha16
      exact nr_retI hx hb hr hlocks hw hS (Or.inl ⟨by first | (intro hh; first | exact absurd hh.1 (by assumption) | exact absurd hh.2.1 (by assumption) | exact absurd hh.2.2.1 (by assumption)) | (intro hh; obtain ⟨y1, y2, y3, y4, y5, y6, y7⟩ := hh.2.2.2; exact y7 (by rw [← (nI_eq (by omega) (by omega)).mp y3, ← (nI_eq (by omega) (by omega)).mp y5]; assumption)), rfl, hO, hT, hRd, hD, hRw, hGs, hCh, hV, hP0, hP1, hfr⟩) dX11_rust_48
  · refine nr_if_eq (tgt := 44) hx hb (by decide) dX11_rust_8 (by decide) (fun c17 => ?_) (fun c17 => absurd c17 (by decide))
    refine lv_aload_n hx hb dX11_rust_44 rfl (lv_at hl 0 rfl) ?_
    refine nr_goI (nr_runV (As := []) (C := RX11) (T := TX11) (N := 11) ⟨hx, hb, hml, hown, hts⟩ hw (by omega) (isO_0 hO) rfl (c_X11_bad l Γ n G co kp rf hO (by omega) hj) (cwV 0 hts gX11_rust_X11_bad rfl rfl rfl (by decide +kernel) ⟨Nat.le_of_ble_eq_true rfl, Nat.le_of_ble_eq_true rfl⟩) rfl hl.1 rfl (Nat.le_of_ble_eq_true rfl) dX11_rust_45 ⟨Nat.zero_le _, Nat.zero_le _⟩) hw hA hS (fun z18 G18 H locs hp hw hS => ?_)
    obtain ⟨ha18, hO, hf18⟩ := hp
    have hT := isT_fr hT hf18 (by omega)
    have hRd := isRd_fr hRd hf18 (by omega)
    have hD := isV_fr hD hf18 (by omega)
    have hRw := isRw_fr hRw hf18 (by omega)
    have hGs := isGs_fr hGs hf18 (by omega)
    have hCh := isCh_fr hCh hf18 (by omega)
    have hV := isV_fr hV hf18 (by omega)
    have hP0 := isV_fr hP0 hf18 (by omega)
    have hP1 := isV_fr hP1 hf18 (by omega)
    have hfr := fr_tr hfr hf18 (by omega) (by omega)
    have hO : isO Γ G18 co kp (bmp rf 0) := hO
    subst ha18
    exact nr_retI hx hb hr hlocks hw hS (Or.inl ⟨by first | (intro hh; first | exact absurd hh.1 (by assumption) | exact absurd hh.2.1 (by assumption) | exact absurd hh.2.2.1 (by assumption)) | (intro hh; obtain ⟨y1, y2, y3, y4, y5, y6, y7⟩ := hh.2.2.2; exact y7 (by rw [← (nI_eq (by omega) (by omega)).mp y3, ← (nI_eq (by omega) (by omega)).mp y5]; assumption)), rfl, hO, hT, hRd, hD, hRw, hGs, hCh, hV, hP0, hP1, hfr⟩) dX11_rust_48
theorem wl_X11_easters_1 : Cond.constant RX11 255 (999999) ∈ wsX11_easters := List.mem_of_getElem? (i := 1) rfl
theorem wl_X11_easters_2 : Cond.fieldLink RX11 10 "BellForgiven" "now" "LBellForgiven$Valley;" ∈ wsX11_easters := List.mem_of_getElem? (i := 2) rfl
theorem hi_X11_easters_X11 : ∀ w ∈ u_ws RX11 TX11 11, w ∈ wsX11_easters := fun w h => (List.mem_cons_of_mem _ (List.mem_append_left _ (List.mem_append_right _ h)))
set_option maxHeartbeats 4000000 in
set_option maxRecDepth 100000 in
theorem c_X11_easters (l : Launch) (Γ : Gam) (n : Nat) (G : Nat → va_E) (co : Nat) (kp rf by0 tv gv Dv lf vs cv V J0 J1 : Nat → Nat) (hO : isO Γ G co kp rf) (hT : isT Γ G (co + 3) by0 tv) (hRd : isRd Γ G (co + 5) gv) (hD : isV Γ G (co + 7) Dv) (hRw : isRw Γ G (co + 23) lf) (hGs : isGs Γ G (co + 25) vs) (hCh : isCh Γ G (co + 27) cv) (hV : isV Γ G (co + 28) V) (hP0 : isV Γ G (co + 44) J0) (hP1 : isV Γ G (co + 60) J1) (hn_co : co + 76 ≤ n) (hj : winj Γ n) (sd q : Int32) (hG : vG V)  : Met l yX11_easters wsX11_easters ({ frames := 5, cells := 0, slots := 0, locals := 122 }) (va_Pc [.ref (ad Γ (co + 0)), .int sd, .int q] (fun U => hw Γ n G U U.heap)) (wQi Γ n (fun z G2 => ((¬ (vRng 0 999999 sd ∧ vRng 0 60 q)) ∧ (z = -2) ∧ isO Γ G2 co kp (bmp rf 0) ∧ isT Γ G2 (co + 3) by0 tv ∧ isRd Γ G2 (co + 5) gv ∧ isV Γ G2 (co + 7) Dv ∧ isRw Γ G2 (co + 23) lf ∧ isGs Γ G2 (co + 25) vs ∧ isCh Γ G2 (co + 27) cv ∧ isV Γ G2 (co + 28) V ∧ isV Γ G2 (co + 44) J0 ∧ isV Γ G2 (co + 60) J1 ∧ fr G G2 (co + 0) (co + 76)) ∨ (∃ js jq : Nat, (js ≤ 999999) ∧ (sd = nI js) ∧ (jq ≤ 60) ∧ (q = nI jq) ∧ (z = nI (pc8 (V 20 ||| seedG V js jq))) ∧ isO Γ G2 co kp rf ∧ isT Γ G2 (co + 3) by0 tv ∧ isRd Γ G2 (co + 5) gv ∧ isV Γ G2 (co + 7) Dv ∧ isRw Γ G2 (co + 23) lf ∧ isGs Γ G2 (co + 25) vs ∧ isCh Γ G2 (co + 27) cv ∧ isV Γ G2 (co + 28) V ∧ isV Γ G2 (co + 44) J0 ∧ isV Γ G2 (co + 60) J1 ∧ fr G G2 (co + 0) (co + 76)))) 0 0 (wA Γ n) := by
  refine Met.ofW (cc := cX11_easters) (maxL := 3) (ret := (some .int)) (by decide) rfl ?_
  intro p e s m args below meth c s₁ B hml hv
  obtain ⟨rfl, hw⟩ := hv
  have hx := B.exec
  have hb := B.bytes
  have hr := B.returns
  have hts := atoms_spec (ws := wsX11_easters) B.pre
  have hown : s.vm.findClass RX11 = some m.cls := findClass_of_methodNamed B.named
  have hlocks := B.notSynchronized
  have hS : va_S (wA Γ n) s.heap s.heap [] := va_S.rf
  have hA : ∀ q, wA Γ n q → wA Γ n q := fun _ h => h
  have hl := lv_entry ([.ref (ad Γ (co + 0)), .int sd, .int q]) (n := 3) (Nat.le_of_ble_eq_true rfl)
  rw [lg_entry_eq]
  generalize (lg_sl ([.ref (ad Γ (co + 0)), .int sd, .int q]) ++ List.replicate (3 - (lg_sl ([.ref (ad Γ (co + 0)), .int sd, .int q])).length) Slot.unset).toArray = ls at hl ⊢
  have hl : lv_has ls 3 [(0, .ref (ad Γ (co + 0))), (1, .int sd), (2, .int q)] := hl
  have hfr := fr_rf G (co + 0) (co + 76)
  have hI := hG.1
  have hB := hI.1
  have hB0 := hI.2.1
  have hB1 := hI.2.2.1
  have hB20 := hI.2.2.2.2.2.2.2.2.2
  have hBz2 := hI.2.2.2.1
  have hBz3 := hI.2.2.2.2.1
  have hBz4 := hI.2.2.2.2.2.1
  have hBz5 := hI.2.2.2.2.2.2.1
  have hBd := hB 21
  refine lv_iload_n hx hb dX11_easters_0 rfl (lv_at hl 1 rfl) ?_
  refine lv_iconst (v := nI 0) hx hb dX11_easters_1 (by decide) ?_
  refine nr_ldc (k := 999999) hx hb hown (hts _ wl_X11_easters_1) (by decide) dX11_easters_2 ?_
  refine nr_goB (P := (nI 0) ≤ sd ∧ sd ≤ (nI 999999)) (nr_runS (As := [.int sd, .int (nI 0), .int (nI 999999)]) ⟨hx, hb, hml, hown, hts⟩ hw (c_X11_within l Γ n G sd (nI 0) (nI 999999)) (va_cwS 3 hts gX11_easters_X11_within rfl rfl rfl (by decide +kernel) ⟨Nat.le_of_ble_eq_true rfl, Nat.le_of_ble_eq_true rfl⟩) rfl hl.1 rfl (Nat.le_of_ble_eq_true rfl) dX11_easters_4 ⟨Nat.zero_le _, Nat.zero_le _⟩) (fun b1 => ?_) (fun b1 => ?_)
  · obtain ⟨js, hjsa, hjsb, rfl⟩ := (with_c (a := 0) (b := 999999) (by first | decide | omega) (by first | decide | omega)).mp b1
    refine nr_if_eq (tgt := 20) hx hb (by decide) dX11_easters_7 (by decide) (fun c2 => absurd c2 (by decide)) (fun c2 => ?_)
    refine lv_iload_n hx hb dX11_easters_10 rfl (lv_at hl 2 rfl) ?_
    refine lv_iconst (v := nI 0) hx hb dX11_easters_11 (by decide) ?_
    refine lv_bipush (v := nI 60) hx hb dX11_easters_12 (by decide) ?_
    refine nr_goB (P := (nI 0) ≤ q ∧ q ≤ (nI 60)) (nr_runS (As := [.int q, .int (nI 0), .int (nI 60)]) ⟨hx, hb, hml, hown, hts⟩ hw (c_X11_within l Γ n G q (nI 0) (nI 60)) (va_cwS 3 hts gX11_easters_X11_within rfl rfl rfl (by decide +kernel) ⟨Nat.le_of_ble_eq_true rfl, Nat.le_of_ble_eq_true rfl⟩) rfl hl.1 rfl (Nat.le_of_ble_eq_true rfl) dX11_easters_14 ⟨Nat.zero_le _, Nat.zero_le _⟩) (fun b3 => ?_) (fun b3 => ?_)
    · obtain ⟨jq, hjqa, hjqb, rfl⟩ := (with_c (a := 0) (b := 60) (by first | decide | omega) (by first | decide | omega)).mp b3
      refine nr_if_ne (tgt := 25) hx hb (by decide) dX11_easters_17 (by decide) (fun c4 => ?_) (fun c4 => absurd c4 (by decide))
      refine lv_aload_n hx hb dX11_easters_25 rfl (lv_at hl 0 rfl) ?_
      refine nr_get (own := RX11) (C := RX11) (T := TX11) (N := 11) (v := .ref (ad Γ (co + 28))) hx hb hts hi_X11_easters_X11 hown hw (by omega) (isO_0 hO) rfl 0 (by decide) wl_X11_easters_2 rfl rfl dX11_easters_26 ?_
      refine lv_iload_n hx hb dX11_easters_29 rfl (lv_at hl 1 rfl) ?_
      refine lv_iload_n hx hb dX11_easters_30 rfl (lv_at hl 2 rfl) ?_
      refine nr_goS (nr_runS (As := [.ref (ad Γ (co + 28)), .int (nI js), .int (nI jq)]) ⟨hx, hb, hml, hown, hts⟩ hw (c_X8_letOffBySeed l Γ n G (co + 28) V hV (by assumption) (by omega) js jq (by omega) (by omega)) (va_cwS 3 hts gX11_easters_X8_letOffBySeed rfl rfl rfl (by decide +kernel) ⟨Nat.le_of_ble_eq_true rfl, Nat.le_of_ble_eq_true rfl⟩) rfl hl.1 rfl (Nat.le_of_ble_eq_true rfl) dX11_easters_31 ⟨Nat.zero_le _, Nat.zero_le _⟩) (fun r5 hr5 => ?_)
      obtain rfl : r5 = (nI (pc8 (V 20 ||| seedG V js jq))) := hr5
      exact nr_retI hx hb hr hlocks hw hS (Or.inr (⟨js, jq, hjsb, rfl, hjqb, rfl, rfl, hO, hT, hRd, hD, hRw, hGs, hCh, hV, hP0, hP1, hfr⟩)) dX11_easters_34
    · have b3n : ¬ vRng (0) (60) q := fun hh => b3 ((with_c (by first | decide | omega) (by first | decide | omega)).mpr hh)
      refine nr_if_ne (tgt := 25) hx hb (by decide) dX11_easters_17 (by decide) (fun c6 => absurd c6 (by decide)) (fun c6 => ?_)
      refine lv_aload_n hx hb dX11_easters_20 rfl (lv_at hl 0 rfl) ?_
      refine nr_goI (nr_runV (As := []) (C := RX11) (T := TX11) (N := 11) ⟨hx, hb, hml, hown, hts⟩ hw (by omega) (isO_0 hO) rfl (c_X11_bad l Γ n G co kp rf hO (by omega) hj) (cwV 0 hts gX11_easters_X11_bad rfl rfl rfl (by decide +kernel) ⟨Nat.le_of_ble_eq_true rfl, Nat.le_of_ble_eq_true rfl⟩) rfl hl.1 rfl (Nat.le_of_ble_eq_true rfl) dX11_easters_21 ⟨Nat.zero_le _, Nat.zero_le _⟩) hw hA hS (fun z7 G7 H locs hp hw hS => ?_)
      obtain ⟨ha7, hO, hf7⟩ := hp
      have hT := isT_fr hT hf7 (by omega)
      have hRd := isRd_fr hRd hf7 (by omega)
      have hD := isV_fr hD hf7 (by omega)
      have hRw := isRw_fr hRw hf7 (by omega)
      have hGs := isGs_fr hGs hf7 (by omega)
      have hCh := isCh_fr hCh hf7 (by omega)
      have hV := isV_fr hV hf7 (by omega)
      have hP0 := isV_fr hP0 hf7 (by omega)
      have hP1 := isV_fr hP1 hf7 (by omega)
      have hfr := fr_tr hfr hf7 (by omega) (by omega)
      have hO : isO Γ G7 co kp (bmp rf 0) := hO
      subst ha7
      exact nr_retI hx hb hr hlocks hw hS (Or.inl ⟨by intro hh; first | contradiction | (obtain ⟨hq1, hq2⟩ := hh; first | contradiction | (obtain ⟨hq2, hq3⟩ := hq2; first | contradiction | (obtain ⟨hq3, hq4⟩ := hq3; first | contradiction | (obtain ⟨hq4, hq5⟩ := hq4; first | contradiction | (exact hq4 (congrArg nI (by assumption))))))), rfl, hO, hT, hRd, hD, hRw, hGs, hCh, hV, hP0, hP1, hfr⟩) dX11_easters_24
  · have b1n : ¬ vRng (0) (999999) sd := fun hh => b1 ((with_c (by first | decide | omega) (by first | decide | omega)).mpr hh)
    refine nr_if_eq (tgt := 20) hx hb (by decide) dX11_easters_7 (by decide) (fun c8 => ?_) (fun c8 => absurd c8 (by decide))
    refine lv_aload_n hx hb dX11_easters_20 rfl (lv_at hl 0 rfl) ?_
    refine nr_goI (nr_runV (As := []) (C := RX11) (T := TX11) (N := 11) ⟨hx, hb, hml, hown, hts⟩ hw (by omega) (isO_0 hO) rfl (c_X11_bad l Γ n G co kp rf hO (by omega) hj) (cwV 0 hts gX11_easters_X11_bad rfl rfl rfl (by decide +kernel) ⟨Nat.le_of_ble_eq_true rfl, Nat.le_of_ble_eq_true rfl⟩) rfl hl.1 rfl (Nat.le_of_ble_eq_true rfl) dX11_easters_21 ⟨Nat.zero_le _, Nat.zero_le _⟩) hw hA hS (fun z9 G9 H locs hp hw hS => ?_)
    obtain ⟨ha9, hO, hf9⟩ := hp
    have hT := isT_fr hT hf9 (by omega)
    have hRd := isRd_fr hRd hf9 (by omega)
    have hD := isV_fr hD hf9 (by omega)
    have hRw := isRw_fr hRw hf9 (by omega)
    have hGs := isGs_fr hGs hf9 (by omega)
    have hCh := isCh_fr hCh hf9 (by omega)
    have hV := isV_fr hV hf9 (by omega)
    have hP0 := isV_fr hP0 hf9 (by omega)
    have hP1 := isV_fr hP1 hf9 (by omega)
    have hfr := fr_tr hfr hf9 (by omega) (by omega)
    have hO : isO Γ G9 co kp (bmp rf 0) := hO
    subst ha9
    exact nr_retI hx hb hr hlocks hw hS (Or.inl ⟨by intro hh; first | contradiction | (obtain ⟨hq1, hq2⟩ := hh; first | contradiction | (obtain ⟨hq2, hq3⟩ := hq2; first | contradiction | (obtain ⟨hq3, hq4⟩ := hq3; first | contradiction | (obtain ⟨hq4, hq5⟩ := hq4; first | contradiction | (exact hq4 (congrArg nI (by assumption))))))), rfl, hO, hT, hRd, hD, hRw, hGs, hCh, hV, hP0, hP1, hfr⟩) dX11_easters_24
theorem wl_X11_status_1 : Cond.fieldLink RX11 267 "BellForgiven" "refusedBad" "I" ∈ wsX11_status := List.mem_of_getElem? (i := 1) rfl
theorem wl_X11_status_2 : Cond.fieldLink RX11 270 "BellForgiven" "refusedNo" "I" ∈ wsX11_status := List.mem_of_getElem? (i := 2) rfl
theorem wl_X11_status_3 : Cond.fieldLink RX11 273 "BellForgiven" "refusedFull" "I" ∈ wsX11_status := List.mem_of_getElem? (i := 3) rfl
theorem hi_X11_status_X11 : ∀ w ∈ u_ws RX11 TX11 11, w ∈ wsX11_status := fun w h => (List.mem_cons_of_mem _ (List.mem_append_right _ h))
set_option maxHeartbeats 4000000 in
set_option maxRecDepth 100000 in
theorem c_X11_status (l : Launch) (Γ : Gam) (n : Nat) (G : Nat → va_E) (co : Nat) (kp rf by0 tv gv Dv lf vs cv V J0 J1 : Nat → Nat) (hO : isO Γ G co kp rf) (hT : isT Γ G (co + 3) by0 tv) (hRd : isRd Γ G (co + 5) gv) (hD : isV Γ G (co + 7) Dv) (hRw : isRw Γ G (co + 23) lf) (hGs : isGs Γ G (co + 25) vs) (hCh : isCh Γ G (co + 27) cv) (hV : isV Γ G (co + 28) V) (hP0 : isV Γ G (co + 44) J0) (hP1 : isV Γ G (co + 60) J1) (hn_co : co + 76 ≤ n) (hj : winj Γ n) (what : Int32) (hG : vG V)  : Met l yX11_status wsX11_status ({ frames := 1, cells := 0, slots := 0, locals := 20 }) (va_Pc [.ref (ad Γ (co + 0)), .int what] (fun U => hw Γ n G U U.heap)) (wQi Γ n (fun z G2 => ((¬ vRng 0 2 what) ∧ (z = -1) ∧ isO Γ G2 co kp (bmp rf 0) ∧ isT Γ G2 (co + 3) by0 tv ∧ isRd Γ G2 (co + 5) gv ∧ isV Γ G2 (co + 7) Dv ∧ isRw Γ G2 (co + 23) lf ∧ isGs Γ G2 (co + 25) vs ∧ isCh Γ G2 (co + 27) cv ∧ isV Γ G2 (co + 28) V ∧ isV Γ G2 (co + 44) J0 ∧ isV Γ G2 (co + 60) J1 ∧ fr G G2 (co + 0) (co + 76)) ∨ (∃ jw : Nat, (jw ≤ 2) ∧ (what = nI jw) ∧ (z = nI (rf jw)) ∧ isO Γ G2 co kp rf ∧ isT Γ G2 (co + 3) by0 tv ∧ isRd Γ G2 (co + 5) gv ∧ isV Γ G2 (co + 7) Dv ∧ isRw Γ G2 (co + 23) lf ∧ isGs Γ G2 (co + 25) vs ∧ isCh Γ G2 (co + 27) cv ∧ isV Γ G2 (co + 28) V ∧ isV Γ G2 (co + 44) J0 ∧ isV Γ G2 (co + 60) J1 ∧ fr G G2 (co + 0) (co + 76)))) 0 0 (wA Γ n) := by
  refine Met.ofW (cc := cX11_status) (maxL := 2) (ret := (some .int)) (by decide) rfl ?_
  intro p e s m args below meth c s₁ B hml hv
  obtain ⟨rfl, hw⟩ := hv
  have hx := B.exec
  have hb := B.bytes
  have hr := B.returns
  have hts := atoms_spec (ws := wsX11_status) B.pre
  have hown : s.vm.findClass RX11 = some m.cls := findClass_of_methodNamed B.named
  have hlocks := B.notSynchronized
  have hS : va_S (wA Γ n) s.heap s.heap [] := va_S.rf
  have hA : ∀ q, wA Γ n q → wA Γ n q := fun _ h => h
  have hl := lv_entry ([.ref (ad Γ (co + 0)), .int what]) (n := 2) (Nat.le_of_ble_eq_true rfl)
  rw [lg_entry_eq]
  generalize (lg_sl ([.ref (ad Γ (co + 0)), .int what]) ++ List.replicate (2 - (lg_sl ([.ref (ad Γ (co + 0)), .int what])).length) Slot.unset).toArray = ls at hl ⊢
  have hl : lv_has ls 2 [(0, .ref (ad Γ (co + 0))), (1, .int what)] := hl
  have hfr := fr_rf G (co + 0) (co + 76)
  have hI := hG.1
  have hB := hI.1
  have hB0 := hI.2.1
  have hB1 := hI.2.2.1
  have hB20 := hI.2.2.2.2.2.2.2.2.2
  have hBz2 := hI.2.2.2.1
  have hBz3 := hI.2.2.2.2.1
  have hBz4 := hI.2.2.2.2.2.1
  have hBz5 := hI.2.2.2.2.2.2.1
  have hBd := hB 21
  refine lv_iload_n hx hb dX11_status_0 rfl (lv_at hl 1 rfl) ?_
  by_cases hwz : vRng 0 2 what
  · obtain ⟨jw, hjwa, hjwb, rfl⟩ := hwz
    rcases (show jw = 0 ∨ jw = 1 ∨ jw = 2 by omega) with c1 | c1 | c1
    · refine nr_tabIn (j := 0) (tgt := 28) hx hb (by omega) c1 dX11_status_1 (by decide) (by decide) rfl (by decide) ?_
      refine lv_aload_n hx hb dX11_status_28 rfl (lv_at hl 0 rfl) ?_
      refine nr_get (own := RX11) (C := RX11) (T := TX11) (N := 11) (v := .int (nI (rf 0))) hx hb hts hi_X11_status_X11 hown hw (by omega) (isO_0 hO) rfl 8 (by decide) wl_X11_status_1 rfl rfl dX11_status_29 ?_
      have hz9 : nI (rf 0) = nI (rf jw) := by rw [show jw = 0 by omega]
      exact nr_retI hx hb hr hlocks hw hS (Or.inr (⟨jw, hjwb, rfl, by assumption, hO, hT, hRd, hD, hRw, hGs, hCh, hV, hP0, hP1, hfr⟩)) dX11_status_32
    · refine nr_tabIn (j := 1) (tgt := 33) hx hb (by omega) c1 dX11_status_1 (by decide) (by decide) rfl (by decide) ?_
      refine lv_aload_n hx hb dX11_status_33 rfl (lv_at hl 0 rfl) ?_
      refine nr_get (own := RX11) (C := RX11) (T := TX11) (N := 11) (v := .int (nI (rf 1))) hx hb hts hi_X11_status_X11 hown hw (by omega) (isO_0 hO) rfl 9 (by decide) wl_X11_status_2 rfl rfl dX11_status_34 ?_
      have hz9 : nI (rf 1) = nI (rf jw) := by rw [show jw = 1 by omega]
      exact nr_retI hx hb hr hlocks hw hS (Or.inr (⟨jw, hjwb, rfl, by assumption, hO, hT, hRd, hD, hRw, hGs, hCh, hV, hP0, hP1, hfr⟩)) dX11_status_37
    · refine nr_tabIn (j := 2) (tgt := 38) hx hb (by omega) c1 dX11_status_1 (by decide) (by decide) rfl (by decide) ?_
      refine lv_aload_n hx hb dX11_status_38 rfl (lv_at hl 0 rfl) ?_
      refine nr_get (own := RX11) (C := RX11) (T := TX11) (N := 11) (v := .int (nI (rf 2))) hx hb hts hi_X11_status_X11 hown hw (by omega) (isO_0 hO) rfl 10 (by decide) wl_X11_status_3 rfl rfl dX11_status_39 ?_
      have hz9 : nI (rf 2) = nI (rf jw) := by rw [show jw = 2 by omega]
      exact nr_retI hx hb hr hlocks hw hS (Or.inr (⟨jw, hjwb, rfl, by assumption, hO, hT, hRd, hD, hRw, hGs, hCh, hV, hP0, hP1, hfr⟩)) dX11_status_42
  · refine lv_tableOut (tgt := 43) hx hb dX11_status_1 (vn_out (by decide) hwz) (by decide) ?_
    refine lv_aload_n hx hb dX11_status_43 rfl (lv_at hl 0 rfl) ?_
    refine nr_goI (nr_runV (As := []) (C := RX11) (T := TX11) (N := 11) ⟨hx, hb, hml, hown, hts⟩ hw (by omega) (isO_0 hO) rfl (c_X11_bad l Γ n G co kp rf hO (by omega) hj) (cwV 0 hts gX11_status_X11_bad rfl rfl rfl (by decide +kernel) ⟨Nat.le_of_ble_eq_true rfl, Nat.le_of_ble_eq_true rfl⟩) rfl hl.1 rfl (Nat.le_of_ble_eq_true rfl) dX11_status_44 ⟨Nat.zero_le _, Nat.zero_le _⟩) hw hA hS (fun z2 G2 H locs hp hw hS => ?_)
    obtain ⟨ha2, hO, hf2⟩ := hp
    have hT := isT_fr hT hf2 (by omega)
    have hRd := isRd_fr hRd hf2 (by omega)
    have hD := isV_fr hD hf2 (by omega)
    have hRw := isRw_fr hRw hf2 (by omega)
    have hGs := isGs_fr hGs hf2 (by omega)
    have hCh := isCh_fr hCh hf2 (by omega)
    have hV := isV_fr hV hf2 (by omega)
    have hP0 := isV_fr hP0 hf2 (by omega)
    have hP1 := isV_fr hP1 hf2 (by omega)
    have hfr := fr_tr hfr hf2 (by omega) (by omega)
    have hO : isO Γ G2 co kp (bmp rf 0) := hO
    subst ha2
    refine lv_pop hx hb dX11_status_47 rfl ?_
    refine lv_iconst (v := (-1)) hx hb dX11_status_48 (by decide) ?_
    exact nr_retI hx hb hr hlocks hw hS (Or.inl ⟨by assumption, rfl, hO, hT, hRd, hD, hRw, hGs, hCh, hV, hP0, hP1, hfr⟩) dX11_status_49
set_option maxHeartbeats 4000000 in
set_option maxRecDepth 100000 in
theorem c_X11_count (l : Launch) (Γ : Gam) (n : Nat) (G : Nat → va_E) (co : Nat) (kp rf by0 tv gv Dv lf vs cv V J0 J1 : Nat → Nat) (hO : isO Γ G co kp rf) (hT : isT Γ G (co + 3) by0 tv) (hRd : isRd Γ G (co + 5) gv) (hD : isV Γ G (co + 7) Dv) (hRw : isRw Γ G (co + 23) lf) (hGs : isGs Γ G (co + 25) vs) (hCh : isCh Γ G (co + 27) cv) (hV : isV Γ G (co + 28) V) (hP0 : isV Γ G (co + 44) J0) (hP1 : isV Γ G (co + 60) J1) (hn_co : co + 76 ≤ n) (hj : winj Γ n) (what : Int32) (hG : vG V)  : Met l yX11_count wsX11_count ({ frames := 4, cells := 0, slots := 0, locals := 86 }) (va_Pc [.ref (ad Γ (co + 0)), .int what] (fun U => hw Γ n G U U.heap)) (wQi Γ n (fun z G2 => ((¬ vRng 0 10 what) ∧ (z = -2) ∧ isO Γ G2 co kp (bmp rf 0) ∧ isT Γ G2 (co + 3) by0 tv ∧ isRd Γ G2 (co + 5) gv ∧ isV Γ G2 (co + 7) Dv ∧ isRw Γ G2 (co + 23) lf ∧ isGs Γ G2 (co + 25) vs ∧ isCh Γ G2 (co + 27) cv ∧ isV Γ G2 (co + 28) V ∧ isV Γ G2 (co + 44) J0 ∧ isV Γ G2 (co + 60) J1 ∧ fr G G2 (co + 0) (co + 76)) ∨ (∃ jw : Nat, (jw ≤ 10) ∧ (what = nI jw) ∧ (z = nI (tlyC V tv jw)) ∧ isO Γ G2 co kp rf ∧ isT Γ G2 (co + 3) by0 tv ∧ isRd Γ G2 (co + 5) gv ∧ isV Γ G2 (co + 7) Dv ∧ isRw Γ G2 (co + 23) lf ∧ isGs Γ G2 (co + 25) vs ∧ isCh Γ G2 (co + 27) cv ∧ isV Γ G2 (co + 28) V ∧ isV Γ G2 (co + 44) J0 ∧ isV Γ G2 (co + 60) J1 ∧ fr G G2 (co + 0) (co + 76)))) 0 0 (wA Γ n) := by
  refine Met.ofW (cc := cX11_count) (maxL := 2) (ret := (some .int)) (by decide) rfl ?_
  intro p e s m args below meth c s₁ B hml hv
  obtain ⟨rfl, hw⟩ := hv
  have hx := B.exec
  have hb := B.bytes
  have hr := B.returns
  have hts := atoms_spec (ws := wsX11_count) B.pre
  have hown : s.vm.findClass RX11 = some m.cls := findClass_of_methodNamed B.named
  have hlocks := B.notSynchronized
  have hS : va_S (wA Γ n) s.heap s.heap [] := va_S.rf
  have hA : ∀ q, wA Γ n q → wA Γ n q := fun _ h => h
  have hl := lv_entry ([.ref (ad Γ (co + 0)), .int what]) (n := 2) (Nat.le_of_ble_eq_true rfl)
  rw [lg_entry_eq]
  generalize (lg_sl ([.ref (ad Γ (co + 0)), .int what]) ++ List.replicate (2 - (lg_sl ([.ref (ad Γ (co + 0)), .int what])).length) Slot.unset).toArray = ls at hl ⊢
  have hl : lv_has ls 2 [(0, .ref (ad Γ (co + 0))), (1, .int what)] := hl
  have hfr := fr_rf G (co + 0) (co + 76)
  have hI := hG.1
  have hB := hI.1
  have hB0 := hI.2.1
  have hB1 := hI.2.2.1
  have hB20 := hI.2.2.2.2.2.2.2.2.2
  have hBz2 := hI.2.2.2.1
  have hBz3 := hI.2.2.2.2.1
  have hBz4 := hI.2.2.2.2.2.1
  have hBz5 := hI.2.2.2.2.2.2.1
  have hBd := hB 21
  refine lv_iload_n hx hb dX11_count_0 rfl (lv_at hl 1 rfl) ?_
  refine lv_iconst (v := nI 0) hx hb dX11_count_1 (by decide) ?_
  refine lv_bipush (v := nI 10) hx hb dX11_count_2 (by decide) ?_
  refine nr_goB (P := (nI 0) ≤ what ∧ what ≤ (nI 10)) (nr_runS (As := [.int what, .int (nI 0), .int (nI 10)]) ⟨hx, hb, hml, hown, hts⟩ hw (c_X11_within l Γ n G what (nI 0) (nI 10)) (va_cwS 3 hts gX11_count_X11_within rfl rfl rfl (by decide +kernel) ⟨Nat.le_of_ble_eq_true rfl, Nat.le_of_ble_eq_true rfl⟩) rfl hl.1 rfl (Nat.le_of_ble_eq_true rfl) dX11_count_4 ⟨Nat.zero_le _, Nat.zero_le _⟩) (fun b1 => ?_) (fun b1 => ?_)
  · obtain ⟨jw, hjwa, hjwb, rfl⟩ := (with_c (a := 0) (b := 10) (by first | decide | omega) (by first | decide | omega)).mp b1
    refine nr_if_eq (tgt := 18) hx hb (by decide) dX11_count_7 (by decide) (fun c2 => absurd c2 (by decide)) (fun c2 => ?_)
    refine lv_aload_n hx hb dX11_count_10 rfl (lv_at hl 0 rfl) ?_
    refine lv_iload_n hx hb dX11_count_11 rfl (lv_at hl 1 rfl) ?_
    refine nr_goS (nr_runV (As := [.int (nI jw)]) (C := RX11) (T := TX11) (N := 11) ⟨hx, hb, hml, hown, hts⟩ hw (by omega) (isO_0 hO) rfl (c_X11_tally l Γ n G co kp rf by0 tv V hO hT hV (by omega) jw (by first | assumption | omega) (by first | assumption | omega)) (cwV 1 hts gX11_count_X11_tally rfl rfl rfl (by decide +kernel) ⟨Nat.le_of_ble_eq_true rfl, Nat.le_of_ble_eq_true rfl⟩) rfl hl.1 rfl (Nat.le_of_ble_eq_true rfl) dX11_count_12 ⟨Nat.zero_le _, Nat.zero_le _⟩) (fun r3 hr3 => ?_)
    obtain rfl : r3 = (nI (tlyC V tv jw)) := hr3
    refine lv_goto (tgt := 22) hx hb dX11_count_15 (by decide) ?_
    exact nr_retI hx hb hr hlocks hw hS (Or.inr (⟨jw, hjwb, rfl, rfl, hO, hT, hRd, hD, hRw, hGs, hCh, hV, hP0, hP1, hfr⟩)) dX11_count_22
  · have b1n : ¬ vRng (0) (10) what := fun hh => b1 ((with_c (by first | decide | omega) (by first | decide | omega)).mpr hh)
    refine nr_if_eq (tgt := 18) hx hb (by decide) dX11_count_7 (by decide) (fun c4 => ?_) (fun c4 => absurd c4 (by decide))
    refine lv_aload_n hx hb dX11_count_18 rfl (lv_at hl 0 rfl) ?_
    refine nr_goI (nr_runV (As := []) (C := RX11) (T := TX11) (N := 11) ⟨hx, hb, hml, hown, hts⟩ hw (by omega) (isO_0 hO) rfl (c_X11_bad l Γ n G co kp rf hO (by omega) hj) (cwV 0 hts gX11_count_X11_bad rfl rfl rfl (by decide +kernel) ⟨Nat.le_of_ble_eq_true rfl, Nat.le_of_ble_eq_true rfl⟩) rfl hl.1 rfl (Nat.le_of_ble_eq_true rfl) dX11_count_19 ⟨Nat.zero_le _, Nat.zero_le _⟩) hw hA hS (fun z5 G5 H locs hp hw hS => ?_)
    obtain ⟨ha5, hO, hf5⟩ := hp
    have hT := isT_fr hT hf5 (by omega)
    have hRd := isRd_fr hRd hf5 (by omega)
    have hD := isV_fr hD hf5 (by omega)
    have hRw := isRw_fr hRw hf5 (by omega)
    have hGs := isGs_fr hGs hf5 (by omega)
    have hCh := isCh_fr hCh hf5 (by omega)
    have hV := isV_fr hV hf5 (by omega)
    have hP0 := isV_fr hP0 hf5 (by omega)
    have hP1 := isV_fr hP1 hf5 (by omega)
    have hfr := fr_tr hfr hf5 (by omega) (by omega)
    have hO : isO Γ G5 co kp (bmp rf 0) := hO
    subst ha5
    exact nr_retI hx hb hr hlocks hw hS (Or.inl ⟨by assumption, rfl, hO, hT, hRd, hD, hRw, hGs, hCh, hV, hP0, hP1, hfr⟩) dX11_count_22
theorem wl_X11_part_1 : Cond.fieldLink RX11 55 "BellForgiven" "chance" "LBellForgiven$Chance;" ∈ wsX11_part := List.mem_of_getElem? (i := 1) rfl
theorem wl_X11_part_2 : Cond.fieldLink RX11 260 "BellForgiven$Chance" "above" "J" ∈ wsX11_part := List.mem_of_getElem? (i := 2) rfl
theorem wl_X11_part_3 : Cond.fieldLink RX11 264 "BellForgiven$Chance" "below" "J" ∈ wsX11_part := List.mem_of_getElem? (i := 3) rfl
theorem hi_X11_part_X11 : ∀ w ∈ u_ws RX11 TX11 11, w ∈ wsX11_part := fun w h => (List.mem_cons_of_mem _ (List.mem_append_left _ (List.mem_append_right _ h)))
theorem hi_X11_part_X0 : ∀ w ∈ u_ws RX0 TX0 2, w ∈ wsX11_part := fun w h => (List.mem_cons_of_mem _ (List.mem_append_right _ h))
set_option maxHeartbeats 4000000 in
set_option maxRecDepth 100000 in
theorem c_X11_part (l : Launch) (Γ : Gam) (n : Nat) (G : Nat → va_E) (co : Nat) (kp rf by0 tv gv Dv lf vs cv V J0 J1 : Nat → Nat) (hO : isO Γ G co kp rf) (hT : isT Γ G (co + 3) by0 tv) (hRd : isRd Γ G (co + 5) gv) (hD : isV Γ G (co + 7) Dv) (hRw : isRw Γ G (co + 23) lf) (hGs : isGs Γ G (co + 25) vs) (hCh : isCh Γ G (co + 27) cv) (hV : isV Γ G (co + 28) V) (hP0 : isV Γ G (co + 44) J0) (hP1 : isV Γ G (co + 60) J1) (hn_co : co + 76 ≤ n) (hj : winj Γ n) (what : Int32) (hG : vG V)  : Met l yX11_part wsX11_part ({ frames := 1, cells := 0, slots := 0, locals := 20 }) (va_Pc [.ref (ad Γ (co + 0)), .int what] (fun U => hw Γ n G U U.heap)) (wQl Γ n (fun z G2 => ((¬ what = 0) ∧ (¬ what = nI 1) ∧ (z = (-2 : Int32).toInt64) ∧ isO Γ G2 co kp (bmp rf 0) ∧ isT Γ G2 (co + 3) by0 tv ∧ isRd Γ G2 (co + 5) gv ∧ isV Γ G2 (co + 7) Dv ∧ isRw Γ G2 (co + 23) lf ∧ isGs Γ G2 (co + 25) vs ∧ isCh Γ G2 (co + 27) cv ∧ isV Γ G2 (co + 28) V ∧ isV Γ G2 (co + 44) J0 ∧ isV Γ G2 (co + 60) J1 ∧ fr G G2 (co + 0) (co + 76)) ∨ (((what = 0 ∧ z = lN (cv 0)) ∨ (what = nI 1 ∧ z = lN (cv 1))) ∧ isO Γ G2 co kp rf ∧ isT Γ G2 (co + 3) by0 tv ∧ isRd Γ G2 (co + 5) gv ∧ isV Γ G2 (co + 7) Dv ∧ isRw Γ G2 (co + 23) lf ∧ isGs Γ G2 (co + 25) vs ∧ isCh Γ G2 (co + 27) cv ∧ isV Γ G2 (co + 28) V ∧ isV Γ G2 (co + 44) J0 ∧ isV Γ G2 (co + 60) J1 ∧ fr G G2 (co + 0) (co + 76)))) 0 0 (wA Γ n) := by
  refine Met.ofW (cc := cX11_part) (maxL := 2) (ret := (some .long)) (by decide) rfl ?_
  intro p e s m args below meth c s₁ B hml hv
  obtain ⟨rfl, hw⟩ := hv
  have hx := B.exec
  have hb := B.bytes
  have hr := B.returns
  have hts := atoms_spec (ws := wsX11_part) B.pre
  have hown : s.vm.findClass RX11 = some m.cls := findClass_of_methodNamed B.named
  have hlocks := B.notSynchronized
  have hS : va_S (wA Γ n) s.heap s.heap [] := va_S.rf
  have hA : ∀ q, wA Γ n q → wA Γ n q := fun _ h => h
  have hl := lv_entry ([.ref (ad Γ (co + 0)), .int what]) (n := 2) (Nat.le_of_ble_eq_true rfl)
  rw [lg_entry_eq]
  generalize (lg_sl ([.ref (ad Γ (co + 0)), .int what]) ++ List.replicate (2 - (lg_sl ([.ref (ad Γ (co + 0)), .int what])).length) Slot.unset).toArray = ls at hl ⊢
  have hl : lv_has ls 2 [(0, .ref (ad Γ (co + 0))), (1, .int what)] := hl
  have hfr := fr_rf G (co + 0) (co + 76)
  have hI := hG.1
  have hB := hI.1
  have hB0 := hI.2.1
  have hB1 := hI.2.2.1
  have hB20 := hI.2.2.2.2.2.2.2.2.2
  have hBz2 := hI.2.2.2.1
  have hBz3 := hI.2.2.2.2.1
  have hBz4 := hI.2.2.2.2.2.1
  have hBz5 := hI.2.2.2.2.2.2.1
  have hBd := hB 21
  refine lv_iload_n hx hb dX11_part_0 rfl (lv_at hl 1 rfl) ?_
  by_cases hz0 : what = 0
  · subst hz0
    refine lv_lookup (off := 27) (tgt := 28) hx hb dX11_part_1 (by decide) (by decide) (by decide) ?_
    refine lv_aload_n hx hb dX11_part_28 rfl (lv_at hl 0 rfl) ?_
    refine nr_get (own := RX11) (C := RX11) (T := TX11) (N := 11) (v := .ref (ad Γ (co + 27))) hx hb hts hi_X11_part_X11 hown hw (by omega) (isO_0 hO) rfl 7 (by decide) wl_X11_part_1 rfl rfl dX11_part_29 ?_
    refine nr_get (own := RX11) (C := RX0) (T := TX0) (N := 2) (v := .long (lN (cv 0))) hx hb hts hi_X11_part_X0 hown hw (by omega) (isCh_0 hCh) rfl 0 (by decide) wl_X11_part_2 rfl rfl dX11_part_32 ?_
    exact nr_retIL hx hb hr hlocks hw hS (Or.inr (⟨Or.inl ⟨rfl, rfl⟩, hO, hT, hRd, hD, hRw, hGs, hCh, hV, hP0, hP1, hfr⟩)) dX11_part_35
  · by_cases hz1 : what = nI 1
    · subst hz1
      refine lv_lookup (off := 35) (tgt := 36) hx hb dX11_part_1 (by decide) (by decide) (by decide) ?_
      refine lv_aload_n hx hb dX11_part_36 rfl (lv_at hl 0 rfl) ?_
      refine nr_get (own := RX11) (C := RX11) (T := TX11) (N := 11) (v := .ref (ad Γ (co + 27))) hx hb hts hi_X11_part_X11 hown hw (by omega) (isO_0 hO) rfl 7 (by decide) wl_X11_part_1 rfl rfl dX11_part_37 ?_
      refine nr_get (own := RX11) (C := RX0) (T := TX0) (N := 2) (v := .long (lN (cv 1))) hx hb hts hi_X11_part_X0 hown hw (by omega) (isCh_0 hCh) rfl 1 (by decide) wl_X11_part_3 rfl rfl dX11_part_40 ?_
      exact nr_retIL hx hb hr hlocks hw hS (Or.inr (⟨Or.inr ⟨rfl, rfl⟩, hO, hT, hRd, hD, hRw, hGs, hCh, hV, hP0, hP1, hfr⟩)) dX11_part_43
    · refine lv_lookup (off := 43) (tgt := 44) hx hb dX11_part_1 (by decide) (lk_dflt hz0 hz1) (by decide) ?_
      refine lv_aload_n hx hb dX11_part_44 rfl (lv_at hl 0 rfl) ?_
      refine nr_goI (nr_runV (As := []) (C := RX11) (T := TX11) (N := 11) ⟨hx, hb, hml, hown, hts⟩ hw (by omega) (isO_0 hO) rfl (c_X11_bad l Γ n G co kp rf hO (by omega) hj) (cwV 0 hts gX11_part_X11_bad rfl rfl rfl (by decide +kernel) ⟨Nat.le_of_ble_eq_true rfl, Nat.le_of_ble_eq_true rfl⟩) rfl hl.1 rfl (Nat.le_of_ble_eq_true rfl) dX11_part_45 ⟨Nat.zero_le _, Nat.zero_le _⟩) hw hA hS (fun z1 G1 H locs hp hw hS => ?_)
      obtain ⟨ha1, hO, hf1⟩ := hp
      have hT := isT_fr hT hf1 (by omega)
      have hRd := isRd_fr hRd hf1 (by omega)
      have hD := isV_fr hD hf1 (by omega)
      have hRw := isRw_fr hRw hf1 (by omega)
      have hGs := isGs_fr hGs hf1 (by omega)
      have hCh := isCh_fr hCh hf1 (by omega)
      have hV := isV_fr hV hf1 (by omega)
      have hP0 := isV_fr hP0 hf1 (by omega)
      have hP1 := isV_fr hP1 hf1 (by omega)
      have hfr := fr_tr hfr hf1 (by omega) (by omega)
      have hO : isO Γ G1 co kp (bmp rf 0) := hO
      subst ha1
      refine lv_i2l (v := ((-2)).toInt64) hx hb dX11_part_48 rfl ?_
      exact nr_retIL hx hb hr hlocks hw hS (Or.inl ⟨hz0, hz1, rfl, hO, hT, hRd, hD, hRw, hGs, hCh, hV, hP0, hP1, hfr⟩) dX11_part_49
theorem wl_X11_image_1 : Cond.fieldLink RX11 16 "BellForgiven" "images" "[LBellForgiven$Valley;" ∈ wsX11_image := List.mem_of_getElem? (i := 1) rfl
theorem wl_X11_image_2 : Cond.fieldLink RX11 10 "BellForgiven" "now" "LBellForgiven$Valley;" ∈ wsX11_image := List.mem_of_getElem? (i := 2) rfl
theorem wl_X11_image_3 : Cond.fieldLink RX11 20 "BellForgiven" "kept" "[Z" ∈ wsX11_image := List.mem_of_getElem? (i := 3) rfl
theorem hi_X11_image_X11 : ∀ w ∈ u_ws RX11 TX11 11, w ∈ wsX11_image := fun w h => (List.mem_cons_of_mem _ (List.mem_append_left _ (List.mem_append_left _ (List.mem_append_left _ (List.mem_append_right _ h)))))
set_option maxHeartbeats 4000000 in
set_option maxRecDepth 100000 in
theorem c_X11_image (l : Launch) (Γ : Gam) (n : Nat) (G : Nat → va_E) (co : Nat) (kp rf by0 tv gv Dv lf vs cv V J0 J1 : Nat → Nat) (hO : isO Γ G co kp rf) (hT : isT Γ G (co + 3) by0 tv) (hRd : isRd Γ G (co + 5) gv) (hD : isV Γ G (co + 7) Dv) (hRw : isRw Γ G (co + 23) lf) (hGs : isGs Γ G (co + 25) vs) (hCh : isCh Γ G (co + 27) cv) (hV : isV Γ G (co + 28) V) (hP0 : isV Γ G (co + 44) J0) (hP1 : isV Γ G (co + 60) J1) (hn_co : co + 76 ≤ n) (hj : winj Γ n) (i : Int32) (hG : vG V)  : Met l yX11_image wsX11_image ({ frames := 3, cells := 0, slots := 0, locals := 68 }) (va_Pc [.ref (ad Γ (co + 0)), .int i] (fun U => hw Γ n G U U.heap)) (wQi Γ n (fun z G2 => ((¬ vRng 0 1 i) ∧ (z = -2) ∧ isO Γ G2 co kp (bmp rf 0) ∧ isT Γ G2 (co + 3) by0 tv ∧ isRd Γ G2 (co + 5) gv ∧ isV Γ G2 (co + 7) Dv ∧ isRw Γ G2 (co + 23) lf ∧ isGs Γ G2 (co + 25) vs ∧ isCh Γ G2 (co + 27) cv ∧ isV Γ G2 (co + 28) V ∧ isV Γ G2 (co + 44) J0 ∧ isV Γ G2 (co + 60) J1 ∧ fr G G2 (co + 0) (co + 76)) ∨ ((i = nI 0) ∧ (z = nI 1) ∧ isO Γ G2 co (va_up kp 0 1) rf ∧ isT Γ G2 (co + 3) by0 tv ∧ isRd Γ G2 (co + 5) gv ∧ isV Γ G2 (co + 7) Dv ∧ isRw Γ G2 (co + 23) lf ∧ isGs Γ G2 (co + 25) vs ∧ isCh Γ G2 (co + 27) cv ∧ isV Γ G2 (co + 28) V ∧ isV Γ G2 (co + 44) V ∧ isV Γ G2 (co + 60) J1 ∧ fr G G2 (co + 0) (co + 76)) ∨ ((i = nI 1) ∧ (z = nI 1) ∧ isO Γ G2 co (va_up kp 1 1) rf ∧ isT Γ G2 (co + 3) by0 tv ∧ isRd Γ G2 (co + 5) gv ∧ isV Γ G2 (co + 7) Dv ∧ isRw Γ G2 (co + 23) lf ∧ isGs Γ G2 (co + 25) vs ∧ isCh Γ G2 (co + 27) cv ∧ isV Γ G2 (co + 28) V ∧ isV Γ G2 (co + 44) J0 ∧ isV Γ G2 (co + 60) V ∧ fr G G2 (co + 0) (co + 76)))) 0 0 (wA Γ n) := by
  refine Met.ofW (cc := cX11_image) (maxL := 2) (ret := (some .int)) (by decide) rfl ?_
  intro p e s m args below meth c s₁ B hml hv
  obtain ⟨rfl, hw⟩ := hv
  have hx := B.exec
  have hb := B.bytes
  have hr := B.returns
  have hts := atoms_spec (ws := wsX11_image) B.pre
  have hown : s.vm.findClass RX11 = some m.cls := findClass_of_methodNamed B.named
  have hlocks := B.notSynchronized
  have hS : va_S (wA Γ n) s.heap s.heap [] := va_S.rf
  have hA : ∀ q, wA Γ n q → wA Γ n q := fun _ h => h
  have hl := lv_entry ([.ref (ad Γ (co + 0)), .int i]) (n := 2) (Nat.le_of_ble_eq_true rfl)
  rw [lg_entry_eq]
  generalize (lg_sl ([.ref (ad Γ (co + 0)), .int i]) ++ List.replicate (2 - (lg_sl ([.ref (ad Γ (co + 0)), .int i])).length) Slot.unset).toArray = ls at hl ⊢
  have hl : lv_has ls 2 [(0, .ref (ad Γ (co + 0))), (1, .int i)] := hl
  have hfr := fr_rf G (co + 0) (co + 76)
  have hI := hG.1
  have hB := hI.1
  have hB0 := hI.2.1
  have hB1 := hI.2.2.1
  have hB20 := hI.2.2.2.2.2.2.2.2.2
  have hBz2 := hI.2.2.2.1
  have hBz3 := hI.2.2.2.2.1
  have hBz4 := hI.2.2.2.2.2.1
  have hBz5 := hI.2.2.2.2.2.2.1
  have hBd := hB 21
  refine lv_iload_n hx hb dX11_image_0 rfl (lv_at hl 1 rfl) ?_
  refine lv_iconst (v := nI 0) hx hb dX11_image_1 (by decide) ?_
  refine lv_iconst (v := nI 1) hx hb dX11_image_2 (by decide) ?_
  refine nr_goB (P := (nI 0) ≤ i ∧ i ≤ (nI 1)) (nr_runS (As := [.int i, .int (nI 0), .int (nI 1)]) ⟨hx, hb, hml, hown, hts⟩ hw (c_X11_within l Γ n G i (nI 0) (nI 1)) (va_cwS 3 hts gX11_image_X11_within rfl rfl rfl (by decide +kernel) ⟨Nat.le_of_ble_eq_true rfl, Nat.le_of_ble_eq_true rfl⟩) rfl hl.1 rfl (Nat.le_of_ble_eq_true rfl) dX11_image_3 ⟨Nat.zero_le _, Nat.zero_le _⟩) (fun b1 => ?_) (fun b1 => ?_)
  · obtain ⟨ji, hjia, hjib, rfl⟩ := (with_c (a := 0) (b := 1) (by first | decide | omega) (by first | decide | omega)).mp b1
    refine nr_if_ne (tgt := 14) hx hb (by decide) dX11_image_6 (by decide) (fun c2 => ?_) (fun c2 => absurd c2 (by decide))
    rcases (show ji = 0 ∨ ji = 1 by omega) with rfl | rfl
    · refine lv_aload_n hx hb dX11_image_14 rfl (lv_at hl 0 rfl) ?_
      refine nr_get (own := RX11) (C := RX11) (T := TX11) (N := 11) (v := .ref (ad Γ (co + 1))) hx hb hts hi_X11_image_X11 hown hw (by omega) (isO_0 hO) rfl 1 (by decide) wl_X11_image_1 rfl rfl dX11_image_15 ?_
      refine lv_iload_n hx hb dX11_image_18 rfl (lv_at hl 1 rfl) ?_
      refine nr_aldq (x := ad Γ (co + 44)) hx hb hw (by omega) (isO_1 hO) rfl (by decide) (by decide) dX11_image_19 ?_
      refine lv_aload_n hx hb dX11_image_20 rfl (lv_at hl 0 rfl) ?_
      refine nr_get (own := RX11) (C := RX11) (T := TX11) (N := 11) (v := .ref (ad Γ (co + 28))) hx hb hts hi_X11_image_X11 hown hw (by omega) (isO_0 hO) rfl 0 (by decide) wl_X11_image_2 rfl rfl dX11_image_21 ?_
      refine nr_goV (nr_runV (As := [.ref (ad Γ (co + 28))]) (C := RX10) (T := TX10) (N := 15) ⟨hx, hb, hml, hown, hts⟩ hw (by omega) (isV_0 hP0) rfl (c_X10_take l Γ n G (co + 44) (co + 28) J0 V hP0 hV (by omega) (by omega) hj (by first | assumption | omega)) (cwV 1 hts gX11_image_X10_take rfl rfl rfl (by decide +kernel) ⟨Nat.le_of_ble_eq_true rfl, Nat.le_of_ble_eq_true rfl⟩) rfl hl.1 rfl (Nat.le_of_ble_eq_true rfl) dX11_image_24 ⟨Nat.zero_le _, Nat.zero_le _⟩) hw hA hS (fun G3 H locs hp hw hS => ?_)
      obtain ⟨hP0, hf3⟩ := hp
      have hO := isO_fr hO hf3 (by omega)
      have hT := isT_fr hT hf3 (by omega)
      have hRd := isRd_fr hRd hf3 (by omega)
      have hD := isV_fr hD hf3 (by omega)
      have hRw := isRw_fr hRw hf3 (by omega)
      have hGs := isGs_fr hGs hf3 (by omega)
      have hCh := isCh_fr hCh hf3 (by omega)
      have hV := isV_fr hV hf3 (by omega)
      have hP1 := isV_fr hP1 hf3 (by omega)
      have hfr := fr_tr hfr hf3 (by omega) (by omega)
      have hP0 : isV Γ G3 (co + 44) V := hP0
      refine lv_aload_n hx hb dX11_image_27 rfl (lv_at hl 0 rfl) ?_
      refine nr_get (own := RX11) (C := RX11) (T := TX11) (N := 11) (v := .ref (ad Γ (co + 2))) hx hb hts hi_X11_image_X11 hown hw (by omega) (isO_0 hO) rfl 2 (by decide) wl_X11_image_3 rfl rfl dX11_image_28 ?_
      refine lv_iload_n hx hb dX11_image_31 rfl (lv_at hl 1 rfl) ?_
      refine lv_iconst (v := nI 1) hx hb dX11_image_32 (by decide) ?_
      refine nr_zast (k := 0) (v := 1) hx hb hw hj hA hS (by omega) (isO_2 hO) (by omega) (by decide) (by decide) dX11_image_33 (fun H locs hw hS => ?_)
      obtain ⟨G4, hw, hO, hf4⟩ := nO_c2 hO (va_up kp 0 1) hw
      have hT := isT_fr hT hf4 (by omega)
      have hRd := isRd_fr hRd hf4 (by omega)
      have hD := isV_fr hD hf4 (by omega)
      have hRw := isRw_fr hRw hf4 (by omega)
      have hGs := isGs_fr hGs hf4 (by omega)
      have hCh := isCh_fr hCh hf4 (by omega)
      have hV := isV_fr hV hf4 (by omega)
      have hP0 := isV_fr hP0 hf4 (by omega)
      have hP1 := isV_fr hP1 hf4 (by omega)
      have hfr := fr_tr hfr hf4 (by omega) (by omega)
      refine lv_iconst (v := nI 1) hx hb dX11_image_34 (by decide) ?_
      exact nr_retI hx hb hr hlocks hw hS (Or.inr (Or.inl ⟨rfl, rfl, hO, hT, hRd, hD, hRw, hGs, hCh, hV, hP0, hP1, hfr⟩)) dX11_image_35
    · refine lv_aload_n hx hb dX11_image_14 rfl (lv_at hl 0 rfl) ?_
      refine nr_get (own := RX11) (C := RX11) (T := TX11) (N := 11) (v := .ref (ad Γ (co + 1))) hx hb hts hi_X11_image_X11 hown hw (by omega) (isO_0 hO) rfl 1 (by decide) wl_X11_image_1 rfl rfl dX11_image_15 ?_
      refine lv_iload_n hx hb dX11_image_18 rfl (lv_at hl 1 rfl) ?_
      refine nr_aldq (x := ad Γ (co + 60)) hx hb hw (by omega) (isO_1 hO) rfl (by decide) (by decide) dX11_image_19 ?_
      refine lv_aload_n hx hb dX11_image_20 rfl (lv_at hl 0 rfl) ?_
      refine nr_get (own := RX11) (C := RX11) (T := TX11) (N := 11) (v := .ref (ad Γ (co + 28))) hx hb hts hi_X11_image_X11 hown hw (by omega) (isO_0 hO) rfl 0 (by decide) wl_X11_image_2 rfl rfl dX11_image_21 ?_
      refine nr_goV (nr_runV (As := [.ref (ad Γ (co + 28))]) (C := RX10) (T := TX10) (N := 15) ⟨hx, hb, hml, hown, hts⟩ hw (by omega) (isV_0 hP1) rfl (c_X10_take l Γ n G (co + 60) (co + 28) J1 V hP1 hV (by omega) (by omega) hj (by first | assumption | omega)) (cwV 1 hts gX11_image_X10_take rfl rfl rfl (by decide +kernel) ⟨Nat.le_of_ble_eq_true rfl, Nat.le_of_ble_eq_true rfl⟩) rfl hl.1 rfl (Nat.le_of_ble_eq_true rfl) dX11_image_24 ⟨Nat.zero_le _, Nat.zero_le _⟩) hw hA hS (fun G5 H locs hp hw hS => ?_)
      obtain ⟨hP1, hf5⟩ := hp
      have hO := isO_fr hO hf5 (by omega)
      have hT := isT_fr hT hf5 (by omega)
      have hRd := isRd_fr hRd hf5 (by omega)
      have hD := isV_fr hD hf5 (by omega)
      have hRw := isRw_fr hRw hf5 (by omega)
      have hGs := isGs_fr hGs hf5 (by omega)
      have hCh := isCh_fr hCh hf5 (by omega)
      have hV := isV_fr hV hf5 (by omega)
      have hP0 := isV_fr hP0 hf5 (by omega)
      have hfr := fr_tr hfr hf5 (by omega) (by omega)
      have hP1 : isV Γ G5 (co + 60) V := hP1
      refine lv_aload_n hx hb dX11_image_27 rfl (lv_at hl 0 rfl) ?_
      refine nr_get (own := RX11) (C := RX11) (T := TX11) (N := 11) (v := .ref (ad Γ (co + 2))) hx hb hts hi_X11_image_X11 hown hw (by omega) (isO_0 hO) rfl 2 (by decide) wl_X11_image_3 rfl rfl dX11_image_28 ?_
      refine lv_iload_n hx hb dX11_image_31 rfl (lv_at hl 1 rfl) ?_
      refine lv_iconst (v := nI 1) hx hb dX11_image_32 (by decide) ?_
      refine nr_zast (k := 1) (v := 1) hx hb hw hj hA hS (by omega) (isO_2 hO) (by omega) (by decide) (by decide) dX11_image_33 (fun H locs hw hS => ?_)
      obtain ⟨G6, hw, hO, hf6⟩ := nO_c2 hO (va_up kp 1 1) hw
      have hT := isT_fr hT hf6 (by omega)
      have hRd := isRd_fr hRd hf6 (by omega)
      have hD := isV_fr hD hf6 (by omega)
      have hRw := isRw_fr hRw hf6 (by omega)
      have hGs := isGs_fr hGs hf6 (by omega)
      have hCh := isCh_fr hCh hf6 (by omega)
      have hV := isV_fr hV hf6 (by omega)
      have hP0 := isV_fr hP0 hf6 (by omega)
      have hP1 := isV_fr hP1 hf6 (by omega)
      have hfr := fr_tr hfr hf6 (by omega) (by omega)
      refine lv_iconst (v := nI 1) hx hb dX11_image_34 (by decide) ?_
      exact nr_retI hx hb hr hlocks hw hS (Or.inr (Or.inr (⟨rfl, rfl, hO, hT, hRd, hD, hRw, hGs, hCh, hV, hP0, hP1, hfr⟩))) dX11_image_35
  · have b1n : ¬ vRng (0) (1) i := fun hh => b1 ((with_c (by first | decide | omega) (by first | decide | omega)).mpr hh)
    refine nr_if_ne (tgt := 14) hx hb (by decide) dX11_image_6 (by decide) (fun c7 => absurd c7 (by decide)) (fun c7 => ?_)
    refine lv_aload_n hx hb dX11_image_9 rfl (lv_at hl 0 rfl) ?_
    refine nr_goI (nr_runV (As := []) (C := RX11) (T := TX11) (N := 11) ⟨hx, hb, hml, hown, hts⟩ hw (by omega) (isO_0 hO) rfl (c_X11_bad l Γ n G co kp rf hO (by omega) hj) (cwV 0 hts gX11_image_X11_bad rfl rfl rfl (by decide +kernel) ⟨Nat.le_of_ble_eq_true rfl, Nat.le_of_ble_eq_true rfl⟩) rfl hl.1 rfl (Nat.le_of_ble_eq_true rfl) dX11_image_10 ⟨Nat.zero_le _, Nat.zero_le _⟩) hw hA hS (fun z8 G8 H locs hp hw hS => ?_)
    obtain ⟨ha8, hO, hf8⟩ := hp
    have hT := isT_fr hT hf8 (by omega)
    have hRd := isRd_fr hRd hf8 (by omega)
    have hD := isV_fr hD hf8 (by omega)
    have hRw := isRw_fr hRw hf8 (by omega)
    have hGs := isGs_fr hGs hf8 (by omega)
    have hCh := isCh_fr hCh hf8 (by omega)
    have hV := isV_fr hV hf8 (by omega)
    have hP0 := isV_fr hP0 hf8 (by omega)
    have hP1 := isV_fr hP1 hf8 (by omega)
    have hfr := fr_tr hfr hf8 (by omega) (by omega)
    have hO : isO Γ G8 co kp (bmp rf 0) := hO
    subst ha8
    exact nr_retI hx hb hr hlocks hw hS (Or.inl ⟨by assumption, rfl, hO, hT, hRd, hD, hRw, hGs, hCh, hV, hP0, hP1, hfr⟩) dX11_image_13
theorem wl_X11_from_1 : Cond.fieldLink RX11 20 "BellForgiven" "kept" "[Z" ∈ wsX11_from := List.mem_of_getElem? (i := 1) rfl
theorem wl_X11_from_2 : Cond.fieldLink RX11 10 "BellForgiven" "now" "LBellForgiven$Valley;" ∈ wsX11_from := List.mem_of_getElem? (i := 2) rfl
theorem wl_X11_from_3 : Cond.fieldLink RX11 16 "BellForgiven" "images" "[LBellForgiven$Valley;" ∈ wsX11_from := List.mem_of_getElem? (i := 3) rfl
theorem hi_X11_from_X11 : ∀ w ∈ u_ws RX11 TX11 11, w ∈ wsX11_from := fun w h => (List.mem_cons_of_mem _ (List.mem_append_left _ (List.mem_append_left _ (List.mem_append_left _ (List.mem_append_right _ h)))))
set_option maxHeartbeats 4000000 in
set_option maxRecDepth 100000 in
theorem c_X11_from (l : Launch) (Γ : Gam) (n : Nat) (G : Nat → va_E) (co : Nat) (kp rf by0 tv gv Dv lf vs cv V J0 J1 : Nat → Nat) (hO : isO Γ G co kp rf) (hT : isT Γ G (co + 3) by0 tv) (hRd : isRd Γ G (co + 5) gv) (hD : isV Γ G (co + 7) Dv) (hRw : isRw Γ G (co + 23) lf) (hGs : isGs Γ G (co + 25) vs) (hCh : isCh Γ G (co + 27) cv) (hV : isV Γ G (co + 28) V) (hP0 : isV Γ G (co + 44) J0) (hP1 : isV Γ G (co + 60) J1) (hn_co : co + 76 ≤ n) (hj : winj Γ n) (i : Int32) (hG : vG V) (hkp : ∀ j, kp j ≤ 1)  : Met l yX11_from wsX11_from ({ frames := 3, cells := 0, slots := 0, locals := 68 }) (va_Pc [.ref (ad Γ (co + 0)), .int i] (fun U => hw Γ n G U U.heap)) (wQi Γ n (fun z G2 => ((¬ vRng 0 1 i) ∧ (z = -2) ∧ isO Γ G2 co kp (bmp rf 0) ∧ isT Γ G2 (co + 3) by0 tv ∧ isRd Γ G2 (co + 5) gv ∧ isV Γ G2 (co + 7) Dv ∧ isRw Γ G2 (co + 23) lf ∧ isGs Γ G2 (co + 25) vs ∧ isCh Γ G2 (co + 27) cv ∧ isV Γ G2 (co + 28) V ∧ isV Γ G2 (co + 44) J0 ∧ isV Γ G2 (co + 60) J1 ∧ fr G G2 (co + 0) (co + 76)) ∨ ((i = nI 0) ∧ (kp 0 = 0) ∧ (z = -3) ∧ isO Γ G2 co kp (bmp rf 1) ∧ isT Γ G2 (co + 3) by0 tv ∧ isRd Γ G2 (co + 5) gv ∧ isV Γ G2 (co + 7) Dv ∧ isRw Γ G2 (co + 23) lf ∧ isGs Γ G2 (co + 25) vs ∧ isCh Γ G2 (co + 27) cv ∧ isV Γ G2 (co + 28) V ∧ isV Γ G2 (co + 44) J0 ∧ isV Γ G2 (co + 60) J1 ∧ fr G G2 (co + 0) (co + 76)) ∨ ((i = nI 1) ∧ (kp 1 = 0) ∧ (z = -3) ∧ isO Γ G2 co kp (bmp rf 1) ∧ isT Γ G2 (co + 3) by0 tv ∧ isRd Γ G2 (co + 5) gv ∧ isV Γ G2 (co + 7) Dv ∧ isRw Γ G2 (co + 23) lf ∧ isGs Γ G2 (co + 25) vs ∧ isCh Γ G2 (co + 27) cv ∧ isV Γ G2 (co + 28) V ∧ isV Γ G2 (co + 44) J0 ∧ isV Γ G2 (co + 60) J1 ∧ fr G G2 (co + 0) (co + 76)) ∨ ((i = nI 0) ∧ (¬ kp 0 = 0) ∧ (z = nI 1) ∧ isO Γ G2 co kp rf ∧ isT Γ G2 (co + 3) by0 tv ∧ isRd Γ G2 (co + 5) gv ∧ isV Γ G2 (co + 7) Dv ∧ isRw Γ G2 (co + 23) lf ∧ isGs Γ G2 (co + 25) vs ∧ isCh Γ G2 (co + 27) cv ∧ isV Γ G2 (co + 28) J0 ∧ isV Γ G2 (co + 44) J0 ∧ isV Γ G2 (co + 60) J1 ∧ fr G G2 (co + 0) (co + 76)) ∨ ((i = nI 1) ∧ (¬ kp 1 = 0) ∧ (z = nI 1) ∧ isO Γ G2 co kp rf ∧ isT Γ G2 (co + 3) by0 tv ∧ isRd Γ G2 (co + 5) gv ∧ isV Γ G2 (co + 7) Dv ∧ isRw Γ G2 (co + 23) lf ∧ isGs Γ G2 (co + 25) vs ∧ isCh Γ G2 (co + 27) cv ∧ isV Γ G2 (co + 28) J1 ∧ isV Γ G2 (co + 44) J0 ∧ isV Γ G2 (co + 60) J1 ∧ fr G G2 (co + 0) (co + 76)))) 0 0 (wA Γ n) := by
  refine Met.ofW (cc := cX11_from) (maxL := 2) (ret := (some .int)) (by decide) rfl ?_
  intro p e s m args below meth c s₁ B hml hv
  obtain ⟨rfl, hw⟩ := hv
  have hx := B.exec
  have hb := B.bytes
  have hr := B.returns
  have hts := atoms_spec (ws := wsX11_from) B.pre
  have hown : s.vm.findClass RX11 = some m.cls := findClass_of_methodNamed B.named
  have hlocks := B.notSynchronized
  have hS : va_S (wA Γ n) s.heap s.heap [] := va_S.rf
  have hA : ∀ q, wA Γ n q → wA Γ n q := fun _ h => h
  have hl := lv_entry ([.ref (ad Γ (co + 0)), .int i]) (n := 2) (Nat.le_of_ble_eq_true rfl)
  rw [lg_entry_eq]
  generalize (lg_sl ([.ref (ad Γ (co + 0)), .int i]) ++ List.replicate (2 - (lg_sl ([.ref (ad Γ (co + 0)), .int i])).length) Slot.unset).toArray = ls at hl ⊢
  have hl : lv_has ls 2 [(0, .ref (ad Γ (co + 0))), (1, .int i)] := hl
  have hfr := fr_rf G (co + 0) (co + 76)
  have hI := hG.1
  have hB := hI.1
  have hB0 := hI.2.1
  have hB1 := hI.2.2.1
  have hB20 := hI.2.2.2.2.2.2.2.2.2
  have hBz2 := hI.2.2.2.1
  have hBz3 := hI.2.2.2.2.1
  have hBz4 := hI.2.2.2.2.2.1
  have hBz5 := hI.2.2.2.2.2.2.1
  have hBd := hB 21
  refine lv_iload_n hx hb dX11_from_0 rfl (lv_at hl 1 rfl) ?_
  refine lv_iconst (v := nI 0) hx hb dX11_from_1 (by decide) ?_
  refine lv_iconst (v := nI 1) hx hb dX11_from_2 (by decide) ?_
  refine nr_goB (P := (nI 0) ≤ i ∧ i ≤ (nI 1)) (nr_runS (As := [.int i, .int (nI 0), .int (nI 1)]) ⟨hx, hb, hml, hown, hts⟩ hw (c_X11_within l Γ n G i (nI 0) (nI 1)) (va_cwS 3 hts gX11_from_X11_within rfl rfl rfl (by decide +kernel) ⟨Nat.le_of_ble_eq_true rfl, Nat.le_of_ble_eq_true rfl⟩) rfl hl.1 rfl (Nat.le_of_ble_eq_true rfl) dX11_from_3 ⟨Nat.zero_le _, Nat.zero_le _⟩) (fun b1 => ?_) (fun b1 => ?_)
  · obtain ⟨ji, hjia, hjib, rfl⟩ := (with_c (a := 0) (b := 1) (by first | decide | omega) (by first | decide | omega)).mp b1
    refine nr_if_ne (tgt := 14) hx hb (by decide) dX11_from_6 (by decide) (fun c2 => ?_) (fun c2 => absurd c2 (by decide))
    rcases (show ji = 0 ∨ ji = 1 by omega) with rfl | rfl
    · refine lv_aload_n hx hb dX11_from_14 rfl (lv_at hl 0 rfl) ?_
      refine nr_get (own := RX11) (C := RX11) (T := TX11) (N := 11) (v := .ref (ad Γ (co + 2))) hx hb hts hi_X11_from_X11 hown hw (by omega) (isO_0 hO) rfl 2 (by decide) wl_X11_from_1 rfl rfl dX11_from_15 ?_
      refine lv_iload_n hx hb dX11_from_18 rfl (lv_at hl 1 rfl) ?_
      refine nr_zald (x := (kp 0)) hx hb hw (by omega) (isO_2 hO) rfl (by omega) (by decide) dX11_from_19 ?_
      have hk0 := hkp 0
      have hk1 := hkp 1
      refine nr_if_ne (tgt := 28) hx hb (by omega) dX11_from_20 (by decide) (fun c3 => ?_) (fun c3 => ?_)
      · refine lv_aload_n hx hb dX11_from_28 rfl (lv_at hl 0 rfl) ?_
        refine nr_get (own := RX11) (C := RX11) (T := TX11) (N := 11) (v := .ref (ad Γ (co + 28))) hx hb hts hi_X11_from_X11 hown hw (by omega) (isO_0 hO) rfl 0 (by decide) wl_X11_from_2 rfl rfl dX11_from_29 ?_
        refine lv_aload_n hx hb dX11_from_32 rfl (lv_at hl 0 rfl) ?_
        refine nr_get (own := RX11) (C := RX11) (T := TX11) (N := 11) (v := .ref (ad Γ (co + 1))) hx hb hts hi_X11_from_X11 hown hw (by omega) (isO_0 hO) rfl 1 (by decide) wl_X11_from_3 rfl rfl dX11_from_33 ?_
        refine lv_iload_n hx hb dX11_from_36 rfl (lv_at hl 1 rfl) ?_
        refine nr_aldq (x := ad Γ (co + 44)) hx hb hw (by omega) (isO_1 hO) rfl (by decide) (by decide) dX11_from_37 ?_
        refine nr_goV (nr_runV (As := [.ref (ad Γ (co + 44))]) (C := RX10) (T := TX10) (N := 15) ⟨hx, hb, hml, hown, hts⟩ hw (by omega) (isV_0 hV) rfl (c_X10_take l Γ n G (co + 28) (co + 44) V J0 hV hP0 (by omega) (by omega) hj (by first | assumption | omega)) (cwV 1 hts gX11_from_X10_take rfl rfl rfl (by decide +kernel) ⟨Nat.le_of_ble_eq_true rfl, Nat.le_of_ble_eq_true rfl⟩) rfl hl.1 rfl (Nat.le_of_ble_eq_true rfl) dX11_from_38 ⟨Nat.zero_le _, Nat.zero_le _⟩) hw hA hS (fun G4 H locs hp hw hS => ?_)
        obtain ⟨hV, hf4⟩ := hp
        have hO := isO_fr hO hf4 (by omega)
        have hT := isT_fr hT hf4 (by omega)
        have hRd := isRd_fr hRd hf4 (by omega)
        have hD := isV_fr hD hf4 (by omega)
        have hRw := isRw_fr hRw hf4 (by omega)
        have hGs := isGs_fr hGs hf4 (by omega)
        have hCh := isCh_fr hCh hf4 (by omega)
        have hP0 := isV_fr hP0 hf4 (by omega)
        have hP1 := isV_fr hP1 hf4 (by omega)
        have hfr := fr_tr hfr hf4 (by omega) (by omega)
        have hV : isV Γ G4 (co + 28) J0 := hV
        refine lv_iconst (v := nI 1) hx hb dX11_from_41 (by decide) ?_
        exact nr_retI hx hb hr hlocks hw hS (Or.inr (Or.inr (Or.inr (Or.inl ⟨rfl, by assumption, rfl, hO, hT, hRd, hD, hRw, hGs, hCh, hV, hP0, hP1, hfr⟩)))) dX11_from_42
      · refine lv_aload_n hx hb dX11_from_23 rfl (lv_at hl 0 rfl) ?_
        refine nr_goI (nr_runV (As := []) (C := RX11) (T := TX11) (N := 11) ⟨hx, hb, hml, hown, hts⟩ hw (by omega) (isO_0 hO) rfl (c_X11_no l Γ n G co kp rf hO (by omega) hj) (cwV 0 hts gX11_from_X11_no rfl rfl rfl (by decide +kernel) ⟨Nat.le_of_ble_eq_true rfl, Nat.le_of_ble_eq_true rfl⟩) rfl hl.1 rfl (Nat.le_of_ble_eq_true rfl) dX11_from_24 ⟨Nat.zero_le _, Nat.zero_le _⟩) hw hA hS (fun z5 G5 H locs hp hw hS => ?_)
        obtain ⟨ha5, hO, hf5⟩ := hp
        have hT := isT_fr hT hf5 (by omega)
        have hRd := isRd_fr hRd hf5 (by omega)
        have hD := isV_fr hD hf5 (by omega)
        have hRw := isRw_fr hRw hf5 (by omega)
        have hGs := isGs_fr hGs hf5 (by omega)
        have hCh := isCh_fr hCh hf5 (by omega)
        have hV := isV_fr hV hf5 (by omega)
        have hP0 := isV_fr hP0 hf5 (by omega)
        have hP1 := isV_fr hP1 hf5 (by omega)
        have hfr := fr_tr hfr hf5 (by omega) (by omega)
        have hO : isO Γ G5 co kp (bmp rf 1) := hO
        subst ha5
        exact nr_retI hx hb hr hlocks hw hS (Or.inr (Or.inl ⟨rfl, by assumption, rfl, hO, hT, hRd, hD, hRw, hGs, hCh, hV, hP0, hP1, hfr⟩)) dX11_from_27
    · refine lv_aload_n hx hb dX11_from_14 rfl (lv_at hl 0 rfl) ?_
      refine nr_get (own := RX11) (C := RX11) (T := TX11) (N := 11) (v := .ref (ad Γ (co + 2))) hx hb hts hi_X11_from_X11 hown hw (by omega) (isO_0 hO) rfl 2 (by decide) wl_X11_from_1 rfl rfl dX11_from_15 ?_
      refine lv_iload_n hx hb dX11_from_18 rfl (lv_at hl 1 rfl) ?_
      refine nr_zald (x := (kp 1)) hx hb hw (by omega) (isO_2 hO) rfl (by omega) (by decide) dX11_from_19 ?_
      have hk0 := hkp 0
      have hk1 := hkp 1
      refine nr_if_ne (tgt := 28) hx hb (by omega) dX11_from_20 (by decide) (fun c6 => ?_) (fun c6 => ?_)
      · refine lv_aload_n hx hb dX11_from_28 rfl (lv_at hl 0 rfl) ?_
        refine nr_get (own := RX11) (C := RX11) (T := TX11) (N := 11) (v := .ref (ad Γ (co + 28))) hx hb hts hi_X11_from_X11 hown hw (by omega) (isO_0 hO) rfl 0 (by decide) wl_X11_from_2 rfl rfl dX11_from_29 ?_
        refine lv_aload_n hx hb dX11_from_32 rfl (lv_at hl 0 rfl) ?_
        refine nr_get (own := RX11) (C := RX11) (T := TX11) (N := 11) (v := .ref (ad Γ (co + 1))) hx hb hts hi_X11_from_X11 hown hw (by omega) (isO_0 hO) rfl 1 (by decide) wl_X11_from_3 rfl rfl dX11_from_33 ?_
        refine lv_iload_n hx hb dX11_from_36 rfl (lv_at hl 1 rfl) ?_
        refine nr_aldq (x := ad Γ (co + 60)) hx hb hw (by omega) (isO_1 hO) rfl (by decide) (by decide) dX11_from_37 ?_
        refine nr_goV (nr_runV (As := [.ref (ad Γ (co + 60))]) (C := RX10) (T := TX10) (N := 15) ⟨hx, hb, hml, hown, hts⟩ hw (by omega) (isV_0 hV) rfl (c_X10_take l Γ n G (co + 28) (co + 60) V J1 hV hP1 (by omega) (by omega) hj (by first | assumption | omega)) (cwV 1 hts gX11_from_X10_take rfl rfl rfl (by decide +kernel) ⟨Nat.le_of_ble_eq_true rfl, Nat.le_of_ble_eq_true rfl⟩) rfl hl.1 rfl (Nat.le_of_ble_eq_true rfl) dX11_from_38 ⟨Nat.zero_le _, Nat.zero_le _⟩) hw hA hS (fun G7 H locs hp hw hS => ?_)
        obtain ⟨hV, hf7⟩ := hp
        have hO := isO_fr hO hf7 (by omega)
        have hT := isT_fr hT hf7 (by omega)
        have hRd := isRd_fr hRd hf7 (by omega)
        have hD := isV_fr hD hf7 (by omega)
        have hRw := isRw_fr hRw hf7 (by omega)
        have hGs := isGs_fr hGs hf7 (by omega)
        have hCh := isCh_fr hCh hf7 (by omega)
        have hP0 := isV_fr hP0 hf7 (by omega)
        have hP1 := isV_fr hP1 hf7 (by omega)
        have hfr := fr_tr hfr hf7 (by omega) (by omega)
        have hV : isV Γ G7 (co + 28) J1 := hV
        refine lv_iconst (v := nI 1) hx hb dX11_from_41 (by decide) ?_
        exact nr_retI hx hb hr hlocks hw hS (Or.inr (Or.inr (Or.inr (Or.inr (⟨rfl, by assumption, rfl, hO, hT, hRd, hD, hRw, hGs, hCh, hV, hP0, hP1, hfr⟩))))) dX11_from_42
      · refine lv_aload_n hx hb dX11_from_23 rfl (lv_at hl 0 rfl) ?_
        refine nr_goI (nr_runV (As := []) (C := RX11) (T := TX11) (N := 11) ⟨hx, hb, hml, hown, hts⟩ hw (by omega) (isO_0 hO) rfl (c_X11_no l Γ n G co kp rf hO (by omega) hj) (cwV 0 hts gX11_from_X11_no rfl rfl rfl (by decide +kernel) ⟨Nat.le_of_ble_eq_true rfl, Nat.le_of_ble_eq_true rfl⟩) rfl hl.1 rfl (Nat.le_of_ble_eq_true rfl) dX11_from_24 ⟨Nat.zero_le _, Nat.zero_le _⟩) hw hA hS (fun z8 G8 H locs hp hw hS => ?_)
        obtain ⟨ha8, hO, hf8⟩ := hp
        have hT := isT_fr hT hf8 (by omega)
        have hRd := isRd_fr hRd hf8 (by omega)
        have hD := isV_fr hD hf8 (by omega)
        have hRw := isRw_fr hRw hf8 (by omega)
        have hGs := isGs_fr hGs hf8 (by omega)
        have hCh := isCh_fr hCh hf8 (by omega)
        have hV := isV_fr hV hf8 (by omega)
        have hP0 := isV_fr hP0 hf8 (by omega)
        have hP1 := isV_fr hP1 hf8 (by omega)
        have hfr := fr_tr hfr hf8 (by omega) (by omega)
        have hO : isO Γ G8 co kp (bmp rf 1) := hO
        subst ha8
        exact nr_retI hx hb hr hlocks hw hS (Or.inr (Or.inr (Or.inl ⟨rfl, by assumption, rfl, hO, hT, hRd, hD, hRw, hGs, hCh, hV, hP0, hP1, hfr⟩))) dX11_from_27
  · have b1n : ¬ vRng (0) (1) i := fun hh => b1 ((with_c (by first | decide | omega) (by first | decide | omega)).mpr hh)
    refine nr_if_ne (tgt := 14) hx hb (by decide) dX11_from_6 (by decide) (fun c9 => absurd c9 (by decide)) (fun c9 => ?_)
    refine lv_aload_n hx hb dX11_from_9 rfl (lv_at hl 0 rfl) ?_
    refine nr_goI (nr_runV (As := []) (C := RX11) (T := TX11) (N := 11) ⟨hx, hb, hml, hown, hts⟩ hw (by omega) (isO_0 hO) rfl (c_X11_bad l Γ n G co kp rf hO (by omega) hj) (cwV 0 hts gX11_from_X11_bad rfl rfl rfl (by decide +kernel) ⟨Nat.le_of_ble_eq_true rfl, Nat.le_of_ble_eq_true rfl⟩) rfl hl.1 rfl (Nat.le_of_ble_eq_true rfl) dX11_from_10 ⟨Nat.zero_le _, Nat.zero_le _⟩) hw hA hS (fun z10 G10 H locs hp hw hS => ?_)
    obtain ⟨ha10, hO, hf10⟩ := hp
    have hT := isT_fr hT hf10 (by omega)
    have hRd := isRd_fr hRd hf10 (by omega)
    have hD := isV_fr hD hf10 (by omega)
    have hRw := isRw_fr hRw hf10 (by omega)
    have hGs := isGs_fr hGs hf10 (by omega)
    have hCh := isCh_fr hCh hf10 (by omega)
    have hV := isV_fr hV hf10 (by omega)
    have hP0 := isV_fr hP0 hf10 (by omega)
    have hP1 := isV_fr hP1 hf10 (by omega)
    have hfr := fr_tr hfr hf10 (by omega) (by omega)
    have hO : isO Γ G10 co kp (bmp rf 0) := hO
    subst ha10
    exact nr_retI hx hb hr hlocks hw hS (Or.inl ⟨by assumption, rfl, hO, hT, hRd, hD, hRw, hGs, hCh, hV, hP0, hP1, hfr⟩) dX11_from_13
theorem wl_X11_few_1 : Cond.fieldLink RX11 10 "BellForgiven" "now" "LBellForgiven$Valley;" ∈ wsX11_few := List.mem_of_getElem? (i := 1) rfl
theorem wl_X11_few_2 : Cond.fieldLink RX11 41 "BellForgiven" "row" "LBellForgiven$Row;" ∈ wsX11_few := List.mem_of_getElem? (i := 2) rfl
theorem hi_X11_few_X11 : ∀ w ∈ u_ws RX11 TX11 11, w ∈ wsX11_few := fun w h => (List.mem_cons_of_mem _ (List.mem_append_left _ (List.mem_append_left _ (List.mem_append_right _ h))))
set_option maxHeartbeats 4000000 in
set_option maxRecDepth 100000 in
theorem c_X11_few (l : Launch) (Γ : Gam) (n : Nat) (G : Nat → va_E) (co : Nat) (kp rf by0 tv gv Dv lf vs cv V J0 J1 : Nat → Nat) (hO : isO Γ G co kp rf) (hT : isT Γ G (co + 3) by0 tv) (hRd : isRd Γ G (co + 5) gv) (hD : isV Γ G (co + 7) Dv) (hRw : isRw Γ G (co + 23) lf) (hGs : isGs Γ G (co + 25) vs) (hCh : isCh Γ G (co + 27) cv) (hV : isV Γ G (co + 28) V) (hP0 : isV Γ G (co + 44) J0) (hP1 : isV Γ G (co + 60) J1) (hn_co : co + 76 ≤ n) (hj : winj Γ n) (k q : Int32) (hG : vG V) (hlf : ∀ j, lf j ≤ 100)  : Met l yX11_few wsX11_few ({ frames := 6, cells := 0, slots := 0, locals := 143 }) (va_Pc [.ref (ad Γ (co + 0)), .int k, .int q] (fun U => hw Γ n G U U.heap)) (wQi Γ n (fun z G2 => ((¬ (vBel (V 1) k ∧ -1 ≤ q)) ∧ (z = -10) ∧ isO Γ G2 co kp (bmp rf 0) ∧ isT Γ G2 (co + 3) by0 tv ∧ isRd Γ G2 (co + 5) gv ∧ isV Γ G2 (co + 7) Dv ∧ isRw Γ G2 (co + 23) lf ∧ isGs Γ G2 (co + 25) vs ∧ isCh Γ G2 (co + 27) cv ∧ isV Γ G2 (co + 28) V ∧ isV Γ G2 (co + 44) J0 ∧ isV Γ G2 (co + 60) J1 ∧ fr G G2 (co + 0) (co + 76)) ∨ (∃ jk : Nat, (jk < V 1) ∧ (k = nI jk) ∧ (-1 ≤ q) ∧ (∃ F : Nat → Nat, (¬ bt (V 20) jk → sizR V F jk 0) ∧ fewC V F jk q z) ∧ ∃ lf2 : Nat → Nat, (∀ j, lf2 j ≤ 100) ∧ isO Γ G2 co kp rf ∧ isT Γ G2 (co + 3) by0 tv ∧ isRd Γ G2 (co + 5) gv ∧ isV Γ G2 (co + 7) Dv ∧ isRw Γ G2 (co + 23) lf2 ∧ isGs Γ G2 (co + 25) vs ∧ isCh Γ G2 (co + 27) cv ∧ isV Γ G2 (co + 28) V ∧ isV Γ G2 (co + 44) J0 ∧ isV Γ G2 (co + 60) J1 ∧ fr G G2 (co + 0) (co + 76)))) 0 0 (wA Γ n) := by
  refine Met.ofW (cc := cX11_few) (maxL := 4) (ret := (some .int)) (by decide) rfl ?_
  intro p e s m args below meth c s₁ B hml hv
  obtain ⟨rfl, hw⟩ := hv
  have hx := B.exec
  have hb := B.bytes
  have hr := B.returns
  have hts := atoms_spec (ws := wsX11_few) B.pre
  have hown : s.vm.findClass RX11 = some m.cls := findClass_of_methodNamed B.named
  have hlocks := B.notSynchronized
  have hS : va_S (wA Γ n) s.heap s.heap [] := va_S.rf
  have hA : ∀ q, wA Γ n q → wA Γ n q := fun _ h => h
  have hl := lv_entry ([.ref (ad Γ (co + 0)), .int k, .int q]) (n := 4) (Nat.le_of_ble_eq_true rfl)
  rw [lg_entry_eq]
  generalize (lg_sl ([.ref (ad Γ (co + 0)), .int k, .int q]) ++ List.replicate (4 - (lg_sl ([.ref (ad Γ (co + 0)), .int k, .int q])).length) Slot.unset).toArray = ls at hl ⊢
  have hl : lv_has ls 4 [(0, .ref (ad Γ (co + 0))), (1, .int k), (2, .int q)] := hl
  have hfr := fr_rf G (co + 0) (co + 76)
  have hI := hG.1
  have hB := hI.1
  have hB0 := hI.2.1
  have hB1 := hI.2.2.1
  have hB20 := hI.2.2.2.2.2.2.2.2.2
  have hBz2 := hI.2.2.2.1
  have hBz3 := hI.2.2.2.2.1
  have hBz4 := hI.2.2.2.2.2.1
  have hBz5 := hI.2.2.2.2.2.2.1
  have hBd := hB 21
  refine lv_aload_n hx hb dX11_few_0 rfl (lv_at hl 0 rfl) ?_
  refine nr_get (own := RX11) (C := RX11) (T := TX11) (N := 11) (v := .ref (ad Γ (co + 28))) hx hb hts hi_X11_few_X11 hown hw (by omega) (isO_0 hO) rfl 0 (by decide) wl_X11_few_1 rfl rfl dX11_few_1 ?_
  refine lv_iload_n hx hb dX11_few_4 rfl (lv_at hl 1 rfl) ?_
  refine nr_goB (P := ∃ j, j < V 1 ∧ k = nI j) (nr_runV (As := [.int k]) (C := RX10) (T := TX10) (N := 15) ⟨hx, hb, hml, hown, hts⟩ hw (by omega) (isV_0 hV) rfl (c_X10_hasWrong l Γ n G (co + 28) V hV (by assumption) (by omega) k) (cwV 1 hts gX11_few_X10_hasWrong rfl rfl rfl (by decide +kernel) ⟨Nat.le_of_ble_eq_true rfl, Nat.le_of_ble_eq_true rfl⟩) rfl hl.1 rfl (Nat.le_of_ble_eq_true rfl) dX11_few_5 ⟨Nat.zero_le _, Nat.zero_le _⟩) (fun b1 => ?_) (fun b1 => ?_)
  · obtain ⟨jk, hjk, rfl⟩ := b1
    refine nr_if_eq (tgt := 16) hx hb (by decide) dX11_few_8 (by decide) (fun c2 => absurd c2 (by decide)) (fun c2 => ?_)
    refine lv_iload_n hx hb dX11_few_11 rfl (lv_at hl 2 rfl) ?_
    refine lv_iconst (v := (-1)) hx hb dX11_few_12 (by decide) ?_
    refine lv_icmp_ge (tgt := 24) hx hb dX11_few_13 (by decide) (fun c3 => ?_) (fun c3 => ?_)
    · have hq1 : -1 ≤ q := by first | assumption | exact Int32.not_lt.mp (by assumption)
      refine lv_aload_n hx hb dX11_few_24 rfl (lv_at hl 0 rfl) ?_
      refine nr_get (own := RX11) (C := RX11) (T := TX11) (N := 11) (v := .ref (ad Γ (co + 23))) hx hb hts hi_X11_few_X11 hown hw (by omega) (isO_0 hO) rfl 5 (by decide) wl_X11_few_2 rfl rfl dX11_few_25 ?_
      refine lv_aload_n hx hb dX11_few_28 rfl (lv_at hl 0 rfl) ?_
      refine nr_get (own := RX11) (C := RX11) (T := TX11) (N := 11) (v := .ref (ad Γ (co + 28))) hx hb hts hi_X11_few_X11 hown hw (by omega) (isO_0 hO) rfl 0 (by decide) wl_X11_few_1 rfl rfl dX11_few_29 ?_
      refine lv_iload_n hx hb dX11_few_32 rfl (lv_at hl 1 rfl) ?_
      refine nr_goI (nr_runV (As := [.ref (ad Γ (co + 28)), .int (nI jk)]) (C := RX6) (T := TX6) (N := 1) ⟨hx, hb, hml, hown, hts⟩ hw (by omega) (isRw_0 hRw) rfl (c_X6_size l Γ n G (co + 23) (co + 28) lf V hRw hV (by omega) (by omega) hj jk (by first | assumption | omega) (by first | assumption | omega) (by first | assumption | omega) (by first | assumption | omega)) (cwV 2 hts gX11_few_X6_size rfl rfl rfl (by decide +kernel) ⟨Nat.le_of_ble_eq_true rfl, Nat.le_of_ble_eq_true rfl⟩) rfl hl.1 rfl (Nat.le_of_ble_eq_true rfl) dX11_few_33 ⟨Nat.zero_le _, Nat.zero_le _⟩) hw hA hS (fun z4 G4 H locs hp hw hS => ?_)
      obtain ⟨lf4, hlb4, hsz4, ha4, hRw, hf4⟩ := hp
      have hO := isO_fr hO hf4 (by omega)
      have hT := isT_fr hT hf4 (by omega)
      have hRd := isRd_fr hRd hf4 (by omega)
      have hD := isV_fr hD hf4 (by omega)
      have hGs := isGs_fr hGs hf4 (by omega)
      have hCh := isCh_fr hCh hf4 (by omega)
      have hV := isV_fr hV hf4 (by omega)
      have hP0 := isV_fr hP0 hf4 (by omega)
      have hP1 := isV_fr hP1 hf4 (by omega)
      have hfr := fr_tr hfr hf4 (by omega) (by omega)
      have hRw : isRw Γ G4 (co + 23) lf4 := hRw
      subst ha4
      have hszX := hsz4
      have hlbX := hlb4
      have hfz : fewZ V lf4 jk ≤ 100 := by unfold fewZ; split; exact Nat.zero_le _; exact hlb4 0
      refine lv_istore_n (lv' := [(3, .int (nI (fewZ V lf4 jk))), (0, .ref (ad Γ (co + 0))), (1, .int (nI jk)), (2, .int q)]) hx hb dX11_few_36 rfl hl (by decide) rfl (fun ls hl => ?_)
      refine lv_iload_n hx hb dX11_few_37 rfl (lv_at hl 0 rfl) ?_
      refine lv_bipush (v := nI 100) hx hb dX11_few_38 (by decide) ?_
      refine nr_icmp_ne (tgt := 46) hx hb (by omega) (by decide) dX11_few_40 (by decide) (fun c5 => ?_) (fun c5 => ?_)
      · refine lv_iload_n hx hb dX11_few_46 rfl (lv_at hl 3 rfl) ?_
        refine lv_iconst (v := (-1)) hx hb dX11_few_47 (by decide) ?_
        refine lv_icmp_ne (tgt := 53) hx hb dX11_few_48 (by decide) (fun c6 => ?_) (fun c6 => ?_)
        · refine lv_iload_n hx hb dX11_few_53 rfl (lv_at hl 3 rfl) ?_
          refine lv_iload_n hx hb dX11_few_54 rfl (lv_at hl 0 rfl) ?_
          refine lv_icmp_ge (tgt := 73) hx hb dX11_few_55 (by decide) (fun c7 => ?_) (fun c7 => ?_)
          · refine lv_bipush (v := (-5)) hx hb dX11_few_73 (by decide) ?_
            exact nr_retI hx hb hr hlocks hw hS (Or.inr (⟨jk, hjk, rfl, hq1, ⟨_, hszX, Or.inr ⟨by assumption, Or.inr (Or.inl ⟨by assumption, by first | assumption | exact Int32.not_lt.mp (by assumption), rfl⟩)⟩⟩, _, hlbX, hO, hT, hRd, hD, hRw, hGs, hCh, hV, hP0, hP1, hfr⟩)) dX11_few_75
          · obtain ⟨y9, hy9, rfl⟩ := few_q (q := q) (s := fewZ V lf4 jk) (by omega) hq1 (by assumption) (by first | assumption | exact Int32.not_le.mp (by assumption))
            have hnb : ¬ bt (V 20) jk := fun hb => by unfold fewZ at hy9; rw [if_pos hb] at hy9; omega
            have hfe : fewZ V lf4 jk = lf4 0 := by unfold fewZ; rw [if_neg hnb]
            refine lv_aload_n hx hb dX11_few_58 rfl (lv_at hl 1 rfl) ?_
            refine nr_get (own := RX11) (C := RX11) (T := TX11) (N := 11) (v := .ref (ad Γ (co + 23))) hx hb hts hi_X11_few_X11 hown hw (by omega) (isO_0 hO) rfl 5 (by decide) wl_X11_few_2 rfl rfl dX11_few_59 ?_
            refine lv_aload_n hx hb dX11_few_62 rfl (lv_at hl 1 rfl) ?_
            refine nr_get (own := RX11) (C := RX11) (T := TX11) (N := 11) (v := .ref (ad Γ (co + 28))) hx hb hts hi_X11_few_X11 hown hw (by omega) (isO_0 hO) rfl 0 (by decide) wl_X11_few_1 rfl rfl dX11_few_63 ?_
            refine lv_iload_n hx hb dX11_few_66 rfl (lv_at hl 3 rfl) ?_
            refine nr_goS (nr_runV (As := [.ref (ad Γ (co + 28)), .int (nI y9)]) (C := RX6) (T := TX6) (N := 1) ⟨hx, hb, hml, hown, hts⟩ hw (by omega) (isRw_0 hRw) rfl (c_X6_stroke l Γ n G4 (co + 23) (co + 28) lf4 V hRw hV (by omega) (by omega) y9 hI hlbX jk (hszX hnb) (by rw [← hfe]; omega) (by rw [← hfe]; exact hy9)) (cwV 2 hts gX11_few_X6_stroke rfl rfl rfl (by decide +kernel) ⟨Nat.le_of_ble_eq_true rfl, Nat.le_of_ble_eq_true rfl⟩) rfl hl.1 rfl (Nat.le_of_ble_eq_true rfl) dX11_few_67 ⟨Nat.zero_le _, Nat.zero_le _⟩) (fun r8 hr8 => ?_)
            refine lv_goto (tgt := 75) hx hb dX11_few_70 (by decide) ?_
            exact nr_retI hx hb hr hlocks hw hS (Or.inr (⟨jk, hjk, rfl, hq1, ⟨_, hszX, Or.inr ⟨by assumption, Or.inr (Or.inr ⟨y9, rfl, hy9, by assumption⟩)⟩⟩, _, hlbX, hO, hT, hRd, hD, hRw, hGs, hCh, hV, hP0, hP1, hfr⟩)) dX11_few_75
        · refine lv_iload_n hx hb dX11_few_51 rfl (lv_at hl 0 rfl) ?_
          exact nr_retI hx hb hr hlocks hw hS (Or.inr (⟨jk, hjk, rfl, hq1, ⟨_, hszX, Or.inr ⟨by assumption, Or.inl ⟨by assumption, rfl⟩⟩⟩, _, hlbX, hO, hT, hRd, hD, hRw, hGs, hCh, hV, hP0, hP1, hfr⟩)) dX11_few_52
      · refine lv_bipush (v := (-6)) hx hb dX11_few_43 (by decide) ?_
        exact nr_retI hx hb hr hlocks hw hS (Or.inr (⟨jk, hjk, rfl, hq1, ⟨_, hszX, Or.inl ⟨by assumption, rfl⟩⟩, _, hlbX, hO, hT, hRd, hD, hRw, hGs, hCh, hV, hP0, hP1, hfr⟩)) dX11_few_45
    · refine lv_aload_n hx hb dX11_few_16 rfl (lv_at hl 0 rfl) ?_
      refine nr_goI (nr_runV (As := []) (C := RX11) (T := TX11) (N := 11) ⟨hx, hb, hml, hown, hts⟩ hw (by omega) (isO_0 hO) rfl (c_X11_bad l Γ n G co kp rf hO (by omega) hj) (cwV 0 hts gX11_few_X11_bad rfl rfl rfl (by decide +kernel) ⟨Nat.le_of_ble_eq_true rfl, Nat.le_of_ble_eq_true rfl⟩) rfl hl.1 rfl (Nat.le_of_ble_eq_true rfl) dX11_few_17 ⟨Nat.zero_le _, Nat.zero_le _⟩) hw hA hS (fun z9 G9 H locs hp hw hS => ?_)
      obtain ⟨ha9, hO, hf9⟩ := hp
      have hT := isT_fr hT hf9 (by omega)
      have hRd := isRd_fr hRd hf9 (by omega)
      have hD := isV_fr hD hf9 (by omega)
      have hRw := isRw_fr hRw hf9 (by omega)
      have hGs := isGs_fr hGs hf9 (by omega)
      have hCh := isCh_fr hCh hf9 (by omega)
      have hV := isV_fr hV hf9 (by omega)
      have hP0 := isV_fr hP0 hf9 (by omega)
      have hP1 := isV_fr hP1 hf9 (by omega)
      have hfr := fr_tr hfr hf9 (by omega) (by omega)
      have hO : isO Γ G9 co kp (bmp rf 0) := hO
      subst ha9
      refine lv_pop hx hb dX11_few_20 rfl ?_
      refine lv_bipush (v := (-10)) hx hb dX11_few_21 (by decide) ?_
      exact nr_retI hx hb hr hlocks hw hS (Or.inl ⟨by intro hh; first | exact absurd hh.1 (by assumption) | exact absurd hh.2 (Int32.not_le.mpr (Int32.not_le.mp (by assumption))), rfl, hO, hT, hRd, hD, hRw, hGs, hCh, hV, hP0, hP1, hfr⟩) dX11_few_23
  · refine nr_if_eq (tgt := 16) hx hb (by decide) dX11_few_8 (by decide) (fun c10 => ?_) (fun c10 => absurd c10 (by decide))
    refine lv_aload_n hx hb dX11_few_16 rfl (lv_at hl 0 rfl) ?_
    refine nr_goI (nr_runV (As := []) (C := RX11) (T := TX11) (N := 11) ⟨hx, hb, hml, hown, hts⟩ hw (by omega) (isO_0 hO) rfl (c_X11_bad l Γ n G co kp rf hO (by omega) hj) (cwV 0 hts gX11_few_X11_bad rfl rfl rfl (by decide +kernel) ⟨Nat.le_of_ble_eq_true rfl, Nat.le_of_ble_eq_true rfl⟩) rfl hl.1 rfl (Nat.le_of_ble_eq_true rfl) dX11_few_17 ⟨Nat.zero_le _, Nat.zero_le _⟩) hw hA hS (fun z11 G11 H locs hp hw hS => ?_)
    obtain ⟨ha11, hO, hf11⟩ := hp
    have hT := isT_fr hT hf11 (by omega)
    have hRd := isRd_fr hRd hf11 (by omega)
    have hD := isV_fr hD hf11 (by omega)
    have hRw := isRw_fr hRw hf11 (by omega)
    have hGs := isGs_fr hGs hf11 (by omega)
    have hCh := isCh_fr hCh hf11 (by omega)
    have hV := isV_fr hV hf11 (by omega)
    have hP0 := isV_fr hP0 hf11 (by omega)
    have hP1 := isV_fr hP1 hf11 (by omega)
    have hfr := fr_tr hfr hf11 (by omega) (by omega)
    have hO : isO Γ G11 co kp (bmp rf 0) := hO
    subst ha11
    refine lv_pop hx hb dX11_few_20 rfl ?_
    refine lv_bipush (v := (-10)) hx hb dX11_few_21 (by decide) ?_
    exact nr_retI hx hb hr hlocks hw hS (Or.inl ⟨by intro hh; first | exact absurd hh.1 (by assumption) | exact absurd hh.2 (Int32.not_le.mpr (Int32.not_le.mp (by assumption))), rfl, hO, hT, hRd, hD, hRw, hGs, hCh, hV, hP0, hP1, hfr⟩) dX11_few_23
theorem wl_X11_digest_1 : Cond.constantLong RX11 279 (1693) ∈ wsX11_digest := List.mem_of_getElem? (i := 1) rfl
theorem wl_X11_digest_2 : Cond.constantLong RX11 281 (31) ∈ wsX11_digest := List.mem_of_getElem? (i := 2) rfl
theorem wl_X11_digest_3 : Cond.fieldLink RX11 10 "BellForgiven" "now" "LBellForgiven$Valley;" ∈ wsX11_digest := List.mem_of_getElem? (i := 3) rfl
theorem wl_X11_digest_4 : Cond.fieldLink RX11 55 "BellForgiven" "chance" "LBellForgiven$Chance;" ∈ wsX11_digest := List.mem_of_getElem? (i := 4) rfl
theorem wl_X11_digest_5 : Cond.fieldLink RX11 260 "BellForgiven$Chance" "above" "J" ∈ wsX11_digest := List.mem_of_getElem? (i := 5) rfl
theorem wl_X11_digest_6 : Cond.fieldLink RX11 264 "BellForgiven$Chance" "below" "J" ∈ wsX11_digest := List.mem_of_getElem? (i := 6) rfl
theorem hi_X11_digest_X11 : ∀ w ∈ u_ws RX11 TX11 11, w ∈ wsX11_digest := fun w h => (List.mem_cons_of_mem _ (List.mem_append_left _ (List.mem_append_left _ (List.mem_append_left _ (List.mem_append_left _ (List.mem_append_left _ (List.mem_append_right _ h)))))))
theorem hi_X11_digest_X0 : ∀ w ∈ u_ws RX0 TX0 2, w ∈ wsX11_digest := fun w h => (List.mem_cons_of_mem _ (List.mem_append_left _ (List.mem_append_left _ (List.mem_append_left _ (List.mem_append_left _ (List.mem_append_right _ h))))))
set_option maxHeartbeats 4000000 in
set_option maxRecDepth 100000 in
theorem c_X11_digest (l : Launch) (Γ : Gam) (n : Nat) (G : Nat → va_E) (co : Nat) (kp rf by0 tv gv Dv lf vs cv V J0 J1 : Nat → Nat) (hO : isO Γ G co kp rf) (hT : isT Γ G (co + 3) by0 tv) (hRd : isRd Γ G (co + 5) gv) (hD : isV Γ G (co + 7) Dv) (hRw : isRw Γ G (co + 23) lf) (hGs : isGs Γ G (co + 25) vs) (hCh : isCh Γ G (co + 27) cv) (hV : isV Γ G (co + 28) V) (hP0 : isV Γ G (co + 44) J0) (hP1 : isV Γ G (co + 60) J1) (hn_co : co + 76 ≤ n) (hj : winj Γ n) (hG : vG V) (hL : tv 0 ≤ 150)  : Met l yX11_digest wsX11_digest ({ frames := 5, cells := 0, slots := 0, locals := 113 }) (va_Pc [.ref (ad Γ (co + 0))] (fun U => hw Γ n G U U.heap)) (wQl Γ n (fun z G2 => ((z = lN (31 * (31 * dgV V (dg (tlyC V tv) 1693 11) + cv 0) + cv 1)) ∧ isO Γ G2 co kp rf ∧ isT Γ G2 (co + 3) by0 tv ∧ isRd Γ G2 (co + 5) gv ∧ isV Γ G2 (co + 7) Dv ∧ isRw Γ G2 (co + 23) lf ∧ isGs Γ G2 (co + 25) vs ∧ isCh Γ G2 (co + 27) cv ∧ isV Γ G2 (co + 28) V ∧ isV Γ G2 (co + 44) J0 ∧ isV Γ G2 (co + 60) J1 ∧ fr G G2 (co + 0) (co + 76)))) 0 0 (wA Γ n) := by
  refine Met.ofW (cc := cX11_digest) (maxL := 4) (ret := (some .long)) (by decide) rfl ?_
  intro p e s m args below meth c s₁ B hml hv
  obtain ⟨rfl, hw⟩ := hv
  have hx := B.exec
  have hb := B.bytes
  have hr := B.returns
  have hts := atoms_spec (ws := wsX11_digest) B.pre
  have hown : s.vm.findClass RX11 = some m.cls := findClass_of_methodNamed B.named
  have hlocks := B.notSynchronized
  have hS : va_S (wA Γ n) s.heap s.heap [] := va_S.rf
  have hA : ∀ q, wA Γ n q → wA Γ n q := fun _ h => h
  have hl := lv_entry ([.ref (ad Γ (co + 0))]) (n := 4) (Nat.le_of_ble_eq_true rfl)
  rw [lg_entry_eq]
  generalize (lg_sl ([.ref (ad Γ (co + 0))]) ++ List.replicate (4 - (lg_sl ([.ref (ad Γ (co + 0))])).length) Slot.unset).toArray = ls at hl ⊢
  have hl : lv_has ls 4 [(0, .ref (ad Γ (co + 0)))] := hl
  have hfr := fr_rf G (co + 0) (co + 76)
  have hI := hG.1
  have hB := hI.1
  have hB0 := hI.2.1
  have hB1 := hI.2.2.1
  have hB20 := hI.2.2.2.2.2.2.2.2.2
  have hBz2 := hI.2.2.2.1
  have hBz3 := hI.2.2.2.2.1
  have hBz4 := hI.2.2.2.2.2.1
  have hBz5 := hI.2.2.2.2.2.2.1
  have hBd := hB 21
  refine nr_ldc2 (k := 1693) hx hb hown (hts _ wl_X11_digest_1) (by decide) dX11_digest_0 ?_
  refine lv_lstore_n (lv' := [(1, .long (lN 1693)), (0, .ref (ad Γ (co + 0)))]) hx hb dX11_digest_3 rfl hl (by decide) rfl (fun ls hl => ?_)
  refine lv_iconst (v := nI 0) hx hb dX11_digest_4 (by decide) ?_
  refine lv_istore_n (lv' := [(3, .int (nI 0)), (1, .long (lN 1693)), (0, .ref (ad Γ (co + 0)))]) hx hb dX11_digest_5 rfl hl (by decide) rfl (fun ls hl => ?_)
  refine nr_lp (σ := Nat × Nat) (pc := 6) (fun x lv => lv = [(0, .ref (ad Γ (co + 0))), (1, .long (lN x.2)), (3, .int (nI x.1))] ∧ (x.1 ≤ 11) ∧ (x.2 = dg (tlyC V tv) 1693 x.1)) (fun x => 11 - x.1) (0, 1693) (lv_sub hl [2, 1, 0] rfl) ⟨rfl, by (try dsimp only); omega, rfl⟩ ?_
  intro x lv ls hl hI ih6
  obtain ⟨w, t⟩ := x
  obtain ⟨rfl, hw1, ht⟩ := hI
  try dsimp only at hw1 ht hl ih6
  have hty := tly_lt (tv := tv) hI hL w
  refine lv_iload_n hx hb dX11_digest_6 rfl (lv_at hl 2 rfl) ?_
  refine lv_bipush (v := nI 11) hx hb dX11_digest_7 (by decide) ?_
  refine nr_icmp_ge (tgt := 31) hx hb (by omega) (by decide) dX11_digest_9 (by decide) (fun c1 => ?_) (fun c1 => ?_)
  · refine lv_aload_n hx hb dX11_digest_31 rfl (lv_at hl 0 rfl) ?_
    refine nr_get (own := RX11) (C := RX11) (T := TX11) (N := 11) (v := .ref (ad Γ (co + 28))) hx hb hts hi_X11_digest_X11 hown hw (by omega) (isO_0 hO) rfl 0 (by decide) wl_X11_digest_3 rfl rfl dX11_digest_32 ?_
    refine lv_lload_n hx hb dX11_digest_35 rfl (lv_at hl 1 rfl) ?_
    refine nr_goL (nr_runV (As := [.long (lN t)]) (C := RX10) (T := TX10) (N := 15) ⟨hx, hb, hml, hown, hts⟩ hw (by omega) (isV_0 hV) rfl (c_X10_digestOn l Γ n G (co + 28) V hV (by assumption) (by omega) t) (cwV 1 hts gX11_digest_X10_digestOn rfl rfl rfl (by decide +kernel) ⟨Nat.le_of_ble_eq_true rfl, Nat.le_of_ble_eq_true rfl⟩) rfl hl.1 rfl (Nat.le_of_ble_eq_true rfl) dX11_digest_36 ⟨Nat.zero_le _, Nat.zero_le _⟩) (fun r2 hr2 => ?_)
    obtain rfl : r2 = (lN (dgV V t)) := hr2
    refine lv_lstore_n (lv' := [(1, .long (lN (dgV V t))), (0, .ref (ad Γ (co + 0))), (3, .int (nI w))]) hx hb dX11_digest_39 rfl hl (by decide) rfl (fun ls hl => ?_)
    refine nr_ldc2 (k := 31) hx hb hown (hts _ wl_X11_digest_2) (by decide) dX11_digest_40 ?_
    refine lv_lload_n hx hb dX11_digest_43 rfl (lv_at hl 0 rfl) ?_
    refine nr_lmul hx hb dX11_digest_44 ?_
    refine lv_aload_n hx hb dX11_digest_45 rfl (lv_at hl 1 rfl) ?_
    refine nr_get (own := RX11) (C := RX11) (T := TX11) (N := 11) (v := .ref (ad Γ (co + 27))) hx hb hts hi_X11_digest_X11 hown hw (by omega) (isO_0 hO) rfl 7 (by decide) wl_X11_digest_4 rfl rfl dX11_digest_46 ?_
    refine nr_get (own := RX11) (C := RX0) (T := TX0) (N := 2) (v := .long (lN (cv 0))) hx hb hts hi_X11_digest_X0 hown hw (by omega) (isCh_0 hCh) rfl 0 (by decide) wl_X11_digest_5 rfl rfl dX11_digest_49 ?_
    refine nr_ladd hx hb dX11_digest_52 ?_
    refine lv_lstore_n (lv' := [(1, .long (lN (31 * (dgV V t) + (cv 0)))), (0, .ref (ad Γ (co + 0))), (3, .int (nI w))]) hx hb dX11_digest_53 rfl hl (by decide) rfl (fun ls hl => ?_)
    refine nr_ldc2 (k := 31) hx hb hown (hts _ wl_X11_digest_2) (by decide) dX11_digest_54 ?_
    refine lv_lload_n hx hb dX11_digest_57 rfl (lv_at hl 0 rfl) ?_
    refine nr_lmul hx hb dX11_digest_58 ?_
    refine lv_aload_n hx hb dX11_digest_59 rfl (lv_at hl 1 rfl) ?_
    refine nr_get (own := RX11) (C := RX11) (T := TX11) (N := 11) (v := .ref (ad Γ (co + 27))) hx hb hts hi_X11_digest_X11 hown hw (by omega) (isO_0 hO) rfl 7 (by decide) wl_X11_digest_4 rfl rfl dX11_digest_60 ?_
    refine nr_get (own := RX11) (C := RX0) (T := TX0) (N := 2) (v := .long (lN (cv 1))) hx hb hts hi_X11_digest_X0 hown hw (by omega) (isCh_0 hCh) rfl 1 (by decide) wl_X11_digest_6 rfl rfl dX11_digest_63 ?_
    refine nr_ladd hx hb dX11_digest_66 ?_
    exact nr_retIL hx hb hr hlocks hw hS (⟨by rw [ht, show w = 11 by omega], hO, hT, hRd, hD, hRw, hGs, hCh, hV, hP0, hP1, hfr⟩) dX11_digest_67
  · refine nr_ldc2 (k := 31) hx hb hown (hts _ wl_X11_digest_2) (by decide) dX11_digest_12 ?_
    refine lv_lload_n hx hb dX11_digest_15 rfl (lv_at hl 1 rfl) ?_
    refine nr_lmul hx hb dX11_digest_16 ?_
    refine lv_aload_n hx hb dX11_digest_17 rfl (lv_at hl 0 rfl) ?_
    refine lv_iload_n hx hb dX11_digest_18 rfl (lv_at hl 2 rfl) ?_
    refine nr_goS (nr_runV (As := [.int (nI w)]) (C := RX11) (T := TX11) (N := 11) ⟨hx, hb, hml, hown, hts⟩ hw (by omega) (isO_0 hO) rfl (c_X11_tally l Γ n G co kp rf by0 tv V hO hT hV (by omega) w (by first | assumption | omega) (by first | assumption | omega)) (cwV 1 hts gX11_digest_X11_tally rfl rfl rfl (by decide +kernel) ⟨Nat.le_of_ble_eq_true rfl, Nat.le_of_ble_eq_true rfl⟩) rfl hl.1 rfl (Nat.le_of_ble_eq_true rfl) dX11_digest_19 ⟨Nat.zero_le _, Nat.zero_le _⟩) (fun r3 hr3 => ?_)
    obtain rfl : r3 = (nI (tlyC V tv w)) := hr3
    refine lv_i2l (v := lN (tlyC V tv w)) hx hb dX11_digest_22 (nI_l (by omega)) ?_
    refine nr_ladd hx hb dX11_digest_23 ?_
    refine lv_lstore_n (lv' := [(1, .long (lN (31 * t + (tlyC V tv w)))), (0, .ref (ad Γ (co + 0))), (3, .int (nI w))]) hx hb dX11_digest_24 rfl hl (by decide) rfl (fun ls hl => ?_)
    refine nr_inc (d := 1) (k := 2) (lv' := [(3, .int (nI (w + 1))), (1, .long (lN (31 * t + (tlyC V tv w)))), (0, .ref (ad Γ (co + 0)))]) hx hb dX11_digest_25 hl rfl (by decide) (by decide) rfl (fun ls hl => ?_)
    refine lv_goto (tgt := 6) hx hb dX11_digest_28 (by decide) ?_
    exact ih6 (w + 1, 31 * t + (tlyC V tv w)) _ _ (lv_sub hl [2, 1, 0] rfl) ⟨rfl, by (try dsimp only); omega, by (try dsimp only); rw [ht]; rfl⟩ (by (try dsimp only); omega)
theorem wl_X11_read_1 : Cond.fieldLink RX11 34 "BellForgiven" "reader" "LBellForgiven$Reader;" ∈ wsX11_read := List.mem_of_getElem? (i := 1) rfl
theorem wl_X11_read_2 : Cond.fieldLink RX11 27 "BellForgiven" "text" "LBellForgiven$Text;" ∈ wsX11_read := List.mem_of_getElem? (i := 2) rfl
theorem wl_X11_read_3 : Cond.fieldLink RX11 111 "BellForgiven$Text" "start" "I" ∈ wsX11_read := List.mem_of_getElem? (i := 3) rfl
theorem wl_X11_read_4 : Cond.fieldLink RX11 10 "BellForgiven" "now" "LBellForgiven$Valley;" ∈ wsX11_read := List.mem_of_getElem? (i := 4) rfl
theorem wl_X11_read_5 : Cond.fieldLink RX11 114 "BellForgiven$Reader" "draft" "LBellForgiven$Valley;" ∈ wsX11_read := List.mem_of_getElem? (i := 5) rfl
theorem hi_X11_read_X11 : ∀ w ∈ u_ws RX11 TX11 11, w ∈ wsX11_read := fun w h => (List.mem_cons_of_mem _ (List.mem_append_left _ (List.mem_append_left _ (List.mem_append_left _ (List.mem_append_left _ (List.mem_append_left _ (List.mem_append_right _ h)))))))
theorem hi_X11_read_X5 : ∀ w ∈ u_ws RX5 TX5 2, w ∈ wsX11_read := fun w h => (List.mem_cons_of_mem _ (List.mem_append_left _ (List.mem_append_left _ (List.mem_append_left _ (List.mem_append_right _ h)))))
theorem hi_X11_read_X9 : ∀ w ∈ u_ws RX9 TX9 6, w ∈ wsX11_read := fun w h => (List.mem_cons_of_mem _ (List.mem_append_left _ (List.mem_append_left _ (List.mem_append_left _ (List.mem_append_left _ (List.mem_append_right _ h))))))
set_option maxHeartbeats 4000000 in
set_option maxRecDepth 100000 in
theorem c_X11_read (l : Launch) (Γ : Gam) (n : Nat) (G : Nat → va_E) (co : Nat) (kp rf by0 tv gv Dv lf vs cv V J0 J1 : Nat → Nat) (hO : isO Γ G co kp rf) (hT : isT Γ G (co + 3) by0 tv) (hRd : isRd Γ G (co + 5) gv) (hD : isV Γ G (co + 7) Dv) (hRw : isRw Γ G (co + 23) lf) (hGs : isGs Γ G (co + 25) vs) (hCh : isCh Γ G (co + 27) cv) (hV : isV Γ G (co + 28) V) (hP0 : isV Γ G (co + 44) J0) (hP1 : isV Γ G (co + 60) J1) (hn_co : co + 76 ≤ n) (hj : winj Γ n) (hG : vG V) (hbt : ∀ j, by0 j ≤ 127) (hL : tv 0 ≤ 150) (hDI : vI Dv) (hgv : ∀ j, gv j < 2000) (ak av : Nat → Nat) (fr0 : Option Nat)  : Met l yX11_read wsX11_read ({ frames := 9, cells := 0, slots := 0, locals := 195 }) (va_Pc [.ref (ad Γ (co + 0))] (fun U => hw Γ n G U U.heap ∧ kSt (wA Γ n) ak av fr0 U U.heap)) (wQi Γ n (fun z G2 => (∃ k : Nat, (rdGood by0 (tv 0) (emV Dv) k) ∧ (z = nI k) ∧ ∃ tv2 : Nat → Nat, ∃ gv2 : Nat → Nat, (tv2 0 = tv 0 ∧ ∀ j, gv2 j < 2000) ∧ isO Γ G2 co kp rf ∧ isT Γ G2 (co + 3) by0 tv2 ∧ isRd Γ G2 (co + 5) gv2 ∧ isV Γ G2 (co + 7) (rdV by0 (tv 0) (emV Dv) k) ∧ isRw Γ G2 (co + 23) lf ∧ isGs Γ G2 (co + 25) vs ∧ isCh Γ G2 (co + 27) cv ∧ isV Γ G2 (co + 28) (rdV by0 (tv 0) (emV Dv) k) ∧ isV Γ G2 (co + 44) J0 ∧ isV Γ G2 (co + 60) J1 ∧ fr G G2 (co + 0) (co + 76)) ∨ (∃ p : Nat, (rdBad by0 (tv 0) (emV Dv) p) ∧ (z = nI 0 - nI (10 + p)) ∧ ∃ tv2 : Nat → Nat, ∃ gv2 : Nat → Nat, ∃ Dv2 : Nat → Nat, (tv2 0 = tv 0 ∧ (∀ j, gv2 j < 2000) ∧ vI Dv2) ∧ isO Γ G2 co kp rf ∧ isT Γ G2 (co + 3) by0 tv2 ∧ isRd Γ G2 (co + 5) gv2 ∧ isV Γ G2 (co + 7) Dv2 ∧ isRw Γ G2 (co + 23) lf ∧ isGs Γ G2 (co + 25) vs ∧ isCh Γ G2 (co + 27) cv ∧ isV Γ G2 (co + 28) V ∧ isV Γ G2 (co + 44) J0 ∧ isV Γ G2 (co + 60) J1 ∧ fr G G2 (co + 0) (co + 76)))) 0 0 (wA Γ n) := by
  refine Met.ofW (cc := cX11_read) (maxL := 2) (ret := (some .int)) (by decide) rfl ?_
  intro p e s m args below meth c s₁ B hml hv
  obtain ⟨rfl, hw, hE⟩ := hv
  have hx := B.exec
  have hb := B.bytes
  have hr := B.returns
  have hts := atoms_spec (ws := wsX11_read) B.pre
  have hown : s.vm.findClass RX11 = some m.cls := findClass_of_methodNamed B.named
  have hlocks := B.notSynchronized
  have hS : va_S (wA Γ n) s.heap s.heap [] := va_S.rf
  have hA : ∀ q, wA Γ n q → wA Γ n q := fun _ h => h
  have hl := lv_entry ([.ref (ad Γ (co + 0))]) (n := 2) (Nat.le_of_ble_eq_true rfl)
  rw [lg_entry_eq]
  generalize (lg_sl ([.ref (ad Γ (co + 0))]) ++ List.replicate (2 - (lg_sl ([.ref (ad Γ (co + 0))])).length) Slot.unset).toArray = ls at hl ⊢
  have hl : lv_has ls 2 [(0, .ref (ad Γ (co + 0)))] := hl
  have hfr := fr_rf G (co + 0) (co + 76)
  have hI := hG.1
  have hB := hI.1
  have hB0 := hI.2.1
  have hB1 := hI.2.2.1
  have hB20 := hI.2.2.2.2.2.2.2.2.2
  have hBz2 := hI.2.2.2.1
  have hBz3 := hI.2.2.2.2.1
  have hBz4 := hI.2.2.2.2.2.1
  have hBz5 := hI.2.2.2.2.2.2.1
  have hBd := hB 21
  refine lv_aload_n hx hb dX11_read_0 rfl (lv_at hl 0 rfl) ?_
  refine nr_get (own := RX11) (C := RX11) (T := TX11) (N := 11) (v := .ref (ad Γ (co + 5))) hx hb hts hi_X11_read_X11 hown hw (by omega) (isO_0 hO) rfl 4 (by decide) wl_X11_read_1 rfl rfl dX11_read_1 ?_
  refine lv_aload_n hx hb dX11_read_4 rfl (lv_at hl 0 rfl) ?_
  refine nr_get (own := RX11) (C := RX11) (T := TX11) (N := 11) (v := .ref (ad Γ (co + 3))) hx hb hts hi_X11_read_X11 hown hw (by omega) (isO_0 hO) rfl 3 (by decide) wl_X11_read_2 rfl rfl dX11_read_5 ?_
  refine nr_goI (nk_runV (As := [.ref (ad Γ (co + 3))]) (C := RX5) (T := TX5) (N := 2) ⟨hx, hb, hml, hown, hts⟩ hw hE hS (by omega) (isRd_0 hRd) rfl (c_X5_items l Γ n G (co + 3) by0 tv gv Dv hT hRd hD (by omega) hj hbt hL hDI hgv ak av fr0) (cwV 1 hts gX11_read_X5_items rfl rfl rfl (by decide +kernel) ⟨Nat.le_of_ble_eq_true rfl, Nat.le_of_ble_eq_true rfl⟩) rfl hl.1 rfl (Nat.le_of_ble_eq_true rfl) dX11_read_8 ⟨Nat.zero_le _, Nat.zero_le _⟩) hw hA hS (fun z1 G1 H locs hp hw hS => ?_)
  rcases hp with ⟨k1, hc1, ha1, tv1, gv1, hx1, hT, hRd, hD, hf1⟩ | ⟨p1, hc1, ha1, tv1, gv1, V1, hx1, hT, hRd, hD, hf1⟩
  · have hO := isO_fr hO hf1 (by omega)
    have hRw := isRw_fr hRw hf1 (by omega)
    have hGs := isGs_fr hGs hf1 (by omega)
    have hCh := isCh_fr hCh hf1 (by omega)
    have hV := isV_fr hV hf1 (by omega)
    have hP0 := isV_fr hP0 hf1 (by omega)
    have hP1 := isV_fr hP1 hf1 (by omega)
    have hfr := fr_tr hfr hf1 (by omega) (by omega)
    subst ha1
    have hcX := hc1
    have hxX := hx1
    have hkl := rdk_le hL hcX
    refine lv_istore_n (lv' := [(1, .int (nI k1)), (0, .ref (ad Γ (co + 0)))]) hx hb dX11_read_11 rfl hl (by decide) rfl (fun ls hl => ?_)
    refine lv_iload_n hx hb dX11_read_12 rfl (lv_at hl 0 rfl) ?_
    refine nr_if_ge (tgt := 27) hx hb (by omega) dX11_read_13 (by decide) ?_
    refine lv_aload_n hx hb dX11_read_27 rfl (lv_at hl 1 rfl) ?_
    refine nr_get (own := RX11) (C := RX11) (T := TX11) (N := 11) (v := .ref (ad Γ (co + 28))) hx hb hts hi_X11_read_X11 hown hw (by omega) (isO_0 hO) rfl 0 (by decide) wl_X11_read_4 rfl rfl dX11_read_28 ?_
    refine lv_aload_n hx hb dX11_read_31 rfl (lv_at hl 1 rfl) ?_
    refine nr_get (own := RX11) (C := RX11) (T := TX11) (N := 11) (v := .ref (ad Γ (co + 5))) hx hb hts hi_X11_read_X11 hown hw (by omega) (isO_0 hO) rfl 4 (by decide) wl_X11_read_1 rfl rfl dX11_read_32 ?_
    refine nr_get (own := RX11) (C := RX5) (T := TX5) (N := 2) (v := .ref (ad Γ (co + 7))) hx hb hts hi_X11_read_X5 hown hw (by omega) (isRd_0 hRd) rfl 0 (by decide) wl_X11_read_5 rfl rfl dX11_read_35 ?_
    refine nr_goV (nr_runV (As := [.ref (ad Γ (co + 7))]) (C := RX10) (T := TX10) (N := 15) ⟨hx, hb, hml, hown, hts⟩ hw (by omega) (isV_0 hV) rfl (c_X10_take l Γ n G1 (co + 28) (co + 7) V (rdV by0 (tv 0) (emV Dv) k1) hV hD (by omega) (by omega) hj (by first | assumption | omega)) (cwV 1 hts gX11_read_X10_take rfl rfl rfl (by decide +kernel) ⟨Nat.le_of_ble_eq_true rfl, Nat.le_of_ble_eq_true rfl⟩) rfl hl.1 rfl (Nat.le_of_ble_eq_true rfl) dX11_read_38 ⟨Nat.zero_le _, Nat.zero_le _⟩) hw hA hS (fun G2 H locs hp hw hS => ?_)
    obtain ⟨hV, hf2⟩ := hp
    have hO := isO_fr hO hf2 (by omega)
    have hT := isT_fr hT hf2 (by omega)
    have hRd := isRd_fr hRd hf2 (by omega)
    have hD := isV_fr hD hf2 (by omega)
    have hRw := isRw_fr hRw hf2 (by omega)
    have hGs := isGs_fr hGs hf2 (by omega)
    have hCh := isCh_fr hCh hf2 (by omega)
    have hP0 := isV_fr hP0 hf2 (by omega)
    have hP1 := isV_fr hP1 hf2 (by omega)
    have hfr := fr_tr hfr hf2 (by omega) (by omega)
    have hV : isV Γ G2 (co + 28) (rdV by0 (tv 0) (emV Dv) k1) := hV
    refine lv_iload_n hx hb dX11_read_41 rfl (lv_at hl 0 rfl) ?_
    exact nr_retI hx hb hr hlocks hw hS (Or.inl ⟨k1, hcX, rfl, _, _, ⟨hxX.1, hxX.2.2⟩, hO, hT, hRd, hD, hRw, hGs, hCh, hV, hP0, hP1, hfr⟩) dX11_read_42
  · have hO := isO_fr hO hf1 (by omega)
    have hRw := isRw_fr hRw hf1 (by omega)
    have hGs := isGs_fr hGs hf1 (by omega)
    have hCh := isCh_fr hCh hf1 (by omega)
    have hV := isV_fr hV hf1 (by omega)
    have hP0 := isV_fr hP0 hf1 (by omega)
    have hP1 := isV_fr hP1 hf1 (by omega)
    have hfr := fr_tr hfr hf1 (by omega) (by omega)
    subst ha1
    have hcX := hc1
    have hxX := hx1
    refine lv_istore_n (lv' := [(1, .int (-1)), (0, .ref (ad Γ (co + 0)))]) hx hb dX11_read_11 rfl hl (by decide) rfl (fun ls hl => ?_)
    refine lv_iload_n hx hb dX11_read_12 rfl (lv_at hl 0 rfl) ?_
    refine lv_if_ge (tgt := 27) hx hb dX11_read_13 (by decide) (fun c3 => ?_) (fun c3 => ?_)
    · exact absurd c3 (by decide)
    · refine lv_bipush (v := (-10)) hx hb dX11_read_16 (by decide) ?_
      refine lv_aload_n hx hb dX11_read_18 rfl (lv_at hl 1 rfl) ?_
      refine nr_get (own := RX11) (C := RX11) (T := TX11) (N := 11) (v := .ref (ad Γ (co + 3))) hx hb hts hi_X11_read_X11 hown hw (by omega) (isO_0 hO) rfl 3 (by decide) wl_X11_read_2 rfl rfl dX11_read_19 ?_
      refine nr_get (own := RX11) (C := RX9) (T := TX9) (N := 6) (v := .int (nI (tv1 2))) hx hb hts hi_X11_read_X9 hown hw (by omega) (isT_0 hT) rfl 3 (by decide) wl_X11_read_3 rfl rfl dX11_read_22 ?_
      refine lv_isub hx hb dX11_read_25 ?_
      exact nr_retI hx hb hr hlocks hw hS (Or.inr (⟨p1, hcX, by rw [hxX.1]; exact m10 _, _, _, _, ⟨hxX.2.1, hxX.2.2.2.1, hxX.2.2.2.2⟩, hO, hT, hRd, hD, hRw, hGs, hCh, hV, hP0, hP1, hfr⟩)) dX11_read_26
