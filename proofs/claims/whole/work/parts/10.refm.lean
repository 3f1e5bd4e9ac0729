section SM
theorem vI_a {R : Nat → Nat} (h : vI R) : aI R := ⟨h.1, h.2.1, h.2.2.1, h.2.2.2.2.2.2.2.1, h.2.2.2.2.2.2.2.2.1, h.2.2.2.2.2.2.2.2.2⟩
def rTold (R : Nat → Nat) (k what : Nat) : Nat := if what = 0 then R (28 + k) else if what = 1 then R (36 + k) else if what = 2 then R (44 + k) else if what = 3 then R (52 + k) else if what = 4 then R (12 + k) else if what = 5 then R 20 / 2 ^ k % 2 else rW R k
theorem rTold_lt {R : Nat → Nat} (hB : ∀ j, R j ≤ 1999) (k what : Nat) : rTold R k what < 2147483648 := by
  have h1 := hB (28 + k)
  have h2 := hB (36 + k)
  have h3 := hB (44 + k)
  have h4 := hB (52 + k)
  have h5 := hB (12 + k)
  have h6 := rW_lt hB k
  unfold rTold
  (repeat' split) <;> omega
def rbR (R : Nat → Nat) (i w : Nat) : Nat := min 99 (R (6 + i) + cntBy R i w (R 1))
abbrev cbP (R : Nat → Nat) (k w : Nat) : Prop := ¬ bt (R 20) k ∧ ¬ bt w k ∧ rW R k ≤ sMercy (R (22 + R (44 + k))) (rbR R (R (44 + k)) w) (R 21)
abbrev kbQ (R : Nat → Nat) (o off nt kd r : Nat) : Prop := R (off + (r * 4 + 0)) = o → R (off + (r * 4 + 3)) = (if nt = 1 then sWeight kd (R (off + (r * 4 + 1))) (R (off + (r * 4 + 2))) else sMercy kd (R (off + (r * 4 + 1))) (R (off + (r * 4 + 2))))
def kbits (R : Nat → Nat) (o off q nt : Nat) : Nat := bitsOf (fun kd => ∀ r, r < q → kbQ R o off nt kd r) 6
def rTally (R iv : Nat → Nat) (what : Nat) : Nat := if what = 0 then R 0 else if what = 1 then R 1 else if what = 2 then pc8 (R 20) else if what = 3 then cnt (guiltyP R) (R 0) else if what = 4 then R 21 else if what = 5 then sumN (fun j => R (6 + j)) (R 0) else if what = 10 then iv 0 else R (2 + what - 6)
def bmp (rf : Nat → Nat) (k : Nat) : Nat → Nat := va_up rf k (rf k + 1)
def canS (R : Nat → Nat) (w : Nat) : Nat := bitsOf (fun k => cbP R k w) (R 1)
theorem canS_lt {R : Nat → Nat} (h : R 1 ≤ 8) (w : Nat) : canS R w < 256 := Nat.lt_of_lt_of_le (bitsOf_lt _ _) (show 2 ^ R 1 ≤ 2 ^ 8 from Nat.pow_le_pow_right (by omega) h)
theorem p2_le {m : Nat} (h : m ≤ 8) : 2 ^ m ≤ 256 := show 2 ^ m ≤ 2 ^ 8 from Nat.pow_le_pow_right (by omega) h
/-- the first q cells out of f -/
def cpyR (R f : Nat → Nat) (q : Nat) : Nat → Nat := fun j => if j < q then f j else R j
theorem cpyR_0 (R f : Nat → Nat) : R = cpyR R f 0 := by
  funext j; unfold cpyR; rw [if_neg (Nat.not_lt_zero j)]
theorem cpyR_s (R f : Nat → Nat) (q : Nat) : va_up (cpyR R f q) q (f q) = cpyR R f (q + 1) := by
  funext j
  by_cases h : j = q
  · subst h; rw [va_up_self]; unfold cpyR; rw [if_pos (Nat.lt_succ_self _)]
  · rw [va_up_ne _ _ h]; unfold cpyR
    by_cases h2 : j < q
    · rw [if_pos h2, if_pos (by omega)]
    · rw [if_neg h2, if_neg (by omega)]
theorem aI_cpy {R X : Nat → Nat} (h : vI R) (hX : ∀ j, X j ≤ 1999) : aI (cpyR X R 60) := by
  have h0 := vI_a h
  obtain ⟨h1, h2, h3, h4, h5, h6⟩ := h0
  have e : ∀ j, j < 60 → cpyR X R 60 j = R j := fun j hj => by unfold cpyR; rw [if_pos hj]
  refine ⟨fun j => ?_, by rw [e 0 (by omega)]; exact h2, by rw [e 1 (by omega)]; exact h3, fun j hj => by rw [e _ (by omega)]; exact h4 j hj, fun j hj => by rw [e _ (by omega)]; exact h5 j hj, by rw [e 20 (by omega)]; exact h6⟩
  unfold cpyR; split
  · exact h1 j
  · exact hX j
theorem cpyR_at {R X : Nat → Nat} {q j : Nat} (h : j < q) : cpyR X R q j = R j := by unfold cpyR; rw [if_pos h]
end SM
theorem wl_X12_many_1 : Cond.fieldLink RX12 7 "BellForgivenModel" "all" "[I" ∈ wsX12_many := List.mem_of_getElem? (i := 1) rfl
theorem hi_X12_many_X12 : ∀ w ∈ u_ws RX12 TX12 19, w ∈ wsX12_many := fun w h => (List.mem_cons_of_mem _ (List.mem_append_right _ h))
set_option maxHeartbeats 4000000 in
set_option maxRecDepth 100000 in
theorem c_X12_many (l : Launch) (Γ : Gam) (n : Nat) (G : Nat → va_E) (mo : Nat) (R K kp rf ca rc hd fw tl by0 an vl iv : Nat → Nat) (hM : isM Γ G mo R K kp rf ca rc hd fw tl by0 an vl iv) (hmo : mo + 13 ≤ n) (hI : vI R)  : Met l yX12_many wsX12_many ({ frames := 0, cells := 0, slots := 0, locals := 0 }) (va_Pc [.ref (ad Γ (mo + 0))] (fun U => hw Γ n G U U.heap)) (vp_Si (fun z => z = nI (R 1))) 0 0 (fun _ => False) := by
  refine Met.ofW (cc := cX12_many) (maxL := 1) (ret := (some .int)) (by decide) rfl ?_
  intro p e s m args below meth c s₁ B hml hv
  obtain ⟨rfl, hw⟩ := hv
  have hx := B.exec
  have hb := B.bytes
  have hr := B.returns
  have hts := atoms_spec (ws := wsX12_many) B.pre
  have hown : s.vm.findClass RX12 = some m.cls := findClass_of_methodNamed B.named
  have hlocks := B.notSynchronized
  have hl := lv_entry ([.ref (ad Γ (mo + 0))]) (n := 1) (Nat.le_of_ble_eq_true rfl)
  rw [lg_entry_eq]
  generalize (lg_sl ([.ref (ad Γ (mo + 0))]) ++ List.replicate (1 - (lg_sl ([.ref (ad Γ (mo + 0))])).length) Slot.unset).toArray = ls at hl ⊢
  have hl : lv_has ls 1 [(0, .ref (ad Γ (mo + 0)))] := hl
  have hB := hI.1
  have hB0 := hI.2.1
  have hB1 := hI.2.2.1
  have hB20 := hI.2.2.2.2.2.2.2.2.2
  have hBz2 := hI.2.2.2.1
  have hBz3 := hI.2.2.2.2.1
  have hBz4 := hI.2.2.2.2.2.1
  have hBz5 := hI.2.2.2.2.2.2.1
  have hby := hI.2.2.2.2.2.2.2.1
  have hto := hI.2.2.2.2.2.2.2.2.1
  refine lv_aload_n hx hb dX12_many_0 rfl (lv_at hl 0 rfl) ?_
  refine nr_get (own := RX12) (C := RX12) (T := TX12) (N := 19) (v := .ref (ad Γ (mo + 1))) hx hb hts hi_X12_many_X12 hown hw (by omega) (isM_0 hM) rfl 0 (by decide) wl_X12_many_1 rfl rfl dX12_many_1 ?_
  refine lv_iconst (v := nI 1) hx hb dX12_many_4 (by decide) ?_
  refine nr_iald (x := (R 1)) hx hb hw (by omega) (isM_1 hM) rfl (by omega) (by decide) dX12_many_5 ?_
  have hL1 := hB (1)
  exact nr_retS hx hb hr hlocks (rfl) rfl dX12_many_6
theorem wl_X12_isOne_1 : Cond.fieldLink RX12 7 "BellForgivenModel" "all" "[I" ∈ wsX12_isOne := List.mem_of_getElem? (i := 1) rfl
theorem hi_X12_isOne_X12 : ∀ w ∈ u_ws RX12 TX12 19, w ∈ wsX12_isOne := fun w h => (List.mem_cons_of_mem _ (List.mem_append_right _ h))
set_option maxHeartbeats 4000000 in
set_option maxRecDepth 100000 in
theorem c_X12_isOne (l : Launch) (Γ : Gam) (n : Nat) (G : Nat → va_E) (mo : Nat) (R K kp rf ca rc hd fw tl by0 an vl iv : Nat → Nat) (hM : isM Γ G mo R K kp rf ca rc hd fw tl by0 an vl iv) (hmo : mo + 13 ≤ n) (hI : vI R) (i : Int32)  : Met l yX12_isOne wsX12_isOne ({ frames := 1, cells := 0, slots := 0, locals := 25 }) (va_Pc [.ref (ad Γ (mo + 0)), .int i] (fun U => hw Γ n G U U.heap)) (vp_Si (bp (∃ j, j < R 0 ∧ i = nI j))) 0 0 (fun _ => False) := by
  refine Met.ofW (cc := cX12_isOne) (maxL := 2) (ret := (some .boolean)) (by decide) rfl ?_
  intro p e s m args below meth c s₁ B hml hv
  obtain ⟨rfl, hw⟩ := hv
  have hx := B.exec
  have hb := B.bytes
  have hr := B.returns
  have hts := atoms_spec (ws := wsX12_isOne) B.pre
  have hown : s.vm.findClass RX12 = some m.cls := findClass_of_methodNamed B.named
  have hlocks := B.notSynchronized
  have hl := lv_entry ([.ref (ad Γ (mo + 0)), .int i]) (n := 2) (Nat.le_of_ble_eq_true rfl)
  rw [lg_entry_eq]
  generalize (lg_sl ([.ref (ad Γ (mo + 0)), .int i]) ++ List.replicate (2 - (lg_sl ([.ref (ad Γ (mo + 0)), .int i])).length) Slot.unset).toArray = ls at hl ⊢
  have hl : lv_has ls 2 [(0, .ref (ad Γ (mo + 0))), (1, .int i)] := hl
  have hB := hI.1
  have hB0 := hI.2.1
  have hB1 := hI.2.2.1
  have hB20 := hI.2.2.2.2.2.2.2.2.2
  have hBz2 := hI.2.2.2.1
  have hBz3 := hI.2.2.2.2.1
  have hBz4 := hI.2.2.2.2.2.1
  have hBz5 := hI.2.2.2.2.2.2.1
  have hby := hI.2.2.2.2.2.2.2.1
  have hto := hI.2.2.2.2.2.2.2.2.1
  refine lv_iload_n hx hb dX12_isOne_0 rfl (lv_at hl 1 rfl) ?_
  refine lv_i2l (v := (i).toInt64) hx hb dX12_isOne_1 rfl ?_
  refine lv_lconst (v := lN 0) hx hb dX12_isOne_2 rfl ?_
  refine lv_aload_n hx hb dX12_isOne_3 rfl (lv_at hl 0 rfl) ?_
  refine nr_get (own := RX12) (C := RX12) (T := TX12) (N := 19) (v := .ref (ad Γ (mo + 1))) hx hb hts hi_X12_isOne_X12 hown hw (by omega) (isM_0 hM) rfl 0 (by decide) wl_X12_isOne_1 rfl rfl dX12_isOne_4 ?_
  refine lv_iconst (v := nI 0) hx hb dX12_isOne_7 (by decide) ?_
  refine nr_iald (x := (R 0)) hx hb hw (by omega) (isM_1 hM) rfl (by omega) (by decide) dX12_isOne_8 ?_
  have hL1 := hB (0)
  refine lv_iconst (v := nI 1) hx hb dX12_isOne_9 (by decide) ?_
  refine lv_isub hx hb dX12_isOne_10 ?_
  refine lv_i2l (v := ((nI (R 0)) - (nI 1)).toInt64) hx hb dX12_isOne_11 rfl ?_
  refine nr_goB (P := (lN 0) ≤ ((i).toInt64) ∧ ((i).toInt64) ≤ (((nI (R 0)) - (nI 1)).toInt64)) (nr_runS (As := [.long ((i).toInt64), .long (lN 0), .long (((nI (R 0)) - (nI 1)).toInt64)]) ⟨hx, hb, hml, hown, hts⟩ hw (c_X12_in l Γ n G ((i).toInt64) (lN 0) (((nI (R 0)) - (nI 1)).toInt64)) (va_cwS 3 hts gX12_isOne_X12_in rfl rfl rfl (by decide +kernel) ⟨Nat.le_of_ble_eq_true rfl, Nat.le_of_ble_eq_true rfl⟩) rfl hl.1 rfl (Nat.le_of_ble_eq_true rfl) dX12_isOne_12 ⟨Nat.zero_le _, Nat.zero_le _⟩) (fun b2 => ?_) (fun b2 => ?_)
  · exact nr_retB hx hb hr hlocks (Or.inl ⟨(in_nat (by omega)).mp (by assumption), rfl⟩) rfl dX12_isOne_15
  · exact nr_retB hx hb hr hlocks (Or.inr ⟨fun h => absurd ((in_nat (by omega)).mpr h) (by assumption), rfl⟩) rfl dX12_isOne_15
set_option maxHeartbeats 4000000 in
set_option maxRecDepth 100000 in
theorem c_X12_isWrong (l : Launch) (Γ : Gam) (n : Nat) (G : Nat → va_E) (mo : Nat) (R K kp rf ca rc hd fw tl by0 an vl iv : Nat → Nat) (hM : isM Γ G mo R K kp rf ca rc hd fw tl by0 an vl iv) (hmo : mo + 13 ≤ n) (hI : vI R) (i : Int32)  : Met l yX12_isWrong wsX12_isWrong ({ frames := 1, cells := 0, slots := 0, locals := 25 }) (va_Pc [.ref (ad Γ (mo + 0)), .int i] (fun U => hw Γ n G U U.heap)) (vp_Si (bp (∃ j, j < R 1 ∧ i = nI j))) 0 0 (fun _ => False) := by
  refine Met.ofW (cc := cX12_isWrong) (maxL := 2) (ret := (some .boolean)) (by decide) rfl ?_
  intro p e s m args below meth c s₁ B hml hv
  obtain ⟨rfl, hw⟩ := hv
  have hx := B.exec
  have hb := B.bytes
  have hr := B.returns
  have hts := atoms_spec (ws := wsX12_isWrong) B.pre
  have hown : s.vm.findClass RX12 = some m.cls := findClass_of_methodNamed B.named
  have hlocks := B.notSynchronized
  have hl := lv_entry ([.ref (ad Γ (mo + 0)), .int i]) (n := 2) (Nat.le_of_ble_eq_true rfl)
  rw [lg_entry_eq]
  generalize (lg_sl ([.ref (ad Γ (mo + 0)), .int i]) ++ List.replicate (2 - (lg_sl ([.ref (ad Γ (mo + 0)), .int i])).length) Slot.unset).toArray = ls at hl ⊢
  have hl : lv_has ls 2 [(0, .ref (ad Γ (mo + 0))), (1, .int i)] := hl
  have hB := hI.1
  have hB0 := hI.2.1
  have hB1 := hI.2.2.1
  have hB20 := hI.2.2.2.2.2.2.2.2.2
  have hBz2 := hI.2.2.2.1
  have hBz3 := hI.2.2.2.2.1
  have hBz4 := hI.2.2.2.2.2.1
  have hBz5 := hI.2.2.2.2.2.2.1
  have hby := hI.2.2.2.2.2.2.2.1
  have hto := hI.2.2.2.2.2.2.2.2.1
  refine lv_iload_n hx hb dX12_isWrong_0 rfl (lv_at hl 1 rfl) ?_
  refine lv_i2l (v := (i).toInt64) hx hb dX12_isWrong_1 rfl ?_
  refine lv_lconst (v := lN 0) hx hb dX12_isWrong_2 rfl ?_
  refine lv_aload_n hx hb dX12_isWrong_3 rfl (lv_at hl 0 rfl) ?_
  refine nr_goS (nr_runV (As := []) (C := RX12) (T := TX12) (N := 19) ⟨hx, hb, hml, hown, hts⟩ hw (by omega) (isM_0 hM) rfl (c_X12_many l Γ n G mo R K kp rf ca rc hd fw tl by0 an vl iv hM (by omega) hI) (cwV 0 hts gX12_isWrong_X12_many rfl rfl rfl (by decide +kernel) ⟨Nat.le_of_ble_eq_true rfl, Nat.le_of_ble_eq_true rfl⟩) rfl hl.1 rfl (Nat.le_of_ble_eq_true rfl) dX12_isWrong_4 ⟨Nat.zero_le _, Nat.zero_le _⟩) (fun r1 hr1 => ?_)
  obtain rfl : r1 = (nI (R 1)) := hr1
  refine lv_iconst (v := nI 1) hx hb dX12_isWrong_7 (by decide) ?_
  refine lv_isub hx hb dX12_isWrong_8 ?_
  refine lv_i2l (v := ((nI (R 1)) - (nI 1)).toInt64) hx hb dX12_isWrong_9 rfl ?_
  refine nr_goB (P := (lN 0) ≤ ((i).toInt64) ∧ ((i).toInt64) ≤ (((nI (R 1)) - (nI 1)).toInt64)) (nr_runS (As := [.long ((i).toInt64), .long (lN 0), .long (((nI (R 1)) - (nI 1)).toInt64)]) ⟨hx, hb, hml, hown, hts⟩ hw (c_X12_in l Γ n G ((i).toInt64) (lN 0) (((nI (R 1)) - (nI 1)).toInt64)) (va_cwS 3 hts gX12_isWrong_X12_in rfl rfl rfl (by decide +kernel) ⟨Nat.le_of_ble_eq_true rfl, Nat.le_of_ble_eq_true rfl⟩) rfl hl.1 rfl (Nat.le_of_ble_eq_true rfl) dX12_isWrong_10 ⟨Nat.zero_le _, Nat.zero_le _⟩) (fun b2 => ?_) (fun b2 => ?_)
  · exact nr_retB hx hb hr hlocks (Or.inl ⟨(in_nat (by omega)).mp (by assumption), rfl⟩) rfl dX12_isWrong_13
  · exact nr_retB hx hb hr hlocks (Or.inr ⟨fun h => absurd ((in_nat (by omega)).mpr h) (by assumption), rfl⟩) rfl dX12_isWrong_13
theorem wl_X12_toldOf_1 : Cond.fieldLink RX12 7 "BellForgivenModel" "all" "[I" ∈ wsX12_toldOf := List.mem_of_getElem? (i := 1) rfl
theorem hi_X12_toldOf_X12 : ∀ w ∈ u_ws RX12 TX12 19, w ∈ wsX12_toldOf := fun w h => (List.mem_cons_of_mem _ (List.mem_append_right _ h))
set_option maxHeartbeats 4000000 in
set_option maxRecDepth 100000 in
theorem c_X12_toldOf (l : Launch) (Γ : Gam) (n : Nat) (G : Nat → va_E) (mo : Nat) (R K kp rf ca rc hd fw tl by0 an vl iv : Nat → Nat) (hM : isM Γ G mo R K kp rf ca rc hd fw tl by0 an vl iv) (hmo : mo + 13 ≤ n) (hI : vI R) (k what : Nat) (hk : k < 8) (hwh : what < 2147483648)  : Met l yX12_toldOf wsX12_toldOf ({ frames := 2, cells := 0, slots := 0, locals := 45 }) (va_Pc [.ref (ad Γ (mo + 0)), .int (nI k), .int (nI what)] (fun U => hw Γ n G U U.heap)) (vp_Si (fun z => z = nI (rTold R k what))) 0 0 (fun _ => False) := by
  refine Met.ofW (cc := cX12_toldOf) (maxL := 3) (ret := (some .int)) (by decide) rfl ?_
  intro p e s m args below meth c s₁ B hml hv
  obtain ⟨rfl, hw⟩ := hv
  have hx := B.exec
  have hb := B.bytes
  have hr := B.returns
  have hts := atoms_spec (ws := wsX12_toldOf) B.pre
  have hown : s.vm.findClass RX12 = some m.cls := findClass_of_methodNamed B.named
  have hlocks := B.notSynchronized
  have hl := lv_entry ([.ref (ad Γ (mo + 0)), .int (nI k), .int (nI what)]) (n := 3) (Nat.le_of_ble_eq_true rfl)
  rw [lg_entry_eq]
  generalize (lg_sl ([.ref (ad Γ (mo + 0)), .int (nI k), .int (nI what)]) ++ List.replicate (3 - (lg_sl ([.ref (ad Γ (mo + 0)), .int (nI k), .int (nI what)])).length) Slot.unset).toArray = ls at hl ⊢
  have hl : lv_has ls 3 [(0, .ref (ad Γ (mo + 0))), (1, .int (nI k)), (2, .int (nI what))] := hl
  have hB := hI.1
  have hB0 := hI.2.1
  have hB1 := hI.2.2.1
  have hB20 := hI.2.2.2.2.2.2.2.2.2
  have hBz2 := hI.2.2.2.1
  have hBz3 := hI.2.2.2.2.1
  have hBz4 := hI.2.2.2.2.2.1
  have hBz5 := hI.2.2.2.2.2.2.1
  have hby := hI.2.2.2.2.2.2.2.1
  have hto := hI.2.2.2.2.2.2.2.2.1
  refine lv_iload_n hx hb dX12_toldOf_0 rfl (lv_at hl 2 rfl) ?_
  rcases (show what = 0 ∨ what = 1 ∨ what = 2 ∨ what = 3 ∨ what = 4 ∨ what = 5 ∨ 5 < what by omega) with c1 | c1 | c1 | c1 | c1 | c1 | c1
  · refine nr_tabIn (j := 0) (tgt := 40) hx hb (by omega) c1 dX12_toldOf_1 (by decide) (by decide) rfl (by decide) ?_
    refine lv_aload_n hx hb dX12_toldOf_40 rfl (lv_at hl 0 rfl) ?_
    refine nr_get (own := RX12) (C := RX12) (T := TX12) (N := 19) (v := .ref (ad Γ (mo + 1))) hx hb hts hi_X12_toldOf_X12 hown hw (by omega) (isM_0 hM) rfl 0 (by decide) wl_X12_toldOf_1 rfl rfl dX12_toldOf_41 ?_
    refine lv_bipush (v := nI 28) hx hb dX12_toldOf_44 (by decide) ?_
    refine lv_iload_n hx hb dX12_toldOf_46 rfl (lv_at hl 1 rfl) ?_
    refine nr_iadd hx hb dX12_toldOf_47 ?_
    refine nr_iald (x := (R (28 + k))) hx hb hw (by omega) (isM_1 hM) rfl (by omega) (by decide) dX12_toldOf_48 ?_
    have hL2 := hB (28 + k)
    exact nr_retS hx hb hr hlocks (by refine congrArg nI ?_; unfold rTold; (repeat' split) <;> first | rfl | omega) rfl dX12_toldOf_49
  · refine nr_tabIn (j := 1) (tgt := 50) hx hb (by omega) c1 dX12_toldOf_1 (by decide) (by decide) rfl (by decide) ?_
    refine lv_aload_n hx hb dX12_toldOf_50 rfl (lv_at hl 0 rfl) ?_
    refine nr_get (own := RX12) (C := RX12) (T := TX12) (N := 19) (v := .ref (ad Γ (mo + 1))) hx hb hts hi_X12_toldOf_X12 hown hw (by omega) (isM_0 hM) rfl 0 (by decide) wl_X12_toldOf_1 rfl rfl dX12_toldOf_51 ?_
    refine lv_bipush (v := nI 36) hx hb dX12_toldOf_54 (by decide) ?_
    refine lv_iload_n hx hb dX12_toldOf_56 rfl (lv_at hl 1 rfl) ?_
    refine nr_iadd hx hb dX12_toldOf_57 ?_
    refine nr_iald (x := (R (36 + k))) hx hb hw (by omega) (isM_1 hM) rfl (by omega) (by decide) dX12_toldOf_58 ?_
    have hL3 := hB (36 + k)
    exact nr_retS hx hb hr hlocks (by refine congrArg nI ?_; unfold rTold; (repeat' split) <;> first | rfl | omega) rfl dX12_toldOf_59
  · refine nr_tabIn (j := 2) (tgt := 60) hx hb (by omega) c1 dX12_toldOf_1 (by decide) (by decide) rfl (by decide) ?_
    refine lv_aload_n hx hb dX12_toldOf_60 rfl (lv_at hl 0 rfl) ?_
    refine nr_get (own := RX12) (C := RX12) (T := TX12) (N := 19) (v := .ref (ad Γ (mo + 1))) hx hb hts hi_X12_toldOf_X12 hown hw (by omega) (isM_0 hM) rfl 0 (by decide) wl_X12_toldOf_1 rfl rfl dX12_toldOf_61 ?_
    refine lv_bipush (v := nI 44) hx hb dX12_toldOf_64 (by decide) ?_
    refine lv_iload_n hx hb dX12_toldOf_66 rfl (lv_at hl 1 rfl) ?_
    refine nr_iadd hx hb dX12_toldOf_67 ?_
    refine nr_iald (x := (R (44 + k))) hx hb hw (by omega) (isM_1 hM) rfl (by omega) (by decide) dX12_toldOf_68 ?_
    have hL4 := hB (44 + k)
    exact nr_retS hx hb hr hlocks (by refine congrArg nI ?_; unfold rTold; (repeat' split) <;> first | rfl | omega) rfl dX12_toldOf_69
  · refine nr_tabIn (j := 3) (tgt := 70) hx hb (by omega) c1 dX12_toldOf_1 (by decide) (by decide) rfl (by decide) ?_
    refine lv_aload_n hx hb dX12_toldOf_70 rfl (lv_at hl 0 rfl) ?_
    refine nr_get (own := RX12) (C := RX12) (T := TX12) (N := 19) (v := .ref (ad Γ (mo + 1))) hx hb hts hi_X12_toldOf_X12 hown hw (by omega) (isM_0 hM) rfl 0 (by decide) wl_X12_toldOf_1 rfl rfl dX12_toldOf_71 ?_
    refine lv_bipush (v := nI 52) hx hb dX12_toldOf_74 (by decide) ?_
    refine lv_iload_n hx hb dX12_toldOf_76 rfl (lv_at hl 1 rfl) ?_
    refine nr_iadd hx hb dX12_toldOf_77 ?_
    refine nr_iald (x := (R (52 + k))) hx hb hw (by omega) (isM_1 hM) rfl (by omega) (by decide) dX12_toldOf_78 ?_
    have hL5 := hB (52 + k)
    exact nr_retS hx hb hr hlocks (by refine congrArg nI ?_; unfold rTold; (repeat' split) <;> first | rfl | omega) rfl dX12_toldOf_79
  · refine nr_tabIn (j := 4) (tgt := 80) hx hb (by omega) c1 dX12_toldOf_1 (by decide) (by decide) rfl (by decide) ?_
    refine lv_aload_n hx hb dX12_toldOf_80 rfl (lv_at hl 0 rfl) ?_
    refine nr_get (own := RX12) (C := RX12) (T := TX12) (N := 19) (v := .ref (ad Γ (mo + 1))) hx hb hts hi_X12_toldOf_X12 hown hw (by omega) (isM_0 hM) rfl 0 (by decide) wl_X12_toldOf_1 rfl rfl dX12_toldOf_81 ?_
    refine lv_bipush (v := nI 12) hx hb dX12_toldOf_84 (by decide) ?_
    refine lv_iload_n hx hb dX12_toldOf_86 rfl (lv_at hl 1 rfl) ?_
    refine nr_iadd hx hb dX12_toldOf_87 ?_
    refine nr_iald (x := (R (12 + k))) hx hb hw (by omega) (isM_1 hM) rfl (by omega) (by decide) dX12_toldOf_88 ?_
    have hL6 := hB (12 + k)
    exact nr_retS hx hb hr hlocks (by refine congrArg nI ?_; unfold rTold; (repeat' split) <;> first | rfl | omega) rfl dX12_toldOf_89
  · refine nr_tabIn (j := 5) (tgt := 90) hx hb (by omega) c1 dX12_toldOf_1 (by decide) (by decide) rfl (by decide) ?_
    refine lv_aload_n hx hb dX12_toldOf_90 rfl (lv_at hl 0 rfl) ?_
    refine nr_get (own := RX12) (C := RX12) (T := TX12) (N := 19) (v := .ref (ad Γ (mo + 1))) hx hb hts hi_X12_toldOf_X12 hown hw (by omega) (isM_0 hM) rfl 0 (by decide) wl_X12_toldOf_1 rfl rfl dX12_toldOf_91 ?_
    refine lv_bipush (v := nI 20) hx hb dX12_toldOf_94 (by decide) ?_
    refine nr_iald (x := (R 20)) hx hb hw (by omega) (isM_1 hM) rfl (by omega) (by decide) dX12_toldOf_96 ?_
    have hL7 := hB (20)
    refine lv_iload_n hx hb dX12_toldOf_97 rfl (lv_at hl 1 rfl) ?_
    refine nr_ishr hx hb (by omega) (by omega) dX12_toldOf_98 ?_
    refine lv_iconst (v := nI 1) hx hb dX12_toldOf_99 (by decide) ?_
    refine nr_iand1 hx hb dX12_toldOf_100 ?_
    exact nr_retS hx hb hr hlocks (by refine congrArg nI ?_; unfold rTold; (repeat' split) <;> first | rfl | omega) rfl dX12_toldOf_101
  · refine nr_tabOut (tgt := 102) hx hb (by omega) dX12_toldOf_1 (by omega) (by decide) ?_
    refine lv_aload_n hx hb dX12_toldOf_102 rfl (lv_at hl 0 rfl) ?_
    refine nr_get (own := RX12) (C := RX12) (T := TX12) (N := 19) (v := .ref (ad Γ (mo + 1))) hx hb hts hi_X12_toldOf_X12 hown hw (by omega) (isM_0 hM) rfl 0 (by decide) wl_X12_toldOf_1 rfl rfl dX12_toldOf_103 ?_
    refine lv_iload_n hx hb dX12_toldOf_106 rfl (lv_at hl 1 rfl) ?_
    refine nr_goS (nr_runS (As := [.ref (ad Γ (mo + 1)), .int (nI k)]) ⟨hx, hb, hml, hown, hts⟩ hw (c_X12_weighsOf l Γ n G (mo + 1) 256 R (isM_1 hM) (by omega) (by omega) (by omega) (vI_a hI) k (by omega)) (va_cwS 2 hts gX12_toldOf_X12_weighsOf rfl rfl rfl (by decide +kernel) ⟨Nat.le_of_ble_eq_true rfl, Nat.le_of_ble_eq_true rfl⟩) rfl hl.1 rfl (Nat.le_of_ble_eq_true rfl) dX12_toldOf_107 ⟨Nat.zero_le _, Nat.zero_le _⟩) (fun r8 hr8 => ?_)
    obtain rfl : r8 = (nI (rW R k)) := hr8
    exact nr_retS hx hb hr hlocks (by refine congrArg nI ?_; unfold rTold; (repeat' split) <;> first | rfl | omega) rfl dX12_toldOf_110
theorem wl_X12_rungBy_1 : Cond.fieldLink RX12 7 "BellForgivenModel" "all" "[I" ∈ wsX12_rungBy := List.mem_of_getElem? (i := 1) rfl
theorem hi_X12_rungBy_X12 : ∀ w ∈ u_ws RX12 TX12 19, w ∈ wsX12_rungBy := fun w h => (List.mem_cons_of_mem _ (List.mem_append_right _ h))
set_option maxHeartbeats 4000000 in
set_option maxRecDepth 100000 in
theorem c_X12_rungBy (l : Launch) (Γ : Gam) (n : Nat) (G : Nat → va_E) (mo : Nat) (R K kp rf ca rc hd fw tl by0 an vl iv : Nat → Nat) (hM : isM Γ G mo R K kp rf ca rc hd fw tl by0 an vl iv) (hmo : mo + 13 ≤ n) (hI : vI R) (i w : Nat) (hi : i < 6) (hwh : w < 256)  : Met l yX12_rungBy wsX12_rungBy ({ frames := 1, cells := 0, slots := 0, locals := 21 }) (va_Pc [.ref (ad Γ (mo + 0)), .int (nI i), .int (nI w)] (fun U => hw Γ n G U U.heap)) (vp_Si (fun z => z = nI (rbR R i w))) 0 0 (fun _ => False) := by
  refine Met.ofW (cc := cX12_rungBy) (maxL := 5) (ret := (some .int)) (by decide) rfl ?_
  intro p e s m args below meth c s₁ B hml hv
  obtain ⟨rfl, hw⟩ := hv
  have hx := B.exec
  have hb := B.bytes
  have hr := B.returns
  have hts := atoms_spec (ws := wsX12_rungBy) B.pre
  have hown : s.vm.findClass RX12 = some m.cls := findClass_of_methodNamed B.named
  have hlocks := B.notSynchronized
  have hl := lv_entry ([.ref (ad Γ (mo + 0)), .int (nI i), .int (nI w)]) (n := 5) (Nat.le_of_ble_eq_true rfl)
  rw [lg_entry_eq]
  generalize (lg_sl ([.ref (ad Γ (mo + 0)), .int (nI i), .int (nI w)]) ++ List.replicate (5 - (lg_sl ([.ref (ad Γ (mo + 0)), .int (nI i), .int (nI w)])).length) Slot.unset).toArray = ls at hl ⊢
  have hl : lv_has ls 5 [(0, .ref (ad Γ (mo + 0))), (1, .int (nI i)), (2, .int (nI w))] := hl
  have hB := hI.1
  have hB0 := hI.2.1
  have hB1 := hI.2.2.1
  have hB20 := hI.2.2.2.2.2.2.2.2.2
  have hBz2 := hI.2.2.2.1
  have hBz3 := hI.2.2.2.2.1
  have hBz4 := hI.2.2.2.2.2.1
  have hBz5 := hI.2.2.2.2.2.2.1
  have hby := hI.2.2.2.2.2.2.2.1
  have hto := hI.2.2.2.2.2.2.2.2.1
  have hcb := fun m => cntBy_le R i w m
  refine lv_aload_n hx hb dX12_rungBy_0 rfl (lv_at hl 0 rfl) ?_
  refine nr_get (own := RX12) (C := RX12) (T := TX12) (N := 19) (v := .ref (ad Γ (mo + 1))) hx hb hts hi_X12_rungBy_X12 hown hw (by omega) (isM_0 hM) rfl 0 (by decide) wl_X12_rungBy_1 rfl rfl dX12_rungBy_1 ?_
  refine lv_bipush (v := nI 6) hx hb dX12_rungBy_4 (by decide) ?_
  refine lv_iload_n hx hb dX12_rungBy_6 rfl (lv_at hl 1 rfl) ?_
  refine nr_iadd hx hb dX12_rungBy_7 ?_
  refine nr_iald (x := (R (6 + i))) hx hb hw (by omega) (isM_1 hM) rfl (by omega) (by decide) dX12_rungBy_8 ?_
  have hL1 := hB (6 + i)
  refine lv_istore_n (lv' := [(3, .int (nI (R (6 + i)))), (0, .ref (ad Γ (mo + 0))), (1, .int (nI i)), (2, .int (nI w))]) hx hb dX12_rungBy_9 rfl hl (by decide) rfl (fun ls hl => ?_)
  refine lv_iconst (v := nI 0) hx hb dX12_rungBy_10 (by decide) ?_
  refine lv_istore (lv' := [(4, .int (nI 0)), (3, .int (nI (R (6 + i)))), (0, .ref (ad Γ (mo + 0))), (1, .int (nI i)), (2, .int (nI w))]) hx hb dX12_rungBy_11 hl (by decide) rfl (fun ls hl => ?_)
  refine nr_lp (σ := Nat × Nat) (pc := 13) (fun x lv => lv = [(0, .ref (ad Γ (mo + 0))), (1, .int (nI i)), (2, .int (nI w)), (3, .int (nI x.2)), (4, .int (nI x.1))] ∧ (x.1 ≤ R 1) ∧ (x.2 = R (6 + i) + cntBy R i w x.1)) (fun x => R 1 - x.1) (0, R (6 + i)) (lv_sub hl [2, 3, 4, 1, 0] rfl) ⟨rfl, by (try dsimp only); omega, rfl⟩ ?_
  intro x lv ls hl hI ih13
  obtain ⟨k, t⟩ := x
  obtain ⟨rfl, hk, ht⟩ := hI
  try dsimp only at hk ht hl ih13
  have hcb1 := hcb k
  have hL0 := hB (6 + i)
  refine lv_iload hx hb dX12_rungBy_13 (lv_at hl 4 rfl) ?_
  refine lv_aload_n hx hb dX12_rungBy_15 rfl (lv_at hl 0 rfl) ?_
  refine nr_goS (nr_runV (As := []) (C := RX12) (T := TX12) (N := 19) ⟨hx, hb, hml, hown, hts⟩ hw (by omega) (isM_0 hM) rfl (c_X12_many l Γ n G mo R K kp rf ca rc hd fw tl by0 an vl iv hM (by omega) hI) (cwV 0 hts gX12_rungBy_X12_many rfl rfl rfl (by decide +kernel) ⟨Nat.le_of_ble_eq_true rfl, Nat.le_of_ble_eq_true rfl⟩) rfl hl.1 rfl (Nat.le_of_ble_eq_true rfl) dX12_rungBy_16 ⟨Nat.zero_le _, Nat.zero_le _⟩) (fun r2 hr2 => ?_)
  obtain rfl : r2 = (nI (R 1)) := hr2
  refine nr_icmp_ge (tgt := 59) hx hb (by omega) (by omega) dX12_rungBy_19 (by decide) (fun c3 => ?_) (fun c3 => ?_)
  · refine lv_iload_n hx hb dX12_rungBy_59 rfl (lv_at hl 3 rfl) ?_
    refine lv_bipush (v := nI 99) hx hb dX12_rungBy_60 (by decide) ?_
    refine nr_icmp_le (tgt := 70) hx hb (by omega) (by decide) dX12_rungBy_62 (by decide) (fun c4 => ?_) (fun c4 => ?_)
    · refine lv_iload_n hx hb dX12_rungBy_70 rfl (lv_at hl 3 rfl) ?_
      exact nr_retS hx hb hr hlocks (by refine congrArg nI ?_; unfold rbR; rw [show R 1 = k by omega]; omega) rfl dX12_rungBy_71
    · refine lv_bipush (v := nI 99) hx hb dX12_rungBy_65 (by decide) ?_
      refine lv_goto (tgt := 71) hx hb dX12_rungBy_67 (by decide) ?_
      exact nr_retS hx hb hr hlocks (by refine congrArg nI ?_; unfold rbR; rw [show R 1 = k by omega]; omega) rfl dX12_rungBy_71
  · refine lv_iload_n hx hb dX12_rungBy_22 rfl (lv_at hl 3 rfl) ?_
    refine lv_iload_n hx hb dX12_rungBy_23 rfl (lv_at hl 2 rfl) ?_
    refine lv_iload hx hb dX12_rungBy_24 (lv_at hl 4 rfl) ?_
    refine nr_goB (P := bt w k) (nr_runS (As := [.int (nI w), .int (nI k)]) ⟨hx, hb, hml, hown, hts⟩ hw (c_X12_has l Γ n G w k (by omega) (by omega)) (va_cwS 2 hts gX12_rungBy_X12_has rfl rfl rfl (by decide +kernel) ⟨Nat.le_of_ble_eq_true rfl, Nat.le_of_ble_eq_true rfl⟩) rfl hl.1 rfl (Nat.le_of_ble_eq_true rfl) dX12_rungBy_26 ⟨Nat.zero_le _, Nat.zero_le _⟩) (fun b5 => ?_) (fun b5 => ?_)
    · refine nr_if_eq (tgt := 50) hx hb (by decide) dX12_rungBy_29 (by decide) (fun c6 => absurd c6 (by decide)) (fun c6 => ?_)
      refine lv_aload_n hx hb dX12_rungBy_32 rfl (lv_at hl 0 rfl) ?_
      refine nr_get (own := RX12) (C := RX12) (T := TX12) (N := 19) (v := .ref (ad Γ (mo + 1))) hx hb hts hi_X12_rungBy_X12 hown hw (by omega) (isM_0 hM) rfl 0 (by decide) wl_X12_rungBy_1 rfl rfl dX12_rungBy_33 ?_
      refine lv_bipush (v := nI 36) hx hb dX12_rungBy_36 (by decide) ?_
      refine lv_iload hx hb dX12_rungBy_38 (lv_at hl 4 rfl) ?_
      refine nr_iadd hx hb dX12_rungBy_40 ?_
      refine nr_iald (x := (R (36 + k))) hx hb hw (by omega) (isM_1 hM) rfl (by omega) (by decide) dX12_rungBy_41 ?_
      have hL7 := hB (36 + k)
      refine lv_iload_n hx hb dX12_rungBy_42 rfl (lv_at hl 1 rfl) ?_
      refine nr_icmp_ne (tgt := 50) hx hb (by omega) (by omega) dX12_rungBy_43 (by decide) (fun c8 => ?_) (fun c8 => ?_)
      · refine lv_iconst (v := nI 0) hx hb dX12_rungBy_50 (by decide) ?_
        refine nr_iadd hx hb dX12_rungBy_51 ?_
        refine lv_istore_n (lv' := [(3, .int (nI (t + 0))), (0, .ref (ad Γ (mo + 0))), (1, .int (nI i)), (2, .int (nI w)), (4, .int (nI k))]) hx hb dX12_rungBy_52 rfl hl (by decide) rfl (fun ls hl => ?_)
        refine nr_inc (d := 1) (k := 4) (lv' := [(4, .int (nI (k + 1))), (3, .int (nI (t + 0))), (0, .ref (ad Γ (mo + 0))), (1, .int (nI i)), (2, .int (nI w))]) hx hb dX12_rungBy_53 hl rfl (by decide) (by decide) rfl (fun ls hl => ?_)
        refine lv_goto (tgt := 13) hx hb dX12_rungBy_56 (by decide) ?_
        exact ih13 (k + 1, t + 0) _ _ (lv_sub hl [2, 3, 4, 1, 0] rfl) ⟨rfl, by (try dsimp only); omega, by (try dsimp only); rw [ht]; simp only [cntBy]; split <;> omega⟩ (by (try dsimp only); omega)
      · refine lv_iconst (v := nI 1) hx hb dX12_rungBy_46 (by decide) ?_
        refine lv_goto (tgt := 51) hx hb dX12_rungBy_47 (by decide) ?_
        refine nr_iadd hx hb dX12_rungBy_51 ?_
        refine lv_istore_n (lv' := [(3, .int (nI (t + 1))), (0, .ref (ad Γ (mo + 0))), (1, .int (nI i)), (2, .int (nI w)), (4, .int (nI k))]) hx hb dX12_rungBy_52 rfl hl (by decide) rfl (fun ls hl => ?_)
        refine nr_inc (d := 1) (k := 4) (lv' := [(4, .int (nI (k + 1))), (3, .int (nI (t + 1))), (0, .ref (ad Γ (mo + 0))), (1, .int (nI i)), (2, .int (nI w))]) hx hb dX12_rungBy_53 hl rfl (by decide) (by decide) rfl (fun ls hl => ?_)
        refine lv_goto (tgt := 13) hx hb dX12_rungBy_56 (by decide) ?_
        exact ih13 (k + 1, t + 1) _ _ (lv_sub hl [2, 3, 4, 1, 0] rfl) ⟨rfl, by (try dsimp only); omega, by (try dsimp only); rw [ht]; simp only [cntBy]; split <;> omega⟩ (by (try dsimp only); omega)
    · refine nr_if_eq (tgt := 50) hx hb (by decide) dX12_rungBy_29 (by decide) (fun c9 => ?_) (fun c9 => absurd c9 (by decide))
      refine lv_iconst (v := nI 0) hx hb dX12_rungBy_50 (by decide) ?_
      refine nr_iadd hx hb dX12_rungBy_51 ?_
      refine lv_istore_n (lv' := [(3, .int (nI (t + 0))), (0, .ref (ad Γ (mo + 0))), (1, .int (nI i)), (2, .int (nI w)), (4, .int (nI k))]) hx hb dX12_rungBy_52 rfl hl (by decide) rfl (fun ls hl => ?_)
      refine nr_inc (d := 1) (k := 4) (lv' := [(4, .int (nI (k + 1))), (3, .int (nI (t + 0))), (0, .ref (ad Γ (mo + 0))), (1, .int (nI i)), (2, .int (nI w))]) hx hb dX12_rungBy_53 hl rfl (by decide) (by decide) rfl (fun ls hl => ?_)
      refine lv_goto (tgt := 13) hx hb dX12_rungBy_56 (by decide) ?_
      exact ih13 (k + 1, t + 0) _ _ (lv_sub hl [2, 3, 4, 1, 0] rfl) ⟨rfl, by (try dsimp only); omega, by (try dsimp only); rw [ht]; simp only [cntBy]; split <;> omega⟩ (by (try dsimp only); omega)
theorem wl_X12_canBy_1 : Cond.fieldLink RX12 7 "BellForgivenModel" "all" "[I" ∈ wsX12_canBy := List.mem_of_getElem? (i := 1) rfl
theorem hi_X12_canBy_X12 : ∀ w ∈ u_ws RX12 TX12 19, w ∈ wsX12_canBy := fun w h => (List.mem_cons_of_mem _ (List.mem_append_right _ h))
set_option maxHeartbeats 4000000 in
set_option maxRecDepth 100000 in
theorem c_X12_canBy (l : Launch) (Γ : Gam) (n : Nat) (G : Nat → va_E) (mo : Nat) (R K kp rf ca rc hd fw tl by0 an vl iv : Nat → Nat) (hM : isM Γ G mo R K kp rf ca rc hd fw tl by0 an vl iv) (hmo : mo + 13 ≤ n) (hI : vI R) (k w : Nat) (hk : k < 8) (hwh : w < 256)  : Met l yX12_canBy wsX12_canBy ({ frames := 2, cells := 0, slots := 0, locals := 45 }) (va_Pc [.ref (ad Γ (mo + 0)), .int (nI k), .int (nI w)] (fun U => hw Γ n G U U.heap)) (vp_Si (bp (cbP R k w))) 0 0 (fun _ => False) := by
  refine Met.ofW (cc := cX12_canBy) (maxL := 4) (ret := (some .boolean)) (by decide) rfl ?_
  intro p e s m args below meth c s₁ B hml hv
  obtain ⟨rfl, hw⟩ := hv
  have hx := B.exec
  have hb := B.bytes
  have hr := B.returns
  have hts := atoms_spec (ws := wsX12_canBy) B.pre
  have hown : s.vm.findClass RX12 = some m.cls := findClass_of_methodNamed B.named
  have hlocks := B.notSynchronized
  have hl := lv_entry ([.ref (ad Γ (mo + 0)), .int (nI k), .int (nI w)]) (n := 4) (Nat.le_of_ble_eq_true rfl)
  rw [lg_entry_eq]
  generalize (lg_sl ([.ref (ad Γ (mo + 0)), .int (nI k), .int (nI w)]) ++ List.replicate (4 - (lg_sl ([.ref (ad Γ (mo + 0)), .int (nI k), .int (nI w)])).length) Slot.unset).toArray = ls at hl ⊢
  have hl : lv_has ls 4 [(0, .ref (ad Γ (mo + 0))), (1, .int (nI k)), (2, .int (nI w))] := hl
  have hB := hI.1
  have hB0 := hI.2.1
  have hB1 := hI.2.2.1
  have hB20 := hI.2.2.2.2.2.2.2.2.2
  have hBz2 := hI.2.2.2.1
  have hBz3 := hI.2.2.2.2.1
  have hBz4 := hI.2.2.2.2.2.1
  have hBz5 := hI.2.2.2.2.2.2.1
  have hby := hI.2.2.2.2.2.2.2.1
  have hto := hI.2.2.2.2.2.2.2.2.1
  have hto1 := hto k hk
  have hw1 := rW_lt hB k
  have hm1 := sMercy_le (R (22 + R (44 + k))) (rbR R (R (44 + k)) w) (R 21)
  have hrb : rbR R (R (44 + k)) w ≤ 99 := by unfold rbR; omega
  refine lv_aload_n hx hb dX12_canBy_0 rfl (lv_at hl 0 rfl) ?_
  refine nr_get (own := RX12) (C := RX12) (T := TX12) (N := 19) (v := .ref (ad Γ (mo + 1))) hx hb hts hi_X12_canBy_X12 hown hw (by omega) (isM_0 hM) rfl 0 (by decide) wl_X12_canBy_1 rfl rfl dX12_canBy_1 ?_
  refine lv_bipush (v := nI 44) hx hb dX12_canBy_4 (by decide) ?_
  refine lv_iload_n hx hb dX12_canBy_6 rfl (lv_at hl 1 rfl) ?_
  refine nr_iadd hx hb dX12_canBy_7 ?_
  refine nr_iald (x := (R (44 + k))) hx hb hw (by omega) (isM_1 hM) rfl (by omega) (by decide) dX12_canBy_8 ?_
  have hL1 := hB (44 + k)
  refine lv_istore_n (lv' := [(3, .int (nI (R (44 + k)))), (0, .ref (ad Γ (mo + 0))), (1, .int (nI k)), (2, .int (nI w))]) hx hb dX12_canBy_9 rfl hl (by decide) rfl (fun ls hl => ?_)
  refine lv_aload_n hx hb dX12_canBy_10 rfl (lv_at hl 1 rfl) ?_
  refine nr_get (own := RX12) (C := RX12) (T := TX12) (N := 19) (v := .ref (ad Γ (mo + 1))) hx hb hts hi_X12_canBy_X12 hown hw (by omega) (isM_0 hM) rfl 0 (by decide) wl_X12_canBy_1 rfl rfl dX12_canBy_11 ?_
  refine lv_bipush (v := nI 20) hx hb dX12_canBy_14 (by decide) ?_
  refine nr_iald (x := (R 20)) hx hb hw (by omega) (isM_1 hM) rfl (by omega) (by decide) dX12_canBy_16 ?_
  have hL2 := hB (20)
  refine lv_iload_n hx hb dX12_canBy_17 rfl (lv_at hl 2 rfl) ?_
  refine nr_goB (P := bt (R 20) k) (nr_runS (As := [.int (nI (R 20)), .int (nI k)]) ⟨hx, hb, hml, hown, hts⟩ hw (c_X12_has l Γ n G (R 20) k (by omega) (by omega)) (va_cwS 2 hts gX12_canBy_X12_has rfl rfl rfl (by decide +kernel) ⟨Nat.le_of_ble_eq_true rfl, Nat.le_of_ble_eq_true rfl⟩) rfl hl.1 rfl (Nat.le_of_ble_eq_true rfl) dX12_canBy_18 ⟨Nat.zero_le _, Nat.zero_le _⟩) (fun b3 => ?_) (fun b3 => ?_)
  · refine nr_if_ne (tgt := 72) hx hb (by decide) dX12_canBy_21 (by decide) (fun c4 => ?_) (fun c4 => absurd c4 (by decide))
    refine lv_iconst (v := nI 0) hx hb dX12_canBy_72 (by decide) ?_
    exact nr_retB hx hb hr hlocks (Or.inr ⟨by intro hh; first | exact hh.1 (by assumption) | exact hh.2.1 (by assumption) | (have := hh.2.2; omega), rfl⟩) rfl dX12_canBy_73
  · refine nr_if_ne (tgt := 72) hx hb (by decide) dX12_canBy_21 (by decide) (fun c5 => absurd c5 (by decide)) (fun c5 => ?_)
    refine lv_iload_n hx hb dX12_canBy_24 rfl (lv_at hl 3 rfl) ?_
    refine lv_iload_n hx hb dX12_canBy_25 rfl (lv_at hl 2 rfl) ?_
    refine nr_goB (P := bt w k) (nr_runS (As := [.int (nI w), .int (nI k)]) ⟨hx, hb, hml, hown, hts⟩ hw (c_X12_has l Γ n G w k (by omega) (by omega)) (va_cwS 2 hts gX12_canBy_X12_has rfl rfl rfl (by decide +kernel) ⟨Nat.le_of_ble_eq_true rfl, Nat.le_of_ble_eq_true rfl⟩) rfl hl.1 rfl (Nat.le_of_ble_eq_true rfl) dX12_canBy_26 ⟨Nat.zero_le _, Nat.zero_le _⟩) (fun b6 => ?_) (fun b6 => ?_)
    · refine nr_if_ne (tgt := 72) hx hb (by decide) dX12_canBy_29 (by decide) (fun c7 => ?_) (fun c7 => absurd c7 (by decide))
      refine lv_iconst (v := nI 0) hx hb dX12_canBy_72 (by decide) ?_
      exact nr_retB hx hb hr hlocks (Or.inr ⟨by intro hh; first | exact hh.1 (by assumption) | exact hh.2.1 (by assumption) | (have := hh.2.2; omega), rfl⟩) rfl dX12_canBy_73
    · refine nr_if_ne (tgt := 72) hx hb (by decide) dX12_canBy_29 (by decide) (fun c8 => absurd c8 (by decide)) (fun c8 => ?_)
      refine lv_aload_n hx hb dX12_canBy_32 rfl (lv_at hl 1 rfl) ?_
      refine nr_get (own := RX12) (C := RX12) (T := TX12) (N := 19) (v := .ref (ad Γ (mo + 1))) hx hb hts hi_X12_canBy_X12 hown hw (by omega) (isM_0 hM) rfl 0 (by decide) wl_X12_canBy_1 rfl rfl dX12_canBy_33 ?_
      refine lv_iload_n hx hb dX12_canBy_36 rfl (lv_at hl 2 rfl) ?_
      refine nr_goS (nr_runS (As := [.ref (ad Γ (mo + 1)), .int (nI k)]) ⟨hx, hb, hml, hown, hts⟩ hw (c_X12_weighsOf l Γ n G (mo + 1) 256 R (isM_1 hM) (by omega) (by omega) (by omega) (vI_a hI) k (by omega)) (va_cwS 2 hts gX12_canBy_X12_weighsOf rfl rfl rfl (by decide +kernel) ⟨Nat.le_of_ble_eq_true rfl, Nat.le_of_ble_eq_true rfl⟩) rfl hl.1 rfl (Nat.le_of_ble_eq_true rfl) dX12_canBy_37 ⟨Nat.zero_le _, Nat.zero_le _⟩) (fun r9 hr9 => ?_)
      obtain rfl : r9 = (nI (rW R k)) := hr9
      refine lv_aload_n hx hb dX12_canBy_40 rfl (lv_at hl 1 rfl) ?_
      refine nr_get (own := RX12) (C := RX12) (T := TX12) (N := 19) (v := .ref (ad Γ (mo + 1))) hx hb hts hi_X12_canBy_X12 hown hw (by omega) (isM_0 hM) rfl 0 (by decide) wl_X12_canBy_1 rfl rfl dX12_canBy_41 ?_
      refine lv_bipush (v := nI 22) hx hb dX12_canBy_44 (by decide) ?_
      refine lv_iload_n hx hb dX12_canBy_46 rfl (lv_at hl 0 rfl) ?_
      refine nr_iadd hx hb dX12_canBy_47 ?_
      refine nr_iald (x := (R (22 + (R (44 + k))))) hx hb hw (by omega) (isM_1 hM) rfl (by omega) (by decide) dX12_canBy_48 ?_
      have hL10 := hB (22 + (R (44 + k)))
      refine lv_aload_n hx hb dX12_canBy_49 rfl (lv_at hl 1 rfl) ?_
      refine lv_iload_n hx hb dX12_canBy_50 rfl (lv_at hl 0 rfl) ?_
      refine lv_iload_n hx hb dX12_canBy_51 rfl (lv_at hl 3 rfl) ?_
      refine nr_goS (nr_runV (As := [.int (nI (R (44 + k))), .int (nI w)]) (C := RX12) (T := TX12) (N := 19) ⟨hx, hb, hml, hown, hts⟩ hw (by omega) (isM_0 hM) rfl (c_X12_rungBy l Γ n G mo R K kp rf ca rc hd fw tl by0 an vl iv hM (by omega) hI (R (44 + k)) w (by omega) (by omega)) (cwV 2 hts gX12_canBy_X12_rungBy rfl rfl rfl (by decide +kernel) ⟨Nat.le_of_ble_eq_true rfl, Nat.le_of_ble_eq_true rfl⟩) rfl hl.1 rfl (Nat.le_of_ble_eq_true rfl) dX12_canBy_52 ⟨Nat.zero_le _, Nat.zero_le _⟩) (fun r11 hr11 => ?_)
      obtain rfl : r11 = (nI (rbR R (R (44 + k)) w)) := hr11
      refine lv_aload_n hx hb dX12_canBy_55 rfl (lv_at hl 1 rfl) ?_
      refine nr_get (own := RX12) (C := RX12) (T := TX12) (N := 19) (v := .ref (ad Γ (mo + 1))) hx hb hts hi_X12_canBy_X12 hown hw (by omega) (isM_0 hM) rfl 0 (by decide) wl_X12_canBy_1 rfl rfl dX12_canBy_56 ?_
      refine lv_bipush (v := nI 21) hx hb dX12_canBy_59 (by decide) ?_
      refine nr_iald (x := (R 21)) hx hb hw (by omega) (isM_1 hM) rfl (by omega) (by decide) dX12_canBy_61 ?_
      have hL12 := hB (21)
      refine nr_goS (nr_runS (As := [.int (nI (R (22 + (R (44 + k))))), .int (nI (rbR R (R (44 + k)) w)), .int (nI (R 21))]) ⟨hx, hb, hml, hown, hts⟩ hw (c_X12_letsAs l Γ n G (R (22 + (R (44 + k)))) (rbR R (R (44 + k)) w) (R 21) (by omega) (by omega) (by omega)) (va_cwS 3 hts gX12_canBy_X12_letsAs rfl rfl rfl (by decide +kernel) ⟨Nat.le_of_ble_eq_true rfl, Nat.le_of_ble_eq_true rfl⟩) rfl hl.1 rfl (Nat.le_of_ble_eq_true rfl) dX12_canBy_62 ⟨Nat.zero_le _, Nat.zero_le _⟩) (fun r13 hr13 => ?_)
      obtain rfl : r13 = (nI (sMercy (R (22 + (R (44 + k)))) (rbR R (R (44 + k)) w) (R 21))) := hr13
      refine nr_icmp_gt (tgt := 72) hx hb (by omega) (by omega) dX12_canBy_65 (by decide) (fun c14 => ?_) (fun c14 => ?_)
      · refine lv_iconst (v := nI 0) hx hb dX12_canBy_72 (by decide) ?_
        exact nr_retB hx hb hr hlocks (Or.inr ⟨by intro hh; first | exact hh.1 (by assumption) | exact hh.2.1 (by assumption) | (have := hh.2.2; omega), rfl⟩) rfl dX12_canBy_73
      · refine lv_iconst (v := nI 1) hx hb dX12_canBy_68 (by decide) ?_
        refine lv_goto (tgt := 73) hx hb dX12_canBy_69 (by decide) ?_
        exact nr_retB hx hb hr hlocks (Or.inl ⟨⟨by assumption, by assumption, by omega⟩, rfl⟩) rfl dX12_canBy_73
theorem wl_X12_may_1 : Cond.fieldLink RX12 7 "BellForgivenModel" "all" "[I" ∈ wsX12_may := List.mem_of_getElem? (i := 1) rfl
theorem hi_X12_may_X12 : ∀ w ∈ u_ws RX12 TX12 19, w ∈ wsX12_may := fun w h => (List.mem_cons_of_mem _ (List.mem_append_right _ h))
set_option maxHeartbeats 4000000 in
set_option maxRecDepth 100000 in
theorem c_X12_may (l : Launch) (Γ : Gam) (n : Nat) (G : Nat → va_E) (mo : Nat) (R K kp rf ca rc hd fw tl by0 an vl iv : Nat → Nat) (hM : isM Γ G mo R K kp rf ca rc hd fw tl by0 an vl iv) (hmo : mo + 13 ≤ n) (hI : vI R)  : Met l yX12_may wsX12_may ({ frames := 3, cells := 0, slots := 0, locals := 66 }) (va_Pc [.ref (ad Γ (mo + 0))] (fun U => hw Γ n G U U.heap)) (vp_Si (fun z => z = nI (bitsOf (fun k => canP R k) (R 1)))) 0 0 (fun _ => False) := by
  refine Met.ofW (cc := cX12_may) (maxL := 3) (ret := (some .int)) (by decide) rfl ?_
  intro p e s m args below meth c s₁ B hml hv
  obtain ⟨rfl, hw⟩ := hv
  have hx := B.exec
  have hb := B.bytes
  have hr := B.returns
  have hts := atoms_spec (ws := wsX12_may) B.pre
  have hown : s.vm.findClass RX12 = some m.cls := findClass_of_methodNamed B.named
  have hlocks := B.notSynchronized
  have hl := lv_entry ([.ref (ad Γ (mo + 0))]) (n := 3) (Nat.le_of_ble_eq_true rfl)
  rw [lg_entry_eq]
  generalize (lg_sl ([.ref (ad Γ (mo + 0))]) ++ List.replicate (3 - (lg_sl ([.ref (ad Γ (mo + 0))])).length) Slot.unset).toArray = ls at hl ⊢
  have hl : lv_has ls 3 [(0, .ref (ad Γ (mo + 0)))] := hl
  have hB := hI.1
  have hB0 := hI.2.1
  have hB1 := hI.2.2.1
  have hB20 := hI.2.2.2.2.2.2.2.2.2
  have hBz2 := hI.2.2.2.1
  have hBz3 := hI.2.2.2.2.1
  have hBz4 := hI.2.2.2.2.2.1
  have hBz5 := hI.2.2.2.2.2.2.1
  have hby := hI.2.2.2.2.2.2.2.1
  have hto := hI.2.2.2.2.2.2.2.2.1
  refine lv_iconst (v := nI 0) hx hb dX12_may_0 (by decide) ?_
  refine lv_istore_n (lv' := [(1, .int (nI 0)), (0, .ref (ad Γ (mo + 0)))]) hx hb dX12_may_1 rfl hl (by decide) rfl (fun ls hl => ?_)
  refine lv_iconst (v := nI 0) hx hb dX12_may_2 (by decide) ?_
  refine lv_istore_n (lv' := [(2, .int (nI 0)), (1, .int (nI 0)), (0, .ref (ad Γ (mo + 0)))]) hx hb dX12_may_3 rfl hl (by decide) rfl (fun ls hl => ?_)
  refine nr_lp (σ := Nat × Nat) (pc := 4) (fun x lv => lv = [(0, .ref (ad Γ (mo + 0))), (1, .int (nI x.2)), (2, .int (nI x.1))] ∧ (x.1 ≤ R 1) ∧ (x.2 = bitsOf (fun k => canP R k) x.1)) (fun x => R 1 - x.1) (0, 0) (lv_sub hl [2, 1, 0] rfl) ⟨rfl, by (try dsimp only); omega, rfl⟩ ?_
  intro x lv ls hl hI ih4
  obtain ⟨q, t⟩ := x
  obtain ⟨rfl, hk, ht⟩ := hI
  try dsimp only at hk ht hl ih4
  refine lv_iload_n hx hb dX12_may_4 rfl (lv_at hl 2 rfl) ?_
  refine lv_aload_n hx hb dX12_may_5 rfl (lv_at hl 0 rfl) ?_
  refine nr_goS (nr_runV (As := []) (C := RX12) (T := TX12) (N := 19) ⟨hx, hb, hml, hown, hts⟩ hw (by omega) (isM_0 hM) rfl (c_X12_many l Γ n G mo R K kp rf ca rc hd fw tl by0 an vl iv hM (by omega) hI) (cwV 0 hts gX12_may_X12_many rfl rfl rfl (by decide +kernel) ⟨Nat.le_of_ble_eq_true rfl, Nat.le_of_ble_eq_true rfl⟩) rfl hl.1 rfl (Nat.le_of_ble_eq_true rfl) dX12_may_6 ⟨Nat.zero_le _, Nat.zero_le _⟩) (fun r1 hr1 => ?_)
  obtain rfl : r1 = (nI (R 1)) := hr1
  refine nr_icmp_ge (tgt := 39) hx hb (by omega) (by omega) dX12_may_9 (by decide) (fun c2 => ?_) (fun c2 => ?_)
  · refine lv_iload_n hx hb dX12_may_39 rfl (lv_at hl 1 rfl) ?_
    exact nr_retS hx hb hr hlocks (by rw [ht, show q = R 1 by omega]) rfl dX12_may_40
  · refine lv_iload_n hx hb dX12_may_12 rfl (lv_at hl 1 rfl) ?_
    refine lv_aload_n hx hb dX12_may_13 rfl (lv_at hl 0 rfl) ?_
    refine nr_get (own := RX12) (C := RX12) (T := TX12) (N := 19) (v := .ref (ad Γ (mo + 1))) hx hb hts hi_X12_may_X12 hown hw (by omega) (isM_0 hM) rfl 0 (by decide) wl_X12_may_1 rfl rfl dX12_may_14 ?_
    refine lv_iload_n hx hb dX12_may_17 rfl (lv_at hl 2 rfl) ?_
    refine nr_goB (P := canP R q) (nr_runS (As := [.ref (ad Γ (mo + 1)), .int (nI q)]) ⟨hx, hb, hml, hown, hts⟩ hw (c_X12_canOff l Γ n G (mo + 1) 256 R (isM_1 hM) (by omega) (by omega) (by omega) (vI_a hI) q (by omega)) (va_cwS 2 hts gX12_may_X12_canOff rfl rfl rfl (by decide +kernel) ⟨Nat.le_of_ble_eq_true rfl, Nat.le_of_ble_eq_true rfl⟩) rfl hl.1 rfl (Nat.le_of_ble_eq_true rfl) dX12_may_18 ⟨Nat.zero_le _, Nat.zero_le _⟩) (fun b3 => ?_) (fun b3 => ?_)
    · refine nr_if_eq (tgt := 30) hx hb (by decide) dX12_may_21 (by decide) (fun c4 => absurd c4 (by decide)) (fun c4 => ?_)
      refine lv_iconst (v := nI 1) hx hb dX12_may_24 (by decide) ?_
      refine lv_iload_n hx hb dX12_may_25 rfl (lv_at hl 2 rfl) ?_
      refine nr_ishl1 hx hb (by omega) dX12_may_26 ?_
      refine lv_goto (tgt := 31) hx hb dX12_may_27 (by decide) ?_
      refine nr_ior hx hb dX12_may_31 ?_
      refine lv_istore_n (lv' := [(1, .int (nI (t ||| (2 ^ q)))), (0, .ref (ad Γ (mo + 0))), (2, .int (nI q))]) hx hb dX12_may_32 rfl hl (by decide) rfl (fun ls hl => ?_)
      refine nr_inc (d := 1) (k := 2) (lv' := [(2, .int (nI (q + 1))), (1, .int (nI (t ||| (2 ^ q)))), (0, .ref (ad Γ (mo + 0)))]) hx hb dX12_may_33 hl rfl (by decide) (by decide) rfl (fun ls hl => ?_)
      refine lv_goto (tgt := 4) hx hb dX12_may_36 (by decide) ?_
      exact ih4 (q + 1, t ||| (2 ^ q)) _ _ (lv_sub hl [2, 1, 0] rfl) ⟨rfl, by (try dsimp only); omega, by (try dsimp only); rw [ht]; simp only [bitsOf]; first | rw [if_pos (by assumption)] | rw [if_neg (by assumption), Nat.or_zero]⟩ (by (try dsimp only); omega)
    · refine nr_if_eq (tgt := 30) hx hb (by decide) dX12_may_21 (by decide) (fun c5 => ?_) (fun c5 => absurd c5 (by decide))
      refine lv_iconst (v := nI 0) hx hb dX12_may_30 (by decide) ?_
      refine nr_ior hx hb dX12_may_31 ?_
      refine lv_istore_n (lv' := [(1, .int (nI (t ||| 0))), (0, .ref (ad Γ (mo + 0))), (2, .int (nI q))]) hx hb dX12_may_32 rfl hl (by decide) rfl (fun ls hl => ?_)
      refine nr_inc (d := 1) (k := 2) (lv' := [(2, .int (nI (q + 1))), (1, .int (nI (t ||| 0))), (0, .ref (ad Γ (mo + 0)))]) hx hb dX12_may_33 hl rfl (by decide) (by decide) rfl (fun ls hl => ?_)
      refine lv_goto (tgt := 4) hx hb dX12_may_36 (by decide) ?_
      exact ih4 (q + 1, t ||| 0) _ _ (lv_sub hl [2, 1, 0] rfl) ⟨rfl, by (try dsimp only); omega, by (try dsimp only); rw [ht]; simp only [bitsOf]; first | rw [if_pos (by assumption)] | rw [if_neg (by assumption), Nat.or_zero]⟩ (by (try dsimp only); omega)
theorem wl_X12_isGraveBy_1 : Cond.fieldLink RX12 7 "BellForgivenModel" "all" "[I" ∈ wsX12_isGraveBy := List.mem_of_getElem? (i := 1) rfl
theorem hi_X12_isGraveBy_X12 : ∀ w ∈ u_ws RX12 TX12 19, w ∈ wsX12_isGraveBy := fun w h => (List.mem_cons_of_mem _ (List.mem_append_right _ h))
set_option maxHeartbeats 4000000 in
set_option maxRecDepth 100000 in
theorem c_X12_isGraveBy (l : Launch) (Γ : Gam) (n : Nat) (G : Nat → va_E) (mo : Nat) (R K kp rf ca rc hd fw tl by0 an vl iv : Nat → Nat) (hM : isM Γ G mo R K kp rf ca rc hd fw tl by0 an vl iv) (hmo : mo + 13 ≤ n) (hI : vI R) (k g : Nat) (hk : k < 8) (hg : g ≤ 9)  : Met l yX12_isGraveBy wsX12_isGraveBy ({ frames := 1, cells := 0, slots := 0, locals := 24 }) (va_Pc [.ref (ad Γ (mo + 0)), .int (nI k), .int (nI g)] (fun U => hw Γ n G U U.heap)) (vp_Si (bp (fitsP R k g))) 0 0 (fun _ => False) := by
  refine Met.ofW (cc := cX12_isGraveBy) (maxL := 7) (ret := (some .boolean)) (by decide) rfl ?_
  intro p e s m args below meth c s₁ B hml hv
  obtain ⟨rfl, hw⟩ := hv
  have hx := B.exec
  have hb := B.bytes
  have hr := B.returns
  have hts := atoms_spec (ws := wsX12_isGraveBy) B.pre
  have hown : s.vm.findClass RX12 = some m.cls := findClass_of_methodNamed B.named
  have hlocks := B.notSynchronized
  have hl := lv_entry ([.ref (ad Γ (mo + 0)), .int (nI k), .int (nI g)]) (n := 7) (Nat.le_of_ble_eq_true rfl)
  rw [lg_entry_eq]
  generalize (lg_sl ([.ref (ad Γ (mo + 0)), .int (nI k), .int (nI g)]) ++ List.replicate (7 - (lg_sl ([.ref (ad Γ (mo + 0)), .int (nI k), .int (nI g)])).length) Slot.unset).toArray = ls at hl ⊢
  have hl : lv_has ls 7 [(0, .ref (ad Γ (mo + 0))), (1, .int (nI k)), (2, .int (nI g))] := hl
  have hB := hI.1
  have hB0 := hI.2.1
  have hB1 := hI.2.2.1
  have hB20 := hI.2.2.2.2.2.2.2.2.2
  have hBz2 := hI.2.2.2.1
  have hBz3 := hI.2.2.2.2.1
  have hBz4 := hI.2.2.2.2.2.1
  have hBz5 := hI.2.2.2.2.2.2.1
  have hby := hI.2.2.2.2.2.2.2.1
  have hto := hI.2.2.2.2.2.2.2.2.1
  have hWl := fun d => sWeight_le (R (28 + k)) g d
  refine lv_iconst (v := nI 1) hx hb dX12_isGraveBy_0 (by decide) ?_
  refine lv_istore_n (lv' := [(3, .int (nI 1)), (0, .ref (ad Γ (mo + 0))), (1, .int (nI k)), (2, .int (nI g))]) hx hb dX12_isGraveBy_1 rfl hl (by decide) rfl (fun ls hl => ?_)
  refine lv_iconst (v := nI 0) hx hb dX12_isGraveBy_2 (by decide) ?_
  refine lv_istore (lv' := [(4, .int (nI 0)), (3, .int (nI 1)), (0, .ref (ad Γ (mo + 0))), (1, .int (nI k)), (2, .int (nI g))]) hx hb dX12_isGraveBy_3 hl (by decide) rfl (fun ls hl => ?_)
  refine nr_lp (σ := Nat × Nat) (pc := 5) (fun x lv => lv = [(0, .ref (ad Γ (mo + 0))), (1, .int (nI k)), (2, .int (nI g)), (3, .int (nI x.2)), (4, .int (nI x.1))] ∧ (x.1 ≤ R 2) ∧ ((x.2 = 1 ∧ ∀ j, j < x.1 → R (60 + (j * 4 + 0)) = k → (sWeight (R (28 + k)) g (R (60 + (j * 4 + 1))) ≤ R (60 + (j * 4 + 2)) ↔ R (60 + (j * 4 + 3)) = 1)) ∨ (x.2 = 0 ∧ ¬ fitsP R k g))) (fun x => R 2 - x.1) (0, 1) (lv_sub hl [2, 3, 4, 1, 0] rfl) ⟨rfl, by (try dsimp only); omega, by (try dsimp only); exact (Or.inl ⟨rfl, fun j hj => absurd hj (Nat.not_lt_zero j)⟩)⟩ ?_
  intro x lv ls hl hI ih5
  obtain ⟨r, t⟩ := x
  obtain ⟨rfl, hr1, ht⟩ := hI
  try dsimp only at hr1 ht hl ih5
  have hWl1 := hWl (R (60 + (r * 4 + 1)))
  have hb0 := hB (60 + (r * 4 + 0))
  have hb1 := hB (60 + (r * 4 + 1))
  have hb2 := hB (60 + (r * 4 + 2))
  have hb3 := hB (60 + (r * 4 + 3))
  refine lv_iload hx hb dX12_isGraveBy_5 (lv_at hl 4 rfl) ?_
  refine lv_aload_n hx hb dX12_isGraveBy_7 rfl (lv_at hl 0 rfl) ?_
  refine nr_get (own := RX12) (C := RX12) (T := TX12) (N := 19) (v := .ref (ad Γ (mo + 1))) hx hb hts hi_X12_isGraveBy_X12 hown hw (by omega) (isM_0 hM) rfl 0 (by decide) wl_X12_isGraveBy_1 rfl rfl dX12_isGraveBy_8 ?_
  refine lv_iconst (v := nI 2) hx hb dX12_isGraveBy_11 (by decide) ?_
  refine nr_iald (x := (R 2)) hx hb hw (by omega) (isM_1 hM) rfl (by omega) (by decide) dX12_isGraveBy_12 ?_
  have hL1 := hB (2)
  refine nr_icmp_ge (tgt := 116) hx hb (by omega) (by omega) dX12_isGraveBy_13 (by decide) (fun c2 => ?_) (fun c2 => ?_)
  · refine lv_iload_n hx hb dX12_isGraveBy_116 rfl (lv_at hl 3 rfl) ?_
    exact nr_retB hx hb hr hlocks (by
      rcases ht with ⟨t1, hn⟩ | ⟨t1, hn⟩
      · exact Or.inl ⟨fun j hj => hn j (by omega), by rw [t1]⟩
      · exact Or.inr ⟨hn, by rw [t1]⟩) rfl dX12_isGraveBy_117
  · refine lv_bipush (v := nI 60) hx hb dX12_isGraveBy_16 (by decide) ?_
    refine lv_iconst (v := nI 4) hx hb dX12_isGraveBy_18 (by decide) ?_
    refine lv_iload hx hb dX12_isGraveBy_19 (lv_at hl 4 rfl) ?_
    refine nr_imul hx hb dX12_isGraveBy_21 ?_
    refine nr_iadd hx hb dX12_isGraveBy_22 ?_
    refine lv_istore (lv' := [(5, .int (nI (60 + (4 * r)))), (0, .ref (ad Γ (mo + 0))), (1, .int (nI k)), (2, .int (nI g)), (3, .int (nI t)), (4, .int (nI r))]) hx hb dX12_isGraveBy_23 hl (by decide) rfl (fun ls hl => ?_)
    refine lv_aload_n hx hb dX12_isGraveBy_25 rfl (lv_at hl 1 rfl) ?_
    refine nr_get (own := RX12) (C := RX12) (T := TX12) (N := 19) (v := .ref (ad Γ (mo + 1))) hx hb hts hi_X12_isGraveBy_X12 hown hw (by omega) (isM_0 hM) rfl 0 (by decide) wl_X12_isGraveBy_1 rfl rfl dX12_isGraveBy_26 ?_
    refine lv_bipush (v := nI 28) hx hb dX12_isGraveBy_29 (by decide) ?_
    refine lv_iload_n hx hb dX12_isGraveBy_31 rfl (lv_at hl 2 rfl) ?_
    refine nr_iadd hx hb dX12_isGraveBy_32 ?_
    refine nr_iald (x := (R (28 + k))) hx hb hw (by omega) (isM_1 hM) rfl (by omega) (by decide) dX12_isGraveBy_33 ?_
    have hL3 := hB (28 + k)
    refine lv_iload_n hx hb dX12_isGraveBy_34 rfl (lv_at hl 3 rfl) ?_
    refine lv_aload_n hx hb dX12_isGraveBy_35 rfl (lv_at hl 1 rfl) ?_
    refine nr_get (own := RX12) (C := RX12) (T := TX12) (N := 19) (v := .ref (ad Γ (mo + 1))) hx hb hts hi_X12_isGraveBy_X12 hown hw (by omega) (isM_0 hM) rfl 0 (by decide) wl_X12_isGraveBy_1 rfl rfl dX12_isGraveBy_36 ?_
    refine lv_iload hx hb dX12_isGraveBy_39 (lv_at hl 0 rfl) ?_
    refine lv_iconst (v := nI 1) hx hb dX12_isGraveBy_41 (by decide) ?_
    refine nr_iadd hx hb dX12_isGraveBy_42 ?_
    refine nr_iald (x := (R (60 + (r * 4 + 1)))) hx hb hw (by omega) (isM_1 hM) (congrArg R (by omega)) (by omega) (by decide) dX12_isGraveBy_43 ?_
    have hL4 := hB (60 + (4 * r) + 1)
    refine nr_goS (nr_runS (As := [.int (nI (R (28 + k))), .int (nI g), .int (nI (R (60 + (r * 4 + 1))))]) ⟨hx, hb, hml, hown, hts⟩ hw (c_X12_weighsAs l Γ n G (R (28 + k)) g (R (60 + (r * 4 + 1))) (by omega) (by omega) (by omega)) (va_cwS 3 hts gX12_isGraveBy_X12_weighsAs rfl rfl rfl (by decide +kernel) ⟨Nat.le_of_ble_eq_true rfl, Nat.le_of_ble_eq_true rfl⟩) rfl hl.1 rfl (Nat.le_of_ble_eq_true rfl) dX12_isGraveBy_44 ⟨Nat.zero_le _, Nat.zero_le _⟩) (fun r5 hr5 => ?_)
    obtain rfl : r5 = (nI (sWeight (R (28 + k)) g (R (60 + (r * 4 + 1))))) := hr5
    refine lv_aload_n hx hb dX12_isGraveBy_47 rfl (lv_at hl 1 rfl) ?_
    refine nr_get (own := RX12) (C := RX12) (T := TX12) (N := 19) (v := .ref (ad Γ (mo + 1))) hx hb hts hi_X12_isGraveBy_X12 hown hw (by omega) (isM_0 hM) rfl 0 (by decide) wl_X12_isGraveBy_1 rfl rfl dX12_isGraveBy_48 ?_
    refine lv_iload hx hb dX12_isGraveBy_51 (lv_at hl 0 rfl) ?_
    refine lv_iconst (v := nI 2) hx hb dX12_isGraveBy_53 (by decide) ?_
    refine nr_iadd hx hb dX12_isGraveBy_54 ?_
    refine nr_iald (x := (R (60 + (r * 4 + 2)))) hx hb hw (by omega) (isM_1 hM) (congrArg R (by omega)) (by omega) (by decide) dX12_isGraveBy_55 ?_
    have hL6 := hB (60 + (4 * r) + 2)
    refine nr_icmp_gt (tgt := 63) hx hb (by omega) (by omega) dX12_isGraveBy_56 (by decide) (fun c7 => ?_) (fun c7 => ?_)
    · refine lv_iconst (v := nI 0) hx hb dX12_isGraveBy_63 (by decide) ?_
      refine lv_istore (lv' := [(6, .int (nI 0)), (5, .int (nI (60 + (4 * r)))), (0, .ref (ad Γ (mo + 0))), (1, .int (nI k)), (2, .int (nI g)), (3, .int (nI t)), (4, .int (nI r))]) hx hb dX12_isGraveBy_64 hl (by decide) rfl (fun ls hl => ?_)
      refine lv_iload_n hx hb dX12_isGraveBy_66 rfl (lv_at hl 5 rfl) ?_
      refine nr_if_eq (tgt := 108) hx hb (by omega) dX12_isGraveBy_67 (by decide) (fun c8 => ?_) (fun c8 => ?_)
      · refine lv_iconst (v := nI 0) hx hb dX12_isGraveBy_108 (by decide) ?_
        refine lv_istore_n (lv' := [(3, .int (nI 0)), (6, .int (nI 0)), (5, .int (nI (60 + (4 * r)))), (0, .ref (ad Γ (mo + 0))), (1, .int (nI k)), (2, .int (nI g)), (4, .int (nI r))]) hx hb dX12_isGraveBy_109 rfl hl (by decide) rfl (fun ls hl => ?_)
        refine nr_inc (d := 1) (k := 6) (lv' := [(4, .int (nI (r + 1))), (3, .int (nI 0)), (6, .int (nI 0)), (5, .int (nI (60 + (4 * r)))), (0, .ref (ad Γ (mo + 0))), (1, .int (nI k)), (2, .int (nI g))]) hx hb dX12_isGraveBy_110 hl rfl (by decide) (by decide) rfl (fun ls hl => ?_)
        refine lv_goto (tgt := 5) hx hb dX12_isGraveBy_113 (by decide) ?_
        exact ih5 (r + 1, 0) _ _ (lv_sub hl [4, 5, 6, 1, 0] rfl) ⟨rfl, by (try dsimp only); omega, by
            (try dsimp only)
            rcases ht with ⟨t1, hn⟩ | ⟨t1, hn⟩
            · first
              | omega
              | (refine Or.inr ⟨rfl, fun hh => ?_⟩; have h9 := hh r (by omega) (by assumption); omega)
              | (refine Or.inl ⟨rfl, fun j hj hjk => ?_⟩
                 rcases Nat.lt_or_eq_of_le (Nat.le_of_lt_succ hj) with q | q
                 · exact hn j q hjk
                 · subst q; omega)
            · first
              | exact Or.inr ⟨rfl, hn⟩
              | omega⟩ (by (try dsimp only); omega)
      · refine lv_aload_n hx hb dX12_isGraveBy_70 rfl (lv_at hl 2 rfl) ?_
        refine nr_get (own := RX12) (C := RX12) (T := TX12) (N := 19) (v := .ref (ad Γ (mo + 1))) hx hb hts hi_X12_isGraveBy_X12 hown hw (by omega) (isM_0 hM) rfl 0 (by decide) wl_X12_isGraveBy_1 rfl rfl dX12_isGraveBy_71 ?_
        refine lv_iload hx hb dX12_isGraveBy_74 (lv_at hl 1 rfl) ?_
        refine nr_iald (x := (R (60 + (r * 4 + 0)))) hx hb hw (by omega) (isM_1 hM) (congrArg R (by omega)) (by omega) (by decide) dX12_isGraveBy_76 ?_
        have hL9 := hB (60 + (4 * r))
        refine lv_iload_n hx hb dX12_isGraveBy_77 rfl (lv_at hl 3 rfl) ?_
        refine nr_icmp_ne (tgt := 104) hx hb (by omega) (by omega) dX12_isGraveBy_78 (by decide) (fun c10 => ?_) (fun c10 => ?_)
        · refine lv_iconst (v := nI 1) hx hb dX12_isGraveBy_104 (by decide) ?_
          refine lv_goto (tgt := 109) hx hb dX12_isGraveBy_105 (by decide) ?_
          refine lv_istore_n (lv' := [(3, .int (nI 1)), (6, .int (nI 0)), (5, .int (nI (60 + (4 * r)))), (0, .ref (ad Γ (mo + 0))), (1, .int (nI k)), (2, .int (nI g)), (4, .int (nI r))]) hx hb dX12_isGraveBy_109 rfl hl (by decide) rfl (fun ls hl => ?_)
          refine nr_inc (d := 1) (k := 6) (lv' := [(4, .int (nI (r + 1))), (3, .int (nI 1)), (6, .int (nI 0)), (5, .int (nI (60 + (4 * r)))), (0, .ref (ad Γ (mo + 0))), (1, .int (nI k)), (2, .int (nI g))]) hx hb dX12_isGraveBy_110 hl rfl (by decide) (by decide) rfl (fun ls hl => ?_)
          refine lv_goto (tgt := 5) hx hb dX12_isGraveBy_113 (by decide) ?_
          exact ih5 (r + 1, 1) _ _ (lv_sub hl [4, 5, 6, 1, 0] rfl) ⟨rfl, by (try dsimp only); omega, by
            (try dsimp only)
            rcases ht with ⟨t1, hn⟩ | ⟨t1, hn⟩
            · first
              | omega
              | (refine Or.inr ⟨rfl, fun hh => ?_⟩; have h9 := hh r (by omega) (by assumption); omega)
              | (refine Or.inl ⟨rfl, fun j hj hjk => ?_⟩
                 rcases Nat.lt_or_eq_of_le (Nat.le_of_lt_succ hj) with q | q
                 · exact hn j q hjk
                 · subst q; omega)
            · first
              | exact Or.inr ⟨rfl, hn⟩
              | omega⟩ (by (try dsimp only); omega)
        · refine lv_iload hx hb dX12_isGraveBy_81 (lv_at hl 0 rfl) ?_
          refine lv_aload_n hx hb dX12_isGraveBy_83 rfl (lv_at hl 2 rfl) ?_
          refine nr_get (own := RX12) (C := RX12) (T := TX12) (N := 19) (v := .ref (ad Γ (mo + 1))) hx hb hts hi_X12_isGraveBy_X12 hown hw (by omega) (isM_0 hM) rfl 0 (by decide) wl_X12_isGraveBy_1 rfl rfl dX12_isGraveBy_84 ?_
          refine lv_iload hx hb dX12_isGraveBy_87 (lv_at hl 1 rfl) ?_
          refine lv_iconst (v := nI 3) hx hb dX12_isGraveBy_89 (by decide) ?_
          refine nr_iadd hx hb dX12_isGraveBy_90 ?_
          refine nr_iald (x := (R (60 + (r * 4 + 3)))) hx hb hw (by omega) (isM_1 hM) (congrArg R (by omega)) (by omega) (by decide) dX12_isGraveBy_91 ?_
          have hL11 := hB (60 + (4 * r) + 3)
          refine lv_iconst (v := nI 1) hx hb dX12_isGraveBy_92 (by decide) ?_
          refine nr_icmp_ne (tgt := 100) hx hb (by omega) (by decide) dX12_isGraveBy_93 (by decide) (fun c12 => ?_) (fun c12 => ?_)
          · refine lv_iconst (v := nI 0) hx hb dX12_isGraveBy_100 (by decide) ?_
            refine nr_icmp_ne (tgt := 108) hx hb (by decide) (by decide) dX12_isGraveBy_101 (by decide) (fun c13 => absurd c13 (by decide)) (fun c13 => ?_)
            refine lv_iconst (v := nI 1) hx hb dX12_isGraveBy_104 (by decide) ?_
            refine lv_goto (tgt := 109) hx hb dX12_isGraveBy_105 (by decide) ?_
            refine lv_istore_n (lv' := [(3, .int (nI 1)), (6, .int (nI 0)), (5, .int (nI (60 + (4 * r)))), (0, .ref (ad Γ (mo + 0))), (1, .int (nI k)), (2, .int (nI g)), (4, .int (nI r))]) hx hb dX12_isGraveBy_109 rfl hl (by decide) rfl (fun ls hl => ?_)
            refine nr_inc (d := 1) (k := 6) (lv' := [(4, .int (nI (r + 1))), (3, .int (nI 1)), (6, .int (nI 0)), (5, .int (nI (60 + (4 * r)))), (0, .ref (ad Γ (mo + 0))), (1, .int (nI k)), (2, .int (nI g))]) hx hb dX12_isGraveBy_110 hl rfl (by decide) (by decide) rfl (fun ls hl => ?_)
            refine lv_goto (tgt := 5) hx hb dX12_isGraveBy_113 (by decide) ?_
            exact ih5 (r + 1, 1) _ _ (lv_sub hl [4, 5, 6, 1, 0] rfl) ⟨rfl, by (try dsimp only); omega, by
            (try dsimp only)
            rcases ht with ⟨t1, hn⟩ | ⟨t1, hn⟩
            · first
              | omega
              | (refine Or.inr ⟨rfl, fun hh => ?_⟩; have h9 := hh r (by omega) (by assumption); omega)
              | (refine Or.inl ⟨rfl, fun j hj hjk => ?_⟩
                 rcases Nat.lt_or_eq_of_le (Nat.le_of_lt_succ hj) with q | q
                 · exact hn j q hjk
                 · subst q; omega)
            · first
              | exact Or.inr ⟨rfl, hn⟩
              | omega⟩ (by (try dsimp only); omega)
          · refine lv_iconst (v := nI 1) hx hb dX12_isGraveBy_96 (by decide) ?_
            refine lv_goto (tgt := 101) hx hb dX12_isGraveBy_97 (by decide) ?_
            refine nr_icmp_ne (tgt := 108) hx hb (by decide) (by decide) dX12_isGraveBy_101 (by decide) (fun c14 => ?_) (fun c14 => absurd c14 (by decide))
            refine lv_iconst (v := nI 0) hx hb dX12_isGraveBy_108 (by decide) ?_
            refine lv_istore_n (lv' := [(3, .int (nI 0)), (6, .int (nI 0)), (5, .int (nI (60 + (4 * r)))), (0, .ref (ad Γ (mo + 0))), (1, .int (nI k)), (2, .int (nI g)), (4, .int (nI r))]) hx hb dX12_isGraveBy_109 rfl hl (by decide) rfl (fun ls hl => ?_)
            refine nr_inc (d := 1) (k := 6) (lv' := [(4, .int (nI (r + 1))), (3, .int (nI 0)), (6, .int (nI 0)), (5, .int (nI (60 + (4 * r)))), (0, .ref (ad Γ (mo + 0))), (1, .int (nI k)), (2, .int (nI g))]) hx hb dX12_isGraveBy_110 hl rfl (by decide) (by decide) rfl (fun ls hl => ?_)
            refine lv_goto (tgt := 5) hx hb dX12_isGraveBy_113 (by decide) ?_
            exact ih5 (r + 1, 0) _ _ (lv_sub hl [4, 5, 6, 1, 0] rfl) ⟨rfl, by (try dsimp only); omega, by
            (try dsimp only)
            rcases ht with ⟨t1, hn⟩ | ⟨t1, hn⟩
            · first
              | omega
              | (refine Or.inr ⟨rfl, fun hh => ?_⟩; have h9 := hh r (by omega) (by assumption); omega)
              | (refine Or.inl ⟨rfl, fun j hj hjk => ?_⟩
                 rcases Nat.lt_or_eq_of_le (Nat.le_of_lt_succ hj) with q | q
                 · exact hn j q hjk
                 · subst q; omega)
            · first
              | exact Or.inr ⟨rfl, hn⟩
              | omega⟩ (by (try dsimp only); omega)
    · refine lv_iconst (v := nI 1) hx hb dX12_isGraveBy_59 (by decide) ?_
      refine lv_goto (tgt := 64) hx hb dX12_isGraveBy_60 (by decide) ?_
      refine lv_istore (lv' := [(6, .int (nI 1)), (5, .int (nI (60 + (4 * r)))), (0, .ref (ad Γ (mo + 0))), (1, .int (nI k)), (2, .int (nI g)), (3, .int (nI t)), (4, .int (nI r))]) hx hb dX12_isGraveBy_64 hl (by decide) rfl (fun ls hl => ?_)
      refine lv_iload_n hx hb dX12_isGraveBy_66 rfl (lv_at hl 5 rfl) ?_
      refine nr_if_eq (tgt := 108) hx hb (by omega) dX12_isGraveBy_67 (by decide) (fun c15 => ?_) (fun c15 => ?_)
      · refine lv_iconst (v := nI 0) hx hb dX12_isGraveBy_108 (by decide) ?_
        refine lv_istore_n (lv' := [(3, .int (nI 0)), (6, .int (nI 1)), (5, .int (nI (60 + (4 * r)))), (0, .ref (ad Γ (mo + 0))), (1, .int (nI k)), (2, .int (nI g)), (4, .int (nI r))]) hx hb dX12_isGraveBy_109 rfl hl (by decide) rfl (fun ls hl => ?_)
        refine nr_inc (d := 1) (k := 6) (lv' := [(4, .int (nI (r + 1))), (3, .int (nI 0)), (6, .int (nI 1)), (5, .int (nI (60 + (4 * r)))), (0, .ref (ad Γ (mo + 0))), (1, .int (nI k)), (2, .int (nI g))]) hx hb dX12_isGraveBy_110 hl rfl (by decide) (by decide) rfl (fun ls hl => ?_)
        refine lv_goto (tgt := 5) hx hb dX12_isGraveBy_113 (by decide) ?_
        exact ih5 (r + 1, 0) _ _ (lv_sub hl [4, 5, 6, 1, 0] rfl) ⟨rfl, by (try dsimp only); omega, by
            (try dsimp only)
            rcases ht with ⟨t1, hn⟩ | ⟨t1, hn⟩
            · first
              | omega
              | (refine Or.inr ⟨rfl, fun hh => ?_⟩; have h9 := hh r (by omega) (by assumption); omega)
              | (refine Or.inl ⟨rfl, fun j hj hjk => ?_⟩
                 rcases Nat.lt_or_eq_of_le (Nat.le_of_lt_succ hj) with q | q
                 · exact hn j q hjk
                 · subst q; omega)
            · first
              | exact Or.inr ⟨rfl, hn⟩
              | omega⟩ (by (try dsimp only); omega)
      · refine lv_aload_n hx hb dX12_isGraveBy_70 rfl (lv_at hl 2 rfl) ?_
        refine nr_get (own := RX12) (C := RX12) (T := TX12) (N := 19) (v := .ref (ad Γ (mo + 1))) hx hb hts hi_X12_isGraveBy_X12 hown hw (by omega) (isM_0 hM) rfl 0 (by decide) wl_X12_isGraveBy_1 rfl rfl dX12_isGraveBy_71 ?_
        refine lv_iload hx hb dX12_isGraveBy_74 (lv_at hl 1 rfl) ?_
        refine nr_iald (x := (R (60 + (r * 4 + 0)))) hx hb hw (by omega) (isM_1 hM) (congrArg R (by omega)) (by omega) (by decide) dX12_isGraveBy_76 ?_
        have hL16 := hB (60 + (4 * r))
        refine lv_iload_n hx hb dX12_isGraveBy_77 rfl (lv_at hl 3 rfl) ?_
        refine nr_icmp_ne (tgt := 104) hx hb (by omega) (by omega) dX12_isGraveBy_78 (by decide) (fun c17 => ?_) (fun c17 => ?_)
        · refine lv_iconst (v := nI 1) hx hb dX12_isGraveBy_104 (by decide) ?_
          refine lv_goto (tgt := 109) hx hb dX12_isGraveBy_105 (by decide) ?_
          refine lv_istore_n (lv' := [(3, .int (nI 1)), (6, .int (nI 1)), (5, .int (nI (60 + (4 * r)))), (0, .ref (ad Γ (mo + 0))), (1, .int (nI k)), (2, .int (nI g)), (4, .int (nI r))]) hx hb dX12_isGraveBy_109 rfl hl (by decide) rfl (fun ls hl => ?_)
          refine nr_inc (d := 1) (k := 6) (lv' := [(4, .int (nI (r + 1))), (3, .int (nI 1)), (6, .int (nI 1)), (5, .int (nI (60 + (4 * r)))), (0, .ref (ad Γ (mo + 0))), (1, .int (nI k)), (2, .int (nI g))]) hx hb dX12_isGraveBy_110 hl rfl (by decide) (by decide) rfl (fun ls hl => ?_)
          refine lv_goto (tgt := 5) hx hb dX12_isGraveBy_113 (by decide) ?_
          exact ih5 (r + 1, 1) _ _ (lv_sub hl [4, 5, 6, 1, 0] rfl) ⟨rfl, by (try dsimp only); omega, by
            (try dsimp only)
            rcases ht with ⟨t1, hn⟩ | ⟨t1, hn⟩
            · first
              | omega
              | (refine Or.inr ⟨rfl, fun hh => ?_⟩; have h9 := hh r (by omega) (by assumption); omega)
              | (refine Or.inl ⟨rfl, fun j hj hjk => ?_⟩
                 rcases Nat.lt_or_eq_of_le (Nat.le_of_lt_succ hj) with q | q
                 · exact hn j q hjk
                 · subst q; omega)
            · first
              | exact Or.inr ⟨rfl, hn⟩
              | omega⟩ (by (try dsimp only); omega)
        · refine lv_iload hx hb dX12_isGraveBy_81 (lv_at hl 0 rfl) ?_
          refine lv_aload_n hx hb dX12_isGraveBy_83 rfl (lv_at hl 2 rfl) ?_
          refine nr_get (own := RX12) (C := RX12) (T := TX12) (N := 19) (v := .ref (ad Γ (mo + 1))) hx hb hts hi_X12_isGraveBy_X12 hown hw (by omega) (isM_0 hM) rfl 0 (by decide) wl_X12_isGraveBy_1 rfl rfl dX12_isGraveBy_84 ?_
          refine lv_iload hx hb dX12_isGraveBy_87 (lv_at hl 1 rfl) ?_
          refine lv_iconst (v := nI 3) hx hb dX12_isGraveBy_89 (by decide) ?_
          refine nr_iadd hx hb dX12_isGraveBy_90 ?_
          refine nr_iald (x := (R (60 + (r * 4 + 3)))) hx hb hw (by omega) (isM_1 hM) (congrArg R (by omega)) (by omega) (by decide) dX12_isGraveBy_91 ?_
          have hL18 := hB (60 + (4 * r) + 3)
          refine lv_iconst (v := nI 1) hx hb dX12_isGraveBy_92 (by decide) ?_
          refine nr_icmp_ne (tgt := 100) hx hb (by omega) (by decide) dX12_isGraveBy_93 (by decide) (fun c19 => ?_) (fun c19 => ?_)
          · refine lv_iconst (v := nI 0) hx hb dX12_isGraveBy_100 (by decide) ?_
            refine nr_icmp_ne (tgt := 108) hx hb (by decide) (by decide) dX12_isGraveBy_101 (by decide) (fun c20 => ?_) (fun c20 => absurd c20 (by decide))
            refine lv_iconst (v := nI 0) hx hb dX12_isGraveBy_108 (by decide) ?_
            refine lv_istore_n (lv' := [(3, .int (nI 0)), (6, .int (nI 1)), (5, .int (nI (60 + (4 * r)))), (0, .ref (ad Γ (mo + 0))), (1, .int (nI k)), (2, .int (nI g)), (4, .int (nI r))]) hx hb dX12_isGraveBy_109 rfl hl (by decide) rfl (fun ls hl => ?_)
            refine nr_inc (d := 1) (k := 6) (lv' := [(4, .int (nI (r + 1))), (3, .int (nI 0)), (6, .int (nI 1)), (5, .int (nI (60 + (4 * r)))), (0, .ref (ad Γ (mo + 0))), (1, .int (nI k)), (2, .int (nI g))]) hx hb dX12_isGraveBy_110 hl rfl (by decide) (by decide) rfl (fun ls hl => ?_)
            refine lv_goto (tgt := 5) hx hb dX12_isGraveBy_113 (by decide) ?_
            exact ih5 (r + 1, 0) _ _ (lv_sub hl [4, 5, 6, 1, 0] rfl) ⟨rfl, by (try dsimp only); omega, by
            (try dsimp only)
            rcases ht with ⟨t1, hn⟩ | ⟨t1, hn⟩
            · first
              | omega
              | (refine Or.inr ⟨rfl, fun hh => ?_⟩; have h9 := hh r (by omega) (by assumption); omega)
              | (refine Or.inl ⟨rfl, fun j hj hjk => ?_⟩
                 rcases Nat.lt_or_eq_of_le (Nat.le_of_lt_succ hj) with q | q
                 · exact hn j q hjk
                 · subst q; omega)
            · first
              | exact Or.inr ⟨rfl, hn⟩
              | omega⟩ (by (try dsimp only); omega)
          · refine lv_iconst (v := nI 1) hx hb dX12_isGraveBy_96 (by decide) ?_
            refine lv_goto (tgt := 101) hx hb dX12_isGraveBy_97 (by decide) ?_
            refine nr_icmp_ne (tgt := 108) hx hb (by decide) (by decide) dX12_isGraveBy_101 (by decide) (fun c21 => absurd c21 (by decide)) (fun c21 => ?_)
            refine lv_iconst (v := nI 1) hx hb dX12_isGraveBy_104 (by decide) ?_
            refine lv_goto (tgt := 109) hx hb dX12_isGraveBy_105 (by decide) ?_
            refine lv_istore_n (lv' := [(3, .int (nI 1)), (6, .int (nI 1)), (5, .int (nI (60 + (4 * r)))), (0, .ref (ad Γ (mo + 0))), (1, .int (nI k)), (2, .int (nI g)), (4, .int (nI r))]) hx hb dX12_isGraveBy_109 rfl hl (by decide) rfl (fun ls hl => ?_)
            refine nr_inc (d := 1) (k := 6) (lv' := [(4, .int (nI (r + 1))), (3, .int (nI 1)), (6, .int (nI 1)), (5, .int (nI (60 + (4 * r)))), (0, .ref (ad Γ (mo + 0))), (1, .int (nI k)), (2, .int (nI g))]) hx hb dX12_isGraveBy_110 hl rfl (by decide) (by decide) rfl (fun ls hl => ?_)
            refine lv_goto (tgt := 5) hx hb dX12_isGraveBy_113 (by decide) ?_
            exact ih5 (r + 1, 1) _ _ (lv_sub hl [4, 5, 6, 1, 0] rfl) ⟨rfl, by (try dsimp only); omega, by
            (try dsimp only)
            rcases ht with ⟨t1, hn⟩ | ⟨t1, hn⟩
            · first
              | omega
              | (refine Or.inr ⟨rfl, fun hh => ?_⟩; have h9 := hh r (by omega) (by assumption); omega)
              | (refine Or.inl ⟨rfl, fun j hj hjk => ?_⟩
                 rcases Nat.lt_or_eq_of_le (Nat.le_of_lt_succ hj) with q | q
                 · exact hn j q hjk
                 · subst q; omega)
            · first
              | exact Or.inr ⟨rfl, hn⟩
              | omega⟩ (by (try dsimp only); omega)
theorem wl_X12_mostAlike_1 : Cond.fieldLink RX12 39 "BellForgivenModel" "tells" "[I" ∈ wsX12_mostAlike := List.mem_of_getElem? (i := 1) rfl
theorem hi_X12_mostAlike_X12 : ∀ w ∈ u_ws RX12 TX12 19, w ∈ wsX12_mostAlike := fun w h => (List.mem_cons_of_mem _ (List.mem_append_right _ h))
set_option maxHeartbeats 4000000 in
set_option maxRecDepth 100000 in
theorem c_X12_mostAlike (l : Launch) (Γ : Gam) (n : Nat) (G : Nat → va_E) (mo : Nat) (R K kp rf ca rc hd fw tl by0 an vl iv : Nat → Nat) (hM : isM Γ G mo R K kp rf ca rc hd fw tl by0 an vl iv) (hmo : mo + 13 ≤ n) (hI : vI R) (fit : Nat) (hfit : fit < 64) (htl : ∀ j, tl j < 2147483648)  : Met l yX12_mostAlike wsX12_mostAlike ({ frames := 1, cells := 0, slots := 0, locals := 21 }) (va_Pc [.ref (ad Γ (mo + 0)), .int (nI fit)] (fun U => hw Γ n G U U.heap)) (vp_Si (fun z => z = nI (most tl fit 6))) 0 0 (fun _ => False) := by
  refine Met.ofW (cc := cX12_mostAlike) (maxL := 6) (ret := (some .int)) (by decide) rfl ?_
  intro p e s m args below meth c s₁ B hml hv
  obtain ⟨rfl, hw⟩ := hv
  have hx := B.exec
  have hb := B.bytes
  have hr := B.returns
  have hts := atoms_spec (ws := wsX12_mostAlike) B.pre
  have hown : s.vm.findClass RX12 = some m.cls := findClass_of_methodNamed B.named
  have hlocks := B.notSynchronized
  have hl := lv_entry ([.ref (ad Γ (mo + 0)), .int (nI fit)]) (n := 6) (Nat.le_of_ble_eq_true rfl)
  rw [lg_entry_eq]
  generalize (lg_sl ([.ref (ad Γ (mo + 0)), .int (nI fit)]) ++ List.replicate (6 - (lg_sl ([.ref (ad Γ (mo + 0)), .int (nI fit)])).length) Slot.unset).toArray = ls at hl ⊢
  have hl : lv_has ls 6 [(0, .ref (ad Γ (mo + 0))), (1, .int (nI fit))] := hl
  have hB := hI.1
  have hB0 := hI.2.1
  have hB1 := hI.2.2.1
  have hB20 := hI.2.2.2.2.2.2.2.2.2
  have hBz2 := hI.2.2.2.1
  have hBz3 := hI.2.2.2.2.1
  have hBz4 := hI.2.2.2.2.2.1
  have hBz5 := hI.2.2.2.2.2.2.1
  have hby := hI.2.2.2.2.2.2.2.1
  have hto := hI.2.2.2.2.2.2.2.2.1
  refine lv_iconst (v := nI 0) hx hb dX12_mostAlike_0 (by decide) ?_
  refine lv_istore_n (lv' := [(2, .int (nI 0)), (0, .ref (ad Γ (mo + 0))), (1, .int (nI fit))]) hx hb dX12_mostAlike_1 rfl hl (by decide) rfl (fun ls hl => ?_)
  refine lv_iconst (v := nI 0) hx hb dX12_mostAlike_2 (by decide) ?_
  refine lv_istore_n (lv' := [(3, .int (nI 0)), (2, .int (nI 0)), (0, .ref (ad Γ (mo + 0))), (1, .int (nI fit))]) hx hb dX12_mostAlike_3 rfl hl (by decide) rfl (fun ls hl => ?_)
  refine nr_lp (σ := Nat × Nat) (pc := 4) (fun x lv => lv = [(0, .ref (ad Γ (mo + 0))), (1, .int (nI fit)), (2, .int (nI x.2)), (3, .int (nI x.1))] ∧ (x.1 ≤ 6) ∧ (x.2 = most tl fit x.1)) (fun x => 6 - x.1) (0, 0) (lv_sub hl [2, 3, 1, 0] rfl) ⟨rfl, by (try dsimp only); omega, rfl⟩ ?_
  intro x lv ls hl hI ih4
  obtain ⟨kd, t⟩ := x
  obtain ⟨rfl, hkd, ht⟩ := hI
  try dsimp only at hkd ht hl ih4
  have hmo2 := most_le tl fit kd
  refine lv_iload_n hx hb dX12_mostAlike_4 rfl (lv_at hl 3 rfl) ?_
  refine lv_bipush (v := nI 6) hx hb dX12_mostAlike_5 (by decide) ?_
  refine nr_icmp_ge (tgt := 91) hx hb (by omega) (by decide) dX12_mostAlike_7 (by decide) (fun c1 => ?_) (fun c1 => ?_)
  · refine lv_iload_n hx hb dX12_mostAlike_91 rfl (lv_at hl 2 rfl) ?_
    exact nr_retS hx hb hr hlocks (by rw [ht, show kd = 6 by omega]) rfl dX12_mostAlike_92
  · refine lv_iconst (v := nI 0) hx hb dX12_mostAlike_10 (by decide) ?_
    refine lv_istore (lv' := [(4, .int (nI 0)), (0, .ref (ad Γ (mo + 0))), (1, .int (nI fit)), (2, .int (nI t)), (3, .int (nI kd))]) hx hb dX12_mostAlike_11 hl (by decide) rfl (fun ls hl => ?_)
    refine lv_iconst (v := nI 0) hx hb dX12_mostAlike_13 (by decide) ?_
    refine lv_istore (lv' := [(5, .int (nI 0)), (4, .int (nI 0)), (0, .ref (ad Γ (mo + 0))), (1, .int (nI fit)), (2, .int (nI t)), (3, .int (nI kd))]) hx hb dX12_mostAlike_14 hl (by decide) rfl (fun ls hl => ?_)
    refine nr_lp (σ := Nat × Nat) (pc := 16) (fun x lv => lv = [(0, .ref (ad Γ (mo + 0))), (1, .int (nI fit)), (2, .int (nI t)), (3, .int (nI kd)), (4, .int (nI x.2)), (5, .int (nI x.1))] ∧ (x.1 ≤ 6) ∧ (x.2 = alike tl fit kd x.1) ∧ (x.2 ≤ x.1)) (fun x => 6 - x.1) (0, 0) (lv_sub hl [2, 3, 4, 5, 1, 0] rfl) ⟨rfl, by (try dsimp only); omega, rfl, by (try dsimp only); omega⟩ ?_
    intro x lv ls hl hI ih16
    obtain ⟨o, al⟩ := x
    obtain ⟨rfl, ho, hal, hal2⟩ := hI
    try dsimp only at ho hal hal2 hl ih16
    have hzero : ¬ bt fit kd → alike tl fit kd 6 = 0 := fun hh => by simp [alike, cnt, hh]
    have hzero2 : ¬ bt fit kd → alike tl fit kd o = 0 := fun hh => by
          unfold alike; generalize o = oo; induction oo with
          | zero => rfl
          | succ q ih => unfold cnt; rw [if_neg (fun z => hh z.1.1)]; exact ih
    refine lv_iload hx hb dX12_mostAlike_16 (lv_at hl 5 rfl) ?_
    refine lv_bipush (v := nI 6) hx hb dX12_mostAlike_18 (by decide) ?_
    refine nr_icmp_ge (tgt := 72) hx hb (by omega) (by decide) dX12_mostAlike_20 (by decide) (fun c2 => ?_) (fun c2 => ?_)
    · refine lv_iload hx hb dX12_mostAlike_72 (lv_at hl 4 rfl) ?_
      refine lv_iload_n hx hb dX12_mostAlike_74 rfl (lv_at hl 2 rfl) ?_
      refine nr_icmp_le (tgt := 83) hx hb (by omega) (by omega) dX12_mostAlike_75 (by decide) (fun c3 => ?_) (fun c3 => ?_)
      · refine lv_iload_n hx hb dX12_mostAlike_83 rfl (lv_at hl 2 rfl) ?_
        refine lv_istore_n (lv' := [(2, .int (nI t)), (0, .ref (ad Γ (mo + 0))), (1, .int (nI fit)), (3, .int (nI kd)), (4, .int (nI al)), (5, .int (nI o))]) hx hb dX12_mostAlike_84 rfl hl (by decide) rfl (fun ls hl => ?_)
        refine nr_inc (d := 1) (k := 3) (lv' := [(3, .int (nI (kd + 1))), (2, .int (nI t)), (0, .ref (ad Γ (mo + 0))), (1, .int (nI fit)), (4, .int (nI al)), (5, .int (nI o))]) hx hb dX12_mostAlike_85 hl rfl (by decide) (by decide) rfl (fun ls hl => ?_)
        refine lv_goto (tgt := 4) hx hb dX12_mostAlike_88 (by decide) ?_
        exact ih4 (kd + 1, t) _ _ (lv_sub hl [2, 3, 1, 0] rfl) ⟨rfl, by (try dsimp only); omega, by (try dsimp only); simp only [most]; (have ha9 : alike tl fit kd 6 = al := (by first | (rw [hal, show o = 6 by omega]; done) | (rw [hal]; exact (hzero (by assumption)).trans (hzero2 (by assumption)).symm))); rw [ha9, ← ht]; omega⟩ (by (try dsimp only); omega)
      · refine lv_iload hx hb dX12_mostAlike_78 (lv_at hl 4 rfl) ?_
        refine lv_goto (tgt := 84) hx hb dX12_mostAlike_80 (by decide) ?_
        refine lv_istore_n (lv' := [(2, .int (nI al)), (0, .ref (ad Γ (mo + 0))), (1, .int (nI fit)), (3, .int (nI kd)), (4, .int (nI al)), (5, .int (nI o))]) hx hb dX12_mostAlike_84 rfl hl (by decide) rfl (fun ls hl => ?_)
        refine nr_inc (d := 1) (k := 3) (lv' := [(3, .int (nI (kd + 1))), (2, .int (nI al)), (0, .ref (ad Γ (mo + 0))), (1, .int (nI fit)), (4, .int (nI al)), (5, .int (nI o))]) hx hb dX12_mostAlike_85 hl rfl (by decide) (by decide) rfl (fun ls hl => ?_)
        refine lv_goto (tgt := 4) hx hb dX12_mostAlike_88 (by decide) ?_
        exact ih4 (kd + 1, al) _ _ (lv_sub hl [2, 3, 1, 0] rfl) ⟨rfl, by (try dsimp only); omega, by (try dsimp only); simp only [most]; (have ha9 : alike tl fit kd 6 = al := (by first | (rw [hal, show o = 6 by omega]; done) | (rw [hal]; exact (hzero (by assumption)).trans (hzero2 (by assumption)).symm))); rw [ha9, ← ht]; omega⟩ (by (try dsimp only); omega)
    · refine lv_iload_n hx hb dX12_mostAlike_23 rfl (lv_at hl 1 rfl) ?_
      refine lv_iload_n hx hb dX12_mostAlike_24 rfl (lv_at hl 3 rfl) ?_
      refine nr_goB (P := bt fit kd) (nr_runS (As := [.int (nI fit), .int (nI kd)]) ⟨hx, hb, hml, hown, hts⟩ hw (c_X12_has l Γ n G fit kd (by omega) (by omega)) (va_cwS 2 hts gX12_mostAlike_X12_has rfl rfl rfl (by decide +kernel) ⟨Nat.le_of_ble_eq_true rfl, Nat.le_of_ble_eq_true rfl⟩) rfl hl.1 rfl (Nat.le_of_ble_eq_true rfl) dX12_mostAlike_25 ⟨Nat.zero_le _, Nat.zero_le _⟩) (fun b4 => ?_) (fun b4 => ?_)
      · refine nr_if_eq (tgt := 72) hx hb (by decide) dX12_mostAlike_28 (by decide) (fun c5 => absurd c5 (by decide)) (fun c5 => ?_)
        refine lv_iload hx hb dX12_mostAlike_31 (lv_at hl 4 rfl) ?_
        refine lv_iload_n hx hb dX12_mostAlike_33 rfl (lv_at hl 1 rfl) ?_
        refine lv_iload hx hb dX12_mostAlike_34 (lv_at hl 5 rfl) ?_
        refine nr_goB (P := bt fit o) (nr_runS (As := [.int (nI fit), .int (nI o)]) ⟨hx, hb, hml, hown, hts⟩ hw (c_X12_has l Γ n G fit o (by omega) (by omega)) (va_cwS 2 hts gX12_mostAlike_X12_has rfl rfl rfl (by decide +kernel) ⟨Nat.le_of_ble_eq_true rfl, Nat.le_of_ble_eq_true rfl⟩) rfl hl.1 rfl (Nat.le_of_ble_eq_true rfl) dX12_mostAlike_36 ⟨Nat.zero_le _, Nat.zero_le _⟩) (fun b6 => ?_) (fun b6 => ?_)
        · refine nr_if_eq (tgt := 62) hx hb (by decide) dX12_mostAlike_39 (by decide) (fun c7 => absurd c7 (by decide)) (fun c7 => ?_)
          refine lv_aload_n hx hb dX12_mostAlike_42 rfl (lv_at hl 0 rfl) ?_
          refine nr_get (own := RX12) (C := RX12) (T := TX12) (N := 19) (v := .ref (ad Γ (mo + 9))) hx hb hts hi_X12_mostAlike_X12 hown hw (by omega) (isM_0 hM) rfl 10 (by decide) wl_X12_mostAlike_1 rfl rfl dX12_mostAlike_43 ?_
          refine lv_iload_n hx hb dX12_mostAlike_46 rfl (lv_at hl 3 rfl) ?_
          refine nr_iald (x := (tl kd)) hx hb hw (by omega) (isM_9 hM) rfl (by omega) (by decide) dX12_mostAlike_47 ?_
          have hL8 := htl (kd)
          refine lv_aload_n hx hb dX12_mostAlike_48 rfl (lv_at hl 0 rfl) ?_
          refine nr_get (own := RX12) (C := RX12) (T := TX12) (N := 19) (v := .ref (ad Γ (mo + 9))) hx hb hts hi_X12_mostAlike_X12 hown hw (by omega) (isM_0 hM) rfl 10 (by decide) wl_X12_mostAlike_1 rfl rfl dX12_mostAlike_49 ?_
          refine lv_iload hx hb dX12_mostAlike_52 (lv_at hl 5 rfl) ?_
          refine nr_iald (x := (tl o)) hx hb hw (by omega) (isM_9 hM) rfl (by omega) (by decide) dX12_mostAlike_54 ?_
          have hL9 := htl (o)
          refine nr_icmp_ne (tgt := 62) hx hb (by omega) (by omega) dX12_mostAlike_55 (by decide) (fun c10 => ?_) (fun c10 => ?_)
          · refine lv_iconst (v := nI 0) hx hb dX12_mostAlike_62 (by decide) ?_
            refine nr_iadd hx hb dX12_mostAlike_63 ?_
            refine lv_istore (lv' := [(4, .int (nI (al + 0))), (0, .ref (ad Γ (mo + 0))), (1, .int (nI fit)), (2, .int (nI t)), (3, .int (nI kd)), (5, .int (nI o))]) hx hb dX12_mostAlike_64 hl (by decide) rfl (fun ls hl => ?_)
            refine nr_inc (d := 1) (k := 5) (lv' := [(5, .int (nI (o + 1))), (4, .int (nI (al + 0))), (0, .ref (ad Γ (mo + 0))), (1, .int (nI fit)), (2, .int (nI t)), (3, .int (nI kd))]) hx hb dX12_mostAlike_66 hl rfl (by decide) (by decide) rfl (fun ls hl => ?_)
            refine lv_goto (tgt := 16) hx hb dX12_mostAlike_69 (by decide) ?_
            exact ih16 (o + 1, al + 0) _ _ (lv_sub hl [2, 3, 4, 5, 1, 0] rfl) ⟨rfl, by (try dsimp only); omega, by (try dsimp only); rw [hal]; simp only [alike, cnt]; split <;> omega, by (try dsimp only); omega⟩ (by (try dsimp only); omega)
          · refine lv_iconst (v := nI 1) hx hb dX12_mostAlike_58 (by decide) ?_
            refine lv_goto (tgt := 63) hx hb dX12_mostAlike_59 (by decide) ?_
            refine nr_iadd hx hb dX12_mostAlike_63 ?_
            refine lv_istore (lv' := [(4, .int (nI (al + 1))), (0, .ref (ad Γ (mo + 0))), (1, .int (nI fit)), (2, .int (nI t)), (3, .int (nI kd)), (5, .int (nI o))]) hx hb dX12_mostAlike_64 hl (by decide) rfl (fun ls hl => ?_)
            refine nr_inc (d := 1) (k := 5) (lv' := [(5, .int (nI (o + 1))), (4, .int (nI (al + 1))), (0, .ref (ad Γ (mo + 0))), (1, .int (nI fit)), (2, .int (nI t)), (3, .int (nI kd))]) hx hb dX12_mostAlike_66 hl rfl (by decide) (by decide) rfl (fun ls hl => ?_)
            refine lv_goto (tgt := 16) hx hb dX12_mostAlike_69 (by decide) ?_
            exact ih16 (o + 1, al + 1) _ _ (lv_sub hl [2, 3, 4, 5, 1, 0] rfl) ⟨rfl, by (try dsimp only); omega, by (try dsimp only); rw [hal]; simp only [alike, cnt]; split <;> omega, by (try dsimp only); omega⟩ (by (try dsimp only); omega)
        · refine nr_if_eq (tgt := 62) hx hb (by decide) dX12_mostAlike_39 (by decide) (fun c11 => ?_) (fun c11 => absurd c11 (by decide))
          refine lv_iconst (v := nI 0) hx hb dX12_mostAlike_62 (by decide) ?_
          refine nr_iadd hx hb dX12_mostAlike_63 ?_
          refine lv_istore (lv' := [(4, .int (nI (al + 0))), (0, .ref (ad Γ (mo + 0))), (1, .int (nI fit)), (2, .int (nI t)), (3, .int (nI kd)), (5, .int (nI o))]) hx hb dX12_mostAlike_64 hl (by decide) rfl (fun ls hl => ?_)
          refine nr_inc (d := 1) (k := 5) (lv' := [(5, .int (nI (o + 1))), (4, .int (nI (al + 0))), (0, .ref (ad Γ (mo + 0))), (1, .int (nI fit)), (2, .int (nI t)), (3, .int (nI kd))]) hx hb dX12_mostAlike_66 hl rfl (by decide) (by decide) rfl (fun ls hl => ?_)
          refine lv_goto (tgt := 16) hx hb dX12_mostAlike_69 (by decide) ?_
          exact ih16 (o + 1, al + 0) _ _ (lv_sub hl [2, 3, 4, 5, 1, 0] rfl) ⟨rfl, by (try dsimp only); omega, by (try dsimp only); rw [hal]; simp only [alike, cnt]; split <;> omega, by (try dsimp only); omega⟩ (by (try dsimp only); omega)
      · refine nr_if_eq (tgt := 72) hx hb (by decide) dX12_mostAlike_28 (by decide) (fun c12 => ?_) (fun c12 => absurd c12 (by decide))
        refine lv_iload hx hb dX12_mostAlike_72 (lv_at hl 4 rfl) ?_
        refine lv_iload_n hx hb dX12_mostAlike_74 rfl (lv_at hl 2 rfl) ?_
        refine nr_icmp_le (tgt := 83) hx hb (by omega) (by omega) dX12_mostAlike_75 (by decide) (fun c13 => ?_) (fun c13 => ?_)
        · refine lv_iload_n hx hb dX12_mostAlike_83 rfl (lv_at hl 2 rfl) ?_
          refine lv_istore_n (lv' := [(2, .int (nI t)), (0, .ref (ad Γ (mo + 0))), (1, .int (nI fit)), (3, .int (nI kd)), (4, .int (nI al)), (5, .int (nI o))]) hx hb dX12_mostAlike_84 rfl hl (by decide) rfl (fun ls hl => ?_)
          refine nr_inc (d := 1) (k := 3) (lv' := [(3, .int (nI (kd + 1))), (2, .int (nI t)), (0, .ref (ad Γ (mo + 0))), (1, .int (nI fit)), (4, .int (nI al)), (5, .int (nI o))]) hx hb dX12_mostAlike_85 hl rfl (by decide) (by decide) rfl (fun ls hl => ?_)
          refine lv_goto (tgt := 4) hx hb dX12_mostAlike_88 (by decide) ?_
          exact ih4 (kd + 1, t) _ _ (lv_sub hl [2, 3, 1, 0] rfl) ⟨rfl, by (try dsimp only); omega, by (try dsimp only); simp only [most]; (have ha9 : alike tl fit kd 6 = al := (by first | (rw [hal, show o = 6 by omega]; done) | (rw [hal]; exact (hzero (by assumption)).trans (hzero2 (by assumption)).symm))); rw [ha9, ← ht]; omega⟩ (by (try dsimp only); omega)
        · refine lv_iload hx hb dX12_mostAlike_78 (lv_at hl 4 rfl) ?_
          refine lv_goto (tgt := 84) hx hb dX12_mostAlike_80 (by decide) ?_
          refine lv_istore_n (lv' := [(2, .int (nI al)), (0, .ref (ad Γ (mo + 0))), (1, .int (nI fit)), (3, .int (nI kd)), (4, .int (nI al)), (5, .int (nI o))]) hx hb dX12_mostAlike_84 rfl hl (by decide) rfl (fun ls hl => ?_)
          refine nr_inc (d := 1) (k := 3) (lv' := [(3, .int (nI (kd + 1))), (2, .int (nI al)), (0, .ref (ad Γ (mo + 0))), (1, .int (nI fit)), (4, .int (nI al)), (5, .int (nI o))]) hx hb dX12_mostAlike_85 hl rfl (by decide) (by decide) rfl (fun ls hl => ?_)
          refine lv_goto (tgt := 4) hx hb dX12_mostAlike_88 (by decide) ?_
          exact ih4 (kd + 1, al) _ _ (lv_sub hl [2, 3, 1, 0] rfl) ⟨rfl, by (try dsimp only); omega, by (try dsimp only); simp only [most]; (have ha9 : alike tl fit kd 6 = al := (by first | (rw [hal, show o = 6 by omega]; done) | (rw [hal]; exact (hzero (by assumption)).trans (hzero2 (by assumption)).symm))); rw [ha9, ← ht]; omega⟩ (by (try dsimp only); omega)
theorem wl_X12_costsOf_1 : Cond.fieldLink RX12 7 "BellForgivenModel" "all" "[I" ∈ wsX12_costsOf := List.mem_of_getElem? (i := 1) rfl
theorem hi_X12_costsOf_X12 : ∀ w ∈ u_ws RX12 TX12 19, w ∈ wsX12_costsOf := fun w h => (List.mem_cons_of_mem _ (List.mem_append_right _ h))
set_option maxHeartbeats 4000000 in
set_option maxRecDepth 100000 in
theorem c_X12_costsOf (l : Launch) (Γ : Gam) (n : Nat) (G : Nat → va_E) (mo : Nat) (R K kp rf ca rc hd fw tl by0 an vl iv : Nat → Nat) (hM : isM Γ G mo R K kp rf ca rc hd fw tl by0 an vl iv) (hmo : mo + 13 ≤ n) (hI : vI R) (i : Nat) (hi : i < 6)  : Met l yX12_costsOf wsX12_costsOf ({ frames := 2, cells := 0, slots := 0, locals := 45 }) (va_Pc [.ref (ad Γ (mo + 0)), .int (nI i)] (fun U => hw Γ n G U U.heap)) (vp_Si (fun z => z = nI (if rL R i < 3 then 11 else 2))) 0 0 (fun _ => False) := by
  refine Met.ofW (cc := cX12_costsOf) (maxL := 2) (ret := (some .int)) (by decide) rfl ?_
  intro p e s m args below meth c s₁ B hml hv
  obtain ⟨rfl, hw⟩ := hv
  have hx := B.exec
  have hb := B.bytes
  have hr := B.returns
  have hts := atoms_spec (ws := wsX12_costsOf) B.pre
  have hown : s.vm.findClass RX12 = some m.cls := findClass_of_methodNamed B.named
  have hlocks := B.notSynchronized
  have hl := lv_entry ([.ref (ad Γ (mo + 0)), .int (nI i)]) (n := 2) (Nat.le_of_ble_eq_true rfl)
  rw [lg_entry_eq]
  generalize (lg_sl ([.ref (ad Γ (mo + 0)), .int (nI i)]) ++ List.replicate (2 - (lg_sl ([.ref (ad Γ (mo + 0)), .int (nI i)])).length) Slot.unset).toArray = ls at hl ⊢
  have hl : lv_has ls 2 [(0, .ref (ad Γ (mo + 0))), (1, .int (nI i))] := hl
  have hB := hI.1
  have hB0 := hI.2.1
  have hB1 := hI.2.2.1
  have hB20 := hI.2.2.2.2.2.2.2.2.2
  have hBz2 := hI.2.2.2.1
  have hBz3 := hI.2.2.2.2.1
  have hBz4 := hI.2.2.2.2.2.1
  have hBz5 := hI.2.2.2.2.2.2.1
  have hby := hI.2.2.2.2.2.2.2.1
  have hto := hI.2.2.2.2.2.2.2.2.1
  have hl1 := rL_lt hB i
  refine lv_aload_n hx hb dX12_costsOf_0 rfl (lv_at hl 0 rfl) ?_
  refine nr_get (own := RX12) (C := RX12) (T := TX12) (N := 19) (v := .ref (ad Γ (mo + 1))) hx hb hts hi_X12_costsOf_X12 hown hw (by omega) (isM_0 hM) rfl 0 (by decide) wl_X12_costsOf_1 rfl rfl dX12_costsOf_1 ?_
  refine lv_iload_n hx hb dX12_costsOf_4 rfl (lv_at hl 1 rfl) ?_
  refine nr_goS (nr_runS (As := [.ref (ad Γ (mo + 1)), .int (nI i)]) ⟨hx, hb, hml, hown, hts⟩ hw (c_X12_letsOf l Γ n G (mo + 1) 256 R (isM_1 hM) (by omega) (by omega) (by omega) (vI_a hI) i (by omega)) (va_cwS 2 hts gX12_costsOf_X12_letsOf rfl rfl rfl (by decide +kernel) ⟨Nat.le_of_ble_eq_true rfl, Nat.le_of_ble_eq_true rfl⟩) rfl hl.1 rfl (Nat.le_of_ble_eq_true rfl) dX12_costsOf_5 ⟨Nat.zero_le _, Nat.zero_le _⟩) (fun r1 hr1 => ?_)
  obtain rfl : r1 = (nI (rL R i)) := hr1
  refine lv_iconst (v := nI 3) hx hb dX12_costsOf_8 (by decide) ?_
  refine nr_icmp_ge (tgt := 17) hx hb (by omega) (by decide) dX12_costsOf_9 (by decide) (fun c2 => ?_) (fun c2 => ?_)
  · refine lv_iconst (v := nI 2) hx hb dX12_costsOf_17 (by decide) ?_
    exact nr_retS hx hb hr hlocks (by first | rw [if_pos (by omega)] | rw [if_neg (by omega)]) rfl dX12_costsOf_18
  · refine lv_bipush (v := nI 11) hx hb dX12_costsOf_12 (by decide) ?_
    refine lv_goto (tgt := 18) hx hb dX12_costsOf_14 (by decide) ?_
    exact nr_retS hx hb hr hlocks (by first | rw [if_pos (by omega)] | rw [if_neg (by omega)]) rfl dX12_costsOf_18
theorem wl_X12_sums_1 : Cond.constantLong RX12 285 (31) ∈ wsX12_sums := List.mem_of_getElem? (i := 1) rfl
theorem wl_X12_sums_2 : Cond.fieldLink RX12 7 "BellForgivenModel" "all" "[I" ∈ wsX12_sums := List.mem_of_getElem? (i := 2) rfl
theorem hi_X12_sums_X12 : ∀ w ∈ u_ws RX12 TX12 19, w ∈ wsX12_sums := fun w h => (List.mem_cons_of_mem _ (List.mem_append_right _ h))
set_option maxHeartbeats 4000000 in
set_option maxRecDepth 100000 in
theorem c_X12_sums (l : Launch) (Γ : Gam) (n : Nat) (G : Nat → va_E) (mo : Nat) (R K kp rf ca rc hd fw tl by0 an vl iv : Nat → Nat) (hM : isM Γ G mo R K kp rf ca rc hd fw tl by0 an vl iv) (hmo : mo + 13 ≤ n) (hI : vI R) (h fo q : Nat) (hfo : fo + q ≤ 256)  : Met l yX12_sums wsX12_sums ({ frames := 0, cells := 0, slots := 0, locals := 0 }) (va_Pc [.ref (ad Γ (mo + 0)), .long (lN h), .int (nI fo), .int (nI q)] (fun U => hw Γ n G U U.heap)) (vp_Sl (fun z => z = lN (dg (fun j => R (fo + j)) h q))) 0 0 (fun _ => False) := by
  refine Met.ofW (cc := cX12_sums) (maxL := 8) (ret := (some .long)) (by decide) rfl ?_
  intro p e s m args below meth c s₁ B hml hv
  obtain ⟨rfl, hw⟩ := hv
  have hx := B.exec
  have hb := B.bytes
  have hr := B.returns
  have hts := atoms_spec (ws := wsX12_sums) B.pre
  have hown : s.vm.findClass RX12 = some m.cls := findClass_of_methodNamed B.named
  have hlocks := B.notSynchronized
  have hl := lv_entry ([.ref (ad Γ (mo + 0)), .long (lN h), .int (nI fo), .int (nI q)]) (n := 8) (Nat.le_of_ble_eq_true rfl)
  rw [lg_entry_eq]
  generalize (lg_sl ([.ref (ad Γ (mo + 0)), .long (lN h), .int (nI fo), .int (nI q)]) ++ List.replicate (8 - (lg_sl ([.ref (ad Γ (mo + 0)), .long (lN h), .int (nI fo), .int (nI q)])).length) Slot.unset).toArray = ls at hl ⊢
  have hl : lv_has ls 8 [(0, .ref (ad Γ (mo + 0))), (1, .long (lN h)), (3, .int (nI fo)), (4, .int (nI q))] := hl
  have hB := hI.1
  have hB0 := hI.2.1
  have hB1 := hI.2.2.1
  have hB20 := hI.2.2.2.2.2.2.2.2.2
  have hBz2 := hI.2.2.2.1
  have hBz3 := hI.2.2.2.2.1
  have hBz4 := hI.2.2.2.2.2.1
  have hBz5 := hI.2.2.2.2.2.2.1
  have hby := hI.2.2.2.2.2.2.2.1
  have hto := hI.2.2.2.2.2.2.2.2.1
  refine lv_lload_n hx hb dX12_sums_0 rfl (lv_at hl 1 rfl) ?_
  refine lv_lstore (lv' := [(5, .long (lN h)), (0, .ref (ad Γ (mo + 0))), (1, .long (lN h)), (3, .int (nI fo)), (4, .int (nI q))]) hx hb dX12_sums_1 hl (by decide) rfl (fun ls hl => ?_)
  refine lv_iconst (v := nI 0) hx hb dX12_sums_3 (by decide) ?_
  refine lv_istore (lv' := [(7, .int (nI 0)), (5, .long (lN h)), (0, .ref (ad Γ (mo + 0))), (1, .long (lN h)), (3, .int (nI fo)), (4, .int (nI q))]) hx hb dX12_sums_4 hl (by decide) rfl (fun ls hl => ?_)
  refine nr_lp (σ := Nat × Nat) (pc := 6) (fun x lv => lv = [(0, .ref (ad Γ (mo + 0))), (1, .long (lN h)), (3, .int (nI fo)), (4, .int (nI q)), (5, .long (lN x.2)), (7, .int (nI x.1))] ∧ (x.1 ≤ q) ∧ (x.2 = dg (fun j => R (fo + j)) h x.1)) (fun x => q - x.1) (0, h) (lv_sub hl [2, 3, 4, 5, 1, 0] rfl) ⟨rfl, by (try dsimp only); omega, rfl⟩ ?_
  intro x lv ls hl hI ih6
  obtain ⟨k, t⟩ := x
  obtain ⟨rfl, hk, ht⟩ := hI
  try dsimp only at hk ht hl ih6
  refine lv_iload hx hb dX12_sums_6 (lv_at hl 5 rfl) ?_
  refine lv_iload hx hb dX12_sums_8 (lv_at hl 3 rfl) ?_
  refine nr_icmp_ge (tgt := 38) hx hb (by omega) (by omega) dX12_sums_10 (by decide) (fun c1 => ?_) (fun c1 => ?_)
  · refine lv_lload hx hb dX12_sums_38 (lv_at hl 4 rfl) ?_
    exact nr_retL hx hb hr hlocks (by rw [ht, show k = q by omega]) rfl dX12_sums_40
  · refine nr_ldc2 (k := 31) hx hb hown (hts _ wl_X12_sums_1) (by decide) dX12_sums_13 ?_
    refine lv_lload hx hb dX12_sums_16 (lv_at hl 4 rfl) ?_
    refine nr_lmul hx hb dX12_sums_18 ?_
    refine lv_aload_n hx hb dX12_sums_19 rfl (lv_at hl 0 rfl) ?_
    refine nr_get (own := RX12) (C := RX12) (T := TX12) (N := 19) (v := .ref (ad Γ (mo + 1))) hx hb hts hi_X12_sums_X12 hown hw (by omega) (isM_0 hM) rfl 0 (by decide) wl_X12_sums_2 rfl rfl dX12_sums_20 ?_
    refine lv_iload_n hx hb dX12_sums_23 rfl (lv_at hl 2 rfl) ?_
    refine lv_iload hx hb dX12_sums_24 (lv_at hl 5 rfl) ?_
    refine nr_iadd hx hb dX12_sums_26 ?_
    refine nr_iald (x := (R (fo + k))) hx hb hw (by omega) (isM_1 hM) rfl (by omega) (by decide) dX12_sums_27 ?_
    have hL2 := hB (fo + k)
    refine lv_i2l (v := lN (R (fo + k))) hx hb dX12_sums_28 (nI_l (by omega)) ?_
    refine nr_ladd hx hb dX12_sums_29 ?_
    refine lv_lstore (lv' := [(5, .long (lN (31 * t + (R (fo + k))))), (0, .ref (ad Γ (mo + 0))), (1, .long (lN h)), (3, .int (nI fo)), (4, .int (nI q)), (7, .int (nI k))]) hx hb dX12_sums_30 hl (by decide) rfl (fun ls hl => ?_)
    refine nr_inc (d := 1) (k := 5) (lv' := [(7, .int (nI (k + 1))), (5, .long (lN (31 * t + (R (fo + k))))), (0, .ref (ad Γ (mo + 0))), (1, .long (lN h)), (3, .int (nI fo)), (4, .int (nI q))]) hx hb dX12_sums_32 hl rfl (by decide) (by decide) rfl (fun ls hl => ?_)
    refine lv_goto (tgt := 6) hx hb dX12_sums_35 (by decide) ?_
    exact ih6 (k + 1, 31 * t + (R (fo + k))) _ _ (lv_sub hl [2, 3, 4, 5, 1, 0] rfl) ⟨rfl, by (try dsimp only); omega, by (try dsimp only); rw [ht]; rfl⟩ (by (try dsimp only); omega)
theorem wl_X12_counted_1 : Cond.fieldLink RX12 7 "BellForgivenModel" "all" "[I" ∈ wsX12_counted := List.mem_of_getElem? (i := 1) rfl
theorem wl_X12_counted_2 : Cond.fieldLink RX12 221 "BellForgivenModel" "bytesLong" "I" ∈ wsX12_counted := List.mem_of_getElem? (i := 2) rfl
theorem hi_X12_counted_X12 : ∀ w ∈ u_ws RX12 TX12 19, w ∈ wsX12_counted := fun w h => (List.mem_cons_of_mem _ (List.mem_append_right _ h))
set_option maxHeartbeats 4000000 in
set_option maxRecDepth 100000 in
theorem c_X12_counted (l : Launch) (Γ : Gam) (n : Nat) (G : Nat → va_E) (mo : Nat) (R K kp rf ca rc hd fw tl by0 an vl iv : Nat → Nat) (hM : isM Γ G mo R K kp rf ca rc hd fw tl by0 an vl iv) (hmo : mo + 13 ≤ n) (hI : vI R) (what : Nat) (hwh : what ≤ 10) (hiv : iv 0 ≤ 150)  : Met l yX12_counted wsX12_counted ({ frames := 2, cells := 0, slots := 0, locals := 44 }) (va_Pc [.ref (ad Γ (mo + 0)), .int (nI what)] (fun U => hw Γ n G U U.heap)) (vp_Si (fun z => z = nI (rTally R iv what))) 0 0 (fun _ => False) := by
  refine Met.ofW (cc := cX12_counted) (maxL := 5) (ret := (some .int)) (by decide) rfl ?_
  intro p e s m args below meth c s₁ B hml hv
  obtain ⟨rfl, hw⟩ := hv
  have hx := B.exec
  have hb := B.bytes
  have hr := B.returns
  have hts := atoms_spec (ws := wsX12_counted) B.pre
  have hown : s.vm.findClass RX12 = some m.cls := findClass_of_methodNamed B.named
  have hlocks := B.notSynchronized
  have hl := lv_entry ([.ref (ad Γ (mo + 0)), .int (nI what)]) (n := 5) (Nat.le_of_ble_eq_true rfl)
  rw [lg_entry_eq]
  generalize (lg_sl ([.ref (ad Γ (mo + 0)), .int (nI what)]) ++ List.replicate (5 - (lg_sl ([.ref (ad Γ (mo + 0)), .int (nI what)])).length) Slot.unset).toArray = ls at hl ⊢
  have hl : lv_has ls 5 [(0, .ref (ad Γ (mo + 0))), (1, .int (nI what))] := hl
  have hB := hI.1
  have hB0 := hI.2.1
  have hB1 := hI.2.2.1
  have hB20 := hI.2.2.2.2.2.2.2.2.2
  have hBz2 := hI.2.2.2.1
  have hBz3 := hI.2.2.2.2.1
  have hBz4 := hI.2.2.2.2.2.1
  have hBz5 := hI.2.2.2.2.2.2.1
  have hby := hI.2.2.2.2.2.2.2.1
  have hto := hI.2.2.2.2.2.2.2.2.1
  refine lv_iconst (v := nI 0) hx hb dX12_counted_0 (by decide) ?_
  refine lv_istore_n (lv' := [(2, .int (nI 0)), (0, .ref (ad Γ (mo + 0))), (1, .int (nI what))]) hx hb dX12_counted_1 rfl hl (by decide) rfl (fun ls hl => ?_)
  refine lv_iconst (v := nI 0) hx hb dX12_counted_2 (by decide) ?_
  refine lv_istore_n (lv' := [(3, .int (nI 0)), (2, .int (nI 0)), (0, .ref (ad Γ (mo + 0))), (1, .int (nI what))]) hx hb dX12_counted_3 rfl hl (by decide) rfl (fun ls hl => ?_)
  refine lv_iconst (v := nI 0) hx hb dX12_counted_4 (by decide) ?_
  refine lv_istore (lv' := [(4, .int (nI 0)), (3, .int (nI 0)), (2, .int (nI 0)), (0, .ref (ad Γ (mo + 0))), (1, .int (nI what))]) hx hb dX12_counted_5 hl (by decide) rfl (fun ls hl => ?_)
  refine nr_lp (σ := Nat × Nat × Nat) (pc := 7) (fun x lv => lv = [(0, .ref (ad Γ (mo + 0))), (1, .int (nI what)), (2, .int (nI x.2.1)), (3, .int (nI x.2.2)), (4, .int (nI x.1))] ∧ (x.1 ≤ R 0) ∧ (x.2.1 = cnt (guiltyP R) x.1) ∧ (x.2.2 = sumN (fun j => R (6 + j)) x.1) ∧ (x.2.1 ≤ x.1) ∧ (x.2.2 ≤ 1999 * x.1)) (fun x => R 0 - x.1) (0, 0, 0) (lv_sub hl [3, 4, 2, 1, 0] rfl) ⟨rfl, by (try dsimp only); omega, rfl, rfl, by (try dsimp only); omega, by (try dsimp only); omega⟩ ?_
  intro x lv ls hl hI ih7
  obtain ⟨i, gt, t⟩ := x
  obtain ⟨rfl, hi, hgt, ht, hgt2, ht2⟩ := hI
  try dsimp only at hi hgt ht hgt2 ht2 hl ih7
  refine lv_iload hx hb dX12_counted_7 (lv_at hl 4 rfl) ?_
  refine lv_aload_n hx hb dX12_counted_9 rfl (lv_at hl 0 rfl) ?_
  refine nr_get (own := RX12) (C := RX12) (T := TX12) (N := 19) (v := .ref (ad Γ (mo + 1))) hx hb hts hi_X12_counted_X12 hown hw (by omega) (isM_0 hM) rfl 0 (by decide) wl_X12_counted_1 rfl rfl dX12_counted_10 ?_
  refine lv_iconst (v := nI 0) hx hb dX12_counted_13 (by decide) ?_
  refine nr_iald (x := (R 0)) hx hb hw (by omega) (isM_1 hM) rfl (by omega) (by decide) dX12_counted_14 ?_
  have hL1 := hB (0)
  refine nr_icmp_ge (tgt := 57) hx hb (by omega) (by omega) dX12_counted_15 (by decide) (fun c2 => ?_) (fun c2 => ?_)
  · obtain rfl : i = R 0 := by omega
    refine lv_iload_n hx hb dX12_counted_57 rfl (lv_at hl 1 rfl) ?_
    rcases (show what = 0 ∨ what = 1 ∨ what = 2 ∨ what = 3 ∨ what = 4 ∨ what = 5 ∨ what = 6 ∨ what = 7 ∨ what = 8 ∨ what = 9 ∨ what = 10 ∨ 10 < what by omega) with c3 | c3 | c3 | c3 | c3 | c3 | c3 | c3 | c3 | c3 | c3 | c3
    · refine nr_tabIn (j := 0) (tgt := 116) hx hb (by omega) c3 dX12_counted_58 (by decide) (by decide) rfl (by decide) ?_
      refine lv_aload_n hx hb dX12_counted_116 rfl (lv_at hl 0 rfl) ?_
      refine nr_get (own := RX12) (C := RX12) (T := TX12) (N := 19) (v := .ref (ad Γ (mo + 1))) hx hb hts hi_X12_counted_X12 hown hw (by omega) (isM_0 hM) rfl 0 (by decide) wl_X12_counted_1 rfl rfl dX12_counted_117 ?_
      refine lv_iconst (v := nI 0) hx hb dX12_counted_120 (by decide) ?_
      refine nr_iald (x := (R 0)) hx hb hw (by omega) (isM_1 hM) rfl (by omega) (by decide) dX12_counted_121 ?_
      have hL4 := hB (0)
      exact nr_retS hx hb hr hlocks (by refine congrArg nI ?_; unfold rTally; (repeat' split) <;> first | omega | (rw [hgt]; done) | (rw [ht]; done) | rfl) rfl dX12_counted_122
    · refine nr_tabIn (j := 1) (tgt := 123) hx hb (by omega) c3 dX12_counted_58 (by decide) (by decide) rfl (by decide) ?_
      refine lv_aload_n hx hb dX12_counted_123 rfl (lv_at hl 0 rfl) ?_
      refine nr_goS (nr_runV (As := []) (C := RX12) (T := TX12) (N := 19) ⟨hx, hb, hml, hown, hts⟩ hw (by omega) (isM_0 hM) rfl (c_X12_many l Γ n G mo R K kp rf ca rc hd fw tl by0 an vl iv hM (by omega) hI) (cwV 0 hts gX12_counted_X12_many rfl rfl rfl (by decide +kernel) ⟨Nat.le_of_ble_eq_true rfl, Nat.le_of_ble_eq_true rfl⟩) rfl hl.1 rfl (Nat.le_of_ble_eq_true rfl) dX12_counted_124 ⟨Nat.zero_le _, Nat.zero_le _⟩) (fun r5 hr5 => ?_)
      obtain rfl : r5 = (nI (R 1)) := hr5
      exact nr_retS hx hb hr hlocks (by refine congrArg nI ?_; unfold rTally; (repeat' split) <;> first | omega | (rw [hgt]; done) | (rw [ht]; done) | rfl) rfl dX12_counted_127
    · refine nr_tabIn (j := 2) (tgt := 128) hx hb (by omega) c3 dX12_counted_58 (by decide) (by decide) rfl (by decide) ?_
      refine lv_aload_n hx hb dX12_counted_128 rfl (lv_at hl 0 rfl) ?_
      refine nr_get (own := RX12) (C := RX12) (T := TX12) (N := 19) (v := .ref (ad Γ (mo + 1))) hx hb hts hi_X12_counted_X12 hown hw (by omega) (isM_0 hM) rfl 0 (by decide) wl_X12_counted_1 rfl rfl dX12_counted_129 ?_
      refine lv_bipush (v := nI 20) hx hb dX12_counted_132 (by decide) ?_
      refine nr_iald (x := (R 20)) hx hb hw (by omega) (isM_1 hM) rfl (by omega) (by decide) dX12_counted_134 ?_
      have hL6 := hB (20)
      refine nr_goS (nr_runS (As := [.int (nI (R 20))]) ⟨hx, hb, hml, hown, hts⟩ hw (c_X12_bits l Γ n G (R 20) (by omega)) (va_cwS 1 hts gX12_counted_X12_bits rfl rfl rfl (by decide +kernel) ⟨Nat.le_of_ble_eq_true rfl, Nat.le_of_ble_eq_true rfl⟩) rfl hl.1 rfl (Nat.le_of_ble_eq_true rfl) dX12_counted_135 ⟨Nat.zero_le _, Nat.zero_le _⟩) (fun r7 hr7 => ?_)
      obtain rfl : r7 = (nI (pc8 (R 20))) := hr7
      exact nr_retS hx hb hr hlocks (by refine congrArg nI ?_; unfold rTally; (repeat' split) <;> first | omega | (rw [hgt]; done) | (rw [ht]; done) | rfl) rfl dX12_counted_138
    · refine nr_tabIn (j := 3) (tgt := 139) hx hb (by omega) c3 dX12_counted_58 (by decide) (by decide) rfl (by decide) ?_
      refine lv_iload_n hx hb dX12_counted_139 rfl (lv_at hl 2 rfl) ?_
      exact nr_retS hx hb hr hlocks (by refine congrArg nI ?_; unfold rTally; (repeat' split) <;> first | omega | (rw [hgt]; done) | (rw [ht]; done) | rfl) rfl dX12_counted_140
    · refine nr_tabIn (j := 4) (tgt := 141) hx hb (by omega) c3 dX12_counted_58 (by decide) (by decide) rfl (by decide) ?_
      refine lv_aload_n hx hb dX12_counted_141 rfl (lv_at hl 0 rfl) ?_
      refine nr_get (own := RX12) (C := RX12) (T := TX12) (N := 19) (v := .ref (ad Γ (mo + 1))) hx hb hts hi_X12_counted_X12 hown hw (by omega) (isM_0 hM) rfl 0 (by decide) wl_X12_counted_1 rfl rfl dX12_counted_142 ?_
      refine lv_bipush (v := nI 21) hx hb dX12_counted_145 (by decide) ?_
      refine nr_iald (x := (R 21)) hx hb hw (by omega) (isM_1 hM) rfl (by omega) (by decide) dX12_counted_147 ?_
      have hL8 := hB (21)
      exact nr_retS hx hb hr hlocks (by refine congrArg nI ?_; unfold rTally; (repeat' split) <;> first | omega | (rw [hgt]; done) | (rw [ht]; done) | rfl) rfl dX12_counted_148
    · refine nr_tabIn (j := 5) (tgt := 149) hx hb (by omega) c3 dX12_counted_58 (by decide) (by decide) rfl (by decide) ?_
      refine lv_iload_n hx hb dX12_counted_149 rfl (lv_at hl 3 rfl) ?_
      exact nr_retS hx hb hr hlocks (by refine congrArg nI ?_; unfold rTally; (repeat' split) <;> first | omega | (rw [hgt]; done) | (rw [ht]; done) | rfl) rfl dX12_counted_150
    · refine nr_tabIn (j := 6) (tgt := 156) hx hb (by omega) c3 dX12_counted_58 (by decide) (by decide) rfl (by decide) ?_
      refine lv_aload_n hx hb dX12_counted_156 rfl (lv_at hl 0 rfl) ?_
      refine nr_get (own := RX12) (C := RX12) (T := TX12) (N := 19) (v := .ref (ad Γ (mo + 1))) hx hb hts hi_X12_counted_X12 hown hw (by omega) (isM_0 hM) rfl 0 (by decide) wl_X12_counted_1 rfl rfl dX12_counted_157 ?_
      refine lv_iconst (v := nI 2) hx hb dX12_counted_160 (by decide) ?_
      refine lv_iload_n hx hb dX12_counted_161 rfl (lv_at hl 1 rfl) ?_
      refine nr_iadd hx hb dX12_counted_162 ?_
      refine lv_bipush (v := nI 6) hx hb dX12_counted_163 (by decide) ?_
      refine nr_isub hx hb (by omega) dX12_counted_165 ?_
      refine nr_iald (x := (R ((2 + what) - 6))) hx hb hw (by omega) (isM_1 hM) rfl (by omega) (by decide) dX12_counted_166 ?_
      have hL9 := hB ((2 + what) - 6)
      exact nr_retS hx hb hr hlocks (by refine congrArg nI ?_; unfold rTally; (repeat' split) <;> first | omega | (rw [hgt]; done) | (rw [ht]; done) | rfl) rfl dX12_counted_167
    · refine nr_tabIn (j := 7) (tgt := 156) hx hb (by omega) c3 dX12_counted_58 (by decide) (by decide) rfl (by decide) ?_
      refine lv_aload_n hx hb dX12_counted_156 rfl (lv_at hl 0 rfl) ?_
      refine nr_get (own := RX12) (C := RX12) (T := TX12) (N := 19) (v := .ref (ad Γ (mo + 1))) hx hb hts hi_X12_counted_X12 hown hw (by omega) (isM_0 hM) rfl 0 (by decide) wl_X12_counted_1 rfl rfl dX12_counted_157 ?_
      refine lv_iconst (v := nI 2) hx hb dX12_counted_160 (by decide) ?_
      refine lv_iload_n hx hb dX12_counted_161 rfl (lv_at hl 1 rfl) ?_
      refine nr_iadd hx hb dX12_counted_162 ?_
      refine lv_bipush (v := nI 6) hx hb dX12_counted_163 (by decide) ?_
      refine nr_isub hx hb (by omega) dX12_counted_165 ?_
      refine nr_iald (x := (R ((2 + what) - 6))) hx hb hw (by omega) (isM_1 hM) rfl (by omega) (by decide) dX12_counted_166 ?_
      have hL10 := hB ((2 + what) - 6)
      exact nr_retS hx hb hr hlocks (by refine congrArg nI ?_; unfold rTally; (repeat' split) <;> first | omega | (rw [hgt]; done) | (rw [ht]; done) | rfl) rfl dX12_counted_167
    · refine nr_tabIn (j := 8) (tgt := 156) hx hb (by omega) c3 dX12_counted_58 (by decide) (by decide) rfl (by decide) ?_
      refine lv_aload_n hx hb dX12_counted_156 rfl (lv_at hl 0 rfl) ?_
      refine nr_get (own := RX12) (C := RX12) (T := TX12) (N := 19) (v := .ref (ad Γ (mo + 1))) hx hb hts hi_X12_counted_X12 hown hw (by omega) (isM_0 hM) rfl 0 (by decide) wl_X12_counted_1 rfl rfl dX12_counted_157 ?_
      refine lv_iconst (v := nI 2) hx hb dX12_counted_160 (by decide) ?_
      refine lv_iload_n hx hb dX12_counted_161 rfl (lv_at hl 1 rfl) ?_
      refine nr_iadd hx hb dX12_counted_162 ?_
      refine lv_bipush (v := nI 6) hx hb dX12_counted_163 (by decide) ?_
      refine nr_isub hx hb (by omega) dX12_counted_165 ?_
      refine nr_iald (x := (R ((2 + what) - 6))) hx hb hw (by omega) (isM_1 hM) rfl (by omega) (by decide) dX12_counted_166 ?_
      have hL11 := hB ((2 + what) - 6)
      exact nr_retS hx hb hr hlocks (by refine congrArg nI ?_; unfold rTally; (repeat' split) <;> first | omega | (rw [hgt]; done) | (rw [ht]; done) | rfl) rfl dX12_counted_167
    · refine nr_tabIn (j := 9) (tgt := 156) hx hb (by omega) c3 dX12_counted_58 (by decide) (by decide) rfl (by decide) ?_
      refine lv_aload_n hx hb dX12_counted_156 rfl (lv_at hl 0 rfl) ?_
      refine nr_get (own := RX12) (C := RX12) (T := TX12) (N := 19) (v := .ref (ad Γ (mo + 1))) hx hb hts hi_X12_counted_X12 hown hw (by omega) (isM_0 hM) rfl 0 (by decide) wl_X12_counted_1 rfl rfl dX12_counted_157 ?_
      refine lv_iconst (v := nI 2) hx hb dX12_counted_160 (by decide) ?_
      refine lv_iload_n hx hb dX12_counted_161 rfl (lv_at hl 1 rfl) ?_
      refine nr_iadd hx hb dX12_counted_162 ?_
      refine lv_bipush (v := nI 6) hx hb dX12_counted_163 (by decide) ?_
      refine nr_isub hx hb (by omega) dX12_counted_165 ?_
      refine nr_iald (x := (R ((2 + what) - 6))) hx hb hw (by omega) (isM_1 hM) rfl (by omega) (by decide) dX12_counted_166 ?_
      have hL12 := hB ((2 + what) - 6)
      exact nr_retS hx hb hr hlocks (by refine congrArg nI ?_; unfold rTally; (repeat' split) <;> first | omega | (rw [hgt]; done) | (rw [ht]; done) | rfl) rfl dX12_counted_167
    · refine nr_tabIn (j := 10) (tgt := 151) hx hb (by omega) c3 dX12_counted_58 (by decide) (by decide) rfl (by decide) ?_
      refine lv_aload_n hx hb dX12_counted_151 rfl (lv_at hl 0 rfl) ?_
      refine nr_get (own := RX12) (C := RX12) (T := TX12) (N := 19) (v := .int (nI (iv 0))) hx hb hts hi_X12_counted_X12 hown hw (by omega) (isM_0 hM) rfl 12 (by decide) wl_X12_counted_2 rfl rfl dX12_counted_152 ?_
      exact nr_retS hx hb hr hlocks (by refine congrArg nI ?_; unfold rTally; (repeat' split) <;> first | omega | (rw [hgt]; done) | (rw [ht]; done) | rfl) rfl dX12_counted_155
    · refine nr_tabOut (tgt := 156) hx hb (by omega) dX12_counted_58 (by omega) (by decide) ?_
      refine lv_aload_n hx hb dX12_counted_156 rfl (lv_at hl 0 rfl) ?_
      refine nr_get (own := RX12) (C := RX12) (T := TX12) (N := 19) (v := .ref (ad Γ (mo + 1))) hx hb hts hi_X12_counted_X12 hown hw (by omega) (isM_0 hM) rfl 0 (by decide) wl_X12_counted_1 rfl rfl dX12_counted_157 ?_
      refine lv_iconst (v := nI 2) hx hb dX12_counted_160 (by decide) ?_
      refine lv_iload_n hx hb dX12_counted_161 rfl (lv_at hl 1 rfl) ?_
      refine nr_iadd hx hb dX12_counted_162 ?_
      refine lv_bipush (v := nI 6) hx hb dX12_counted_163 (by decide) ?_
      refine nr_isub hx hb (by omega) dX12_counted_165 ?_
      refine nr_iald (x := (R ((2 + what) - 6))) hx hb hw (by omega) (isM_1 hM) rfl (by omega) (by decide) dX12_counted_166 ?_
      have hL13 := hB ((2 + what) - 6)
      exact nr_retS hx hb hr hlocks (by refine congrArg nI ?_; unfold rTally; (repeat' split) <;> first | omega | (rw [hgt]; done) | (rw [ht]; done) | rfl) rfl dX12_counted_167
  · refine lv_iload_n hx hb dX12_counted_18 rfl (lv_at hl 2 rfl) ?_
    refine lv_aload_n hx hb dX12_counted_19 rfl (lv_at hl 0 rfl) ?_
    refine nr_get (own := RX12) (C := RX12) (T := TX12) (N := 19) (v := .ref (ad Γ (mo + 1))) hx hb hts hi_X12_counted_X12 hown hw (by omega) (isM_0 hM) rfl 0 (by decide) wl_X12_counted_1 rfl rfl dX12_counted_20 ?_
    refine lv_iload hx hb dX12_counted_23 (lv_at hl 4 rfl) ?_
    refine nr_goB (P := guiltyP R i) (nr_runS (As := [.ref (ad Γ (mo + 1)), .int (nI i)]) ⟨hx, hb, hml, hown, hts⟩ hw (c_X12_isGuilty l Γ n G (mo + 1) 256 R (isM_1 hM) (by omega) (by omega) (by omega) (vI_a hI) i (by omega)) (va_cwS 2 hts gX12_counted_X12_isGuilty rfl rfl rfl (by decide +kernel) ⟨Nat.le_of_ble_eq_true rfl, Nat.le_of_ble_eq_true rfl⟩) rfl hl.1 rfl (Nat.le_of_ble_eq_true rfl) dX12_counted_25 ⟨Nat.zero_le _, Nat.zero_le _⟩) (fun b14 => ?_) (fun b14 => ?_)
    · refine nr_if_eq (tgt := 35) hx hb (by decide) dX12_counted_28 (by decide) (fun c15 => absurd c15 (by decide)) (fun c15 => ?_)
      refine lv_iconst (v := nI 1) hx hb dX12_counted_31 (by decide) ?_
      refine lv_goto (tgt := 36) hx hb dX12_counted_32 (by decide) ?_
      refine nr_iadd hx hb dX12_counted_36 ?_
      refine lv_istore_n (lv' := [(2, .int (nI (gt + 1))), (0, .ref (ad Γ (mo + 0))), (1, .int (nI what)), (3, .int (nI t)), (4, .int (nI i))]) hx hb dX12_counted_37 rfl hl (by decide) rfl (fun ls hl => ?_)
      refine lv_iload_n hx hb dX12_counted_38 rfl (lv_at hl 3 rfl) ?_
      refine lv_aload_n hx hb dX12_counted_39 rfl (lv_at hl 1 rfl) ?_
      refine nr_get (own := RX12) (C := RX12) (T := TX12) (N := 19) (v := .ref (ad Γ (mo + 1))) hx hb hts hi_X12_counted_X12 hown hw (by omega) (isM_0 hM) rfl 0 (by decide) wl_X12_counted_1 rfl rfl dX12_counted_40 ?_
      refine lv_bipush (v := nI 6) hx hb dX12_counted_43 (by decide) ?_
      refine lv_iload hx hb dX12_counted_45 (lv_at hl 4 rfl) ?_
      refine nr_iadd hx hb dX12_counted_47 ?_
      refine nr_iald (x := (R (6 + i))) hx hb hw (by omega) (isM_1 hM) rfl (by omega) (by decide) dX12_counted_48 ?_
      have hL16 := hB (6 + i)
      refine nr_iadd hx hb dX12_counted_49 ?_
      refine lv_istore_n (lv' := [(3, .int (nI (t + (R (6 + i))))), (2, .int (nI (gt + 1))), (0, .ref (ad Γ (mo + 0))), (1, .int (nI what)), (4, .int (nI i))]) hx hb dX12_counted_50 rfl hl (by decide) rfl (fun ls hl => ?_)
      refine nr_inc (d := 1) (k := 4) (lv' := [(4, .int (nI (i + 1))), (3, .int (nI (t + (R (6 + i))))), (2, .int (nI (gt + 1))), (0, .ref (ad Γ (mo + 0))), (1, .int (nI what))]) hx hb dX12_counted_51 hl rfl (by decide) (by decide) rfl (fun ls hl => ?_)
      refine lv_goto (tgt := 7) hx hb dX12_counted_54 (by decide) ?_
      exact ih7 (i + 1, gt + 1, t + (R (6 + i))) _ _ (lv_sub hl [3, 4, 2, 1, 0] rfl) ⟨rfl, by (try dsimp only); omega, by (try dsimp only); rw [hgt]; simp only [cnt]; first | rw [if_pos (by assumption)] | rw [if_neg (by assumption), Nat.add_zero], by (try dsimp only); rw [ht]; rfl, by (try dsimp only); omega, by (try dsimp only); omega⟩ (by (try dsimp only); omega)
    · refine nr_if_eq (tgt := 35) hx hb (by decide) dX12_counted_28 (by decide) (fun c17 => ?_) (fun c17 => absurd c17 (by decide))
      refine lv_iconst (v := nI 0) hx hb dX12_counted_35 (by decide) ?_
      refine nr_iadd hx hb dX12_counted_36 ?_
      refine lv_istore_n (lv' := [(2, .int (nI (gt + 0))), (0, .ref (ad Γ (mo + 0))), (1, .int (nI what)), (3, .int (nI t)), (4, .int (nI i))]) hx hb dX12_counted_37 rfl hl (by decide) rfl (fun ls hl => ?_)
      refine lv_iload_n hx hb dX12_counted_38 rfl (lv_at hl 3 rfl) ?_
      refine lv_aload_n hx hb dX12_counted_39 rfl (lv_at hl 1 rfl) ?_
      refine nr_get (own := RX12) (C := RX12) (T := TX12) (N := 19) (v := .ref (ad Γ (mo + 1))) hx hb hts hi_X12_counted_X12 hown hw (by omega) (isM_0 hM) rfl 0 (by decide) wl_X12_counted_1 rfl rfl dX12_counted_40 ?_
      refine lv_bipush (v := nI 6) hx hb dX12_counted_43 (by decide) ?_
      refine lv_iload hx hb dX12_counted_45 (lv_at hl 4 rfl) ?_
      refine nr_iadd hx hb dX12_counted_47 ?_
      refine nr_iald (x := (R (6 + i))) hx hb hw (by omega) (isM_1 hM) rfl (by omega) (by decide) dX12_counted_48 ?_
      have hL18 := hB (6 + i)
      refine nr_iadd hx hb dX12_counted_49 ?_
      refine lv_istore_n (lv' := [(3, .int (nI (t + (R (6 + i))))), (2, .int (nI (gt + 0))), (0, .ref (ad Γ (mo + 0))), (1, .int (nI what)), (4, .int (nI i))]) hx hb dX12_counted_50 rfl hl (by decide) rfl (fun ls hl => ?_)
      refine nr_inc (d := 1) (k := 4) (lv' := [(4, .int (nI (i + 1))), (3, .int (nI (t + (R (6 + i))))), (2, .int (nI (gt + 0))), (0, .ref (ad Γ (mo + 0))), (1, .int (nI what))]) hx hb dX12_counted_51 hl rfl (by decide) (by decide) rfl (fun ls hl => ?_)
      refine lv_goto (tgt := 7) hx hb dX12_counted_54 (by decide) ?_
      exact ih7 (i + 1, gt + 0, t + (R (6 + i))) _ _ (lv_sub hl [3, 4, 2, 1, 0] rfl) ⟨rfl, by (try dsimp only); omega, by (try dsimp only); rw [hgt]; simp only [cnt]; first | rw [if_pos (by assumption)] | rw [if_neg (by assumption), Nat.add_zero], by (try dsimp only); rw [ht]; rfl, by (try dsimp only); omega, by (try dsimp only); omega⟩ (by (try dsimp only); omega)
theorem wl_X12_bad_1 : Cond.fieldLink RX12 20 "BellForgivenModel" "refused" "[I" ∈ wsX12_bad := List.mem_of_getElem? (i := 1) rfl
theorem hi_X12_bad_X12 : ∀ w ∈ u_ws RX12 TX12 19, w ∈ wsX12_bad := fun w h => (List.mem_cons_of_mem _ (List.mem_append_right _ h))
set_option maxHeartbeats 4000000 in
set_option maxRecDepth 100000 in
theorem c_X12_bad (l : Launch) (Γ : Gam) (n : Nat) (G : Nat → va_E) (mo : Nat) (R K kp rf ca rc hd fw tl by0 an vl iv : Nat → Nat) (hM : isM Γ G mo R K kp rf ca rc hd fw tl by0 an vl iv) (hmo : mo + 13 ≤ n) (hI : vI R) (hj : winj Γ n) (ta : Int32)  : Met l yX12_bad wsX12_bad ({ frames := 0, cells := 0, slots := 0, locals := 0 }) (va_Pc [.ref (ad Γ (mo + 0)), .int ta] (fun U => hw Γ n G U U.heap)) (wQi Γ n (fun z G2 => (z = ta) ∧ (isM Γ G2 mo R K kp (bmp rf 0) ca rc hd fw tl by0 an vl iv ∧ fr G G2 mo (mo + 13)))) 0 0 (wA Γ n) := by
  refine Met.ofW (cc := cX12_bad) (maxL := 2) (ret := (some .int)) (by decide) rfl ?_
  intro p e s m args below meth c s₁ B hml hv
  obtain ⟨rfl, hw⟩ := hv
  have hx := B.exec
  have hb := B.bytes
  have hr := B.returns
  have hts := atoms_spec (ws := wsX12_bad) B.pre
  have hown : s.vm.findClass RX12 = some m.cls := findClass_of_methodNamed B.named
  have hlocks := B.notSynchronized
  have hS : va_S (wA Γ n) s.heap s.heap [] := va_S.rf
  have hA : ∀ q, wA Γ n q → wA Γ n q := fun _ h => h
  have hl := lv_entry ([.ref (ad Γ (mo + 0)), .int ta]) (n := 2) (Nat.le_of_ble_eq_true rfl)
  rw [lg_entry_eq]
  generalize (lg_sl ([.ref (ad Γ (mo + 0)), .int ta]) ++ List.replicate (2 - (lg_sl ([.ref (ad Γ (mo + 0)), .int ta])).length) Slot.unset).toArray = ls at hl ⊢
  have hl : lv_has ls 2 [(0, .ref (ad Γ (mo + 0))), (1, .int ta)] := hl
  have hfr := fr_rf G mo (mo + 13)
  have hB := hI.1
  have hB0 := hI.2.1
  have hB1 := hI.2.2.1
  have hB20 := hI.2.2.2.2.2.2.2.2.2
  have hBz2 := hI.2.2.2.1
  have hBz3 := hI.2.2.2.2.1
  have hBz4 := hI.2.2.2.2.2.1
  have hBz5 := hI.2.2.2.2.2.2.1
  have hby := hI.2.2.2.2.2.2.2.1
  have hto := hI.2.2.2.2.2.2.2.2.1
  refine lv_aload_n hx hb dX12_bad_0 rfl (lv_at hl 0 rfl) ?_
  refine nr_get (own := RX12) (C := RX12) (T := TX12) (N := 19) (v := .ref (ad Γ (mo + 4))) hx hb hts hi_X12_bad_X12 hown hw (by omega) (isM_0 hM) rfl 3 (by decide) wl_X12_bad_1 rfl rfl dX12_bad_1 ?_
  refine lv_iconst (v := nI 0) hx hb dX12_bad_4 (by decide) ?_
  refine lv_dup2_11 hx hb dX12_bad_5 rfl rfl ?_
  refine nr_iald (x := (rf 0)) hx hb hw (by omega) (isM_4 hM) rfl (by omega) (by decide) dX12_bad_6 ?_
  refine lv_iconst (v := nI 1) hx hb dX12_bad_7 (by decide) ?_
  refine nr_iadd hx hb dX12_bad_8 ?_
  refine nr_iast (k := 0) (v := rf 0 + 1) hx hb hw hj hA hS (by omega) (isM_4 hM) (by omega) (by decide) dX12_bad_9 (fun H locs hw hS => ?_)
  have hM := isM_s4 hM (va_up rf 0 (rf 0 + 1))
  have hfr := fr_up hfr (i := mo + 4) (by omega) (by omega) (na Γ 3 (va_up rf 0 (rf 0 + 1)))
  generalize va_up G (mo + 4) (na Γ 3 (va_up rf 0 (rf 0 + 1))) = G1 at hw hM hfr
  refine lv_iload_n hx hb dX12_bad_10 rfl (lv_at hl 1 rfl) ?_
  exact nr_retI hx hb hr hlocks hw hS (⟨by first | rfl | decide, hM, hfr⟩) dX12_bad_11
theorem wl_X12_no_1 : Cond.fieldLink RX12 20 "BellForgivenModel" "refused" "[I" ∈ wsX12_no := List.mem_of_getElem? (i := 1) rfl
theorem hi_X12_no_X12 : ∀ w ∈ u_ws RX12 TX12 19, w ∈ wsX12_no := fun w h => (List.mem_cons_of_mem _ (List.mem_append_right _ h))
set_option maxHeartbeats 4000000 in
set_option maxRecDepth 100000 in
theorem c_X12_no (l : Launch) (Γ : Gam) (n : Nat) (G : Nat → va_E) (mo : Nat) (R K kp rf ca rc hd fw tl by0 an vl iv : Nat → Nat) (hM : isM Γ G mo R K kp rf ca rc hd fw tl by0 an vl iv) (hmo : mo + 13 ≤ n) (hI : vI R) (hj : winj Γ n)  : Met l yX12_no wsX12_no ({ frames := 0, cells := 0, slots := 0, locals := 0 }) (va_Pc [.ref (ad Γ (mo + 0))] (fun U => hw Γ n G U U.heap)) (wQi Γ n (fun z G2 => (z = -3) ∧ (isM Γ G2 mo R K kp (bmp rf 1) ca rc hd fw tl by0 an vl iv ∧ fr G G2 mo (mo + 13)))) 0 0 (wA Γ n) := by
  refine Met.ofW (cc := cX12_no) (maxL := 1) (ret := (some .int)) (by decide) rfl ?_
  intro p e s m args below meth c s₁ B hml hv
  obtain ⟨rfl, hw⟩ := hv
  have hx := B.exec
  have hb := B.bytes
  have hr := B.returns
  have hts := atoms_spec (ws := wsX12_no) B.pre
  have hown : s.vm.findClass RX12 = some m.cls := findClass_of_methodNamed B.named
  have hlocks := B.notSynchronized
  have hS : va_S (wA Γ n) s.heap s.heap [] := va_S.rf
  have hA : ∀ q, wA Γ n q → wA Γ n q := fun _ h => h
  have hl := lv_entry ([.ref (ad Γ (mo + 0))]) (n := 1) (Nat.le_of_ble_eq_true rfl)
  rw [lg_entry_eq]
  generalize (lg_sl ([.ref (ad Γ (mo + 0))]) ++ List.replicate (1 - (lg_sl ([.ref (ad Γ (mo + 0))])).length) Slot.unset).toArray = ls at hl ⊢
  have hl : lv_has ls 1 [(0, .ref (ad Γ (mo + 0)))] := hl
  have hfr := fr_rf G mo (mo + 13)
  have hB := hI.1
  have hB0 := hI.2.1
  have hB1 := hI.2.2.1
  have hB20 := hI.2.2.2.2.2.2.2.2.2
  have hBz2 := hI.2.2.2.1
  have hBz3 := hI.2.2.2.2.1
  have hBz4 := hI.2.2.2.2.2.1
  have hBz5 := hI.2.2.2.2.2.2.1
  have hby := hI.2.2.2.2.2.2.2.1
  have hto := hI.2.2.2.2.2.2.2.2.1
  refine lv_aload_n hx hb dX12_no_0 rfl (lv_at hl 0 rfl) ?_
  refine nr_get (own := RX12) (C := RX12) (T := TX12) (N := 19) (v := .ref (ad Γ (mo + 4))) hx hb hts hi_X12_no_X12 hown hw (by omega) (isM_0 hM) rfl 3 (by decide) wl_X12_no_1 rfl rfl dX12_no_1 ?_
  refine lv_iconst (v := nI 1) hx hb dX12_no_4 (by decide) ?_
  refine lv_dup2_11 hx hb dX12_no_5 rfl rfl ?_
  refine nr_iald (x := (rf 1)) hx hb hw (by omega) (isM_4 hM) rfl (by omega) (by decide) dX12_no_6 ?_
  refine lv_iconst (v := nI 1) hx hb dX12_no_7 (by decide) ?_
  refine nr_iadd hx hb dX12_no_8 ?_
  refine nr_iast (k := 1) (v := rf 1 + 1) hx hb hw hj hA hS (by omega) (isM_4 hM) (by omega) (by decide) dX12_no_9 (fun H locs hw hS => ?_)
  have hM := isM_s4 hM (va_up rf 1 (rf 1 + 1))
  have hfr := fr_up hfr (i := mo + 4) (by omega) (by omega) (na Γ 3 (va_up rf 1 (rf 1 + 1)))
  generalize va_up G (mo + 4) (na Γ 3 (va_up rf 1 (rf 1 + 1))) = G1 at hw hM hfr
  refine lv_bipush (v := (-3)) hx hb dX12_no_10 (by decide) ?_
  exact nr_retI hx hb hr hlocks hw hS (⟨by first | rfl | decide, hM, hfr⟩) dX12_no_12
theorem wl_X12_full_1 : Cond.fieldLink RX12 20 "BellForgivenModel" "refused" "[I" ∈ wsX12_full := List.mem_of_getElem? (i := 1) rfl
theorem hi_X12_full_X12 : ∀ w ∈ u_ws RX12 TX12 19, w ∈ wsX12_full := fun w h => (List.mem_cons_of_mem _ (List.mem_append_right _ h))
set_option maxHeartbeats 4000000 in
set_option maxRecDepth 100000 in
theorem c_X12_full (l : Launch) (Γ : Gam) (n : Nat) (G : Nat → va_E) (mo : Nat) (R K kp rf ca rc hd fw tl by0 an vl iv : Nat → Nat) (hM : isM Γ G mo R K kp rf ca rc hd fw tl by0 an vl iv) (hmo : mo + 13 ≤ n) (hI : vI R) (hj : winj Γ n)  : Met l yX12_full wsX12_full ({ frames := 0, cells := 0, slots := 0, locals := 0 }) (va_Pc [.ref (ad Γ (mo + 0))] (fun U => hw Γ n G U U.heap)) (wQi Γ n (fun z G2 => (z = -4) ∧ (isM Γ G2 mo R K kp (bmp rf 2) ca rc hd fw tl by0 an vl iv ∧ fr G G2 mo (mo + 13)))) 0 0 (wA Γ n) := by
  refine Met.ofW (cc := cX12_full) (maxL := 1) (ret := (some .int)) (by decide) rfl ?_
  intro p e s m args below meth c s₁ B hml hv
  obtain ⟨rfl, hw⟩ := hv
  have hx := B.exec
  have hb := B.bytes
  have hr := B.returns
  have hts := atoms_spec (ws := wsX12_full) B.pre
  have hown : s.vm.findClass RX12 = some m.cls := findClass_of_methodNamed B.named
  have hlocks := B.notSynchronized
  have hS : va_S (wA Γ n) s.heap s.heap [] := va_S.rf
  have hA : ∀ q, wA Γ n q → wA Γ n q := fun _ h => h
  have hl := lv_entry ([.ref (ad Γ (mo + 0))]) (n := 1) (Nat.le_of_ble_eq_true rfl)
  rw [lg_entry_eq]
  generalize (lg_sl ([.ref (ad Γ (mo + 0))]) ++ List.replicate (1 - (lg_sl ([.ref (ad Γ (mo + 0))])).length) Slot.unset).toArray = ls at hl ⊢
  have hl : lv_has ls 1 [(0, .ref (ad Γ (mo + 0)))] := hl
  have hfr := fr_rf G mo (mo + 13)
  have hB := hI.1
  have hB0 := hI.2.1
  have hB1 := hI.2.2.1
  have hB20 := hI.2.2.2.2.2.2.2.2.2
  have hBz2 := hI.2.2.2.1
  have hBz3 := hI.2.2.2.2.1
  have hBz4 := hI.2.2.2.2.2.1
  have hBz5 := hI.2.2.2.2.2.2.1
  have hby := hI.2.2.2.2.2.2.2.1
  have hto := hI.2.2.2.2.2.2.2.2.1
  refine lv_aload_n hx hb dX12_full_0 rfl (lv_at hl 0 rfl) ?_
  refine nr_get (own := RX12) (C := RX12) (T := TX12) (N := 19) (v := .ref (ad Γ (mo + 4))) hx hb hts hi_X12_full_X12 hown hw (by omega) (isM_0 hM) rfl 3 (by decide) wl_X12_full_1 rfl rfl dX12_full_1 ?_
  refine lv_iconst (v := nI 2) hx hb dX12_full_4 (by decide) ?_
  refine lv_dup2_11 hx hb dX12_full_5 rfl rfl ?_
  refine nr_iald (x := (rf 2)) hx hb hw (by omega) (isM_4 hM) rfl (by omega) (by decide) dX12_full_6 ?_
  refine lv_iconst (v := nI 1) hx hb dX12_full_7 (by decide) ?_
  refine nr_iadd hx hb dX12_full_8 ?_
  refine nr_iast (k := 2) (v := rf 2 + 1) hx hb hw hj hA hS (by omega) (isM_4 hM) (by omega) (by decide) dX12_full_9 (fun H locs hw hS => ?_)
  have hM := isM_s4 hM (va_up rf 2 (rf 2 + 1))
  have hfr := fr_up hfr (i := mo + 4) (by omega) (by omega) (na Γ 3 (va_up rf 2 (rf 2 + 1)))
  generalize va_up G (mo + 4) (na Γ 3 (va_up rf 2 (rf 2 + 1))) = G1 at hw hM hfr
  refine lv_bipush (v := (-4)) hx hb dX12_full_10 (by decide) ?_
  exact nr_retI hx hb hr hlocks hw hS (⟨by first | rfl | decide, hM, hfr⟩) dX12_full_12
theorem wl_X12_layHand_1 : Cond.fieldLink RX12 33 "BellForgivenModel" "hand" "[I" ∈ wsX12_layHand := List.mem_of_getElem? (i := 1) rfl
theorem wl_X12_layHand_2 : Cond.fieldLink RX12 7 "BellForgivenModel" "all" "[I" ∈ wsX12_layHand := List.mem_of_getElem? (i := 2) rfl
theorem hi_X12_layHand_X12 : ∀ w ∈ u_ws RX12 TX12 19, w ∈ wsX12_layHand := fun w h => (List.mem_cons_of_mem _ (List.mem_append_right _ h))
set_option maxHeartbeats 4000000 in
set_option maxRecDepth 100000 in
theorem c_X12_layHand (l : Launch) (Γ : Gam) (n : Nat) (G : Nat → va_E) (mo : Nat) (R K kp rf ca rc hd fw tl by0 an vl iv : Nat → Nat) (hM : isM Γ G mo R K kp rf ca rc hd fw tl by0 an vl iv) (hmo : mo + 13 ≤ n) (hI : vI R) (hj : winj Γ n)  : Met l yX12_layHand wsX12_layHand ({ frames := 0, cells := 0, slots := 0, locals := 0 }) (va_Pc [.ref (ad Γ (mo + 0))] (fun U => hw Γ n G U U.heap)) (wQv Γ n (fun G2 => isM Γ G2 mo R K kp rf ca rc (cpyR hd R 60) fw tl by0 an vl iv ∧ fr G G2 mo (mo + 13))) 0 0 (wA Γ n) := by
  refine Met.ofW (cc := cX12_layHand) (maxL := 2) (ret := none) (by decide) rfl ?_
  intro p e s m args below meth c s₁ B hml hv
  obtain ⟨rfl, hw⟩ := hv
  have hx := B.exec
  have hb := B.bytes
  have hr := B.returns
  have hts := atoms_spec (ws := wsX12_layHand) B.pre
  have hown : s.vm.findClass RX12 = some m.cls := findClass_of_methodNamed B.named
  have hlocks := B.notSynchronized
  have hS : va_S (wA Γ n) s.heap s.heap [] := va_S.rf
  have hA : ∀ q, wA Γ n q → wA Γ n q := fun _ h => h
  have hl := lv_entry ([.ref (ad Γ (mo + 0))]) (n := 2) (Nat.le_of_ble_eq_true rfl)
  rw [lg_entry_eq]
  generalize (lg_sl ([.ref (ad Γ (mo + 0))]) ++ List.replicate (2 - (lg_sl ([.ref (ad Γ (mo + 0))])).length) Slot.unset).toArray = ls at hl ⊢
  have hl : lv_has ls 2 [(0, .ref (ad Γ (mo + 0)))] := hl
  have hfr := fr_rf G mo (mo + 13)
  have hB := hI.1
  have hB0 := hI.2.1
  have hB1 := hI.2.2.1
  have hB20 := hI.2.2.2.2.2.2.2.2.2
  have hBz2 := hI.2.2.2.1
  have hBz3 := hI.2.2.2.2.1
  have hBz4 := hI.2.2.2.2.2.1
  have hBz5 := hI.2.2.2.2.2.2.1
  have hby := hI.2.2.2.2.2.2.2.1
  have hto := hI.2.2.2.2.2.2.2.2.1
  refine lv_iconst (v := nI 0) hx hb dX12_layHand_0 (by decide) ?_
  refine lv_istore_n (lv' := [(1, .int (nI 0)), (0, .ref (ad Γ (mo + 0)))]) hx hb dX12_layHand_1 rfl hl (by decide) rfl (fun ls hl => ?_)
  refine nr_lpI (σ := (Nat → va_E) × Nat × (Nat → Nat)) 2 (fun x => x.1) (fun x lv => lv = [(0, .ref (ad Γ (mo + 0))), (1, .int (nI x.2.1))] ∧ isM Γ x.1 mo R K kp rf ca rc x.2.2 fw tl by0 an vl iv ∧ fr G x.1 mo (mo + 13) ∧ (x.2.1 ≤ 60) ∧ (x.2.2 = cpyR hd R x.2.1)) (fun x => 60 - x.2.1) (G, 0, hd) hw hS (lv_sub hl [1, 0] rfl) ⟨rfl, hM, hfr, by (try dsimp only); omega, by (try dsimp only); exact (cpyR_0 hd R)⟩ ?_
  intro x lv ls H locs hw hS hl hI ih2
  obtain ⟨Gl2, k, hdL2⟩ := x
  obtain ⟨rfl, hM, hfr, hk, hh⟩ := hI
  try dsimp only at hM hfr hk hh hw hl ih2
  refine lv_iload_n hx hb dX12_layHand_2 rfl (lv_at hl 1 rfl) ?_
  refine lv_bipush (v := nI 60) hx hb dX12_layHand_3 (by decide) ?_
  refine nr_icmp_ge (tgt := 26) hx hb (by omega) (by decide) dX12_layHand_5 (by decide) (fun c1 => ?_) (fun c1 => ?_)
  · exact nr_retV hx hb hr hlocks hw hS (⟨by rw [show cpyR hd R 60 = hdL2 from (by rw [hh, show k = 60 by omega])]; exact hM, hfr⟩) dX12_layHand_26
  · refine lv_aload_n hx hb dX12_layHand_8 rfl (lv_at hl 0 rfl) ?_
    refine nr_get (own := RX12) (C := RX12) (T := TX12) (N := 19) (v := .ref (ad Γ (mo + 7))) hx hb hts hi_X12_layHand_X12 hown hw (by omega) (isM_0 hM) rfl 8 (by decide) wl_X12_layHand_1 rfl rfl dX12_layHand_9 ?_
    refine lv_iload_n hx hb dX12_layHand_12 rfl (lv_at hl 1 rfl) ?_
    refine lv_aload_n hx hb dX12_layHand_13 rfl (lv_at hl 0 rfl) ?_
    refine nr_get (own := RX12) (C := RX12) (T := TX12) (N := 19) (v := .ref (ad Γ (mo + 1))) hx hb hts hi_X12_layHand_X12 hown hw (by omega) (isM_0 hM) rfl 0 (by decide) wl_X12_layHand_2 rfl rfl dX12_layHand_14 ?_
    refine lv_iload_n hx hb dX12_layHand_17 rfl (lv_at hl 1 rfl) ?_
    refine nr_iald (x := (R k)) hx hb hw (by omega) (isM_1 hM) rfl (by omega) (by decide) dX12_layHand_18 ?_
    have hL2 := hB (k)
    refine nr_iast (k := k) (v := R k) hx hb hw hj hA hS (by omega) (isM_7 hM) (by omega) (by decide) dX12_layHand_19 (fun H locs hw hS => ?_)
    have hM := isM_s7 hM (va_up hdL2 k (R k))
    have hfr := fr_up hfr (i := mo + 7) (by omega) (by omega) (na Γ 60 (va_up hdL2 k (R k)))
    generalize va_up Gl2 (mo + 7) (na Γ 60 (va_up hdL2 k (R k))) = G3 at hw hM hfr
    refine nr_inc (d := 1) (k := 1) (lv' := [(1, .int (nI (k + 1))), (0, .ref (ad Γ (mo + 0)))]) hx hb dX12_layHand_20 hl rfl (by decide) (by decide) rfl (fun ls hl => ?_)
    refine lv_goto (tgt := 2) hx hb dX12_layHand_23 (by decide) ?_
    exact ih2 (G3, k + 1, va_up hdL2 k (R k)) _ _ _ _ hw hS (lv_sub hl [1, 0] rfl) ⟨rfl, hM, hfr, by (try dsimp only); omega, by (try dsimp only); rw [hh]; exact cpyR_s hd R k⟩ (by (try dsimp only); omega)
theorem wl_X12_layCan_1 : Cond.fieldLink RX12 27 "BellForgivenModel" "canAll" "[I" ∈ wsX12_layCan := List.mem_of_getElem? (i := 1) rfl
theorem hi_X12_layCan_X12 : ∀ w ∈ u_ws RX12 TX12 19, w ∈ wsX12_layCan := fun w h => (List.mem_cons_of_mem _ (List.mem_append_right _ h))
set_option maxHeartbeats 4000000 in
set_option maxRecDepth 100000 in
theorem c_X12_layCan (l : Launch) (Γ : Gam) (n : Nat) (G : Nat → va_E) (mo : Nat) (R K kp rf ca rc hd fw tl by0 an vl iv : Nat → Nat) (hM : isM Γ G mo R K kp rf ca rc hd fw tl by0 an vl iv) (hmo : mo + 13 ≤ n) (hI : vI R) (hj : winj Γ n)  : Met l yX12_layCan wsX12_layCan ({ frames := 3, cells := 0, slots := 0, locals := 68 }) (va_Pc [.ref (ad Γ (mo + 0))] (fun U => hw Γ n G U U.heap)) (wQv Γ n (fun G2 => ∃ ca2 : Nat → Nat, (∀ w, w < 2 ^ R 1 → ca2 w = canS R w) ∧ isM Γ G2 mo R K kp rf ca2 rc hd fw tl by0 an vl iv ∧ fr G G2 mo (mo + 13))) 0 0 (wA Γ n) := by
  refine Met.ofW (cc := cX12_layCan) (maxL := 3) (ret := none) (by decide) rfl ?_
  intro p e s m args below meth c s₁ B hml hv
  obtain ⟨rfl, hw⟩ := hv
  have hx := B.exec
  have hb := B.bytes
  have hr := B.returns
  have hts := atoms_spec (ws := wsX12_layCan) B.pre
  have hown : s.vm.findClass RX12 = some m.cls := findClass_of_methodNamed B.named
  have hlocks := B.notSynchronized
  have hS : va_S (wA Γ n) s.heap s.heap [] := va_S.rf
  have hA : ∀ q, wA Γ n q → wA Γ n q := fun _ h => h
  have hl := lv_entry ([.ref (ad Γ (mo + 0))]) (n := 3) (Nat.le_of_ble_eq_true rfl)
  rw [lg_entry_eq]
  generalize (lg_sl ([.ref (ad Γ (mo + 0))]) ++ List.replicate (3 - (lg_sl ([.ref (ad Γ (mo + 0))])).length) Slot.unset).toArray = ls at hl ⊢
  have hl : lv_has ls 3 [(0, .ref (ad Γ (mo + 0)))] := hl
  have hfr := fr_rf G mo (mo + 13)
  have hB := hI.1
  have hB0 := hI.2.1
  have hB1 := hI.2.2.1
  have hB20 := hI.2.2.2.2.2.2.2.2.2
  have hBz2 := hI.2.2.2.1
  have hBz3 := hI.2.2.2.2.1
  have hBz4 := hI.2.2.2.2.2.1
  have hBz5 := hI.2.2.2.2.2.2.1
  have hby := hI.2.2.2.2.2.2.2.1
  have hto := hI.2.2.2.2.2.2.2.2.1
  have h2p := p2_le hB1
  refine lv_iconst (v := nI 0) hx hb dX12_layCan_0 (by decide) ?_
  refine lv_istore_n (lv' := [(1, .int (nI 0)), (0, .ref (ad Γ (mo + 0)))]) hx hb dX12_layCan_1 rfl hl (by decide) rfl (fun ls hl => ?_)
  refine nr_lpI (σ := (Nat → va_E) × Nat × (Nat → Nat)) 2 (fun x => x.1) (fun x lv => lv = [(0, .ref (ad Γ (mo + 0))), (1, .int (nI x.2.1))] ∧ isM Γ x.1 mo R K kp rf x.2.2 rc hd fw tl by0 an vl iv ∧ fr G x.1 mo (mo + 13) ∧ (x.2.1 ≤ 2 ^ R 1) ∧ (∀ u, u < x.2.1 → x.2.2 u = canS R u)) (fun x => 2 ^ R 1 - x.2.1) (G, 0, ca) hw hS (lv_sub hl [1, 0] rfl) ⟨rfl, hM, hfr, Nat.zero_le _, by (try dsimp only); exact (fun j hj => absurd hj (Nat.not_lt_zero j))⟩ ?_
  intro x lv ls H locs hw hS hl hI ih2
  obtain ⟨Gl2, w, caL2⟩ := x
  obtain ⟨rfl, hM, hfr, hw1, hh⟩ := hI
  try dsimp only at hM hfr hw1 hh hw hl ih2
  refine lv_iload_n hx hb dX12_layCan_2 rfl (lv_at hl 1 rfl) ?_
  refine lv_iconst (v := nI 1) hx hb dX12_layCan_3 (by decide) ?_
  refine lv_aload_n hx hb dX12_layCan_4 rfl (lv_at hl 0 rfl) ?_
  refine nr_goS (nr_runV (As := []) (C := RX12) (T := TX12) (N := 19) ⟨hx, hb, hml, hown, hts⟩ hw (by omega) (isM_0 hM) rfl (c_X12_many l Γ n Gl2 mo R K kp rf caL2 rc hd fw tl by0 an vl iv hM (by omega) hI) (cwV 0 hts gX12_layCan_X12_many rfl rfl rfl (by decide +kernel) ⟨Nat.le_of_ble_eq_true rfl, Nat.le_of_ble_eq_true rfl⟩) rfl hl.1 rfl (Nat.le_of_ble_eq_true rfl) dX12_layCan_5 ⟨Nat.zero_le _, Nat.zero_le _⟩) (fun r1 hr1 => ?_)
  obtain rfl : r1 = (nI (R 1)) := hr1
  refine nr_ishl1 hx hb (by omega) dX12_layCan_8 ?_
  refine nr_icmp_ge (tgt := 66) hx hb (by omega) (by omega) dX12_layCan_9 (by decide) (fun c2 => ?_) (fun c2 => ?_)
  · exact nr_retV hx hb hr hlocks hw hS (⟨_, fun u hu => hh u (by omega), hM, hfr⟩) dX12_layCan_66
  · refine lv_aload_n hx hb dX12_layCan_12 rfl (lv_at hl 0 rfl) ?_
    refine nr_get (own := RX12) (C := RX12) (T := TX12) (N := 19) (v := .ref (ad Γ (mo + 5))) hx hb hts hi_X12_layCan_X12 hown hw (by omega) (isM_0 hM) rfl 6 (by decide) wl_X12_layCan_1 rfl rfl dX12_layCan_13 ?_
    refine lv_iload_n hx hb dX12_layCan_16 rfl (lv_at hl 1 rfl) ?_
    refine lv_iconst (v := nI 0) hx hb dX12_layCan_17 (by decide) ?_
    refine nr_iast (k := w) (v := 0) hx hb hw hj hA hS (by omega) (isM_5 hM) (by omega) (by decide) dX12_layCan_18 (fun H locs hw hS => ?_)
    have hM := isM_s5 hM (va_up caL2 w 0)
    have hfr := fr_up hfr (i := mo + 5) (by omega) (by omega) (na Γ 256 (va_up caL2 w 0))
    generalize va_up Gl2 (mo + 5) (na Γ 256 (va_up caL2 w 0)) = G3 at hw hM hfr
    refine lv_iconst (v := nI 0) hx hb dX12_layCan_19 (by decide) ?_
    refine lv_istore_n (lv' := [(2, .int (nI 0)), (0, .ref (ad Γ (mo + 0))), (1, .int (nI w))]) hx hb dX12_layCan_20 rfl hl (by decide) rfl (fun ls hl => ?_)
    refine nr_lpI (σ := (Nat → va_E) × Nat × (Nat → Nat)) 21 (fun x => x.1) (fun x lv => lv = [(0, .ref (ad Γ (mo + 0))), (1, .int (nI w)), (2, .int (nI x.2.1))] ∧ isM Γ x.1 mo R K kp rf x.2.2 rc hd fw tl by0 an vl iv ∧ fr G x.1 mo (mo + 13) ∧ (x.2.1 ≤ R 1) ∧ (∀ u, u < w → x.2.2 u = canS R u) ∧ (x.2.2 w = bitsOf (fun q => cbP R q w) x.2.1) ∧ (x.2.2 w < 256)) (fun x => R 1 - x.2.1) (G3, 0, va_up caL2 w 0) hw hS (lv_sub hl [1, 2, 0] rfl) ⟨rfl, hM, hfr, by (try dsimp only); omega, by (try dsimp only); exact (fun u hu => by rw [va_up_ne _ _ (by omega)]; exact hh u hu), by (try dsimp only); exact (va_up_self _ _ _), by (try dsimp only); (try dsimp only); rw [va_up_self]; decide⟩ ?_
    intro x lv ls H locs hw hS hl hI ih21
    obtain ⟨Gl21, k, caL21⟩ := x
    obtain ⟨rfl, hM, hfr, hk, hh2, hc, hc2⟩ := hI
    try dsimp only at hM hfr hk hh2 hc hc2 hw hl ih21
    refine lv_iload_n hx hb dX12_layCan_21 rfl (lv_at hl 2 rfl) ?_
    refine lv_aload_n hx hb dX12_layCan_22 rfl (lv_at hl 0 rfl) ?_
    refine nr_goS (nr_runV (As := []) (C := RX12) (T := TX12) (N := 19) ⟨hx, hb, hml, hown, hts⟩ hw (by omega) (isM_0 hM) rfl (c_X12_many l Γ n Gl21 mo R K kp rf caL21 rc hd fw tl by0 an vl iv hM (by omega) hI) (cwV 0 hts gX12_layCan_X12_many rfl rfl rfl (by decide +kernel) ⟨Nat.le_of_ble_eq_true rfl, Nat.le_of_ble_eq_true rfl⟩) rfl hl.1 rfl (Nat.le_of_ble_eq_true rfl) dX12_layCan_23 ⟨Nat.zero_le _, Nat.zero_le _⟩) (fun r4 hr4 => ?_)
    obtain rfl : r4 = (nI (R 1)) := hr4
    refine nr_icmp_ge (tgt := 60) hx hb (by omega) (by omega) dX12_layCan_26 (by decide) (fun c5 => ?_) (fun c5 => ?_)
    · refine nr_inc (d := 1) (k := 1) (lv' := [(1, .int (nI (w + 1))), (0, .ref (ad Γ (mo + 0))), (2, .int (nI k))]) hx hb dX12_layCan_60 hl rfl (by decide) (by decide) rfl (fun ls hl => ?_)
      refine lv_goto (tgt := 2) hx hb dX12_layCan_63 (by decide) ?_
      exact ih2 (Gl21, w + 1, caL21) _ _ _ _ hw hS (lv_sub hl [1, 0] rfl) ⟨rfl, hM, hfr, by (try dsimp only); omega, by (try dsimp only); exact (fun u hu => by
          rcases Nat.lt_or_eq_of_le (Nat.le_of_lt_succ hu) with q | q
          · exact hh2 u q
          · subst q; rw [hc, show k = R 1 by omega]; rfl)⟩ (by (try dsimp only); omega)
    · refine lv_aload_n hx hb dX12_layCan_29 rfl (lv_at hl 0 rfl) ?_
      refine nr_get (own := RX12) (C := RX12) (T := TX12) (N := 19) (v := .ref (ad Γ (mo + 5))) hx hb hts hi_X12_layCan_X12 hown hw (by omega) (isM_0 hM) rfl 6 (by decide) wl_X12_layCan_1 rfl rfl dX12_layCan_30 ?_
      refine lv_iload_n hx hb dX12_layCan_33 rfl (lv_at hl 1 rfl) ?_
      refine lv_dup2_11 hx hb dX12_layCan_34 rfl rfl ?_
      refine nr_iald (x := (caL21 w)) hx hb hw (by omega) (isM_5 hM) (rfl) (by omega) (by decide) dX12_layCan_35 ?_
      refine lv_aload_n hx hb dX12_layCan_36 rfl (lv_at hl 0 rfl) ?_
      refine lv_iload_n hx hb dX12_layCan_37 rfl (lv_at hl 2 rfl) ?_
      refine lv_iload_n hx hb dX12_layCan_38 rfl (lv_at hl 1 rfl) ?_
      refine nr_goB (P := cbP R k w) (nr_runV (As := [.int (nI k), .int (nI w)]) (C := RX12) (T := TX12) (N := 19) ⟨hx, hb, hml, hown, hts⟩ hw (by omega) (isM_0 hM) rfl (c_X12_canBy l Γ n Gl21 mo R K kp rf caL21 rc hd fw tl by0 an vl iv hM (by omega) hI k w (by omega) (by omega)) (cwV 2 hts gX12_layCan_X12_canBy rfl rfl rfl (by decide +kernel) ⟨Nat.le_of_ble_eq_true rfl, Nat.le_of_ble_eq_true rfl⟩) rfl hl.1 rfl (Nat.le_of_ble_eq_true rfl) dX12_layCan_39 ⟨Nat.zero_le _, Nat.zero_le _⟩) (fun b6 => ?_) (fun b6 => ?_)
      · refine nr_if_eq (tgt := 51) hx hb (by decide) dX12_layCan_42 (by decide) (fun c7 => absurd c7 (by decide)) (fun c7 => ?_)
        refine lv_iconst (v := nI 1) hx hb dX12_layCan_45 (by decide) ?_
        refine lv_iload_n hx hb dX12_layCan_46 rfl (lv_at hl 2 rfl) ?_
        refine nr_ishl1 hx hb (by omega) dX12_layCan_47 ?_
        refine lv_goto (tgt := 52) hx hb dX12_layCan_48 (by decide) ?_
        refine nr_ior hx hb dX12_layCan_52 ?_
        refine nr_iast (k := w) (v := (caL21 w) ||| (2 ^ k)) hx hb hw hj hA hS (by omega) (isM_5 hM) (by omega) (by decide) dX12_layCan_53 (fun H locs hw hS => ?_)
        have hM := isM_s5 hM (va_up caL21 w ((caL21 w) ||| (2 ^ k)))
        have hfr := fr_up hfr (i := mo + 5) (by omega) (by omega) (na Γ 256 (va_up caL21 w ((caL21 w) ||| (2 ^ k))))
        generalize va_up Gl21 (mo + 5) (na Γ 256 (va_up caL21 w ((caL21 w) ||| (2 ^ k)))) = G8 at hw hM hfr
        refine nr_inc (d := 1) (k := 2) (lv' := [(2, .int (nI (k + 1))), (0, .ref (ad Γ (mo + 0))), (1, .int (nI w))]) hx hb dX12_layCan_54 hl rfl (by decide) (by decide) rfl (fun ls hl => ?_)
        refine lv_goto (tgt := 21) hx hb dX12_layCan_57 (by decide) ?_
        exact ih21 (G8, k + 1, va_up caL21 w ((caL21 w) ||| (2 ^ k))) _ _ _ _ hw hS (lv_sub hl [1, 2, 0] rfl) ⟨rfl, hM, hfr, by (try dsimp only); omega, by (try dsimp only); exact (fun u hu => by rw [va_up_ne _ _ (by omega)]; exact hh2 u hu), by (try dsimp only); (try dsimp only); rw [va_up_self, hc]; simp only [bitsOf]; first | rw [if_pos (by assumption)] | rw [if_neg (by assumption), Nat.or_zero], by (try dsimp only); (try dsimp only); rw [va_up_self]; first | exact or_lt256 hc2 (by omega) | (rw [Nat.or_zero]; exact hc2)⟩ (by (try dsimp only); omega)
      · refine nr_if_eq (tgt := 51) hx hb (by decide) dX12_layCan_42 (by decide) (fun c9 => ?_) (fun c9 => absurd c9 (by decide))
        refine lv_iconst (v := nI 0) hx hb dX12_layCan_51 (by decide) ?_
        refine nr_ior hx hb dX12_layCan_52 ?_
        refine nr_iast (k := w) (v := (caL21 w) ||| 0) hx hb hw hj hA hS (by omega) (isM_5 hM) (by omega) (by decide) dX12_layCan_53 (fun H locs hw hS => ?_)
        have hM := isM_s5 hM (va_up caL21 w ((caL21 w) ||| 0))
        have hfr := fr_up hfr (i := mo + 5) (by omega) (by omega) (na Γ 256 (va_up caL21 w ((caL21 w) ||| 0)))
        generalize va_up Gl21 (mo + 5) (na Γ 256 (va_up caL21 w ((caL21 w) ||| 0))) = G10 at hw hM hfr
        refine nr_inc (d := 1) (k := 2) (lv' := [(2, .int (nI (k + 1))), (0, .ref (ad Γ (mo + 0))), (1, .int (nI w))]) hx hb dX12_layCan_54 hl rfl (by decide) (by decide) rfl (fun ls hl => ?_)
        refine lv_goto (tgt := 21) hx hb dX12_layCan_57 (by decide) ?_
        exact ih21 (G10, k + 1, va_up caL21 w ((caL21 w) ||| 0)) _ _ _ _ hw hS (lv_sub hl [1, 2, 0] rfl) ⟨rfl, hM, hfr, by (try dsimp only); omega, by (try dsimp only); exact (fun u hu => by rw [va_up_ne _ _ (by omega)]; exact hh2 u hu), by (try dsimp only); (try dsimp only); rw [va_up_self, hc]; simp only [bitsOf]; first | rw [if_pos (by assumption)] | rw [if_neg (by assumption), Nat.or_zero], by (try dsimp only); (try dsimp only); rw [va_up_self]; first | exact or_lt256 hc2 (by omega) | (rw [Nat.or_zero]; exact hc2)⟩ (by (try dsimp only); omega)
