section SP
abbrev vRng (a b : Nat) (x : Int32) : Prop := ∃ j, a ≤ j ∧ j ≤ b ∧ x = nI j
abbrev vBel (N : Nat) (x : Int32) : Prop := ∃ j, j < N ∧ x = nI j
def oneR (R : Nat → Nat) (kd : Nat) : Nat → Nat := va_up (va_up (va_up R (22 + R 0) kd) 0 (R 0 + 1)) 5 0
def wrongR (R : Nat → Nat) (kd a b g : Nat) : Nat → Nat := va_up (layR R kd a b g) 5 0
def fourR (R : Nat → Nat) (at0 a b c d : Nat) : Nat → Nat := va_up (va_up (va_up (va_up R at0 a) (at0 + 1) b) (at0 + 2) c) (at0 + 3) d
def addR (R : Nat → Nat) (sz off a b c d : Nat) : Nat → Nat := va_up (fourR R (off + 4 * R sz) a b c d) sz (R sz + 1)
theorem layR_1 (R : Nat → Nat) (kd a b g : Nat) : layR R kd a b g 1 = R 1 + 1 := va_up_self _ _ _
end SP
section SP2
theorem vI_wrong {R : Nat → Nat} {kd a b g : Nat} (h : vI R) (hk : kd ≤ 5) (ha : a < R 0) (hb : b < R 0) (hg : g ≤ 9) (h8 : R 1 < 8) : vI (wrongR R kd a b g) := by
  obtain ⟨h1, h2, h3, h4, h5, h6, h7, h9, h10, h11⟩ := h
  refine ⟨fun j => ?_, ?_, ?_, ?_, ?_, ?_, ?_, fun j hj => ?_, fun j hj => ?_, ?_⟩
  · have := h1 j
    simp only [wrongR, layR, va_up]; (repeat' split) <;> omega
  · simp only [wrongR, layR, va_up]; (repeat' split) <;> omega
  · simp only [wrongR, layR, va_up]; (repeat' split) <;> omega
  · simp only [wrongR, layR, va_up]; (repeat' split) <;> omega
  · simp only [wrongR, layR, va_up]; (repeat' split) <;> omega
  · simp only [wrongR, layR, va_up]; (repeat' split) <;> omega
  · simp only [wrongR, layR, va_up]; (repeat' split) <;> omega
  · have := h9 j hj
    simp only [wrongR, layR, va_up]; (repeat' split) <;> omega
  · have := h10 j hj
    simp only [wrongR, layR, va_up]; (repeat' split) <;> omega
  · simp only [wrongR, layR, va_up]; (repeat' split) <;> omega
end SP2
theorem wl_X12_valley_1 : Cond.fieldLink RX12 7 "BellForgivenModel" "all" "[I" ∈ wsX12_valley := List.mem_of_getElem? (i := 1) rfl
theorem hi_X12_valley_X12 : ∀ w ∈ u_ws RX12 TX12 19, w ∈ wsX12_valley := fun w h => (List.mem_cons_of_mem _ (List.mem_append_right _ h))
set_option maxHeartbeats 4000000 in
set_option maxRecDepth 100000 in
theorem c_X12_valley (l : Launch) (Γ : Gam) (n : Nat) (G : Nat → va_E) (mo : Nat) (R K kp rf ca rc hd fw tl by0 an vl iv : Nat → Nat) (hM : isM Γ G mo R K kp rf ca rc hd fw tl by0 an vl iv) (hmo : mo + 13 ≤ n) (hI : vI R) (hj : winj Γ n)  : Met l yX12_valley wsX12_valley ({ frames := 1, cells := 0, slots := 0, locals := 21 }) (va_Pc [.ref (ad Γ (mo + 0))] (fun U => hw Γ n G U U.heap)) (wQi Γ n (fun z G2 => ((z = nI (R 0)) ∧ isM Γ G2 mo (zeroR R 128) K kp rf ca rc hd fw tl by0 an vl iv ∧ fr G G2 mo (mo + 13)))) 0 0 (wA Γ n) := by
  refine Met.ofW (cc := cX12_valley) (maxL := 2) (ret := (some .int)) (by decide) rfl ?_
  intro p e s m args below meth c s₁ B hml hv
  obtain ⟨rfl, hw⟩ := hv
  have hx := B.exec
  have hb := B.bytes
  have hr := B.returns
  have hts := atoms_spec (ws := wsX12_valley) B.pre
  have hown : s.vm.findClass RX12 = some m.cls := findClass_of_methodNamed B.named
  have hlocks := B.notSynchronized
  have hS : va_S (wA Γ n) s.heap s.heap [] := va_S.rf
  have hA : ∀ q, wA Γ n q → wA Γ n q := fun _ h => h
  have hl := lv_entry ([.ref (ad Γ (mo + 0))]) (n := 2) (Nat.le_of_ble_eq_true rfl)
  rw [lg_entry_eq]
  generalize (lg_sl ([.ref (ad Γ (mo + 0))]) ++ List.replicate (2 - (lg_sl ([.ref (ad Γ (mo + 0))])).length) Slot.unset).toArray = ls at hl ⊢
  have hl : lv_has ls 2 [(0, .ref (ad Γ (mo + 0)))] := hl
  have hfr := fr_rf G mo (mo + 13)
  have hB := hI.1
  have hB0 := hI.2.1
  have hB1 := hI.2.2.1
  have hB20 := hI.2.2.2.2.2.2.2.2.2
  have hBz2 := hI.2.2.2.1
  have hBz3 := hI.2.2.2.2.1
  have hBz4 := hI.2.2.2.2.2.1
  have hBz5 := hI.2.2.2.2.2.2.1
  have hby := hI.2.2.2.2.2.2.2.1
  have hto := hI.2.2.2.2.2.2.2.2.1
  refine lv_aload_n hx hb dX12_valley_0 rfl (lv_at hl 0 rfl) ?_
  refine nr_get (own := RX12) (C := RX12) (T := TX12) (N := 19) (v := .ref (ad Γ (mo + 1))) hx hb hts hi_X12_valley_X12 hown hw (by omega) (isM_0 hM) rfl 0 (by decide) wl_X12_valley_1 rfl rfl dX12_valley_1 ?_
  refine lv_iconst (v := nI 0) hx hb dX12_valley_4 (by decide) ?_
  refine nr_iald (x := (R 0)) hx hb hw (by omega) (isM_1 hM) rfl (by omega) (by decide) dX12_valley_5 ?_
  have hL1 := hB (0)
  refine lv_istore_n (lv' := [(1, .int (nI (R 0))), (0, .ref (ad Γ (mo + 0)))]) hx hb dX12_valley_6 rfl hl (by decide) rfl (fun ls hl => ?_)
  refine lv_aload_n hx hb dX12_valley_7 rfl (lv_at hl 1 rfl) ?_
  refine nr_get (own := RX12) (C := RX12) (T := TX12) (N := 19) (v := .ref (ad Γ (mo + 1))) hx hb hts hi_X12_valley_X12 hown hw (by omega) (isM_0 hM) rfl 0 (by decide) wl_X12_valley_1 rfl rfl dX12_valley_8 ?_
  refine nr_goV (nr_runS (As := [.ref (ad Γ (mo + 1))]) ⟨hx, hb, hml, hown, hts⟩ hw (c_X12_begin l Γ n G (mo + 1) 256 R (isM_1 hM) (by omega) (by omega) (by omega) (vI_a hI) hj (by omega)) (va_cwS 1 hts gX12_valley_X12_begin rfl rfl rfl (by decide +kernel) ⟨Nat.le_of_ble_eq_true rfl, Nat.le_of_ble_eq_true rfl⟩) rfl hl.1 rfl (Nat.le_of_ble_eq_true rfl) dX12_valley_11 ⟨Nat.zero_le _, Nat.zero_le _⟩) hw hA hS (fun G2 H locs hp hw hS => ?_)
  subst hp
  have hM := isM_s1 hM (zeroR R 128)
  have hfr := fr_up hfr (i := mo + 1) (by omega) (by omega) (na Γ 256 (zeroR R 128))
  generalize va_up G (mo + 1) (na Γ 256 (zeroR R 128)) = G3 at hw hM hfr
  refine lv_iload_n hx hb dX12_valley_14 rfl (lv_at hl 0 rfl) ?_
  exact nr_retI hx hb hr hlocks hw hS (⟨rfl, hM, hfr⟩) dX12_valley_15
theorem wl_X12_one_1 : Cond.fieldLink RX12 7 "BellForgivenModel" "all" "[I" ∈ wsX12_one := List.mem_of_getElem? (i := 1) rfl
theorem hi_X12_one_X12 : ∀ w ∈ u_ws RX12 TX12 19, w ∈ wsX12_one := fun w h => (List.mem_cons_of_mem _ (List.mem_append_right _ h))
set_option maxHeartbeats 4000000 in
set_option maxRecDepth 100000 in
theorem c_X12_one (l : Launch) (Γ : Gam) (n : Nat) (G : Nat → va_E) (mo : Nat) (R K kp rf ca rc hd fw tl by0 an vl iv : Nat → Nat) (hM : isM Γ G mo R K kp rf ca rc hd fw tl by0 an vl iv) (hmo : mo + 13 ≤ n) (hI : vI R) (hj : winj Γ n) (kind : Int32)  : Met l yX12_one wsX12_one ({ frames := 2, cells := 0, slots := 0, locals := 45 }) (va_Pc [.ref (ad Γ (mo + 0)), .int kind] (fun U => hw Γ n G U U.heap)) (wQi Γ n (fun z G2 => ((¬ vRng 0 5 kind) ∧ (z = -2) ∧ isM Γ G2 mo R K kp (bmp rf 0) ca rc hd fw tl by0 an vl iv ∧ fr G G2 mo (mo + 13)) ∨ ((vRng 0 5 kind) ∧ (R 0 = 6) ∧ (z = -4) ∧ isM Γ G2 mo R K kp (bmp rf 2) ca rc hd fw tl by0 an vl iv ∧ fr G G2 mo (mo + 13)) ∨ (∃ j : Nat, (j ≤ 5) ∧ (kind = nI j) ∧ (¬ R 0 = 6) ∧ (z = nI (R 0)) ∧ isM Γ G2 mo (oneR R j) K kp rf ca rc hd fw tl by0 an vl iv ∧ fr G G2 mo (mo + 13)))) 0 0 (wA Γ n) := by
  refine Met.ofW (cc := cX12_one) (maxL := 2) (ret := (some .int)) (by decide) rfl ?_
  intro p e s m args below meth c s₁ B hml hv
  obtain ⟨rfl, hw⟩ := hv
  have hx := B.exec
  have hb := B.bytes
  have hr := B.returns
  have hts := atoms_spec (ws := wsX12_one) B.pre
  have hown : s.vm.findClass RX12 = some m.cls := findClass_of_methodNamed B.named
  have hlocks := B.notSynchronized
  have hS : va_S (wA Γ n) s.heap s.heap [] := va_S.rf
  have hA : ∀ q, wA Γ n q → wA Γ n q := fun _ h => h
  have hl := lv_entry ([.ref (ad Γ (mo + 0)), .int kind]) (n := 2) (Nat.le_of_ble_eq_true rfl)
  rw [lg_entry_eq]
  generalize (lg_sl ([.ref (ad Γ (mo + 0)), .int kind]) ++ List.replicate (2 - (lg_sl ([.ref (ad Γ (mo + 0)), .int kind])).length) Slot.unset).toArray = ls at hl ⊢
  have hl : lv_has ls 2 [(0, .ref (ad Γ (mo + 0))), (1, .int kind)] := hl
  have hfr := fr_rf G mo (mo + 13)
  have hB := hI.1
  have hB0 := hI.2.1
  have hB1 := hI.2.2.1
  have hB20 := hI.2.2.2.2.2.2.2.2.2
  have hBz2 := hI.2.2.2.1
  have hBz3 := hI.2.2.2.2.1
  have hBz4 := hI.2.2.2.2.2.1
  have hBz5 := hI.2.2.2.2.2.2.1
  have hby := hI.2.2.2.2.2.2.2.1
  have hto := hI.2.2.2.2.2.2.2.2.1
  refine lv_iload_n hx hb dX12_one_0 rfl (lv_at hl 1 rfl) ?_
  refine nr_goB (P := ∃ j, 0 ≤ j ∧ j ≤ 5 ∧ kind = nI j) (nr_runS (As := [.int kind]) ⟨hx, hb, hml, hown, hts⟩ hw (c_X12_isKind l Γ n G kind) (va_cwS 1 hts gX12_one_X12_isKind rfl rfl rfl (by decide +kernel) ⟨Nat.le_of_ble_eq_true rfl, Nat.le_of_ble_eq_true rfl⟩) rfl hl.1 rfl (Nat.le_of_ble_eq_true rfl) dX12_one_1 ⟨Nat.zero_le _, Nat.zero_le _⟩) (fun b1 => ?_) (fun b1 => ?_)
  · obtain ⟨j, hja, hjb, rfl⟩ := b1
    refine nr_if_ne (tgt := 14) hx hb (by decide) dX12_one_4 (by decide) (fun c2 => ?_) (fun c2 => absurd c2 (by decide))
    refine lv_aload_n hx hb dX12_one_14 rfl (lv_at hl 0 rfl) ?_
    refine nr_get (own := RX12) (C := RX12) (T := TX12) (N := 19) (v := .ref (ad Γ (mo + 1))) hx hb hts hi_X12_one_X12 hown hw (by omega) (isM_0 hM) rfl 0 (by decide) wl_X12_one_1 rfl rfl dX12_one_15 ?_
    refine lv_iconst (v := nI 0) hx hb dX12_one_18 (by decide) ?_
    refine nr_iald (x := (R 0)) hx hb hw (by omega) (isM_1 hM) rfl (by omega) (by decide) dX12_one_19 ?_
    have hL3 := hB (0)
    refine lv_bipush (v := nI 6) hx hb dX12_one_20 (by decide) ?_
    refine nr_icmp_ne (tgt := 30) hx hb (by omega) (by decide) dX12_one_22 (by decide) (fun c4 => ?_) (fun c4 => ?_)
    · refine lv_aload_n hx hb dX12_one_30 rfl (lv_at hl 0 rfl) ?_
      refine nr_get (own := RX12) (C := RX12) (T := TX12) (N := 19) (v := .ref (ad Γ (mo + 1))) hx hb hts hi_X12_one_X12 hown hw (by omega) (isM_0 hM) rfl 0 (by decide) wl_X12_one_1 rfl rfl dX12_one_31 ?_
      refine lv_bipush (v := nI 22) hx hb dX12_one_34 (by decide) ?_
      refine lv_aload_n hx hb dX12_one_36 rfl (lv_at hl 0 rfl) ?_
      refine nr_get (own := RX12) (C := RX12) (T := TX12) (N := 19) (v := .ref (ad Γ (mo + 1))) hx hb hts hi_X12_one_X12 hown hw (by omega) (isM_0 hM) rfl 0 (by decide) wl_X12_one_1 rfl rfl dX12_one_37 ?_
      refine lv_iconst (v := nI 0) hx hb dX12_one_40 (by decide) ?_
      refine nr_iald (x := (R 0)) hx hb hw (by omega) (isM_1 hM) rfl (by omega) (by decide) dX12_one_41 ?_
      have hL5 := hB (0)
      refine nr_iadd hx hb dX12_one_42 ?_
      refine lv_iload_n hx hb dX12_one_43 rfl (lv_at hl 1 rfl) ?_
      refine nr_iast (k := 22 + (R 0)) (v := j) hx hb hw hj hA hS (by omega) (isM_1 hM) (by omega) (by decide) dX12_one_44 (fun H locs hw hS => ?_)
      have hM := isM_s1 hM (va_up R (22 + (R 0)) j)
      have hfr := fr_up hfr (i := mo + 1) (by omega) (by omega) (na Γ 256 (va_up R (22 + (R 0)) j))
      generalize va_up G (mo + 1) (na Γ 256 (va_up R (22 + (R 0)) j)) = G6 at hw hM hfr
      refine lv_aload_n hx hb dX12_one_45 rfl (lv_at hl 0 rfl) ?_
      refine nr_get (own := RX12) (C := RX12) (T := TX12) (N := 19) (v := .ref (ad Γ (mo + 1))) hx hb hts hi_X12_one_X12 hown hw (by omega) (isM_0 hM) rfl 0 (by decide) wl_X12_one_1 rfl rfl dX12_one_46 ?_
      refine lv_iconst (v := nI 0) hx hb dX12_one_49 (by decide) ?_
      refine lv_dup2_11 hx hb dX12_one_50 rfl rfl ?_
      refine nr_iald (x := (R 0)) hx hb hw (by omega) (isM_1 hM) (by first | rfl | (simp only [va_up, fourR, layR]; (repeat' split) <;> first | omega | simp_all)) (by omega) (by decide) dX12_one_51 ?_
      refine lv_iconst (v := nI 1) hx hb dX12_one_52 (by decide) ?_
      refine nr_iadd hx hb dX12_one_53 ?_
      refine nr_iast (k := 0) (v := R 0 + 1) hx hb hw hj hA hS (by omega) (isM_1 hM) (by omega) (by decide) dX12_one_54 (fun H locs hw hS => ?_)
      have hM := isM_s1 hM (va_up (va_up R (22 + (R 0)) j) 0 (R 0 + 1))
      have hfr := fr_up hfr (i := mo + 1) (by omega) (by omega) (na Γ 256 (va_up (va_up R (22 + (R 0)) j) 0 (R 0 + 1)))
      generalize va_up G6 (mo + 1) (na Γ 256 (va_up (va_up R (22 + (R 0)) j) 0 (R 0 + 1))) = G7 at hw hM hfr
      refine lv_aload_n hx hb dX12_one_55 rfl (lv_at hl 0 rfl) ?_
      refine nr_get (own := RX12) (C := RX12) (T := TX12) (N := 19) (v := .ref (ad Γ (mo + 1))) hx hb hts hi_X12_one_X12 hown hw (by omega) (isM_0 hM) rfl 0 (by decide) wl_X12_one_1 rfl rfl dX12_one_56 ?_
      refine lv_iconst (v := nI 5) hx hb dX12_one_59 (by decide) ?_
      refine lv_iconst (v := nI 0) hx hb dX12_one_60 (by decide) ?_
      refine nr_iast (k := 5) (v := 0) hx hb hw hj hA hS (by omega) (isM_1 hM) (by omega) (by decide) dX12_one_61 (fun H locs hw hS => ?_)
      have hM := isM_s1 hM (va_up (va_up (va_up R (22 + (R 0)) j) 0 (R 0 + 1)) 5 0)
      have hfr := fr_up hfr (i := mo + 1) (by omega) (by omega) (na Γ 256 (va_up (va_up (va_up R (22 + (R 0)) j) 0 (R 0 + 1)) 5 0))
      generalize va_up G7 (mo + 1) (na Γ 256 (va_up (va_up (va_up R (22 + (R 0)) j) 0 (R 0 + 1)) 5 0)) = G8 at hw hM hfr
      refine lv_aload_n hx hb dX12_one_62 rfl (lv_at hl 0 rfl) ?_
      refine nr_get (own := RX12) (C := RX12) (T := TX12) (N := 19) (v := .ref (ad Γ (mo + 1))) hx hb hts hi_X12_one_X12 hown hw (by omega) (isM_0 hM) rfl 0 (by decide) wl_X12_one_1 rfl rfl dX12_one_63 ?_
      refine lv_iconst (v := nI 0) hx hb dX12_one_66 (by decide) ?_
      refine nr_iald (x := (R 0 + 1)) hx hb hw (by omega) (isM_1 hM) (by first | rfl | (simp only [va_up, fourR, layR]; (repeat' split) <;> first | omega | simp_all)) (by omega) (by decide) dX12_one_67 ?_
      refine lv_iconst (v := nI 1) hx hb dX12_one_68 (by decide) ?_
      refine nr_isub hx hb (by omega) dX12_one_69 ?_
      exact nr_retI hx hb hr hlocks hw hS (Or.inr (Or.inr (⟨j, hjb, rfl, by assumption, rfl, hM, hfr⟩))) dX12_one_70
    · refine lv_aload_n hx hb dX12_one_25 rfl (lv_at hl 0 rfl) ?_
      refine nr_goI (nr_runV (As := []) (C := RX12) (T := TX12) (N := 19) ⟨hx, hb, hml, hown, hts⟩ hw (by omega) (isM_0 hM) rfl (c_X12_full l Γ n G mo R K kp rf ca rc hd fw tl by0 an vl iv hM (by omega) hI hj) (cwV 0 hts gX12_one_X12_full rfl rfl rfl (by decide +kernel) ⟨Nat.le_of_ble_eq_true rfl, Nat.le_of_ble_eq_true rfl⟩) rfl hl.1 rfl (Nat.le_of_ble_eq_true rfl) dX12_one_26 ⟨Nat.zero_le _, Nat.zero_le _⟩) hw hA hS (fun z9 G9 H locs hp hw hS => ?_)
      obtain ⟨ha9, hM, hfr9⟩ := hp
      have hfr := fr_tr hfr hfr9 (Nat.le_refl _) (Nat.le_refl _)
      subst ha9
      exact nr_retI hx hb hr hlocks hw hS (Or.inr (Or.inl ⟨⟨j, hja, hjb, rfl⟩, by assumption, rfl, hM, hfr⟩)) dX12_one_29
  · refine nr_if_ne (tgt := 14) hx hb (by decide) dX12_one_4 (by decide) (fun c10 => absurd c10 (by decide)) (fun c10 => ?_)
    refine lv_aload_n hx hb dX12_one_7 rfl (lv_at hl 0 rfl) ?_
    refine lv_bipush (v := (-2)) hx hb dX12_one_8 (by decide) ?_
    refine nr_goI (nr_runV (As := [.int (-2)]) (C := RX12) (T := TX12) (N := 19) ⟨hx, hb, hml, hown, hts⟩ hw (by omega) (isM_0 hM) rfl (c_X12_bad l Γ n G mo R K kp rf ca rc hd fw tl by0 an vl iv hM (by omega) hI hj (-2)) (cwV 1 hts gX12_one_X12_bad rfl rfl rfl (by decide +kernel) ⟨Nat.le_of_ble_eq_true rfl, Nat.le_of_ble_eq_true rfl⟩) rfl hl.1 rfl (Nat.le_of_ble_eq_true rfl) dX12_one_10 ⟨Nat.zero_le _, Nat.zero_le _⟩) hw hA hS (fun z11 G11 H locs hp hw hS => ?_)
    obtain ⟨ha11, hM, hfr11⟩ := hp
    have hfr := fr_tr hfr hfr11 (Nat.le_refl _) (Nat.le_refl _)
    subst ha11
    exact nr_retI hx hb hr hlocks hw hS (Or.inl ⟨by assumption, rfl, hM, hfr⟩) dX12_one_13
theorem wl_X12_layFour_1 : Cond.fieldLink RX12 7 "BellForgivenModel" "all" "[I" ∈ wsX12_layFour := List.mem_of_getElem? (i := 1) rfl
theorem hi_X12_layFour_X12 : ∀ w ∈ u_ws RX12 TX12 19, w ∈ wsX12_layFour := fun w h => (List.mem_cons_of_mem _ (List.mem_append_right _ h))
set_option maxHeartbeats 4000000 in
set_option maxRecDepth 100000 in
theorem c_X12_layFour (l : Launch) (Γ : Gam) (n : Nat) (G : Nat → va_E) (mo : Nat) (R K kp rf ca rc hd fw tl by0 an vl iv : Nat → Nat) (hM : isM Γ G mo R K kp rf ca rc hd fw tl by0 an vl iv) (hmo : mo + 13 ≤ n) (hI : vI R) (hj : winj Γ n) (at0 q1 q2 q3 q4 : Nat) (hat : at0 ≤ 200)  : Met l yX12_layFour wsX12_layFour ({ frames := 0, cells := 0, slots := 0, locals := 0 }) (va_Pc [.ref (ad Γ (mo + 0)), .int (nI at0), .int (nI q1), .int (nI q2), .int (nI q3), .int (nI q4)] (fun U => hw Γ n G U U.heap)) (wQv Γ n (fun G2 => isM Γ G2 mo (fourR R at0 q1 q2 q3 q4) K kp rf ca rc hd fw tl by0 an vl iv ∧ fr G G2 mo (mo + 13))) 0 0 (wA Γ n) := by
  refine Met.ofW (cc := cX12_layFour) (maxL := 6) (ret := none) (by decide) rfl ?_
  intro p e s m args below meth c s₁ B hml hv
  obtain ⟨rfl, hw⟩ := hv
  have hx := B.exec
  have hb := B.bytes
  have hr := B.returns
  have hts := atoms_spec (ws := wsX12_layFour) B.pre
  have hown : s.vm.findClass RX12 = some m.cls := findClass_of_methodNamed B.named
  have hlocks := B.notSynchronized
  have hS : va_S (wA Γ n) s.heap s.heap [] := va_S.rf
  have hA : ∀ q, wA Γ n q → wA Γ n q := fun _ h => h
  have hl := lv_entry ([.ref (ad Γ (mo + 0)), .int (nI at0), .int (nI q1), .int (nI q2), .int (nI q3), .int (nI q4)]) (n := 6) (Nat.le_of_ble_eq_true rfl)
  rw [lg_entry_eq]
  generalize (lg_sl ([.ref (ad Γ (mo + 0)), .int (nI at0), .int (nI q1), .int (nI q2), .int (nI q3), .int (nI q4)]) ++ List.replicate (6 - (lg_sl ([.ref (ad Γ (mo + 0)), .int (nI at0), .int (nI q1), .int (nI q2), .int (nI q3), .int (nI q4)])).length) Slot.unset).toArray = ls at hl ⊢
  have hl : lv_has ls 6 [(0, .ref (ad Γ (mo + 0))), (1, .int (nI at0)), (2, .int (nI q1)), (3, .int (nI q2)), (4, .int (nI q3)), (5, .int (nI q4))] := hl
  have hfr := fr_rf G mo (mo + 13)
  have hB := hI.1
  have hB0 := hI.2.1
  have hB1 := hI.2.2.1
  have hB20 := hI.2.2.2.2.2.2.2.2.2
  have hBz2 := hI.2.2.2.1
  have hBz3 := hI.2.2.2.2.1
  have hBz4 := hI.2.2.2.2.2.1
  have hBz5 := hI.2.2.2.2.2.2.1
  have hby := hI.2.2.2.2.2.2.2.1
  have hto := hI.2.2.2.2.2.2.2.2.1
  refine lv_aload_n hx hb dX12_layFour_0 rfl (lv_at hl 0 rfl) ?_
  refine nr_get (own := RX12) (C := RX12) (T := TX12) (N := 19) (v := .ref (ad Γ (mo + 1))) hx hb hts hi_X12_layFour_X12 hown hw (by omega) (isM_0 hM) rfl 0 (by decide) wl_X12_layFour_1 rfl rfl dX12_layFour_1 ?_
  refine lv_iload_n hx hb dX12_layFour_4 rfl (lv_at hl 1 rfl) ?_
  refine lv_iload_n hx hb dX12_layFour_5 rfl (lv_at hl 2 rfl) ?_
  refine nr_iast (k := at0) (v := q1) hx hb hw hj hA hS (by omega) (isM_1 hM) (by omega) (by decide) dX12_layFour_6 (fun H locs hw hS => ?_)
  have hM := isM_s1 hM (va_up R at0 q1)
  have hfr := fr_up hfr (i := mo + 1) (by omega) (by omega) (na Γ 256 (va_up R at0 q1))
  generalize va_up G (mo + 1) (na Γ 256 (va_up R at0 q1)) = G1 at hw hM hfr
  refine lv_aload_n hx hb dX12_layFour_7 rfl (lv_at hl 0 rfl) ?_
  refine nr_get (own := RX12) (C := RX12) (T := TX12) (N := 19) (v := .ref (ad Γ (mo + 1))) hx hb hts hi_X12_layFour_X12 hown hw (by omega) (isM_0 hM) rfl 0 (by decide) wl_X12_layFour_1 rfl rfl dX12_layFour_8 ?_
  refine lv_iload_n hx hb dX12_layFour_11 rfl (lv_at hl 1 rfl) ?_
  refine lv_iconst (v := nI 1) hx hb dX12_layFour_12 (by decide) ?_
  refine nr_iadd hx hb dX12_layFour_13 ?_
  refine lv_iload_n hx hb dX12_layFour_14 rfl (lv_at hl 3 rfl) ?_
  refine nr_iast (k := at0 + 1) (v := q2) hx hb hw hj hA hS (by omega) (isM_1 hM) (by omega) (by decide) dX12_layFour_15 (fun H locs hw hS => ?_)
  have hM := isM_s1 hM (va_up (va_up R at0 q1) (at0 + 1) q2)
  have hfr := fr_up hfr (i := mo + 1) (by omega) (by omega) (na Γ 256 (va_up (va_up R at0 q1) (at0 + 1) q2))
  generalize va_up G1 (mo + 1) (na Γ 256 (va_up (va_up R at0 q1) (at0 + 1) q2)) = G2 at hw hM hfr
  refine lv_aload_n hx hb dX12_layFour_16 rfl (lv_at hl 0 rfl) ?_
  refine nr_get (own := RX12) (C := RX12) (T := TX12) (N := 19) (v := .ref (ad Γ (mo + 1))) hx hb hts hi_X12_layFour_X12 hown hw (by omega) (isM_0 hM) rfl 0 (by decide) wl_X12_layFour_1 rfl rfl dX12_layFour_17 ?_
  refine lv_iload_n hx hb dX12_layFour_20 rfl (lv_at hl 1 rfl) ?_
  refine lv_iconst (v := nI 2) hx hb dX12_layFour_21 (by decide) ?_
  refine nr_iadd hx hb dX12_layFour_22 ?_
  refine lv_iload hx hb dX12_layFour_23 (lv_at hl 4 rfl) ?_
  refine nr_iast (k := at0 + 2) (v := q3) hx hb hw hj hA hS (by omega) (isM_1 hM) (by omega) (by decide) dX12_layFour_25 (fun H locs hw hS => ?_)
  have hM := isM_s1 hM (va_up (va_up (va_up R at0 q1) (at0 + 1) q2) (at0 + 2) q3)
  have hfr := fr_up hfr (i := mo + 1) (by omega) (by omega) (na Γ 256 (va_up (va_up (va_up R at0 q1) (at0 + 1) q2) (at0 + 2) q3))
  generalize va_up G2 (mo + 1) (na Γ 256 (va_up (va_up (va_up R at0 q1) (at0 + 1) q2) (at0 + 2) q3)) = G3 at hw hM hfr
  refine lv_aload_n hx hb dX12_layFour_26 rfl (lv_at hl 0 rfl) ?_
  refine nr_get (own := RX12) (C := RX12) (T := TX12) (N := 19) (v := .ref (ad Γ (mo + 1))) hx hb hts hi_X12_layFour_X12 hown hw (by omega) (isM_0 hM) rfl 0 (by decide) wl_X12_layFour_1 rfl rfl dX12_layFour_27 ?_
  refine lv_iload_n hx hb dX12_layFour_30 rfl (lv_at hl 1 rfl) ?_
  refine lv_iconst (v := nI 3) hx hb dX12_layFour_31 (by decide) ?_
  refine nr_iadd hx hb dX12_layFour_32 ?_
  refine lv_iload hx hb dX12_layFour_33 (lv_at hl 5 rfl) ?_
  refine nr_iast (k := at0 + 3) (v := q4) hx hb hw hj hA hS (by omega) (isM_1 hM) (by omega) (by decide) dX12_layFour_35 (fun H locs hw hS => ?_)
  have hM := isM_s1 hM (va_up (va_up (va_up (va_up R at0 q1) (at0 + 1) q2) (at0 + 2) q3) (at0 + 3) q4)
  have hfr := fr_up hfr (i := mo + 1) (by omega) (by omega) (na Γ 256 (va_up (va_up (va_up (va_up R at0 q1) (at0 + 1) q2) (at0 + 2) q3) (at0 + 3) q4))
  generalize va_up G3 (mo + 1) (na Γ 256 (va_up (va_up (va_up (va_up R at0 q1) (at0 + 1) q2) (at0 + 2) q3) (at0 + 3) q4)) = G4 at hw hM hfr
  exact nr_retV hx hb hr hlocks hw hS (⟨hM, hfr⟩) dX12_layFour_36
theorem wl_X12_wrong_1 : Cond.fieldLink RX12 7 "BellForgivenModel" "all" "[I" ∈ wsX12_wrong := List.mem_of_getElem? (i := 1) rfl
theorem hi_X12_wrong_X12 : ∀ w ∈ u_ws RX12 TX12 19, w ∈ wsX12_wrong := fun w h => (List.mem_cons_of_mem _ (List.mem_append_right _ h))
set_option maxHeartbeats 4000000 in
set_option maxRecDepth 100000 in
theorem c_X12_wrong (l : Launch) (Γ : Gam) (n : Nat) (G : Nat → va_E) (mo : Nat) (R K kp rf ca rc hd fw tl by0 an vl iv : Nat → Nat) (hM : isM Γ G mo R K kp rf ca rc hd fw tl by0 an vl iv) (hmo : mo + 13 ≤ n) (hI : vI R) (hj : winj Γ n) (kind a b gr : Int32)  : Met l yX12_wrong wsX12_wrong ({ frames := 2, cells := 0, slots := 0, locals := 46 }) (va_Pc [.ref (ad Γ (mo + 0)), .int kind, .int a, .int b, .int gr] (fun U => hw Γ n G U U.heap)) (wQi Γ n (fun z G2 => ((¬ (vRng 0 5 kind ∧ vBel (R 0) a ∧ vBel (R 0) b ∧ ¬ a = b ∧ vRng 1 9 gr)) ∧ (z = -2) ∧ isM Γ G2 mo R K kp (bmp rf 0) ca rc hd fw tl by0 an vl iv ∧ fr G G2 mo (mo + 13)) ∨ ((vRng 0 5 kind ∧ vBel (R 0) a ∧ vBel (R 0) b ∧ ¬ a = b ∧ vRng 1 9 gr) ∧ (R 1 = 8) ∧ (z = -4) ∧ isM Γ G2 mo R K kp (bmp rf 2) ca rc hd fw tl by0 an vl iv ∧ fr G G2 mo (mo + 13)) ∨ (∃ j ja jb jg : Nat, (j ≤ 5) ∧ (kind = nI j) ∧ (ja < R 0) ∧ (a = nI ja) ∧ (jb < R 0) ∧ (b = nI jb) ∧ (¬ ja = jb) ∧ (1 ≤ jg) ∧ (jg ≤ 9) ∧ (gr = nI jg) ∧ (¬ R 1 = 8) ∧ (z = nI (R 1)) ∧ isM Γ G2 mo (wrongR R j ja jb jg) K kp rf ca rc hd fw tl by0 an vl iv ∧ fr G G2 mo (mo + 13)))) 0 0 (wA Γ n) := by
  refine Met.ofW (cc := cX12_wrong) (maxL := 5) (ret := (some .int)) (by decide) rfl ?_
  intro p e s m args below meth c s₁ B hml hv
  obtain ⟨rfl, hw⟩ := hv
  have hx := B.exec
  have hb := B.bytes
  have hr := B.returns
  have hts := atoms_spec (ws := wsX12_wrong) B.pre
  have hown : s.vm.findClass RX12 = some m.cls := findClass_of_methodNamed B.named
  have hlocks := B.notSynchronized
  have hS : va_S (wA Γ n) s.heap s.heap [] := va_S.rf
  have hA : ∀ q, wA Γ n q → wA Γ n q := fun _ h => h
  have hl := lv_entry ([.ref (ad Γ (mo + 0)), .int kind, .int a, .int b, .int gr]) (n := 5) (Nat.le_of_ble_eq_true rfl)
  rw [lg_entry_eq]
  generalize (lg_sl ([.ref (ad Γ (mo + 0)), .int kind, .int a, .int b, .int gr]) ++ List.replicate (5 - (lg_sl ([.ref (ad Γ (mo + 0)), .int kind, .int a, .int b, .int gr])).length) Slot.unset).toArray = ls at hl ⊢
  have hl : lv_has ls 5 [(0, .ref (ad Γ (mo + 0))), (1, .int kind), (2, .int a), (3, .int b), (4, .int gr)] := hl
  have hfr := fr_rf G mo (mo + 13)
  have hB := hI.1
  have hB0 := hI.2.1
  have hB1 := hI.2.2.1
  have hB20 := hI.2.2.2.2.2.2.2.2.2
  have hBz2 := hI.2.2.2.1
  have hBz3 := hI.2.2.2.2.1
  have hBz4 := hI.2.2.2.2.2.1
  have hBz5 := hI.2.2.2.2.2.2.1
  have hby := hI.2.2.2.2.2.2.2.1
  have hto := hI.2.2.2.2.2.2.2.2.1
  refine lv_iload_n hx hb dX12_wrong_0 rfl (lv_at hl 1 rfl) ?_
  refine nr_goB (P := ∃ j, 0 ≤ j ∧ j ≤ 5 ∧ kind = nI j) (nr_runS (As := [.int kind]) ⟨hx, hb, hml, hown, hts⟩ hw (c_X12_isKind l Γ n G kind) (va_cwS 1 hts gX12_wrong_X12_isKind rfl rfl rfl (by decide +kernel) ⟨Nat.le_of_ble_eq_true rfl, Nat.le_of_ble_eq_true rfl⟩) rfl hl.1 rfl (Nat.le_of_ble_eq_true rfl) dX12_wrong_1 ⟨Nat.zero_le _, Nat.zero_le _⟩) (fun b1 => ?_) (fun b1 => ?_)
  · obtain ⟨j, hja, hjb, rfl⟩ := b1
    refine nr_if_eq (tgt := 36) hx hb (by decide) dX12_wrong_4 (by decide) (fun c2 => absurd c2 (by decide)) (fun c2 => ?_)
    refine lv_aload_n hx hb dX12_wrong_7 rfl (lv_at hl 0 rfl) ?_
    refine lv_iload_n hx hb dX12_wrong_8 rfl (lv_at hl 2 rfl) ?_
    refine nr_goB (P := ∃ j, j < R 0 ∧ a = nI j) (nr_runV (As := [.int a]) (C := RX12) (T := TX12) (N := 19) ⟨hx, hb, hml, hown, hts⟩ hw (by omega) (isM_0 hM) rfl (c_X12_isOne l Γ n G mo R K kp rf ca rc hd fw tl by0 an vl iv hM (by omega) hI a) (cwV 1 hts gX12_wrong_X12_isOne rfl rfl rfl (by decide +kernel) ⟨Nat.le_of_ble_eq_true rfl, Nat.le_of_ble_eq_true rfl⟩) rfl hl.1 rfl (Nat.le_of_ble_eq_true rfl) dX12_wrong_9 ⟨Nat.zero_le _, Nat.zero_le _⟩) (fun b3 => ?_) (fun b3 => ?_)
    · obtain ⟨ja, hja_, rfl⟩ := b3
      refine nr_if_eq (tgt := 36) hx hb (by decide) dX12_wrong_12 (by decide) (fun c4 => absurd c4 (by decide)) (fun c4 => ?_)
      refine lv_aload_n hx hb dX12_wrong_15 rfl (lv_at hl 0 rfl) ?_
      refine lv_iload_n hx hb dX12_wrong_16 rfl (lv_at hl 3 rfl) ?_
      refine nr_goB (P := ∃ j, j < R 0 ∧ b = nI j) (nr_runV (As := [.int b]) (C := RX12) (T := TX12) (N := 19) ⟨hx, hb, hml, hown, hts⟩ hw (by omega) (isM_0 hM) rfl (c_X12_isOne l Γ n G mo R K kp rf ca rc hd fw tl by0 an vl iv hM (by omega) hI b) (cwV 1 hts gX12_wrong_X12_isOne rfl rfl rfl (by decide +kernel) ⟨Nat.le_of_ble_eq_true rfl, Nat.le_of_ble_eq_true rfl⟩) rfl hl.1 rfl (Nat.le_of_ble_eq_true rfl) dX12_wrong_17 ⟨Nat.zero_le _, Nat.zero_le _⟩) (fun b5 => ?_) (fun b5 => ?_)
      · obtain ⟨jb, hjb_, rfl⟩ := b5
        refine nr_if_eq (tgt := 36) hx hb (by decide) dX12_wrong_20 (by decide) (fun c6 => absurd c6 (by decide)) (fun c6 => ?_)
        refine lv_iload_n hx hb dX12_wrong_23 rfl (lv_at hl 2 rfl) ?_
        refine lv_iload_n hx hb dX12_wrong_24 rfl (lv_at hl 3 rfl) ?_
        refine nr_icmp_eq (tgt := 36) hx hb (by omega) (by omega) dX12_wrong_25 (by decide) (fun c7 => ?_) (fun c7 => ?_)
        · refine lv_aload_n hx hb dX12_wrong_36 rfl (lv_at hl 0 rfl) ?_
          refine lv_bipush (v := (-2)) hx hb dX12_wrong_37 (by decide) ?_
          refine nr_goI (nr_runV (As := [.int (-2)]) (C := RX12) (T := TX12) (N := 19) ⟨hx, hb, hml, hown, hts⟩ hw (by omega) (isM_0 hM) rfl (c_X12_bad l Γ n G mo R K kp rf ca rc hd fw tl by0 an vl iv hM (by omega) hI hj (-2)) (cwV 1 hts gX12_wrong_X12_bad rfl rfl rfl (by decide +kernel) ⟨Nat.le_of_ble_eq_true rfl, Nat.le_of_ble_eq_true rfl⟩) rfl hl.1 rfl (Nat.le_of_ble_eq_true rfl) dX12_wrong_39 ⟨Nat.zero_le _, Nat.zero_le _⟩) hw hA hS (fun z8 G8 H locs hp hw hS => ?_)
          obtain ⟨ha8, hM, hfr8⟩ := hp
          have hfr := fr_tr hfr hfr8 (Nat.le_refl _) (Nat.le_refl _)
          subst ha8
          exact nr_retI hx hb hr hlocks hw hS (Or.inl ⟨by intro hh; first | contradiction | (obtain ⟨hq1, hq2⟩ := hh; first | contradiction | (obtain ⟨hq2, hq3⟩ := hq2; first | contradiction | (obtain ⟨hq3, hq4⟩ := hq3; first | contradiction | (obtain ⟨hq4, hq5⟩ := hq4; first | contradiction | (exact hq4 (congrArg nI (by assumption))))))), rfl, hM, hfr⟩) dX12_wrong_42
        · refine lv_iload hx hb dX12_wrong_28 (lv_at hl 4 rfl) ?_
          refine nr_goB (P := ∃ j, 1 ≤ j ∧ j ≤ 9 ∧ gr = nI j) (nr_runS (As := [.int gr]) ⟨hx, hb, hml, hown, hts⟩ hw (c_X12_isGravity l Γ n G gr) (va_cwS 1 hts gX12_wrong_X12_isGravity rfl rfl rfl (by decide +kernel) ⟨Nat.le_of_ble_eq_true rfl, Nat.le_of_ble_eq_true rfl⟩) rfl hl.1 rfl (Nat.le_of_ble_eq_true rfl) dX12_wrong_30 ⟨Nat.zero_le _, Nat.zero_le _⟩) (fun b9 => ?_) (fun b9 => ?_)
          · obtain ⟨jg, hjga, hjgb, rfl⟩ := b9
            refine nr_if_ne (tgt := 43) hx hb (by decide) dX12_wrong_33 (by decide) (fun c10 => ?_) (fun c10 => absurd c10 (by decide))
            refine lv_aload_n hx hb dX12_wrong_43 rfl (lv_at hl 0 rfl) ?_
            refine nr_goS (nr_runV (As := []) (C := RX12) (T := TX12) (N := 19) ⟨hx, hb, hml, hown, hts⟩ hw (by omega) (isM_0 hM) rfl (c_X12_many l Γ n G mo R K kp rf ca rc hd fw tl by0 an vl iv hM (by omega) hI) (cwV 0 hts gX12_wrong_X12_many rfl rfl rfl (by decide +kernel) ⟨Nat.le_of_ble_eq_true rfl, Nat.le_of_ble_eq_true rfl⟩) rfl hl.1 rfl (Nat.le_of_ble_eq_true rfl) dX12_wrong_44 ⟨Nat.zero_le _, Nat.zero_le _⟩) (fun r11 hr11 => ?_)
            obtain rfl : r11 = (nI (R 1)) := hr11
            refine lv_bipush (v := nI 8) hx hb dX12_wrong_47 (by decide) ?_
            refine nr_icmp_ne (tgt := 57) hx hb (by omega) (by decide) dX12_wrong_49 (by decide) (fun c12 => ?_) (fun c12 => ?_)
            · refine lv_aload_n hx hb dX12_wrong_57 rfl (lv_at hl 0 rfl) ?_
              refine nr_get (own := RX12) (C := RX12) (T := TX12) (N := 19) (v := .ref (ad Γ (mo + 1))) hx hb hts hi_X12_wrong_X12 hown hw (by omega) (isM_0 hM) rfl 0 (by decide) wl_X12_wrong_1 rfl rfl dX12_wrong_58 ?_
              refine lv_iload_n hx hb dX12_wrong_61 rfl (lv_at hl 1 rfl) ?_
              refine lv_iload_n hx hb dX12_wrong_62 rfl (lv_at hl 2 rfl) ?_
              refine lv_iload_n hx hb dX12_wrong_63 rfl (lv_at hl 3 rfl) ?_
              refine lv_iload hx hb dX12_wrong_64 (lv_at hl 4 rfl) ?_
              refine nr_goV (nr_runS (As := [.ref (ad Γ (mo + 1)), .int (nI j), .int (nI ja), .int (nI jb), .int (nI jg)]) ⟨hx, hb, hml, hown, hts⟩ hw (c_X12_layWrong l Γ n G (mo + 1) 256 R (isM_1 hM) (by omega) (by omega) (by omega) (vI_a hI) hj j ja jb jg (by omega)) (va_cwS 5 hts gX12_wrong_X12_layWrong rfl rfl rfl (by decide +kernel) ⟨Nat.le_of_ble_eq_true rfl, Nat.le_of_ble_eq_true rfl⟩) rfl hl.1 rfl (Nat.le_of_ble_eq_true rfl) dX12_wrong_66 ⟨Nat.zero_le _, Nat.zero_le _⟩) hw hA hS (fun G13 H locs hp hw hS => ?_)
              subst hp
              have hM := isM_s1 hM (layR R j ja jb jg)
              have hfr := fr_up hfr (i := mo + 1) (by omega) (by omega) (na Γ 256 (layR R j ja jb jg))
              generalize va_up G (mo + 1) (na Γ 256 (layR R j ja jb jg)) = G14 at hw hM hfr
              refine lv_aload_n hx hb dX12_wrong_69 rfl (lv_at hl 0 rfl) ?_
              refine nr_get (own := RX12) (C := RX12) (T := TX12) (N := 19) (v := .ref (ad Γ (mo + 1))) hx hb hts hi_X12_wrong_X12 hown hw (by omega) (isM_0 hM) rfl 0 (by decide) wl_X12_wrong_1 rfl rfl dX12_wrong_70 ?_
              refine lv_iconst (v := nI 5) hx hb dX12_wrong_73 (by decide) ?_
              refine lv_iconst (v := nI 0) hx hb dX12_wrong_74 (by decide) ?_
              refine nr_iast (k := 5) (v := 0) hx hb hw hj hA hS (by omega) (isM_1 hM) (by omega) (by decide) dX12_wrong_75 (fun H locs hw hS => ?_)
              have hM := isM_s1 hM (va_up (layR R j ja jb jg) 5 0)
              have hfr := fr_up hfr (i := mo + 1) (by omega) (by omega) (na Γ 256 (va_up (layR R j ja jb jg) 5 0))
              generalize va_up G14 (mo + 1) (na Γ 256 (va_up (layR R j ja jb jg) 5 0)) = G15 at hw hM hfr
              refine lv_aload_n hx hb dX12_wrong_76 rfl (lv_at hl 0 rfl) ?_
              refine nr_goS (nr_runV (As := []) (C := RX12) (T := TX12) (N := 19) ⟨hx, hb, hml, hown, hts⟩ hw (by omega) (isM_0 hM) rfl (c_X12_many l Γ n G15 mo (va_up (layR R j ja jb jg) 5 0) K kp rf ca rc hd fw tl by0 an vl iv hM (by omega) (vI_wrong hI hjb hja_ hjb_ hjgb (by omega))) (cwV 0 hts gX12_wrong_X12_many rfl rfl rfl (by decide +kernel) ⟨Nat.le_of_ble_eq_true rfl, Nat.le_of_ble_eq_true rfl⟩) rfl hl.1 rfl (Nat.le_of_ble_eq_true rfl) dX12_wrong_77 ⟨Nat.zero_le _, Nat.zero_le _⟩) (fun r16 hr16 => ?_)
              obtain rfl : r16 = (nI ((va_up (layR R j ja jb jg) 5 0) 1)) := hr16
              have h15 : va_up (layR R j ja jb jg) 5 0 1 = R 1 + 1 := by rw [va_up_ne _ _ (by decide), layR_1]
              refine lv_iconst (v := nI 1) hx hb dX12_wrong_80 (by decide) ?_
              refine nr_isub hx hb (by omega) dX12_wrong_81 ?_
              exact nr_retI hx hb hr hlocks hw hS (Or.inr (Or.inr (⟨j, ja, jb, jg, hjb, rfl, hja_, rfl, hjb_, rfl, by assumption, hjga, hjgb, rfl, by assumption, congrArg nI (by omega), hM, hfr⟩))) dX12_wrong_82
            · refine lv_aload_n hx hb dX12_wrong_52 rfl (lv_at hl 0 rfl) ?_
              refine nr_goI (nr_runV (As := []) (C := RX12) (T := TX12) (N := 19) ⟨hx, hb, hml, hown, hts⟩ hw (by omega) (isM_0 hM) rfl (c_X12_full l Γ n G mo R K kp rf ca rc hd fw tl by0 an vl iv hM (by omega) hI hj) (cwV 0 hts gX12_wrong_X12_full rfl rfl rfl (by decide +kernel) ⟨Nat.le_of_ble_eq_true rfl, Nat.le_of_ble_eq_true rfl⟩) rfl hl.1 rfl (Nat.le_of_ble_eq_true rfl) dX12_wrong_53 ⟨Nat.zero_le _, Nat.zero_le _⟩) hw hA hS (fun z17 G17 H locs hp hw hS => ?_)
              obtain ⟨ha17, hM, hfr17⟩ := hp
              have hfr := fr_tr hfr hfr17 (Nat.le_refl _) (Nat.le_refl _)
              subst ha17
              exact nr_retI hx hb hr hlocks hw hS (Or.inr (Or.inl ⟨⟨⟨j, hja, hjb, rfl⟩, ⟨ja, hja_, rfl⟩, ⟨jb, hjb_, rfl⟩, fun hh => absurd ((nI_eq (by omega) (by omega)).mp hh) (by assumption), ⟨jg, hjga, hjgb, rfl⟩⟩, by assumption, rfl, hM, hfr⟩)) dX12_wrong_56
          · refine nr_if_ne (tgt := 43) hx hb (by decide) dX12_wrong_33 (by decide) (fun c18 => absurd c18 (by decide)) (fun c18 => ?_)
            refine lv_aload_n hx hb dX12_wrong_36 rfl (lv_at hl 0 rfl) ?_
            refine lv_bipush (v := (-2)) hx hb dX12_wrong_37 (by decide) ?_
            refine nr_goI (nr_runV (As := [.int (-2)]) (C := RX12) (T := TX12) (N := 19) ⟨hx, hb, hml, hown, hts⟩ hw (by omega) (isM_0 hM) rfl (c_X12_bad l Γ n G mo R K kp rf ca rc hd fw tl by0 an vl iv hM (by omega) hI hj (-2)) (cwV 1 hts gX12_wrong_X12_bad rfl rfl rfl (by decide +kernel) ⟨Nat.le_of_ble_eq_true rfl, Nat.le_of_ble_eq_true rfl⟩) rfl hl.1 rfl (Nat.le_of_ble_eq_true rfl) dX12_wrong_39 ⟨Nat.zero_le _, Nat.zero_le _⟩) hw hA hS (fun z19 G19 H locs hp hw hS => ?_)
            obtain ⟨ha19, hM, hfr19⟩ := hp
            have hfr := fr_tr hfr hfr19 (Nat.le_refl _) (Nat.le_refl _)
            subst ha19
            exact nr_retI hx hb hr hlocks hw hS (Or.inl ⟨by intro hh; first | contradiction | (obtain ⟨hq1, hq2⟩ := hh; first | contradiction | (obtain ⟨hq2, hq3⟩ := hq2; first | contradiction | (obtain ⟨hq3, hq4⟩ := hq3; first | contradiction | (obtain ⟨hq4, hq5⟩ := hq4; first | contradiction | (exact hq4 (congrArg nI (by assumption))))))), rfl, hM, hfr⟩) dX12_wrong_42
      · refine nr_if_eq (tgt := 36) hx hb (by decide) dX12_wrong_20 (by decide) (fun c20 => ?_) (fun c20 => absurd c20 (by decide))
        refine lv_aload_n hx hb dX12_wrong_36 rfl (lv_at hl 0 rfl) ?_
        refine lv_bipush (v := (-2)) hx hb dX12_wrong_37 (by decide) ?_
        refine nr_goI (nr_runV (As := [.int (-2)]) (C := RX12) (T := TX12) (N := 19) ⟨hx, hb, hml, hown, hts⟩ hw (by omega) (isM_0 hM) rfl (c_X12_bad l Γ n G mo R K kp rf ca rc hd fw tl by0 an vl iv hM (by omega) hI hj (-2)) (cwV 1 hts gX12_wrong_X12_bad rfl rfl rfl (by decide +kernel) ⟨Nat.le_of_ble_eq_true rfl, Nat.le_of_ble_eq_true rfl⟩) rfl hl.1 rfl (Nat.le_of_ble_eq_true rfl) dX12_wrong_39 ⟨Nat.zero_le _, Nat.zero_le _⟩) hw hA hS (fun z21 G21 H locs hp hw hS => ?_)
        obtain ⟨ha21, hM, hfr21⟩ := hp
        have hfr := fr_tr hfr hfr21 (Nat.le_refl _) (Nat.le_refl _)
        subst ha21
        exact nr_retI hx hb hr hlocks hw hS (Or.inl ⟨by intro hh; first | contradiction | (obtain ⟨hq1, hq2⟩ := hh; first | contradiction | (obtain ⟨hq2, hq3⟩ := hq2; first | contradiction | (obtain ⟨hq3, hq4⟩ := hq3; first | contradiction | (obtain ⟨hq4, hq5⟩ := hq4; first | contradiction | (exact hq4 (congrArg nI (by assumption))))))), rfl, hM, hfr⟩) dX12_wrong_42
    · refine nr_if_eq (tgt := 36) hx hb (by decide) dX12_wrong_12 (by decide) (fun c22 => ?_) (fun c22 => absurd c22 (by decide))
      refine lv_aload_n hx hb dX12_wrong_36 rfl (lv_at hl 0 rfl) ?_
      refine lv_bipush (v := (-2)) hx hb dX12_wrong_37 (by decide) ?_
      refine nr_goI (nr_runV (As := [.int (-2)]) (C := RX12) (T := TX12) (N := 19) ⟨hx, hb, hml, hown, hts⟩ hw (by omega) (isM_0 hM) rfl (c_X12_bad l Γ n G mo R K kp rf ca rc hd fw tl by0 an vl iv hM (by omega) hI hj (-2)) (cwV 1 hts gX12_wrong_X12_bad rfl rfl rfl (by decide +kernel) ⟨Nat.le_of_ble_eq_true rfl, Nat.le_of_ble_eq_true rfl⟩) rfl hl.1 rfl (Nat.le_of_ble_eq_true rfl) dX12_wrong_39 ⟨Nat.zero_le _, Nat.zero_le _⟩) hw hA hS (fun z23 G23 H locs hp hw hS => ?_)
      obtain ⟨ha23, hM, hfr23⟩ := hp
      have hfr := fr_tr hfr hfr23 (Nat.le_refl _) (Nat.le_refl _)
      subst ha23
      exact nr_retI hx hb hr hlocks hw hS (Or.inl ⟨by intro hh; first | contradiction | (obtain ⟨hq1, hq2⟩ := hh; first | contradiction | (obtain ⟨hq2, hq3⟩ := hq2; first | contradiction | (obtain ⟨hq3, hq4⟩ := hq3; first | contradiction | (obtain ⟨hq4, hq5⟩ := hq4; first | contradiction | (exact hq4 (congrArg nI (by assumption))))))), rfl, hM, hfr⟩) dX12_wrong_42
  · refine nr_if_eq (tgt := 36) hx hb (by decide) dX12_wrong_4 (by decide) (fun c24 => ?_) (fun c24 => absurd c24 (by decide))
    refine lv_aload_n hx hb dX12_wrong_36 rfl (lv_at hl 0 rfl) ?_
    refine lv_bipush (v := (-2)) hx hb dX12_wrong_37 (by decide) ?_
    refine nr_goI (nr_runV (As := [.int (-2)]) (C := RX12) (T := TX12) (N := 19) ⟨hx, hb, hml, hown, hts⟩ hw (by omega) (isM_0 hM) rfl (c_X12_bad l Γ n G mo R K kp rf ca rc hd fw tl by0 an vl iv hM (by omega) hI hj (-2)) (cwV 1 hts gX12_wrong_X12_bad rfl rfl rfl (by decide +kernel) ⟨Nat.le_of_ble_eq_true rfl, Nat.le_of_ble_eq_true rfl⟩) rfl hl.1 rfl (Nat.le_of_ble_eq_true rfl) dX12_wrong_39 ⟨Nat.zero_le _, Nat.zero_le _⟩) hw hA hS (fun z25 G25 H locs hp hw hS => ?_)
    obtain ⟨ha25, hM, hfr25⟩ := hp
    have hfr := fr_tr hfr hfr25 (Nat.le_refl _) (Nat.le_refl _)
    subst ha25
    exact nr_retI hx hb hr hlocks hw hS (Or.inl ⟨by intro hh; first | contradiction | (obtain ⟨hq1, hq2⟩ := hh; first | contradiction | (obtain ⟨hq2, hq3⟩ := hq2; first | contradiction | (obtain ⟨hq3, hq4⟩ := hq3; first | contradiction | (obtain ⟨hq4, hq5⟩ := hq4; first | contradiction | (exact hq4 (congrArg nI (by assumption))))))), rfl, hM, hfr⟩) dX12_wrong_42
theorem wl_X12_seen_1 : Cond.constantLong RX12 166 (99) ∈ wsX12_seen := List.mem_of_getElem? (i := 1) rfl
theorem wl_X12_seen_2 : Cond.constantLong RX12 168 (40) ∈ wsX12_seen := List.mem_of_getElem? (i := 2) rfl
theorem wl_X12_seen_3 : Cond.fieldLink RX12 7 "BellForgivenModel" "all" "[I" ∈ wsX12_seen := List.mem_of_getElem? (i := 3) rfl
theorem hi_X12_seen_X12 : ∀ w ∈ u_ws RX12 TX12 19, w ∈ wsX12_seen := fun w h => (List.mem_cons_of_mem _ (List.mem_append_right _ h))
set_option maxHeartbeats 4000000 in
set_option maxRecDepth 100000 in
theorem c_X12_seen (l : Launch) (Γ : Gam) (n : Nat) (G : Nat → va_E) (mo : Nat) (R K kp rf ca rc hd fw tl by0 an vl iv : Nat → Nat) (hM : isM Γ G mo R K kp rf ca rc hd fw tl by0 an vl iv) (hmo : mo + 13 ≤ n) (hI : vI R) (hj : winj Γ n) (k d lm off : Int32)  : Met l yX12_seen wsX12_seen ({ frames := 2, cells := 0, slots := 0, locals := 46 }) (va_Pc [.ref (ad Γ (mo + 0)), .int k, .int d, .int lm, .int off] (fun U => hw Γ n G U U.heap)) (wQi Γ n (fun z G2 => ((¬ (vBel (R 1) k ∧ vRng 0 99 d ∧ vRng 0 40 lm ∧ vRng 0 1 off)) ∧ (z = -2) ∧ isM Γ G2 mo R K kp (bmp rf 0) ca rc hd fw tl by0 an vl iv ∧ fr G G2 mo (mo + 13)) ∨ ((vBel (R 1) k ∧ vRng 0 99 d ∧ vRng 0 40 lm ∧ vRng 0 1 off) ∧ (R 2 = 5) ∧ (z = -4) ∧ isM Γ G2 mo R K kp (bmp rf 2) ca rc hd fw tl by0 an vl iv ∧ fr G G2 mo (mo + 13)) ∨ (∃ jk jd jlm joff : Nat, (jk < R 1) ∧ (k = nI jk) ∧ (0 ≤ jd) ∧ (jd ≤ 99) ∧ (d = nI jd) ∧ (0 ≤ jlm) ∧ (jlm ≤ 40) ∧ (lm = nI jlm) ∧ (0 ≤ joff) ∧ (joff ≤ 1) ∧ (off = nI joff) ∧ (¬ R 2 = 5) ∧ (z = nI (R 2 + 1)) ∧ isM Γ G2 mo (addR R 2 60 jk jd jlm joff) K kp rf ca rc hd fw tl by0 an vl iv ∧ fr G G2 mo (mo + 13)))) 0 0 (wA Γ n) := by
  refine Met.ofW (cc := cX12_seen) (maxL := 5) (ret := (some .int)) (by decide) rfl ?_
  intro p e s m args below meth c s₁ B hml hv
  obtain ⟨rfl, hw⟩ := hv
  have hx := B.exec
  have hb := B.bytes
  have hr := B.returns
  have hts := atoms_spec (ws := wsX12_seen) B.pre
  have hown : s.vm.findClass RX12 = some m.cls := findClass_of_methodNamed B.named
  have hlocks := B.notSynchronized
  have hS : va_S (wA Γ n) s.heap s.heap [] := va_S.rf
  have hA : ∀ q, wA Γ n q → wA Γ n q := fun _ h => h
  have hl := lv_entry ([.ref (ad Γ (mo + 0)), .int k, .int d, .int lm, .int off]) (n := 5) (Nat.le_of_ble_eq_true rfl)
  rw [lg_entry_eq]
  generalize (lg_sl ([.ref (ad Γ (mo + 0)), .int k, .int d, .int lm, .int off]) ++ List.replicate (5 - (lg_sl ([.ref (ad Γ (mo + 0)), .int k, .int d, .int lm, .int off])).length) Slot.unset).toArray = ls at hl ⊢
  have hl : lv_has ls 5 [(0, .ref (ad Γ (mo + 0))), (1, .int k), (2, .int d), (3, .int lm), (4, .int off)] := hl
  have hfr := fr_rf G mo (mo + 13)
  have hB := hI.1
  have hB0 := hI.2.1
  have hB1 := hI.2.2.1
  have hB20 := hI.2.2.2.2.2.2.2.2.2
  have hBz2 := hI.2.2.2.1
  have hBz3 := hI.2.2.2.2.1
  have hBz4 := hI.2.2.2.2.2.1
  have hBz5 := hI.2.2.2.2.2.2.1
  have hby := hI.2.2.2.2.2.2.2.1
  have hto := hI.2.2.2.2.2.2.2.2.1
  refine lv_aload_n hx hb dX12_seen_0 rfl (lv_at hl 0 rfl) ?_
  refine lv_iload_n hx hb dX12_seen_1 rfl (lv_at hl 1 rfl) ?_
  refine nr_goB (P := ∃ j, j < R 1 ∧ k = nI j) (nr_runV (As := [.int k]) (C := RX12) (T := TX12) (N := 19) ⟨hx, hb, hml, hown, hts⟩ hw (by omega) (isM_0 hM) rfl (c_X12_isWrong l Γ n G mo R K kp rf ca rc hd fw tl by0 an vl iv hM (by omega) hI k) (cwV 1 hts gX12_seen_X12_isWrong rfl rfl rfl (by decide +kernel) ⟨Nat.le_of_ble_eq_true rfl, Nat.le_of_ble_eq_true rfl⟩) rfl hl.1 rfl (Nat.le_of_ble_eq_true rfl) dX12_seen_2 ⟨Nat.zero_le _, Nat.zero_le _⟩) (fun b1 => ?_) (fun b1 => ?_)
  · obtain ⟨jk, hjk, rfl⟩ := b1
    refine nr_if_eq (tgt := 43) hx hb (by decide) dX12_seen_5 (by decide) (fun c2 => absurd c2 (by decide)) (fun c2 => ?_)
    refine lv_iload_n hx hb dX12_seen_8 rfl (lv_at hl 2 rfl) ?_
    refine lv_i2l (v := (d).toInt64) hx hb dX12_seen_9 rfl ?_
    refine lv_lconst (v := lN 0) hx hb dX12_seen_10 rfl ?_
    refine nr_ldc2 (k := 99) hx hb hown (hts _ wl_X12_seen_1) (by decide) dX12_seen_11 ?_
    refine nr_goB (P := (lN 0) ≤ ((d).toInt64) ∧ ((d).toInt64) ≤ (lN 99)) (nr_runS (As := [.long ((d).toInt64), .long (lN 0), .long (lN 99)]) ⟨hx, hb, hml, hown, hts⟩ hw (c_X12_in l Γ n G ((d).toInt64) (lN 0) (lN 99)) (va_cwS 3 hts gX12_seen_X12_in rfl rfl rfl (by decide +kernel) ⟨Nat.le_of_ble_eq_true rfl, Nat.le_of_ble_eq_true rfl⟩) rfl hl.1 rfl (Nat.le_of_ble_eq_true rfl) dX12_seen_14 ⟨Nat.zero_le _, Nat.zero_le _⟩) (fun b3 => ?_) (fun b3 => ?_)
    · obtain ⟨jd, hjda, hjdb, rfl⟩ := (in_c (a := 0) (b := 99) (by decide) (by decide)).mp b3
      refine nr_if_eq (tgt := 43) hx hb (by decide) dX12_seen_17 (by decide) (fun c4 => absurd c4 (by decide)) (fun c4 => ?_)
      refine lv_iload_n hx hb dX12_seen_20 rfl (lv_at hl 3 rfl) ?_
      refine lv_i2l (v := (lm).toInt64) hx hb dX12_seen_21 rfl ?_
      refine lv_lconst (v := lN 0) hx hb dX12_seen_22 rfl ?_
      refine nr_ldc2 (k := 40) hx hb hown (hts _ wl_X12_seen_2) (by decide) dX12_seen_23 ?_
      refine nr_goB (P := (lN 0) ≤ ((lm).toInt64) ∧ ((lm).toInt64) ≤ (lN 40)) (nr_runS (As := [.long ((lm).toInt64), .long (lN 0), .long (lN 40)]) ⟨hx, hb, hml, hown, hts⟩ hw (c_X12_in l Γ n G ((lm).toInt64) (lN 0) (lN 40)) (va_cwS 3 hts gX12_seen_X12_in rfl rfl rfl (by decide +kernel) ⟨Nat.le_of_ble_eq_true rfl, Nat.le_of_ble_eq_true rfl⟩) rfl hl.1 rfl (Nat.le_of_ble_eq_true rfl) dX12_seen_26 ⟨Nat.zero_le _, Nat.zero_le _⟩) (fun b5 => ?_) (fun b5 => ?_)
      · obtain ⟨jlm, hjlma, hjlmb, rfl⟩ := (in_c (a := 0) (b := 40) (by decide) (by decide)).mp b5
        refine nr_if_eq (tgt := 43) hx hb (by decide) dX12_seen_29 (by decide) (fun c6 => absurd c6 (by decide)) (fun c6 => ?_)
        refine lv_iload hx hb dX12_seen_32 (lv_at hl 4 rfl) ?_
        refine lv_i2l (v := (off).toInt64) hx hb dX12_seen_34 rfl ?_
        refine lv_lconst (v := lN 0) hx hb dX12_seen_35 rfl ?_
        refine lv_lconst (v := lN 1) hx hb dX12_seen_36 rfl ?_
        refine nr_goB (P := (lN 0) ≤ ((off).toInt64) ∧ ((off).toInt64) ≤ (lN 1)) (nr_runS (As := [.long ((off).toInt64), .long (lN 0), .long (lN 1)]) ⟨hx, hb, hml, hown, hts⟩ hw (c_X12_in l Γ n G ((off).toInt64) (lN 0) (lN 1)) (va_cwS 3 hts gX12_seen_X12_in rfl rfl rfl (by decide +kernel) ⟨Nat.le_of_ble_eq_true rfl, Nat.le_of_ble_eq_true rfl⟩) rfl hl.1 rfl (Nat.le_of_ble_eq_true rfl) dX12_seen_37 ⟨Nat.zero_le _, Nat.zero_le _⟩) (fun b7 => ?_) (fun b7 => ?_)
        · obtain ⟨joff, hjoffa, hjoffb, rfl⟩ := (in_c (a := 0) (b := 1) (by decide) (by decide)).mp b7
          refine nr_if_ne (tgt := 50) hx hb (by decide) dX12_seen_40 (by decide) (fun c8 => ?_) (fun c8 => absurd c8 (by decide))
          refine lv_aload_n hx hb dX12_seen_50 rfl (lv_at hl 0 rfl) ?_
          refine nr_get (own := RX12) (C := RX12) (T := TX12) (N := 19) (v := .ref (ad Γ (mo + 1))) hx hb hts hi_X12_seen_X12 hown hw (by omega) (isM_0 hM) rfl 0 (by decide) wl_X12_seen_3 rfl rfl dX12_seen_51 ?_
          refine lv_iconst (v := nI 2) hx hb dX12_seen_54 (by decide) ?_
          refine nr_iald (x := (R 2)) hx hb hw (by omega) (isM_1 hM) rfl (by omega) (by decide) dX12_seen_55 ?_
          have hL9 := hB (2)
          refine lv_iconst (v := nI 5) hx hb dX12_seen_56 (by decide) ?_
          refine nr_icmp_ne (tgt := 65) hx hb (by omega) (by decide) dX12_seen_57 (by decide) (fun c10 => ?_) (fun c10 => ?_)
          · refine lv_aload_n hx hb dX12_seen_65 rfl (lv_at hl 0 rfl) ?_
            refine lv_bipush (v := nI 60) hx hb dX12_seen_66 (by decide) ?_
            refine lv_iconst (v := nI 4) hx hb dX12_seen_68 (by decide) ?_
            refine lv_aload_n hx hb dX12_seen_69 rfl (lv_at hl 0 rfl) ?_
            refine nr_get (own := RX12) (C := RX12) (T := TX12) (N := 19) (v := .ref (ad Γ (mo + 1))) hx hb hts hi_X12_seen_X12 hown hw (by omega) (isM_0 hM) rfl 0 (by decide) wl_X12_seen_3 rfl rfl dX12_seen_70 ?_
            refine lv_iconst (v := nI 2) hx hb dX12_seen_73 (by decide) ?_
            refine nr_iald (x := (R 2)) hx hb hw (by omega) (isM_1 hM) rfl (by omega) (by decide) dX12_seen_74 ?_
            have hL11 := hB (2)
            refine nr_imul hx hb dX12_seen_75 ?_
            refine nr_iadd hx hb dX12_seen_76 ?_
            refine lv_iload_n hx hb dX12_seen_77 rfl (lv_at hl 1 rfl) ?_
            refine lv_iload_n hx hb dX12_seen_78 rfl (lv_at hl 2 rfl) ?_
            refine lv_iload_n hx hb dX12_seen_79 rfl (lv_at hl 3 rfl) ?_
            refine lv_iload hx hb dX12_seen_80 (lv_at hl 4 rfl) ?_
            refine nr_goV (nr_runV (As := [.int (nI (60 + (4 * (R 2)))), .int (nI jk), .int (nI jd), .int (nI jlm), .int (nI joff)]) (C := RX12) (T := TX12) (N := 19) ⟨hx, hb, hml, hown, hts⟩ hw (by omega) (isM_0 hM) rfl (c_X12_layFour l Γ n G mo R K kp rf ca rc hd fw tl by0 an vl iv hM (by omega) hI hj (60 + (4 * (R 2))) jk jd jlm joff (by omega)) (cwV 5 hts gX12_seen_X12_layFour rfl rfl rfl (by decide +kernel) ⟨Nat.le_of_ble_eq_true rfl, Nat.le_of_ble_eq_true rfl⟩) rfl hl.1 rfl (Nat.le_of_ble_eq_true rfl) dX12_seen_82 ⟨Nat.zero_le _, Nat.zero_le _⟩) hw hA hS (fun G12 H locs hp hw hS => ?_)
            obtain ⟨hM, hfr12⟩ := hp
            have hfr := fr_tr hfr hfr12 (Nat.le_refl _) (Nat.le_refl _)
            refine lv_aload_n hx hb dX12_seen_85 rfl (lv_at hl 0 rfl) ?_
            refine nr_get (own := RX12) (C := RX12) (T := TX12) (N := 19) (v := .ref (ad Γ (mo + 1))) hx hb hts hi_X12_seen_X12 hown hw (by omega) (isM_0 hM) rfl 0 (by decide) wl_X12_seen_3 rfl rfl dX12_seen_86 ?_
            refine lv_iconst (v := nI 2) hx hb dX12_seen_89 (by decide) ?_
            refine lv_dup2_11 hx hb dX12_seen_90 rfl rfl ?_
            refine nr_iald (x := (R 2)) hx hb hw (by omega) (isM_1 hM) (by first | rfl | (simp only [va_up, fourR, layR]; (repeat' split) <;> first | omega | simp_all)) (by omega) (by decide) dX12_seen_91 ?_
            refine lv_iconst (v := nI 1) hx hb dX12_seen_92 (by decide) ?_
            refine nr_iadd hx hb dX12_seen_93 ?_
            refine nr_iast (k := 2) (v := R 2 + 1) hx hb hw hj hA hS (by omega) (isM_1 hM) (by omega) (by decide) dX12_seen_94 (fun H locs hw hS => ?_)
            have hM := isM_s1 hM (va_up (fourR R (60 + (4 * (R 2))) jk jd jlm joff) 2 (R 2 + 1))
            have hfr := fr_up hfr (i := mo + 1) (by omega) (by omega) (na Γ 256 (va_up (fourR R (60 + (4 * (R 2))) jk jd jlm joff) 2 (R 2 + 1)))
            generalize va_up G12 (mo + 1) (na Γ 256 (va_up (fourR R (60 + (4 * (R 2))) jk jd jlm joff) 2 (R 2 + 1))) = G13 at hw hM hfr
            refine lv_aload_n hx hb dX12_seen_95 rfl (lv_at hl 0 rfl) ?_
            refine nr_get (own := RX12) (C := RX12) (T := TX12) (N := 19) (v := .ref (ad Γ (mo + 1))) hx hb hts hi_X12_seen_X12 hown hw (by omega) (isM_0 hM) rfl 0 (by decide) wl_X12_seen_3 rfl rfl dX12_seen_96 ?_
            refine lv_iconst (v := nI 2) hx hb dX12_seen_99 (by decide) ?_
            refine nr_iald (x := (R 2 + 1)) hx hb hw (by omega) (isM_1 hM) (by first | rfl | (simp only [va_up, fourR, layR]; (repeat' split) <;> first | omega | simp_all)) (by omega) (by decide) dX12_seen_100 ?_
            exact nr_retI hx hb hr hlocks hw hS (Or.inr (Or.inr (⟨jk, jd, jlm, joff, hjk, rfl, hjda, hjdb, rfl, hjlma, hjlmb, rfl, hjoffa, hjoffb, rfl, by assumption, rfl, hM, hfr⟩))) dX12_seen_101
          · refine lv_aload_n hx hb dX12_seen_60 rfl (lv_at hl 0 rfl) ?_
            refine nr_goI (nr_runV (As := []) (C := RX12) (T := TX12) (N := 19) ⟨hx, hb, hml, hown, hts⟩ hw (by omega) (isM_0 hM) rfl (c_X12_full l Γ n G mo R K kp rf ca rc hd fw tl by0 an vl iv hM (by omega) hI hj) (cwV 0 hts gX12_seen_X12_full rfl rfl rfl (by decide +kernel) ⟨Nat.le_of_ble_eq_true rfl, Nat.le_of_ble_eq_true rfl⟩) rfl hl.1 rfl (Nat.le_of_ble_eq_true rfl) dX12_seen_61 ⟨Nat.zero_le _, Nat.zero_le _⟩) hw hA hS (fun z14 G14 H locs hp hw hS => ?_)
            obtain ⟨ha14, hM, hfr14⟩ := hp
            have hfr := fr_tr hfr hfr14 (Nat.le_refl _) (Nat.le_refl _)
            subst ha14
            exact nr_retI hx hb hr hlocks hw hS (Or.inr (Or.inl ⟨⟨⟨jk, hjk, rfl⟩, ⟨jd, hjda, hjdb, rfl⟩, ⟨jlm, hjlma, hjlmb, rfl⟩, ⟨joff, hjoffa, hjoffb, rfl⟩⟩, by assumption, rfl, hM, hfr⟩)) dX12_seen_64
        · have b7n : ¬ vRng 0 1 off := fun hh => b7 ((in_c (by decide) (by decide)).mpr hh)
          refine nr_if_ne (tgt := 50) hx hb (by decide) dX12_seen_40 (by decide) (fun c15 => absurd c15 (by decide)) (fun c15 => ?_)
          refine lv_aload_n hx hb dX12_seen_43 rfl (lv_at hl 0 rfl) ?_
          refine lv_bipush (v := (-2)) hx hb dX12_seen_44 (by decide) ?_
          refine nr_goI (nr_runV (As := [.int (-2)]) (C := RX12) (T := TX12) (N := 19) ⟨hx, hb, hml, hown, hts⟩ hw (by omega) (isM_0 hM) rfl (c_X12_bad l Γ n G mo R K kp rf ca rc hd fw tl by0 an vl iv hM (by omega) hI hj (-2)) (cwV 1 hts gX12_seen_X12_bad rfl rfl rfl (by decide +kernel) ⟨Nat.le_of_ble_eq_true rfl, Nat.le_of_ble_eq_true rfl⟩) rfl hl.1 rfl (Nat.le_of_ble_eq_true rfl) dX12_seen_46 ⟨Nat.zero_le _, Nat.zero_le _⟩) hw hA hS (fun z16 G16 H locs hp hw hS => ?_)
          obtain ⟨ha16, hM, hfr16⟩ := hp
          have hfr := fr_tr hfr hfr16 (Nat.le_refl _) (Nat.le_refl _)
          subst ha16
          exact nr_retI hx hb hr hlocks hw hS (Or.inl ⟨by intro hh; first | contradiction | (obtain ⟨hq1, hq2⟩ := hh; first | contradiction | (obtain ⟨hq2, hq3⟩ := hq2; first | contradiction | (obtain ⟨hq3, hq4⟩ := hq3; first | contradiction | (obtain ⟨hq4, hq5⟩ := hq4; first | contradiction | (exact hq4 (congrArg nI (by assumption))))))), rfl, hM, hfr⟩) dX12_seen_49
      · have b5n : ¬ vRng 0 40 lm := fun hh => b5 ((in_c (by decide) (by decide)).mpr hh)
        refine nr_if_eq (tgt := 43) hx hb (by decide) dX12_seen_29 (by decide) (fun c17 => ?_) (fun c17 => absurd c17 (by decide))
        refine lv_aload_n hx hb dX12_seen_43 rfl (lv_at hl 0 rfl) ?_
        refine lv_bipush (v := (-2)) hx hb dX12_seen_44 (by decide) ?_
        refine nr_goI (nr_runV (As := [.int (-2)]) (C := RX12) (T := TX12) (N := 19) ⟨hx, hb, hml, hown, hts⟩ hw (by omega) (isM_0 hM) rfl (c_X12_bad l Γ n G mo R K kp rf ca rc hd fw tl by0 an vl iv hM (by omega) hI hj (-2)) (cwV 1 hts gX12_seen_X12_bad rfl rfl rfl (by decide +kernel) ⟨Nat.le_of_ble_eq_true rfl, Nat.le_of_ble_eq_true rfl⟩) rfl hl.1 rfl (Nat.le_of_ble_eq_true rfl) dX12_seen_46 ⟨Nat.zero_le _, Nat.zero_le _⟩) hw hA hS (fun z18 G18 H locs hp hw hS => ?_)
        obtain ⟨ha18, hM, hfr18⟩ := hp
        have hfr := fr_tr hfr hfr18 (Nat.le_refl _) (Nat.le_refl _)
        subst ha18
        exact nr_retI hx hb hr hlocks hw hS (Or.inl ⟨by intro hh; first | contradiction | (obtain ⟨hq1, hq2⟩ := hh; first | contradiction | (obtain ⟨hq2, hq3⟩ := hq2; first | contradiction | (obtain ⟨hq3, hq4⟩ := hq3; first | contradiction | (obtain ⟨hq4, hq5⟩ := hq4; first | contradiction | (exact hq4 (congrArg nI (by assumption))))))), rfl, hM, hfr⟩) dX12_seen_49
    · have b3n : ¬ vRng 0 99 d := fun hh => b3 ((in_c (by decide) (by decide)).mpr hh)
      refine nr_if_eq (tgt := 43) hx hb (by decide) dX12_seen_17 (by decide) (fun c19 => ?_) (fun c19 => absurd c19 (by decide))
      refine lv_aload_n hx hb dX12_seen_43 rfl (lv_at hl 0 rfl) ?_
      refine lv_bipush (v := (-2)) hx hb dX12_seen_44 (by decide) ?_
      refine nr_goI (nr_runV (As := [.int (-2)]) (C := RX12) (T := TX12) (N := 19) ⟨hx, hb, hml, hown, hts⟩ hw (by omega) (isM_0 hM) rfl (c_X12_bad l Γ n G mo R K kp rf ca rc hd fw tl by0 an vl iv hM (by omega) hI hj (-2)) (cwV 1 hts gX12_seen_X12_bad rfl rfl rfl (by decide +kernel) ⟨Nat.le_of_ble_eq_true rfl, Nat.le_of_ble_eq_true rfl⟩) rfl hl.1 rfl (Nat.le_of_ble_eq_true rfl) dX12_seen_46 ⟨Nat.zero_le _, Nat.zero_le _⟩) hw hA hS (fun z20 G20 H locs hp hw hS => ?_)
      obtain ⟨ha20, hM, hfr20⟩ := hp
      have hfr := fr_tr hfr hfr20 (Nat.le_refl _) (Nat.le_refl _)
      subst ha20
      exact nr_retI hx hb hr hlocks hw hS (Or.inl ⟨by intro hh; first | contradiction | (obtain ⟨hq1, hq2⟩ := hh; first | contradiction | (obtain ⟨hq2, hq3⟩ := hq2; first | contradiction | (obtain ⟨hq3, hq4⟩ := hq3; first | contradiction | (obtain ⟨hq4, hq5⟩ := hq4; first | contradiction | (exact hq4 (congrArg nI (by assumption))))))), rfl, hM, hfr⟩) dX12_seen_49
  · refine nr_if_eq (tgt := 43) hx hb (by decide) dX12_seen_5 (by decide) (fun c21 => ?_) (fun c21 => absurd c21 (by decide))
    refine lv_aload_n hx hb dX12_seen_43 rfl (lv_at hl 0 rfl) ?_
    refine lv_bipush (v := (-2)) hx hb dX12_seen_44 (by decide) ?_
    refine nr_goI (nr_runV (As := [.int (-2)]) (C := RX12) (T := TX12) (N := 19) ⟨hx, hb, hml, hown, hts⟩ hw (by omega) (isM_0 hM) rfl (c_X12_bad l Γ n G mo R K kp rf ca rc hd fw tl by0 an vl iv hM (by omega) hI hj (-2)) (cwV 1 hts gX12_seen_X12_bad rfl rfl rfl (by decide +kernel) ⟨Nat.le_of_ble_eq_true rfl, Nat.le_of_ble_eq_true rfl⟩) rfl hl.1 rfl (Nat.le_of_ble_eq_true rfl) dX12_seen_46 ⟨Nat.zero_le _, Nat.zero_le _⟩) hw hA hS (fun z22 G22 H locs hp hw hS => ?_)
    obtain ⟨ha22, hM, hfr22⟩ := hp
    have hfr := fr_tr hfr hfr22 (Nat.le_refl _) (Nat.le_refl _)
    subst ha22
    exact nr_retI hx hb hr hlocks hw hS (Or.inl ⟨by intro hh; first | contradiction | (obtain ⟨hq1, hq2⟩ := hh; first | contradiction | (obtain ⟨hq2, hq3⟩ := hq2; first | contradiction | (obtain ⟨hq3, hq4⟩ := hq3; first | contradiction | (obtain ⟨hq4, hq5⟩ := hq4; first | contradiction | (exact hq4 (congrArg nI (by assumption))))))), rfl, hM, hfr⟩) dX12_seen_49
theorem wl_X12_note_1 : Cond.constantLong RX12 166 (99) ∈ wsX12_note := List.mem_of_getElem? (i := 1) rfl
theorem wl_X12_note_2 : Cond.constantLong RX12 168 (40) ∈ wsX12_note := List.mem_of_getElem? (i := 2) rfl
theorem wl_X12_note_3 : Cond.fieldLink RX12 7 "BellForgivenModel" "all" "[I" ∈ wsX12_note := List.mem_of_getElem? (i := 3) rfl
theorem hi_X12_note_X12 : ∀ w ∈ u_ws RX12 TX12 19, w ∈ wsX12_note := fun w h => (List.mem_cons_of_mem _ (List.mem_append_right _ h))
set_option maxHeartbeats 4000000 in
set_option maxRecDepth 100000 in
theorem c_X12_note (l : Launch) (Γ : Gam) (n : Nat) (G : Nat → va_E) (mo : Nat) (R K kp rf ca rc hd fw tl by0 an vl iv : Nat → Nat) (hM : isM Γ G mo R K kp rf ca rc hd fw tl by0 an vl iv) (hmo : mo + 13 ≤ n) (hI : vI R) (hj : winj Γ n) (k g d x : Int32)  : Met l yX12_note wsX12_note ({ frames := 2, cells := 0, slots := 0, locals := 46 }) (va_Pc [.ref (ad Γ (mo + 0)), .int k, .int g, .int d, .int x] (fun U => hw Γ n G U U.heap)) (wQi Γ n (fun z G2 => ((¬ (vBel (R 1) k ∧ vRng 1 9 g ∧ vRng 0 99 d ∧ vRng 0 40 x)) ∧ (z = -2) ∧ isM Γ G2 mo R K kp (bmp rf 0) ca rc hd fw tl by0 an vl iv ∧ fr G G2 mo (mo + 13)) ∨ ((vBel (R 1) k ∧ vRng 1 9 g ∧ vRng 0 99 d ∧ vRng 0 40 x) ∧ (R 3 = 6) ∧ (z = -4) ∧ isM Γ G2 mo R K kp (bmp rf 2) ca rc hd fw tl by0 an vl iv ∧ fr G G2 mo (mo + 13)) ∨ (∃ jk jg jd jx : Nat, (jk < R 1) ∧ (k = nI jk) ∧ (1 ≤ jg) ∧ (jg ≤ 9) ∧ (g = nI jg) ∧ (0 ≤ jd) ∧ (jd ≤ 99) ∧ (d = nI jd) ∧ (0 ≤ jx) ∧ (jx ≤ 40) ∧ (x = nI jx) ∧ (¬ R 3 = 6) ∧ (z = nI (R 3 + 1)) ∧ isM Γ G2 mo (addR R 3 80 jk jg jd jx) K kp rf ca rc hd fw tl by0 an vl iv ∧ fr G G2 mo (mo + 13)))) 0 0 (wA Γ n) := by
  refine Met.ofW (cc := cX12_note) (maxL := 5) (ret := (some .int)) (by decide) rfl ?_
  intro p e s m args below meth c s₁ B hml hv
  obtain ⟨rfl, hw⟩ := hv
  have hx := B.exec
  have hb := B.bytes
  have hr := B.returns
  have hts := atoms_spec (ws := wsX12_note) B.pre
  have hown : s.vm.findClass RX12 = some m.cls := findClass_of_methodNamed B.named
  have hlocks := B.notSynchronized
  have hS : va_S (wA Γ n) s.heap s.heap [] := va_S.rf
  have hA : ∀ q, wA Γ n q → wA Γ n q := fun _ h => h
  have hl := lv_entry ([.ref (ad Γ (mo + 0)), .int k, .int g, .int d, .int x]) (n := 5) (Nat.le_of_ble_eq_true rfl)
  rw [lg_entry_eq]
  generalize (lg_sl ([.ref (ad Γ (mo + 0)), .int k, .int g, .int d, .int x]) ++ List.replicate (5 - (lg_sl ([.ref (ad Γ (mo + 0)), .int k, .int g, .int d, .int x])).length) Slot.unset).toArray = ls at hl ⊢
  have hl : lv_has ls 5 [(0, .ref (ad Γ (mo + 0))), (1, .int k), (2, .int g), (3, .int d), (4, .int x)] := hl
  have hfr := fr_rf G mo (mo + 13)
  have hB := hI.1
  have hB0 := hI.2.1
  have hB1 := hI.2.2.1
  have hB20 := hI.2.2.2.2.2.2.2.2.2
  have hBz2 := hI.2.2.2.1
  have hBz3 := hI.2.2.2.2.1
  have hBz4 := hI.2.2.2.2.2.1
  have hBz5 := hI.2.2.2.2.2.2.1
  have hby := hI.2.2.2.2.2.2.2.1
  have hto := hI.2.2.2.2.2.2.2.2.1
  refine lv_aload_n hx hb dX12_note_0 rfl (lv_at hl 0 rfl) ?_
  refine lv_iload_n hx hb dX12_note_1 rfl (lv_at hl 1 rfl) ?_
  refine nr_goB (P := ∃ j, j < R 1 ∧ k = nI j) (nr_runV (As := [.int k]) (C := RX12) (T := TX12) (N := 19) ⟨hx, hb, hml, hown, hts⟩ hw (by omega) (isM_0 hM) rfl (c_X12_isWrong l Γ n G mo R K kp rf ca rc hd fw tl by0 an vl iv hM (by omega) hI k) (cwV 1 hts gX12_note_X12_isWrong rfl rfl rfl (by decide +kernel) ⟨Nat.le_of_ble_eq_true rfl, Nat.le_of_ble_eq_true rfl⟩) rfl hl.1 rfl (Nat.le_of_ble_eq_true rfl) dX12_note_2 ⟨Nat.zero_le _, Nat.zero_le _⟩) (fun b1 => ?_) (fun b1 => ?_)
  · obtain ⟨jk, hjk, rfl⟩ := b1
    refine nr_if_eq (tgt := 40) hx hb (by decide) dX12_note_5 (by decide) (fun c2 => absurd c2 (by decide)) (fun c2 => ?_)
    refine lv_iload_n hx hb dX12_note_8 rfl (lv_at hl 2 rfl) ?_
    refine nr_goB (P := ∃ j, 1 ≤ j ∧ j ≤ 9 ∧ g = nI j) (nr_runS (As := [.int g]) ⟨hx, hb, hml, hown, hts⟩ hw (c_X12_isGravity l Γ n G g) (va_cwS 1 hts gX12_note_X12_isGravity rfl rfl rfl (by decide +kernel) ⟨Nat.le_of_ble_eq_true rfl, Nat.le_of_ble_eq_true rfl⟩) rfl hl.1 rfl (Nat.le_of_ble_eq_true rfl) dX12_note_9 ⟨Nat.zero_le _, Nat.zero_le _⟩) (fun b3 => ?_) (fun b3 => ?_)
    · obtain ⟨jg, hjga, hjgb, rfl⟩ := b3
      refine nr_if_eq (tgt := 40) hx hb (by decide) dX12_note_12 (by decide) (fun c4 => absurd c4 (by decide)) (fun c4 => ?_)
      refine lv_iload_n hx hb dX12_note_15 rfl (lv_at hl 3 rfl) ?_
      refine lv_i2l (v := (d).toInt64) hx hb dX12_note_16 rfl ?_
      refine lv_lconst (v := lN 0) hx hb dX12_note_17 rfl ?_
      refine nr_ldc2 (k := 99) hx hb hown (hts _ wl_X12_note_1) (by decide) dX12_note_18 ?_
      refine nr_goB (P := (lN 0) ≤ ((d).toInt64) ∧ ((d).toInt64) ≤ (lN 99)) (nr_runS (As := [.long ((d).toInt64), .long (lN 0), .long (lN 99)]) ⟨hx, hb, hml, hown, hts⟩ hw (c_X12_in l Γ n G ((d).toInt64) (lN 0) (lN 99)) (va_cwS 3 hts gX12_note_X12_in rfl rfl rfl (by decide +kernel) ⟨Nat.le_of_ble_eq_true rfl, Nat.le_of_ble_eq_true rfl⟩) rfl hl.1 rfl (Nat.le_of_ble_eq_true rfl) dX12_note_21 ⟨Nat.zero_le _, Nat.zero_le _⟩) (fun b5 => ?_) (fun b5 => ?_)
      · obtain ⟨jd, hjda, hjdb, rfl⟩ := (in_c (a := 0) (b := 99) (by decide) (by decide)).mp b5
        refine nr_if_eq (tgt := 40) hx hb (by decide) dX12_note_24 (by decide) (fun c6 => absurd c6 (by decide)) (fun c6 => ?_)
        refine lv_iload hx hb dX12_note_27 (lv_at hl 4 rfl) ?_
        refine lv_i2l (v := (x).toInt64) hx hb dX12_note_29 rfl ?_
        refine lv_lconst (v := lN 0) hx hb dX12_note_30 rfl ?_
        refine nr_ldc2 (k := 40) hx hb hown (hts _ wl_X12_note_2) (by decide) dX12_note_31 ?_
        refine nr_goB (P := (lN 0) ≤ ((x).toInt64) ∧ ((x).toInt64) ≤ (lN 40)) (nr_runS (As := [.long ((x).toInt64), .long (lN 0), .long (lN 40)]) ⟨hx, hb, hml, hown, hts⟩ hw (c_X12_in l Γ n G ((x).toInt64) (lN 0) (lN 40)) (va_cwS 3 hts gX12_note_X12_in rfl rfl rfl (by decide +kernel) ⟨Nat.le_of_ble_eq_true rfl, Nat.le_of_ble_eq_true rfl⟩) rfl hl.1 rfl (Nat.le_of_ble_eq_true rfl) dX12_note_34 ⟨Nat.zero_le _, Nat.zero_le _⟩) (fun b7 => ?_) (fun b7 => ?_)
        · obtain ⟨jx, hjxa, hjxb, rfl⟩ := (in_c (a := 0) (b := 40) (by decide) (by decide)).mp b7
          refine nr_if_ne (tgt := 47) hx hb (by decide) dX12_note_37 (by decide) (fun c8 => ?_) (fun c8 => absurd c8 (by decide))
          refine lv_aload_n hx hb dX12_note_47 rfl (lv_at hl 0 rfl) ?_
          refine nr_get (own := RX12) (C := RX12) (T := TX12) (N := 19) (v := .ref (ad Γ (mo + 1))) hx hb hts hi_X12_note_X12 hown hw (by omega) (isM_0 hM) rfl 0 (by decide) wl_X12_note_3 rfl rfl dX12_note_48 ?_
          refine lv_iconst (v := nI 3) hx hb dX12_note_51 (by decide) ?_
          refine nr_iald (x := (R 3)) hx hb hw (by omega) (isM_1 hM) rfl (by omega) (by decide) dX12_note_52 ?_
          have hL9 := hB (3)
          refine lv_bipush (v := nI 6) hx hb dX12_note_53 (by decide) ?_
          refine nr_icmp_ne (tgt := 63) hx hb (by omega) (by decide) dX12_note_55 (by decide) (fun c10 => ?_) (fun c10 => ?_)
          · refine lv_aload_n hx hb dX12_note_63 rfl (lv_at hl 0 rfl) ?_
            refine lv_bipush (v := nI 80) hx hb dX12_note_64 (by decide) ?_
            refine lv_iconst (v := nI 4) hx hb dX12_note_66 (by decide) ?_
            refine lv_aload_n hx hb dX12_note_67 rfl (lv_at hl 0 rfl) ?_
            refine nr_get (own := RX12) (C := RX12) (T := TX12) (N := 19) (v := .ref (ad Γ (mo + 1))) hx hb hts hi_X12_note_X12 hown hw (by omega) (isM_0 hM) rfl 0 (by decide) wl_X12_note_3 rfl rfl dX12_note_68 ?_
            refine lv_iconst (v := nI 3) hx hb dX12_note_71 (by decide) ?_
            refine nr_iald (x := (R 3)) hx hb hw (by omega) (isM_1 hM) rfl (by omega) (by decide) dX12_note_72 ?_
            have hL11 := hB (3)
            refine nr_imul hx hb dX12_note_73 ?_
            refine nr_iadd hx hb dX12_note_74 ?_
            refine lv_iload_n hx hb dX12_note_75 rfl (lv_at hl 1 rfl) ?_
            refine lv_iload_n hx hb dX12_note_76 rfl (lv_at hl 2 rfl) ?_
            refine lv_iload_n hx hb dX12_note_77 rfl (lv_at hl 3 rfl) ?_
            refine lv_iload hx hb dX12_note_78 (lv_at hl 4 rfl) ?_
            refine nr_goV (nr_runV (As := [.int (nI (80 + (4 * (R 3)))), .int (nI jk), .int (nI jg), .int (nI jd), .int (nI jx)]) (C := RX12) (T := TX12) (N := 19) ⟨hx, hb, hml, hown, hts⟩ hw (by omega) (isM_0 hM) rfl (c_X12_layFour l Γ n G mo R K kp rf ca rc hd fw tl by0 an vl iv hM (by omega) hI hj (80 + (4 * (R 3))) jk jg jd jx (by omega)) (cwV 5 hts gX12_note_X12_layFour rfl rfl rfl (by decide +kernel) ⟨Nat.le_of_ble_eq_true rfl, Nat.le_of_ble_eq_true rfl⟩) rfl hl.1 rfl (Nat.le_of_ble_eq_true rfl) dX12_note_80 ⟨Nat.zero_le _, Nat.zero_le _⟩) hw hA hS (fun G12 H locs hp hw hS => ?_)
            obtain ⟨hM, hfr12⟩ := hp
            have hfr := fr_tr hfr hfr12 (Nat.le_refl _) (Nat.le_refl _)
            refine lv_aload_n hx hb dX12_note_83 rfl (lv_at hl 0 rfl) ?_
            refine nr_get (own := RX12) (C := RX12) (T := TX12) (N := 19) (v := .ref (ad Γ (mo + 1))) hx hb hts hi_X12_note_X12 hown hw (by omega) (isM_0 hM) rfl 0 (by decide) wl_X12_note_3 rfl rfl dX12_note_84 ?_
            refine lv_iconst (v := nI 3) hx hb dX12_note_87 (by decide) ?_
            refine lv_dup2_11 hx hb dX12_note_88 rfl rfl ?_
            refine nr_iald (x := (R 3)) hx hb hw (by omega) (isM_1 hM) (by first | rfl | (simp only [va_up, fourR, layR]; (repeat' split) <;> first | omega | simp_all)) (by omega) (by decide) dX12_note_89 ?_
            refine lv_iconst (v := nI 1) hx hb dX12_note_90 (by decide) ?_
            refine nr_iadd hx hb dX12_note_91 ?_
            refine nr_iast (k := 3) (v := R 3 + 1) hx hb hw hj hA hS (by omega) (isM_1 hM) (by omega) (by decide) dX12_note_92 (fun H locs hw hS => ?_)
            have hM := isM_s1 hM (va_up (fourR R (80 + (4 * (R 3))) jk jg jd jx) 3 (R 3 + 1))
            have hfr := fr_up hfr (i := mo + 1) (by omega) (by omega) (na Γ 256 (va_up (fourR R (80 + (4 * (R 3))) jk jg jd jx) 3 (R 3 + 1)))
            generalize va_up G12 (mo + 1) (na Γ 256 (va_up (fourR R (80 + (4 * (R 3))) jk jg jd jx) 3 (R 3 + 1))) = G13 at hw hM hfr
            refine lv_aload_n hx hb dX12_note_93 rfl (lv_at hl 0 rfl) ?_
            refine nr_get (own := RX12) (C := RX12) (T := TX12) (N := 19) (v := .ref (ad Γ (mo + 1))) hx hb hts hi_X12_note_X12 hown hw (by omega) (isM_0 hM) rfl 0 (by decide) wl_X12_note_3 rfl rfl dX12_note_94 ?_
            refine lv_iconst (v := nI 3) hx hb dX12_note_97 (by decide) ?_
            refine nr_iald (x := (R 3 + 1)) hx hb hw (by omega) (isM_1 hM) (by first | rfl | (simp only [va_up, fourR, layR]; (repeat' split) <;> first | omega | simp_all)) (by omega) (by decide) dX12_note_98 ?_
            exact nr_retI hx hb hr hlocks hw hS (Or.inr (Or.inr (⟨jk, jg, jd, jx, hjk, rfl, hjga, hjgb, rfl, hjda, hjdb, rfl, hjxa, hjxb, rfl, by assumption, rfl, hM, hfr⟩))) dX12_note_99
          · refine lv_aload_n hx hb dX12_note_58 rfl (lv_at hl 0 rfl) ?_
            refine nr_goI (nr_runV (As := []) (C := RX12) (T := TX12) (N := 19) ⟨hx, hb, hml, hown, hts⟩ hw (by omega) (isM_0 hM) rfl (c_X12_full l Γ n G mo R K kp rf ca rc hd fw tl by0 an vl iv hM (by omega) hI hj) (cwV 0 hts gX12_note_X12_full rfl rfl rfl (by decide +kernel) ⟨Nat.le_of_ble_eq_true rfl, Nat.le_of_ble_eq_true rfl⟩) rfl hl.1 rfl (Nat.le_of_ble_eq_true rfl) dX12_note_59 ⟨Nat.zero_le _, Nat.zero_le _⟩) hw hA hS (fun z14 G14 H locs hp hw hS => ?_)
            obtain ⟨ha14, hM, hfr14⟩ := hp
            have hfr := fr_tr hfr hfr14 (Nat.le_refl _) (Nat.le_refl _)
            subst ha14
            exact nr_retI hx hb hr hlocks hw hS (Or.inr (Or.inl ⟨⟨⟨jk, hjk, rfl⟩, ⟨jg, hjga, hjgb, rfl⟩, ⟨jd, hjda, hjdb, rfl⟩, ⟨jx, hjxa, hjxb, rfl⟩⟩, by assumption, rfl, hM, hfr⟩)) dX12_note_62
        · have b7n : ¬ vRng 0 40 x := fun hh => b7 ((in_c (by decide) (by decide)).mpr hh)
          refine nr_if_ne (tgt := 47) hx hb (by decide) dX12_note_37 (by decide) (fun c15 => absurd c15 (by decide)) (fun c15 => ?_)
          refine lv_aload_n hx hb dX12_note_40 rfl (lv_at hl 0 rfl) ?_
          refine lv_bipush (v := (-2)) hx hb dX12_note_41 (by decide) ?_
          refine nr_goI (nr_runV (As := [.int (-2)]) (C := RX12) (T := TX12) (N := 19) ⟨hx, hb, hml, hown, hts⟩ hw (by omega) (isM_0 hM) rfl (c_X12_bad l Γ n G mo R K kp rf ca rc hd fw tl by0 an vl iv hM (by omega) hI hj (-2)) (cwV 1 hts gX12_note_X12_bad rfl rfl rfl (by decide +kernel) ⟨Nat.le_of_ble_eq_true rfl, Nat.le_of_ble_eq_true rfl⟩) rfl hl.1 rfl (Nat.le_of_ble_eq_true rfl) dX12_note_43 ⟨Nat.zero_le _, Nat.zero_le _⟩) hw hA hS (fun z16 G16 H locs hp hw hS => ?_)
          obtain ⟨ha16, hM, hfr16⟩ := hp
          have hfr := fr_tr hfr hfr16 (Nat.le_refl _) (Nat.le_refl _)
          subst ha16
          exact nr_retI hx hb hr hlocks hw hS (Or.inl ⟨by intro hh; first | contradiction | (obtain ⟨hq1, hq2⟩ := hh; first | contradiction | (obtain ⟨hq2, hq3⟩ := hq2; first | contradiction | (obtain ⟨hq3, hq4⟩ := hq3; first | contradiction | (obtain ⟨hq4, hq5⟩ := hq4; first | contradiction | (exact hq4 (congrArg nI (by assumption))))))), rfl, hM, hfr⟩) dX12_note_46
      · have b5n : ¬ vRng 0 99 d := fun hh => b5 ((in_c (by decide) (by decide)).mpr hh)
        refine nr_if_eq (tgt := 40) hx hb (by decide) dX12_note_24 (by decide) (fun c17 => ?_) (fun c17 => absurd c17 (by decide))
        refine lv_aload_n hx hb dX12_note_40 rfl (lv_at hl 0 rfl) ?_
        refine lv_bipush (v := (-2)) hx hb dX12_note_41 (by decide) ?_
        refine nr_goI (nr_runV (As := [.int (-2)]) (C := RX12) (T := TX12) (N := 19) ⟨hx, hb, hml, hown, hts⟩ hw (by omega) (isM_0 hM) rfl (c_X12_bad l Γ n G mo R K kp rf ca rc hd fw tl by0 an vl iv hM (by omega) hI hj (-2)) (cwV 1 hts gX12_note_X12_bad rfl rfl rfl (by decide +kernel) ⟨Nat.le_of_ble_eq_true rfl, Nat.le_of_ble_eq_true rfl⟩) rfl hl.1 rfl (Nat.le_of_ble_eq_true rfl) dX12_note_43 ⟨Nat.zero_le _, Nat.zero_le _⟩) hw hA hS (fun z18 G18 H locs hp hw hS => ?_)
        obtain ⟨ha18, hM, hfr18⟩ := hp
        have hfr := fr_tr hfr hfr18 (Nat.le_refl _) (Nat.le_refl _)
        subst ha18
        exact nr_retI hx hb hr hlocks hw hS (Or.inl ⟨by intro hh; first | contradiction | (obtain ⟨hq1, hq2⟩ := hh; first | contradiction | (obtain ⟨hq2, hq3⟩ := hq2; first | contradiction | (obtain ⟨hq3, hq4⟩ := hq3; first | contradiction | (obtain ⟨hq4, hq5⟩ := hq4; first | contradiction | (exact hq4 (congrArg nI (by assumption))))))), rfl, hM, hfr⟩) dX12_note_46
    · refine nr_if_eq (tgt := 40) hx hb (by decide) dX12_note_12 (by decide) (fun c19 => ?_) (fun c19 => absurd c19 (by decide))
      refine lv_aload_n hx hb dX12_note_40 rfl (lv_at hl 0 rfl) ?_
      refine lv_bipush (v := (-2)) hx hb dX12_note_41 (by decide) ?_
      refine nr_goI (nr_runV (As := [.int (-2)]) (C := RX12) (T := TX12) (N := 19) ⟨hx, hb, hml, hown, hts⟩ hw (by omega) (isM_0 hM) rfl (c_X12_bad l Γ n G mo R K kp rf ca rc hd fw tl by0 an vl iv hM (by omega) hI hj (-2)) (cwV 1 hts gX12_note_X12_bad rfl rfl rfl (by decide +kernel) ⟨Nat.le_of_ble_eq_true rfl, Nat.le_of_ble_eq_true rfl⟩) rfl hl.1 rfl (Nat.le_of_ble_eq_true rfl) dX12_note_43 ⟨Nat.zero_le _, Nat.zero_le _⟩) hw hA hS (fun z20 G20 H locs hp hw hS => ?_)
      obtain ⟨ha20, hM, hfr20⟩ := hp
      have hfr := fr_tr hfr hfr20 (Nat.le_refl _) (Nat.le_refl _)
      subst ha20
      exact nr_retI hx hb hr hlocks hw hS (Or.inl ⟨by intro hh; first | contradiction | (obtain ⟨hq1, hq2⟩ := hh; first | contradiction | (obtain ⟨hq2, hq3⟩ := hq2; first | contradiction | (obtain ⟨hq3, hq4⟩ := hq3; first | contradiction | (obtain ⟨hq4, hq5⟩ := hq4; first | contradiction | (exact hq4 (congrArg nI (by assumption))))))), rfl, hM, hfr⟩) dX12_note_46
  · refine nr_if_eq (tgt := 40) hx hb (by decide) dX12_note_5 (by decide) (fun c21 => ?_) (fun c21 => absurd c21 (by decide))
    refine lv_aload_n hx hb dX12_note_40 rfl (lv_at hl 0 rfl) ?_
    refine lv_bipush (v := (-2)) hx hb dX12_note_41 (by decide) ?_
    refine nr_goI (nr_runV (As := [.int (-2)]) (C := RX12) (T := TX12) (N := 19) ⟨hx, hb, hml, hown, hts⟩ hw (by omega) (isM_0 hM) rfl (c_X12_bad l Γ n G mo R K kp rf ca rc hd fw tl by0 an vl iv hM (by omega) hI hj (-2)) (cwV 1 hts gX12_note_X12_bad rfl rfl rfl (by decide +kernel) ⟨Nat.le_of_ble_eq_true rfl, Nat.le_of_ble_eq_true rfl⟩) rfl hl.1 rfl (Nat.le_of_ble_eq_true rfl) dX12_note_43 ⟨Nat.zero_le _, Nat.zero_le _⟩) hw hA hS (fun z22 G22 H locs hp hw hS => ?_)
    obtain ⟨ha22, hM, hfr22⟩ := hp
    have hfr := fr_tr hfr hfr22 (Nat.le_refl _) (Nat.le_refl _)
    subst ha22
    exact nr_retI hx hb hr hlocks hw hS (Or.inl ⟨by intro hh; first | contradiction | (obtain ⟨hq1, hq2⟩ := hh; first | contradiction | (obtain ⟨hq2, hq3⟩ := hq2; first | contradiction | (obtain ⟨hq3, hq4⟩ := hq3; first | contradiction | (obtain ⟨hq4, hq5⟩ := hq4; first | contradiction | (exact hq4 (congrArg nI (by assumption))))))), rfl, hM, hfr⟩) dX12_note_46
theorem wl_X12_mark_1 : Cond.constantLong RX12 65 (9) ∈ wsX12_mark := List.mem_of_getElem? (i := 1) rfl
theorem wl_X12_mark_2 : Cond.constantLong RX12 166 (99) ∈ wsX12_mark := List.mem_of_getElem? (i := 2) rfl
theorem wl_X12_mark_3 : Cond.constantLong RX12 109 (60) ∈ wsX12_mark := List.mem_of_getElem? (i := 3) rfl
theorem wl_X12_mark_4 : Cond.fieldLink RX12 7 "BellForgivenModel" "all" "[I" ∈ wsX12_mark := List.mem_of_getElem? (i := 4) rfl
theorem hi_X12_mark_X12 : ∀ w ∈ u_ws RX12 TX12 19, w ∈ wsX12_mark := fun w h => (List.mem_cons_of_mem _ (List.mem_append_right _ h))
set_option maxHeartbeats 4000000 in
set_option maxRecDepth 100000 in
theorem c_X12_mark (l : Launch) (Γ : Gam) (n : Nat) (G : Nat → va_E) (mo : Nat) (R K kp rf ca rc hd fw tl by0 an vl iv : Nat → Nat) (hM : isM Γ G mo R K kp rf ca rc hd fw tl by0 an vl iv) (hmo : mo + 13 ≤ n) (hI : vI R) (hj : winj Γ n) (i r t x : Int32)  : Met l yX12_mark wsX12_mark ({ frames := 2, cells := 0, slots := 0, locals := 46 }) (va_Pc [.ref (ad Γ (mo + 0)), .int i, .int r, .int t, .int x] (fun U => hw Γ n G U U.heap)) (wQi Γ n (fun z G2 => ((¬ (vBel (R 0) i ∧ vRng 0 9 r ∧ vRng 0 99 t ∧ vRng 0 60 x)) ∧ (z = -2) ∧ isM Γ G2 mo R K kp (bmp rf 0) ca rc hd fw tl by0 an vl iv ∧ fr G G2 mo (mo + 13)) ∨ ((vBel (R 0) i ∧ vRng 0 9 r ∧ vRng 0 99 t ∧ vRng 0 60 x) ∧ (R 4 = 6) ∧ (z = -4) ∧ isM Γ G2 mo R K kp (bmp rf 2) ca rc hd fw tl by0 an vl iv ∧ fr G G2 mo (mo + 13)) ∨ (∃ ji jr jt jx : Nat, (ji < R 0) ∧ (i = nI ji) ∧ (0 ≤ jr) ∧ (jr ≤ 9) ∧ (r = nI jr) ∧ (0 ≤ jt) ∧ (jt ≤ 99) ∧ (t = nI jt) ∧ (0 ≤ jx) ∧ (jx ≤ 60) ∧ (x = nI jx) ∧ (¬ R 4 = 6) ∧ (z = nI (R 4 + 1)) ∧ isM Γ G2 mo (addR R 4 104 ji jr jt jx) K kp rf ca rc hd fw tl by0 an vl iv ∧ fr G G2 mo (mo + 13)))) 0 0 (wA Γ n) := by
  refine Met.ofW (cc := cX12_mark) (maxL := 5) (ret := (some .int)) (by decide) rfl ?_
  intro p e s m args below meth c s₁ B hml hv
  obtain ⟨rfl, hw⟩ := hv
  have hx := B.exec
  have hb := B.bytes
  have hr := B.returns
  have hts := atoms_spec (ws := wsX12_mark) B.pre
  have hown : s.vm.findClass RX12 = some m.cls := findClass_of_methodNamed B.named
  have hlocks := B.notSynchronized
  have hS : va_S (wA Γ n) s.heap s.heap [] := va_S.rf
  have hA : ∀ q, wA Γ n q → wA Γ n q := fun _ h => h
  have hl := lv_entry ([.ref (ad Γ (mo + 0)), .int i, .int r, .int t, .int x]) (n := 5) (Nat.le_of_ble_eq_true rfl)
  rw [lg_entry_eq]
  generalize (lg_sl ([.ref (ad Γ (mo + 0)), .int i, .int r, .int t, .int x]) ++ List.replicate (5 - (lg_sl ([.ref (ad Γ (mo + 0)), .int i, .int r, .int t, .int x])).length) Slot.unset).toArray = ls at hl ⊢
  have hl : lv_has ls 5 [(0, .ref (ad Γ (mo + 0))), (1, .int i), (2, .int r), (3, .int t), (4, .int x)] := hl
  have hfr := fr_rf G mo (mo + 13)
  have hB := hI.1
  have hB0 := hI.2.1
  have hB1 := hI.2.2.1
  have hB20 := hI.2.2.2.2.2.2.2.2.2
  have hBz2 := hI.2.2.2.1
  have hBz3 := hI.2.2.2.2.1
  have hBz4 := hI.2.2.2.2.2.1
  have hBz5 := hI.2.2.2.2.2.2.1
  have hby := hI.2.2.2.2.2.2.2.1
  have hto := hI.2.2.2.2.2.2.2.2.1
  refine lv_aload_n hx hb dX12_mark_0 rfl (lv_at hl 0 rfl) ?_
  refine lv_iload_n hx hb dX12_mark_1 rfl (lv_at hl 1 rfl) ?_
  refine nr_goB (P := ∃ j, j < R 0 ∧ i = nI j) (nr_runV (As := [.int i]) (C := RX12) (T := TX12) (N := 19) ⟨hx, hb, hml, hown, hts⟩ hw (by omega) (isM_0 hM) rfl (c_X12_isOne l Γ n G mo R K kp rf ca rc hd fw tl by0 an vl iv hM (by omega) hI i) (cwV 1 hts gX12_mark_X12_isOne rfl rfl rfl (by decide +kernel) ⟨Nat.le_of_ble_eq_true rfl, Nat.le_of_ble_eq_true rfl⟩) rfl hl.1 rfl (Nat.le_of_ble_eq_true rfl) dX12_mark_2 ⟨Nat.zero_le _, Nat.zero_le _⟩) (fun b1 => ?_) (fun b1 => ?_)
  · obtain ⟨ji, hji, rfl⟩ := b1
    refine nr_if_eq (tgt := 45) hx hb (by decide) dX12_mark_5 (by decide) (fun c2 => absurd c2 (by decide)) (fun c2 => ?_)
    refine lv_iload_n hx hb dX12_mark_8 rfl (lv_at hl 2 rfl) ?_
    refine lv_i2l (v := (r).toInt64) hx hb dX12_mark_9 rfl ?_
    refine lv_lconst (v := lN 0) hx hb dX12_mark_10 rfl ?_
    refine nr_ldc2 (k := 9) hx hb hown (hts _ wl_X12_mark_1) (by decide) dX12_mark_11 ?_
    refine nr_goB (P := (lN 0) ≤ ((r).toInt64) ∧ ((r).toInt64) ≤ (lN 9)) (nr_runS (As := [.long ((r).toInt64), .long (lN 0), .long (lN 9)]) ⟨hx, hb, hml, hown, hts⟩ hw (c_X12_in l Γ n G ((r).toInt64) (lN 0) (lN 9)) (va_cwS 3 hts gX12_mark_X12_in rfl rfl rfl (by decide +kernel) ⟨Nat.le_of_ble_eq_true rfl, Nat.le_of_ble_eq_true rfl⟩) rfl hl.1 rfl (Nat.le_of_ble_eq_true rfl) dX12_mark_14 ⟨Nat.zero_le _, Nat.zero_le _⟩) (fun b3 => ?_) (fun b3 => ?_)
    · obtain ⟨jr, hjra, hjrb, rfl⟩ := (in_c (a := 0) (b := 9) (by decide) (by decide)).mp b3
      refine nr_if_eq (tgt := 45) hx hb (by decide) dX12_mark_17 (by decide) (fun c4 => absurd c4 (by decide)) (fun c4 => ?_)
      refine lv_iload_n hx hb dX12_mark_20 rfl (lv_at hl 3 rfl) ?_
      refine lv_i2l (v := (t).toInt64) hx hb dX12_mark_21 rfl ?_
      refine lv_lconst (v := lN 0) hx hb dX12_mark_22 rfl ?_
      refine nr_ldc2 (k := 99) hx hb hown (hts _ wl_X12_mark_2) (by decide) dX12_mark_23 ?_
      refine nr_goB (P := (lN 0) ≤ ((t).toInt64) ∧ ((t).toInt64) ≤ (lN 99)) (nr_runS (As := [.long ((t).toInt64), .long (lN 0), .long (lN 99)]) ⟨hx, hb, hml, hown, hts⟩ hw (c_X12_in l Γ n G ((t).toInt64) (lN 0) (lN 99)) (va_cwS 3 hts gX12_mark_X12_in rfl rfl rfl (by decide +kernel) ⟨Nat.le_of_ble_eq_true rfl, Nat.le_of_ble_eq_true rfl⟩) rfl hl.1 rfl (Nat.le_of_ble_eq_true rfl) dX12_mark_26 ⟨Nat.zero_le _, Nat.zero_le _⟩) (fun b5 => ?_) (fun b5 => ?_)
      · obtain ⟨jt, hjta, hjtb, rfl⟩ := (in_c (a := 0) (b := 99) (by decide) (by decide)).mp b5
        refine nr_if_eq (tgt := 45) hx hb (by decide) dX12_mark_29 (by decide) (fun c6 => absurd c6 (by decide)) (fun c6 => ?_)
        refine lv_iload hx hb dX12_mark_32 (lv_at hl 4 rfl) ?_
        refine lv_i2l (v := (x).toInt64) hx hb dX12_mark_34 rfl ?_
        refine lv_lconst (v := lN 0) hx hb dX12_mark_35 rfl ?_
        refine nr_ldc2 (k := 60) hx hb hown (hts _ wl_X12_mark_3) (by decide) dX12_mark_36 ?_
        refine nr_goB (P := (lN 0) ≤ ((x).toInt64) ∧ ((x).toInt64) ≤ (lN 60)) (nr_runS (As := [.long ((x).toInt64), .long (lN 0), .long (lN 60)]) ⟨hx, hb, hml, hown, hts⟩ hw (c_X12_in l Γ n G ((x).toInt64) (lN 0) (lN 60)) (va_cwS 3 hts gX12_mark_X12_in rfl rfl rfl (by decide +kernel) ⟨Nat.le_of_ble_eq_true rfl, Nat.le_of_ble_eq_true rfl⟩) rfl hl.1 rfl (Nat.le_of_ble_eq_true rfl) dX12_mark_39 ⟨Nat.zero_le _, Nat.zero_le _⟩) (fun b7 => ?_) (fun b7 => ?_)
        · obtain ⟨jx, hjxa, hjxb, rfl⟩ := (in_c (a := 0) (b := 60) (by decide) (by decide)).mp b7
          refine nr_if_ne (tgt := 52) hx hb (by decide) dX12_mark_42 (by decide) (fun c8 => ?_) (fun c8 => absurd c8 (by decide))
          refine lv_aload_n hx hb dX12_mark_52 rfl (lv_at hl 0 rfl) ?_
          refine nr_get (own := RX12) (C := RX12) (T := TX12) (N := 19) (v := .ref (ad Γ (mo + 1))) hx hb hts hi_X12_mark_X12 hown hw (by omega) (isM_0 hM) rfl 0 (by decide) wl_X12_mark_4 rfl rfl dX12_mark_53 ?_
          refine lv_iconst (v := nI 4) hx hb dX12_mark_56 (by decide) ?_
          refine nr_iald (x := (R 4)) hx hb hw (by omega) (isM_1 hM) rfl (by omega) (by decide) dX12_mark_57 ?_
          have hL9 := hB (4)
          refine lv_bipush (v := nI 6) hx hb dX12_mark_58 (by decide) ?_
          refine nr_icmp_ne (tgt := 68) hx hb (by omega) (by decide) dX12_mark_60 (by decide) (fun c10 => ?_) (fun c10 => ?_)
          · refine lv_aload_n hx hb dX12_mark_68 rfl (lv_at hl 0 rfl) ?_
            refine lv_bipush (v := nI 104) hx hb dX12_mark_69 (by decide) ?_
            refine lv_iconst (v := nI 4) hx hb dX12_mark_71 (by decide) ?_
            refine lv_aload_n hx hb dX12_mark_72 rfl (lv_at hl 0 rfl) ?_
            refine nr_get (own := RX12) (C := RX12) (T := TX12) (N := 19) (v := .ref (ad Γ (mo + 1))) hx hb hts hi_X12_mark_X12 hown hw (by omega) (isM_0 hM) rfl 0 (by decide) wl_X12_mark_4 rfl rfl dX12_mark_73 ?_
            refine lv_iconst (v := nI 4) hx hb dX12_mark_76 (by decide) ?_
            refine nr_iald (x := (R 4)) hx hb hw (by omega) (isM_1 hM) rfl (by omega) (by decide) dX12_mark_77 ?_
            have hL11 := hB (4)
            refine nr_imul hx hb dX12_mark_78 ?_
            refine nr_iadd hx hb dX12_mark_79 ?_
            refine lv_iload_n hx hb dX12_mark_80 rfl (lv_at hl 1 rfl) ?_
            refine lv_iload_n hx hb dX12_mark_81 rfl (lv_at hl 2 rfl) ?_
            refine lv_iload_n hx hb dX12_mark_82 rfl (lv_at hl 3 rfl) ?_
            refine lv_iload hx hb dX12_mark_83 (lv_at hl 4 rfl) ?_
            refine nr_goV (nr_runV (As := [.int (nI (104 + (4 * (R 4)))), .int (nI ji), .int (nI jr), .int (nI jt), .int (nI jx)]) (C := RX12) (T := TX12) (N := 19) ⟨hx, hb, hml, hown, hts⟩ hw (by omega) (isM_0 hM) rfl (c_X12_layFour l Γ n G mo R K kp rf ca rc hd fw tl by0 an vl iv hM (by omega) hI hj (104 + (4 * (R 4))) ji jr jt jx (by omega)) (cwV 5 hts gX12_mark_X12_layFour rfl rfl rfl (by decide +kernel) ⟨Nat.le_of_ble_eq_true rfl, Nat.le_of_ble_eq_true rfl⟩) rfl hl.1 rfl (Nat.le_of_ble_eq_true rfl) dX12_mark_85 ⟨Nat.zero_le _, Nat.zero_le _⟩) hw hA hS (fun G12 H locs hp hw hS => ?_)
            obtain ⟨hM, hfr12⟩ := hp
            have hfr := fr_tr hfr hfr12 (Nat.le_refl _) (Nat.le_refl _)
            refine lv_aload_n hx hb dX12_mark_88 rfl (lv_at hl 0 rfl) ?_
            refine nr_get (own := RX12) (C := RX12) (T := TX12) (N := 19) (v := .ref (ad Γ (mo + 1))) hx hb hts hi_X12_mark_X12 hown hw (by omega) (isM_0 hM) rfl 0 (by decide) wl_X12_mark_4 rfl rfl dX12_mark_89 ?_
            refine lv_iconst (v := nI 4) hx hb dX12_mark_92 (by decide) ?_
            refine lv_dup2_11 hx hb dX12_mark_93 rfl rfl ?_
            refine nr_iald (x := (R 4)) hx hb hw (by omega) (isM_1 hM) (by first | rfl | (simp only [va_up, fourR, layR]; (repeat' split) <;> first | omega | simp_all)) (by omega) (by decide) dX12_mark_94 ?_
            refine lv_iconst (v := nI 1) hx hb dX12_mark_95 (by decide) ?_
            refine nr_iadd hx hb dX12_mark_96 ?_
            refine nr_iast (k := 4) (v := R 4 + 1) hx hb hw hj hA hS (by omega) (isM_1 hM) (by omega) (by decide) dX12_mark_97 (fun H locs hw hS => ?_)
            have hM := isM_s1 hM (va_up (fourR R (104 + (4 * (R 4))) ji jr jt jx) 4 (R 4 + 1))
            have hfr := fr_up hfr (i := mo + 1) (by omega) (by omega) (na Γ 256 (va_up (fourR R (104 + (4 * (R 4))) ji jr jt jx) 4 (R 4 + 1)))
            generalize va_up G12 (mo + 1) (na Γ 256 (va_up (fourR R (104 + (4 * (R 4))) ji jr jt jx) 4 (R 4 + 1))) = G13 at hw hM hfr
            refine lv_aload_n hx hb dX12_mark_98 rfl (lv_at hl 0 rfl) ?_
            refine nr_get (own := RX12) (C := RX12) (T := TX12) (N := 19) (v := .ref (ad Γ (mo + 1))) hx hb hts hi_X12_mark_X12 hown hw (by omega) (isM_0 hM) rfl 0 (by decide) wl_X12_mark_4 rfl rfl dX12_mark_99 ?_
            refine lv_iconst (v := nI 4) hx hb dX12_mark_102 (by decide) ?_
            refine nr_iald (x := (R 4 + 1)) hx hb hw (by omega) (isM_1 hM) (by first | rfl | (simp only [va_up, fourR, layR]; (repeat' split) <;> first | omega | simp_all)) (by omega) (by decide) dX12_mark_103 ?_
            exact nr_retI hx hb hr hlocks hw hS (Or.inr (Or.inr (⟨ji, jr, jt, jx, hji, rfl, hjra, hjrb, rfl, hjta, hjtb, rfl, hjxa, hjxb, rfl, by assumption, rfl, hM, hfr⟩))) dX12_mark_104
          · refine lv_aload_n hx hb dX12_mark_63 rfl (lv_at hl 0 rfl) ?_
            refine nr_goI (nr_runV (As := []) (C := RX12) (T := TX12) (N := 19) ⟨hx, hb, hml, hown, hts⟩ hw (by omega) (isM_0 hM) rfl (c_X12_full l Γ n G mo R K kp rf ca rc hd fw tl by0 an vl iv hM (by omega) hI hj) (cwV 0 hts gX12_mark_X12_full rfl rfl rfl (by decide +kernel) ⟨Nat.le_of_ble_eq_true rfl, Nat.le_of_ble_eq_true rfl⟩) rfl hl.1 rfl (Nat.le_of_ble_eq_true rfl) dX12_mark_64 ⟨Nat.zero_le _, Nat.zero_le _⟩) hw hA hS (fun z14 G14 H locs hp hw hS => ?_)
            obtain ⟨ha14, hM, hfr14⟩ := hp
            have hfr := fr_tr hfr hfr14 (Nat.le_refl _) (Nat.le_refl _)
            subst ha14
            exact nr_retI hx hb hr hlocks hw hS (Or.inr (Or.inl ⟨⟨⟨ji, hji, rfl⟩, ⟨jr, hjra, hjrb, rfl⟩, ⟨jt, hjta, hjtb, rfl⟩, ⟨jx, hjxa, hjxb, rfl⟩⟩, by assumption, rfl, hM, hfr⟩)) dX12_mark_67
        · have b7n : ¬ vRng 0 60 x := fun hh => b7 ((in_c (by decide) (by decide)).mpr hh)
          refine nr_if_ne (tgt := 52) hx hb (by decide) dX12_mark_42 (by decide) (fun c15 => absurd c15 (by decide)) (fun c15 => ?_)
          refine lv_aload_n hx hb dX12_mark_45 rfl (lv_at hl 0 rfl) ?_
          refine lv_bipush (v := (-2)) hx hb dX12_mark_46 (by decide) ?_
          refine nr_goI (nr_runV (As := [.int (-2)]) (C := RX12) (T := TX12) (N := 19) ⟨hx, hb, hml, hown, hts⟩ hw (by omega) (isM_0 hM) rfl (c_X12_bad l Γ n G mo R K kp rf ca rc hd fw tl by0 an vl iv hM (by omega) hI hj (-2)) (cwV 1 hts gX12_mark_X12_bad rfl rfl rfl (by decide +kernel) ⟨Nat.le_of_ble_eq_true rfl, Nat.le_of_ble_eq_true rfl⟩) rfl hl.1 rfl (Nat.le_of_ble_eq_true rfl) dX12_mark_48 ⟨Nat.zero_le _, Nat.zero_le _⟩) hw hA hS (fun z16 G16 H locs hp hw hS => ?_)
          obtain ⟨ha16, hM, hfr16⟩ := hp
          have hfr := fr_tr hfr hfr16 (Nat.le_refl _) (Nat.le_refl _)
          subst ha16
          exact nr_retI hx hb hr hlocks hw hS (Or.inl ⟨by intro hh; first | contradiction | (obtain ⟨hq1, hq2⟩ := hh; first | contradiction | (obtain ⟨hq2, hq3⟩ := hq2; first | contradiction | (obtain ⟨hq3, hq4⟩ := hq3; first | contradiction | (obtain ⟨hq4, hq5⟩ := hq4; first | contradiction | (exact hq4 (congrArg nI (by assumption))))))), rfl, hM, hfr⟩) dX12_mark_51
      · have b5n : ¬ vRng 0 99 t := fun hh => b5 ((in_c (by decide) (by decide)).mpr hh)
        refine nr_if_eq (tgt := 45) hx hb (by decide) dX12_mark_29 (by decide) (fun c17 => ?_) (fun c17 => absurd c17 (by decide))
        refine lv_aload_n hx hb dX12_mark_45 rfl (lv_at hl 0 rfl) ?_
        refine lv_bipush (v := (-2)) hx hb dX12_mark_46 (by decide) ?_
        refine nr_goI (nr_runV (As := [.int (-2)]) (C := RX12) (T := TX12) (N := 19) ⟨hx, hb, hml, hown, hts⟩ hw (by omega) (isM_0 hM) rfl (c_X12_bad l Γ n G mo R K kp rf ca rc hd fw tl by0 an vl iv hM (by omega) hI hj (-2)) (cwV 1 hts gX12_mark_X12_bad rfl rfl rfl (by decide +kernel) ⟨Nat.le_of_ble_eq_true rfl, Nat.le_of_ble_eq_true rfl⟩) rfl hl.1 rfl (Nat.le_of_ble_eq_true rfl) dX12_mark_48 ⟨Nat.zero_le _, Nat.zero_le _⟩) hw hA hS (fun z18 G18 H locs hp hw hS => ?_)
        obtain ⟨ha18, hM, hfr18⟩ := hp
        have hfr := fr_tr hfr hfr18 (Nat.le_refl _) (Nat.le_refl _)
        subst ha18
        exact nr_retI hx hb hr hlocks hw hS (Or.inl ⟨by intro hh; first | contradiction | (obtain ⟨hq1, hq2⟩ := hh; first | contradiction | (obtain ⟨hq2, hq3⟩ := hq2; first | contradiction | (obtain ⟨hq3, hq4⟩ := hq3; first | contradiction | (obtain ⟨hq4, hq5⟩ := hq4; first | contradiction | (exact hq4 (congrArg nI (by assumption))))))), rfl, hM, hfr⟩) dX12_mark_51
    · have b3n : ¬ vRng 0 9 r := fun hh => b3 ((in_c (by decide) (by decide)).mpr hh)
      refine nr_if_eq (tgt := 45) hx hb (by decide) dX12_mark_17 (by decide) (fun c19 => ?_) (fun c19 => absurd c19 (by decide))
      refine lv_aload_n hx hb dX12_mark_45 rfl (lv_at hl 0 rfl) ?_
      refine lv_bipush (v := (-2)) hx hb dX12_mark_46 (by decide) ?_
      refine nr_goI (nr_runV (As := [.int (-2)]) (C := RX12) (T := TX12) (N := 19) ⟨hx, hb, hml, hown, hts⟩ hw (by omega) (isM_0 hM) rfl (c_X12_bad l Γ n G mo R K kp rf ca rc hd fw tl by0 an vl iv hM (by omega) hI hj (-2)) (cwV 1 hts gX12_mark_X12_bad rfl rfl rfl (by decide +kernel) ⟨Nat.le_of_ble_eq_true rfl, Nat.le_of_ble_eq_true rfl⟩) rfl hl.1 rfl (Nat.le_of_ble_eq_true rfl) dX12_mark_48 ⟨Nat.zero_le _, Nat.zero_le _⟩) hw hA hS (fun z20 G20 H locs hp hw hS => ?_)
      obtain ⟨ha20, hM, hfr20⟩ := hp
      have hfr := fr_tr hfr hfr20 (Nat.le_refl _) (Nat.le_refl _)
      subst ha20
      exact nr_retI hx hb hr hlocks hw hS (Or.inl ⟨by intro hh; first | contradiction | (obtain ⟨hq1, hq2⟩ := hh; first | contradiction | (obtain ⟨hq2, hq3⟩ := hq2; first | contradiction | (obtain ⟨hq3, hq4⟩ := hq3; first | contradiction | (obtain ⟨hq4, hq5⟩ := hq4; first | contradiction | (exact hq4 (congrArg nI (by assumption))))))), rfl, hM, hfr⟩) dX12_mark_51
  · refine nr_if_eq (tgt := 45) hx hb (by decide) dX12_mark_5 (by decide) (fun c21 => ?_) (fun c21 => absurd c21 (by decide))
    refine lv_aload_n hx hb dX12_mark_45 rfl (lv_at hl 0 rfl) ?_
    refine lv_bipush (v := (-2)) hx hb dX12_mark_46 (by decide) ?_
    refine nr_goI (nr_runV (As := [.int (-2)]) (C := RX12) (T := TX12) (N := 19) ⟨hx, hb, hml, hown, hts⟩ hw (by omega) (isM_0 hM) rfl (c_X12_bad l Γ n G mo R K kp rf ca rc hd fw tl by0 an vl iv hM (by omega) hI hj (-2)) (cwV 1 hts gX12_mark_X12_bad rfl rfl rfl (by decide +kernel) ⟨Nat.le_of_ble_eq_true rfl, Nat.le_of_ble_eq_true rfl⟩) rfl hl.1 rfl (Nat.le_of_ble_eq_true rfl) dX12_mark_48 ⟨Nat.zero_le _, Nat.zero_le _⟩) hw hA hS (fun z22 G22 H locs hp hw hS => ?_)
    obtain ⟨ha22, hM, hfr22⟩ := hp
    have hfr := fr_tr hfr hfr22 (Nat.le_refl _) (Nat.le_refl _)
    subst ha22
    exact nr_retI hx hb hr hlocks hw hS (Or.inl ⟨by intro hh; first | contradiction | (obtain ⟨hq1, hq2⟩ := hh; first | contradiction | (obtain ⟨hq2, hq3⟩ := hq2; first | contradiction | (obtain ⟨hq3, hq4⟩ := hq3; first | contradiction | (obtain ⟨hq4, hq5⟩ := hq4; first | contradiction | (exact hq4 (congrArg nI (by assumption))))))), rfl, hM, hfr⟩) dX12_mark_51
