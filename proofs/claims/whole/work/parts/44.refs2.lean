set_option maxHeartbeats 4000000 in
set_option maxRecDepth 100000 in
theorem c_X12_whenB (l : Launch) (Γ : Gam) (n : Nat) (G : Nat → va_E) (mo : Nat) (R K kp rf ca rc hd fw tl by0 an vl iv : Nat → Nat) (hM : isM Γ G mo R K kp rf ca rc hd fw tl by0 an vl iv) (hmo : mo + 13 ≤ n) (hI : vI R) (hj : winj Γ n) (k : Int32) (h21 : R 21 ≤ 999) (hhd : ∀ j, hd j ≤ 1999)  : Met l yX12_when wsX12_when ({ frames := 3, cells := 0, slots := 0, locals := 66 }) (va_Pc [.ref (ad Γ (mo + 0)), .int k] (fun U => hw Γ n G U U.heap)) (wQi Γ n (fun z G2 => ((¬ vBel (R 1) k) ∧ (z = -2) ∧ isM Γ G2 mo R K kp (bmp rf 0) ca rc hd fw tl by0 an vl iv ∧ fr G G2 mo (mo + 13)) ∨ (∃ jk : Nat, (jk < R 1) ∧ (k = nI jk) ∧ (whenM (cpyR hd R 60) jk z) ∧ ∃ hd2 : Nat → Nat, (∀ j, hd2 j ≤ 1999) ∧ isM Γ G2 mo R K kp rf ca rc hd2 fw tl by0 an vl iv ∧ fr G G2 mo (mo + 13)))) 0 0 (wA Γ n) := by
  refine Met.ofW (cc := cX12_when) (maxL := 3) (ret := (some .int)) (by decide) rfl ?_
  intro p e s m args below meth c s₁ B hml hv
  obtain ⟨rfl, hw⟩ := hv
  have hx := B.exec
  have hb := B.bytes
  have hr := B.returns
  have hts := atoms_spec (ws := wsX12_when) B.pre
  have hown : s.vm.findClass RX12 = some m.cls := findClass_of_methodNamed B.named
  have hlocks := B.notSynchronized
  have hS : va_S (wA Γ n) s.heap s.heap [] := va_S.rf
  have hA : ∀ q, wA Γ n q → wA Γ n q := fun _ h => h
  have hl := lv_entry ([.ref (ad Γ (mo + 0)), .int k]) (n := 3) (Nat.le_of_ble_eq_true rfl)
  rw [lg_entry_eq]
  generalize (lg_sl ([.ref (ad Γ (mo + 0)), .int k]) ++ List.replicate (3 - (lg_sl ([.ref (ad Γ (mo + 0)), .int k])).length) Slot.unset).toArray = ls at hl ⊢
  have hl : lv_has ls 3 [(0, .ref (ad Γ (mo + 0))), (1, .int k)] := hl
  have hfr := fr_rf G mo (mo + 13)
  have hB := hI.1
  have hB0 := hI.2.1
  have hB1 := hI.2.2.1
  have hB20 := hI.2.2.2.2.2.2.2.2.2
  have hBz2 := hI.2.2.2.1
  have hBz3 := hI.2.2.2.2.1
  have hBz4 := hI.2.2.2.2.2.1
  have hBz5 := hI.2.2.2.2.2.2.1
  have hby := hI.2.2.2.2.2.2.2.1
  have hto := hI.2.2.2.2.2.2.2.2.1
  have hX := aI_cpy hI hhd
  have hX21 : cpyR hd R 60 21 = R 21 := cpyR_at (by decide)
  refine lv_aload_n hx hb dX12_when_0 rfl (lv_at hl 0 rfl) ?_
  refine lv_iload_n hx hb dX12_when_1 rfl (lv_at hl 1 rfl) ?_
  refine nr_goB (P := ∃ j, j < R 1 ∧ k = nI j) (nr_runV (As := [.int k]) (C := RX12) (T := TX12) (N := 19) ⟨hx, hb, hml, hown, hts⟩ hw (by omega) (isM_0 hM) rfl (c_X12_isWrong l Γ n G mo R K kp rf ca rc hd fw tl by0 an vl iv hM (by omega) hI k) (cwV 1 hts gX12_when_X12_isWrong rfl rfl rfl (by decide +kernel) ⟨Nat.le_of_ble_eq_true rfl, Nat.le_of_ble_eq_true rfl⟩) rfl hl.1 rfl (Nat.le_of_ble_eq_true rfl) dX12_when_2 ⟨Nat.zero_le _, Nat.zero_le _⟩) (fun b1 => ?_) (fun b1 => ?_)
  · obtain ⟨jk, hjk, rfl⟩ := b1
    refine nr_if_ne (tgt := 15) hx hb (by decide) dX12_when_5 (by decide) (fun c2 => ?_) (fun c2 => absurd c2 (by decide))
    refine lv_aload_n hx hb dX12_when_15 rfl (lv_at hl 0 rfl) ?_
    refine nr_goV (nr_runV (As := []) (C := RX12) (T := TX12) (N := 19) ⟨hx, hb, hml, hown, hts⟩ hw (by omega) (isM_0 hM) rfl (c_X12_layHand l Γ n G mo R K kp rf ca rc hd fw tl by0 an vl iv hM (by omega) hI hj) (cwV 0 hts gX12_when_X12_layHand rfl rfl rfl (by decide +kernel) ⟨Nat.le_of_ble_eq_true rfl, Nat.le_of_ble_eq_true rfl⟩) rfl hl.1 rfl (Nat.le_of_ble_eq_true rfl) dX12_when_16 ⟨Nat.zero_le _, Nat.zero_le _⟩) hw hA hS (fun G3 H locs hp hw hS => ?_)
    obtain ⟨hM, hfr3⟩ := hp
    have hfr := fr_tr hfr hfr3 (Nat.le_refl _) (Nat.le_refl _)
    refine lv_iconst (v := nI 0) hx hb dX12_when_19 (by decide) ?_
    refine lv_istore_n (lv' := [(2, .int (nI 0)), (0, .ref (ad Γ (mo + 0))), (1, .int (nI jk))]) hx hb dX12_when_20 rfl hl (by decide) rfl (fun ls hl => ?_)
    refine nr_lpI (σ := (Nat → va_E) × Nat × (Nat → Nat)) 21 (fun x => x.1) (fun x lv => lv = [(0, .ref (ad Γ (mo + 0))), (1, .int (nI jk)), (2, .int (nI x.2.1))] ∧ isM Γ x.1 mo R K kp rf ca rc x.2.2 fw tl by0 an vl iv ∧ fr G x.1 mo (mo + 13) ∧ (x.2.1 ≤ 61) ∧ (x.2.2 = itD (cpyR hd R 60) x.2.1) ∧ (∀ j, j < x.2.1 → ¬ canP (itD (cpyR hd R 60) j) jk)) (fun x => 61 - x.2.1) (G3, 0, cpyR hd R 60) hw hS (lv_sub hl [1, 2, 0] rfl) ⟨rfl, hM, hfr, by (try dsimp only); omega, rfl, by (try dsimp only); exact (fun j hj => absurd hj (Nat.not_lt_zero j))⟩ ?_
    intro x lv ls H locs hw hS hl hI ih21
    obtain ⟨Gl21, d, hdL21⟩ := x
    obtain ⟨rfl, hM, hfr, hdd, hh, hn⟩ := hI
    try dsimp only at hM hfr hdd hh hn hw hl ih21
    refine lv_iload_n hx hb dX12_when_21 rfl (lv_at hl 2 rfl) ?_
    refine lv_bipush (v := nI 60) hx hb dX12_when_22 (by decide) ?_
    refine nr_icmp_gt (tgt := 53) hx hb (by omega) (by decide) dX12_when_24 (by decide) (fun c4 => ?_) (fun c4 => ?_)
    · refine lv_iconst (v := (-1)) hx hb dX12_when_53 (by decide) ?_
      exact nr_retI hx hb hr hlocks hw hS (Or.inr (⟨jk, hjk, rfl, by first | exact Or.inl ⟨d, by omega, by rw [← hh]; assumption, hn, rfl⟩ | exact Or.inr ⟨fun j hj => hn j (by omega), rfl⟩, _, fun j => by rw [hh]; exact (aI_it hX d (by omega)).1 j, hM, hfr⟩)) dX12_when_54
    · refine lv_aload_n hx hb dX12_when_27 rfl (lv_at hl 0 rfl) ?_
      refine nr_get (own := RX12) (C := RX12) (T := TX12) (N := 19) (v := .ref (ad Γ (mo + 7))) hx hb hts hi_X12_when_X12 hown hw (by omega) (isM_0 hM) rfl 8 (by decide) wl_X12_when_1 rfl rfl dX12_when_28 ?_
      refine lv_iload_n hx hb dX12_when_31 rfl (lv_at hl 1 rfl) ?_
      refine nr_goB (P := canP hdL21 jk) (nr_runS (As := [.ref (ad Γ (mo + 7)), .int (nI jk)]) ⟨hx, hb, hml, hown, hts⟩ hw (c_X12_canOff l Γ n Gl21 (mo + 7) 60 hdL21 (isM_7 hM) (by omega) (by omega) (by omega) (by rw [hh]; exact aI_it hX d (by omega)) jk (by omega)) (va_cwS 2 hts gX12_when_X12_canOff rfl rfl rfl (by decide +kernel) ⟨Nat.le_of_ble_eq_true rfl, Nat.le_of_ble_eq_true rfl⟩) rfl hl.1 rfl (Nat.le_of_ble_eq_true rfl) dX12_when_32 ⟨Nat.zero_le _, Nat.zero_le _⟩) (fun b5 => ?_) (fun b5 => ?_)
      · refine nr_if_eq (tgt := 40) hx hb (by decide) dX12_when_35 (by decide) (fun c6 => absurd c6 (by decide)) (fun c6 => ?_)
        refine lv_iload_n hx hb dX12_when_38 rfl (lv_at hl 2 rfl) ?_
        exact nr_retI hx hb hr hlocks hw hS (Or.inr (⟨jk, hjk, rfl, by first | exact Or.inl ⟨d, by omega, by rw [← hh]; assumption, hn, rfl⟩ | exact Or.inr ⟨fun j hj => hn j (by omega), rfl⟩, _, fun j => by rw [hh]; exact (aI_it hX d (by omega)).1 j, hM, hfr⟩)) dX12_when_39
      · refine nr_if_eq (tgt := 40) hx hb (by decide) dX12_when_35 (by decide) (fun c7 => ?_) (fun c7 => absurd c7 (by decide))
        refine lv_aload_n hx hb dX12_when_40 rfl (lv_at hl 0 rfl) ?_
        refine nr_get (own := RX12) (C := RX12) (T := TX12) (N := 19) (v := .ref (ad Γ (mo + 7))) hx hb hts hi_X12_when_X12 hown hw (by omega) (isM_0 hM) rfl 8 (by decide) wl_X12_when_1 rfl rfl dX12_when_41 ?_
        refine nr_goV (nr_runS (As := [.ref (ad Γ (mo + 7))]) ⟨hx, hb, hml, hown, hts⟩ hw (c_X12_goDay l Γ n Gl21 (mo + 7) 60 hdL21 (isM_7 hM) (by omega) (by omega) (by omega) (by rw [hh]; exact aI_it hX d (by omega)) hj (by rw [hh, itD_21]; omega)) (va_cwS 1 hts gX12_when_X12_goDay rfl rfl rfl (by decide +kernel) ⟨Nat.le_of_ble_eq_true rfl, Nat.le_of_ble_eq_true rfl⟩) rfl hl.1 rfl (Nat.le_of_ble_eq_true rfl) dX12_when_44 ⟨Nat.zero_le _, Nat.zero_le _⟩) hw hA hS (fun G8 H locs hp hw hS => ?_)
        subst hp
        have hM := isM_s7 hM (dayR hdL21)
        have hfr := fr_up hfr (i := mo + 7) (by omega) (by omega) (na Γ 60 (dayR hdL21))
        generalize va_up Gl21 (mo + 7) (na Γ 60 (dayR hdL21)) = G9 at hw hM hfr
        refine nr_inc (d := 1) (k := 2) (lv' := [(2, .int (nI (d + 1))), (0, .ref (ad Γ (mo + 0))), (1, .int (nI jk))]) hx hb dX12_when_47 hl rfl (by decide) (by decide) rfl (fun ls hl => ?_)
        refine lv_goto (tgt := 21) hx hb dX12_when_50 (by decide) ?_
        exact ih21 (G9, d + 1, dayR hdL21) _ _ _ _ hw hS (lv_sub hl [1, 2, 0] rfl) ⟨rfl, hM, hfr, by (try dsimp only); omega, by (try dsimp only); rw [hh]; rfl, by (try dsimp only); exact (fun j hj => by
          rcases Nat.lt_or_eq_of_le (Nat.le_of_lt_succ hj) with q | q
          · exact hn j q
          · rw [q, ← hh]; assumption)⟩ (by (try dsimp only); omega)
  · refine nr_if_ne (tgt := 15) hx hb (by decide) dX12_when_5 (by decide) (fun c10 => absurd c10 (by decide)) (fun c10 => ?_)
    refine lv_aload_n hx hb dX12_when_8 rfl (lv_at hl 0 rfl) ?_
    refine lv_bipush (v := (-2)) hx hb dX12_when_9 (by decide) ?_
    refine nr_goI (nr_runV (As := [.int (-2)]) (C := RX12) (T := TX12) (N := 19) ⟨hx, hb, hml, hown, hts⟩ hw (by omega) (isM_0 hM) rfl (c_X12_bad l Γ n G mo R K kp rf ca rc hd fw tl by0 an vl iv hM (by omega) hI hj (-2)) (cwV 1 hts gX12_when_X12_bad rfl rfl rfl (by decide +kernel) ⟨Nat.le_of_ble_eq_true rfl, Nat.le_of_ble_eq_true rfl⟩) rfl hl.1 rfl (Nat.le_of_ble_eq_true rfl) dX12_when_11 ⟨Nat.zero_le _, Nat.zero_le _⟩) hw hA hS (fun z11 G11 H locs hp hw hS => ?_)
    obtain ⟨ha11, hM, hfr11⟩ := hp
    have hfr := fr_tr hfr hfr11 (Nat.le_refl _) (Nat.le_refl _)
    subst ha11
    exact nr_retI hx hb hr hlocks hw hS (Or.inl ⟨by assumption, rfl, hM, hfr⟩) dX12_when_14
set_option maxHeartbeats 4000000 in
set_option maxRecDepth 100000 in
theorem c_X12_eastersB (l : Launch) (Γ : Gam) (n : Nat) (G : Nat → va_E) (mo : Nat) (R K kp rf ca rc hd fw tl by0 an vl iv : Nat → Nat) (hM : isM Γ G mo R K kp rf ca rc hd fw tl by0 an vl iv) (hmo : mo + 13 ≤ n) (hI : vI R) (hj : winj Γ n) (sd q : Int32) (h21 : R 21 ≤ 999) (hhd : ∀ j, hd j ≤ 1999)  : Met l yX12_easters wsX12_easters ({ frames := 3, cells := 0, slots := 0, locals := 66 }) (va_Pc [.ref (ad Γ (mo + 0)), .int sd, .int q] (fun U => hw Γ n G U U.heap)) (wQi Γ n (fun z G2 => ((¬ (vRng 0 999999 sd ∧ vRng 0 60 q)) ∧ (z = -2) ∧ isM Γ G2 mo R K kp (bmp rf 0) ca rc hd fw tl by0 an vl iv ∧ fr G G2 mo (mo + 13)) ∨ (∃ js jq : Nat, (js ≤ 999999) ∧ (sd = nI js) ∧ (jq ≤ 60) ∧ (q = nI jq) ∧ (z = nI (pc8 (eaH (cpyR hd R 60) js jq 20))) ∧ ∃ hd2 : Nat → Nat, (∀ j, hd2 j ≤ 1999) ∧ isM Γ G2 mo R K kp rf ca rc hd2 fw tl by0 an vl iv ∧ fr G G2 mo (mo + 13)))) 0 0 (wA Γ n) := by
  refine Met.ofW (cc := cX12_easters) (maxL := 7) (ret := (some .int)) (by decide) rfl ?_
  intro p e s m args below meth c s₁ B hml hv
  obtain ⟨rfl, hw⟩ := hv
  have hx := B.exec
  have hb := B.bytes
  have hr := B.returns
  have hts := atoms_spec (ws := wsX12_easters) B.pre
  have hown : s.vm.findClass RX12 = some m.cls := findClass_of_methodNamed B.named
  have hlocks := B.notSynchronized
  have hS : va_S (wA Γ n) s.heap s.heap [] := va_S.rf
  have hA : ∀ q, wA Γ n q → wA Γ n q := fun _ h => h
  have hl := lv_entry ([.ref (ad Γ (mo + 0)), .int sd, .int q]) (n := 7) (Nat.le_of_ble_eq_true rfl)
  rw [lg_entry_eq]
  generalize (lg_sl ([.ref (ad Γ (mo + 0)), .int sd, .int q]) ++ List.replicate (7 - (lg_sl ([.ref (ad Γ (mo + 0)), .int sd, .int q])).length) Slot.unset).toArray = ls at hl ⊢
  have hl : lv_has ls 7 [(0, .ref (ad Γ (mo + 0))), (1, .int sd), (2, .int q)] := hl
  have hfr := fr_rf G mo (mo + 13)
  have hB := hI.1
  have hB0 := hI.2.1
  have hB1 := hI.2.2.1
  have hB20 := hI.2.2.2.2.2.2.2.2.2
  have hBz2 := hI.2.2.2.1
  have hBz3 := hI.2.2.2.2.1
  have hBz4 := hI.2.2.2.2.2.1
  have hBz5 := hI.2.2.2.2.2.2.1
  have hby := hI.2.2.2.2.2.2.2.1
  have hto := hI.2.2.2.2.2.2.2.2.1
  have hX := aI_cpy hI hhd
  have hX21 : cpyR hd R 60 21 = R 21 := cpyR_at (by decide)
  have hX1 : cpyR hd R 60 1 = R 1 := cpyR_at (by decide)
  refine lv_iload_n hx hb dX12_easters_0 rfl (lv_at hl 1 rfl) ?_
  refine lv_i2l (v := (sd).toInt64) hx hb dX12_easters_1 rfl ?_
  refine lv_lconst (v := lN 0) hx hb dX12_easters_2 rfl ?_
  refine nr_ldc2 (k := 999999) hx hb hown (hts _ wl_X12_easters_1) (by decide) dX12_easters_3 ?_
  refine nr_goB (P := (lN 0) ≤ ((sd).toInt64) ∧ ((sd).toInt64) ≤ (lN 999999)) (nr_runS (As := [.long ((sd).toInt64), .long (lN 0), .long (lN 999999)]) ⟨hx, hb, hml, hown, hts⟩ hw (c_X12_in l Γ n G ((sd).toInt64) (lN 0) (lN 999999)) (va_cwS 3 hts gX12_easters_X12_in rfl rfl rfl (by decide +kernel) ⟨Nat.le_of_ble_eq_true rfl, Nat.le_of_ble_eq_true rfl⟩) rfl hl.1 rfl (Nat.le_of_ble_eq_true rfl) dX12_easters_6 ⟨Nat.zero_le _, Nat.zero_le _⟩) (fun b1 => ?_) (fun b1 => ?_)
  · obtain ⟨js, hjsa, hjsb, rfl⟩ := (in_c (a := 0) (b := 999999) (by decide) (by decide)).mp b1
    refine nr_if_eq (tgt := 24) hx hb (by decide) dX12_easters_9 (by decide) (fun c2 => absurd c2 (by decide)) (fun c2 => ?_)
    refine lv_iload_n hx hb dX12_easters_12 rfl (lv_at hl 2 rfl) ?_
    refine lv_i2l (v := (q).toInt64) hx hb dX12_easters_13 rfl ?_
    refine lv_lconst (v := lN 0) hx hb dX12_easters_14 rfl ?_
    refine nr_ldc2 (k := 60) hx hb hown (hts _ wl_X12_easters_2) (by decide) dX12_easters_15 ?_
    refine nr_goB (P := (lN 0) ≤ ((q).toInt64) ∧ ((q).toInt64) ≤ (lN 60)) (nr_runS (As := [.long ((q).toInt64), .long (lN 0), .long (lN 60)]) ⟨hx, hb, hml, hown, hts⟩ hw (c_X12_in l Γ n G ((q).toInt64) (lN 0) (lN 60)) (va_cwS 3 hts gX12_easters_X12_in rfl rfl rfl (by decide +kernel) ⟨Nat.le_of_ble_eq_true rfl, Nat.le_of_ble_eq_true rfl⟩) rfl hl.1 rfl (Nat.le_of_ble_eq_true rfl) dX12_easters_18 ⟨Nat.zero_le _, Nat.zero_le _⟩) (fun b3 => ?_) (fun b3 => ?_)
    · obtain ⟨jq, hjqa, hjqb, rfl⟩ := (in_c (a := 0) (b := 60) (by decide) (by decide)).mp b3
      refine nr_if_ne (tgt := 31) hx hb (by decide) dX12_easters_21 (by decide) (fun c4 => ?_) (fun c4 => absurd c4 (by decide))
      refine lv_iload_n hx hb dX12_easters_31 rfl (lv_at hl 1 rfl) ?_
      refine lv_i2l (v := lN js) hx hb dX12_easters_32 (nI_l (by omega)) ?_
      refine lv_lstore_n (lv' := [(3, .long (lN js)), (0, .ref (ad Γ (mo + 0))), (1, .int (nI js)), (2, .int (nI jq))]) hx hb dX12_easters_33 rfl hl (by decide) rfl (fun ls hl => ?_)
      refine lv_aload_n hx hb dX12_easters_34 rfl (lv_at hl 1 rfl) ?_
      refine nr_goV (nr_runV (As := []) (C := RX12) (T := TX12) (N := 19) ⟨hx, hb, hml, hown, hts⟩ hw (by omega) (isM_0 hM) rfl (c_X12_layHand l Γ n G mo R K kp rf ca rc hd fw tl by0 an vl iv hM (by omega) hI hj) (cwV 0 hts gX12_easters_X12_layHand rfl rfl rfl (by decide +kernel) ⟨Nat.le_of_ble_eq_true rfl, Nat.le_of_ble_eq_true rfl⟩) rfl hl.1 rfl (Nat.le_of_ble_eq_true rfl) dX12_easters_35 ⟨Nat.zero_le _, Nat.zero_le _⟩) hw hA hS (fun G5 H locs hp hw hS => ?_)
      obtain ⟨hM, hfr5⟩ := hp
      have hfr := fr_tr hfr hfr5 (Nat.le_refl _) (Nat.le_refl _)
      refine lv_iconst (v := nI 0) hx hb dX12_easters_38 (by decide) ?_
      refine lv_istore (lv' := [(5, .int (nI 0)), (3, .long (lN js)), (0, .ref (ad Γ (mo + 0))), (1, .int (nI js)), (2, .int (nI jq))]) hx hb dX12_easters_39 hl (by decide) rfl (fun ls hl => ?_)
      refine nr_lpI (σ := (Nat → va_E) × Nat × Nat × (Nat → Nat)) 41 (fun x => x.1) (fun x lv => lv = [(0, .ref (ad Γ (mo + 0))), (1, .int (nI js)), (2, .int (nI jq)), (3, .long (lN x.2.2.1)), (5, .int (nI x.2.1))] ∧ isM Γ x.1 mo R K kp rf ca rc x.2.2.2 fw tl by0 an vl iv ∧ fr G x.1 mo (mo + 13) ∧ (x.2.1 ≤ jq) ∧ (x.2.2.1 = rngX js x.2.1) ∧ (x.2.2.2 = eaH (cpyR hd R 60) js x.2.1) ∧ (x.2.2.1 < 2147483648)) (fun x => jq - x.2.1) (G5, 0, js, cpyR hd R 60) hw hS (lv_sub hl [2, 3, 4, 1, 0] rfl) ⟨rfl, hM, hfr, by (try dsimp only); omega, rfl, rfl, by (try dsimp only); omega⟩ ?_
      intro x lv ls H locs hw hS hl hI ih41
      obtain ⟨Gl41, t, x, hdL41⟩ := x
      obtain ⟨rfl, hM, hfr, ht, hx9, hh, hxl0⟩ := hI
      try dsimp only at hM hfr ht hx9 hh hxl0 hw hl ih41
      refine lv_iload hx hb dX12_easters_41 (lv_at hl 4 rfl) ?_
      refine lv_iload_n hx hb dX12_easters_43 rfl (lv_at hl 2 rfl) ?_
      refine nr_icmp_ge (tgt := 117) hx hb (by omega) (by omega) dX12_easters_44 (by decide) (fun c6 => ?_) (fun c6 => ?_)
      · have hea := (aI_ea hX js t (by omega)).1.2.2.2.2.2
        rw [← hh] at hea
        refine lv_aload_n hx hb dX12_easters_117 rfl (lv_at hl 0 rfl) ?_
        refine nr_get (own := RX12) (C := RX12) (T := TX12) (N := 19) (v := .ref (ad Γ (mo + 7))) hx hb hts hi_X12_easters_X12 hown hw (by omega) (isM_0 hM) rfl 8 (by decide) wl_X12_easters_8 rfl rfl dX12_easters_118 ?_
        refine lv_bipush (v := nI 20) hx hb dX12_easters_121 (by decide) ?_
        refine nr_iald (x := (hdL41 20)) hx hb hw (by omega) (isM_7 hM) rfl (by omega) (by decide) dX12_easters_123 ?_
        refine nr_goS (nr_runS (As := [.int (nI (hdL41 20))]) ⟨hx, hb, hml, hown, hts⟩ hw (c_X12_bits l Γ n Gl41 (hdL41 20) (by omega)) (va_cwS 1 hts gX12_easters_X12_bits rfl rfl rfl (by decide +kernel) ⟨Nat.le_of_ble_eq_true rfl, Nat.le_of_ble_eq_true rfl⟩) rfl hl.1 rfl (Nat.le_of_ble_eq_true rfl) dX12_easters_124 ⟨Nat.zero_le _, Nat.zero_le _⟩) (fun r7 hr7 => ?_)
        obtain rfl : r7 = (nI (pc8 (hdL41 20))) := hr7
        exact nr_retI hx hb hr hlocks hw hS (Or.inr (⟨js, jq, hjsb, rfl, hjqb, rfl, by rw [hh, show t = jq by omega], _, fun j => by rw [hh]; exact (aI_ea hX js t (by omega)).1.1 j, hM, hfr⟩)) dX12_easters_127
      · refine lv_lload_n hx hb dX12_easters_47 rfl (lv_at hl 3 rfl) ?_
        refine nr_ldc2 (k := 1103515245) hx hb hown (hts _ wl_X12_easters_3) (by decide) dX12_easters_48 ?_
        refine nr_lmul hx hb dX12_easters_51 ?_
        refine nr_ldc2 (k := 12345) hx hb hown (hts _ wl_X12_easters_4) (by decide) dX12_easters_52 ?_
        refine nr_ladd hx hb dX12_easters_55 ?_
        refine nr_ldc2 (k := 2147483648) hx hb hown (hts _ wl_X12_easters_5) (by decide) dX12_easters_56 ?_
        refine nr_lrem hx hb (by omega) (by omega) (by omega) dX12_easters_59 ?_
        rw [show (x * 1103515245 + 12345) % 2147483648 = rngX js (t + 1) from (by rw [hx9]; rfl)]
        have hxl : rngX js (t + 1) < 2147483648 := rngX_lt hjsb (t + 1)
        refine lv_lstore_n (lv' := [(3, .long (lN (rngX js (t + 1)))), (0, .ref (ad Γ (mo + 0))), (1, .int (nI js)), (2, .int (nI jq)), (5, .int (nI t))]) hx hb dX12_easters_60 rfl hl (by decide) rfl (fun ls hl => ?_)
        refine lv_lload_n hx hb dX12_easters_61 rfl (lv_at hl 0 rfl) ?_
        refine nr_ldc2 (k := 65536) hx hb hown (hts _ wl_X12_easters_6) (by decide) dX12_easters_62 ?_
        refine nr_ldiv hx hb (by omega) (by omega) (by omega) dX12_easters_65 ?_
        refine nr_ldc2 (k := 8) hx hb hown (hts _ wl_X12_easters_7) (by decide) dX12_easters_66 ?_
        refine nr_lrem hx hb (by omega) (by omega) (by omega) dX12_easters_69 ?_
        refine lv_l2i (v := nI (((rngX js (t + 1)) / 65536) % 8)) hx hb dX12_easters_70 (lN_i _) ?_
        refine lv_istore (lv' := [(6, .int (nI (((rngX js (t + 1)) / 65536) % 8))), (3, .long (lN (rngX js (t + 1)))), (0, .ref (ad Γ (mo + 0))), (1, .int (nI js)), (2, .int (nI jq)), (5, .int (nI t))]) hx hb dX12_easters_71 hl (by decide) rfl (fun ls hl => ?_)
        refine lv_aload_n hx hb dX12_easters_73 rfl (lv_at hl 2 rfl) ?_
        refine lv_iload hx hb dX12_easters_74 (lv_at hl 0 rfl) ?_
        refine nr_goB (P := ∃ j, j < R 1 ∧ (nI (((rngX js (t + 1)) / 65536) % 8)) = nI j) (nr_runV (As := [.int (nI (((rngX js (t + 1)) / 65536) % 8))]) (C := RX12) (T := TX12) (N := 19) ⟨hx, hb, hml, hown, hts⟩ hw (by omega) (isM_0 hM) rfl (c_X12_isWrong l Γ n Gl41 mo R K kp rf ca rc hdL41 fw tl by0 an vl iv hM (by omega) hI (nI (((rngX js (t + 1)) / 65536) % 8))) (cwV 1 hts gX12_easters_X12_isWrong rfl rfl rfl (by decide +kernel) ⟨Nat.le_of_ble_eq_true rfl, Nat.le_of_ble_eq_true rfl⟩) rfl hl.1 rfl (Nat.le_of_ble_eq_true rfl) dX12_easters_76 ⟨Nat.zero_le _, Nat.zero_le _⟩) (fun b8 => ?_) (fun b8 => ?_)
        · have hkx : rngX js (t + 1) / 65536 % 8 < R 1 := by obtain ⟨j, hj, e9⟩ := b8; rw [show rngX js (t + 1) / 65536 % 8 = j from (nI_eq (by omega) (by omega)).mp e9]; exact hj
          refine nr_if_eq (tgt := 104) hx hb (by decide) dX12_easters_79 (by decide) (fun c9 => absurd c9 (by decide)) (fun c9 => ?_)
          refine lv_aload_n hx hb dX12_easters_82 rfl (lv_at hl 2 rfl) ?_
          refine nr_get (own := RX12) (C := RX12) (T := TX12) (N := 19) (v := .ref (ad Γ (mo + 7))) hx hb hts hi_X12_easters_X12 hown hw (by omega) (isM_0 hM) rfl 8 (by decide) wl_X12_easters_8 rfl rfl dX12_easters_83 ?_
          refine lv_iload hx hb dX12_easters_86 (lv_at hl 0 rfl) ?_
          refine nr_goB (P := canP hdL41 (((rngX js (t + 1)) / 65536) % 8)) (nr_runS (As := [.ref (ad Γ (mo + 7)), .int (nI (((rngX js (t + 1)) / 65536) % 8))]) ⟨hx, hb, hml, hown, hts⟩ hw (c_X12_canOff l Γ n Gl41 (mo + 7) 60 hdL41 (isM_7 hM) (by omega) (by omega) (by omega) (by rw [hh]; exact (aI_ea hX js t (by omega)).1) (((rngX js (t + 1)) / 65536) % 8) (by omega)) (va_cwS 2 hts gX12_easters_X12_canOff rfl rfl rfl (by decide +kernel) ⟨Nat.le_of_ble_eq_true rfl, Nat.le_of_ble_eq_true rfl⟩) rfl hl.1 rfl (Nat.le_of_ble_eq_true rfl) dX12_easters_88 ⟨Nat.zero_le _, Nat.zero_le _⟩) (fun b10 => ?_) (fun b10 => ?_)
          · refine nr_if_eq (tgt := 104) hx hb (by decide) dX12_easters_91 (by decide) (fun c11 => absurd c11 (by decide)) (fun c11 => ?_)
            refine lv_aload_n hx hb dX12_easters_94 rfl (lv_at hl 2 rfl) ?_
            refine nr_get (own := RX12) (C := RX12) (T := TX12) (N := 19) (v := .ref (ad Γ (mo + 7))) hx hb hts hi_X12_easters_X12 hown hw (by omega) (isM_0 hM) rfl 8 (by decide) wl_X12_easters_8 rfl rfl dX12_easters_95 ?_
            refine lv_iload hx hb dX12_easters_98 (lv_at hl 0 rfl) ?_
            refine lv_iconst (v := nI 1) hx hb dX12_easters_100 (by decide) ?_
            refine nr_goV (nr_runS (As := [.ref (ad Γ (mo + 7)), .int (nI (((rngX js (t + 1)) / 65536) % 8)), .int (nI 1)]) ⟨hx, hb, hml, hown, hts⟩ hw (c_X12_goOff l Γ n Gl41 (mo + 7) 60 hdL41 (isM_7 hM) (by omega) (by omega) (by omega) (by rw [hh]; exact (aI_ea hX js t (by omega)).1) hj (((rngX js (t + 1)) / 65536) % 8) 1 (by omega) (by omega)) (va_cwS 3 hts gX12_easters_X12_goOff rfl rfl rfl (by decide +kernel) ⟨Nat.le_of_ble_eq_true rfl, Nat.le_of_ble_eq_true rfl⟩) rfl hl.1 rfl (Nat.le_of_ble_eq_true rfl) dX12_easters_101 ⟨Nat.zero_le _, Nat.zero_le _⟩) hw hA hS (fun G12 H locs hp hw hS => ?_)
            subst hp
            have hM := isM_s7 hM (offR hdL41 (((rngX js (t + 1)) / 65536) % 8) 1)
            have hfr := fr_up hfr (i := mo + 7) (by omega) (by omega) (na Γ 60 (offR hdL41 (((rngX js (t + 1)) / 65536) % 8) 1))
            generalize va_up Gl41 (mo + 7) (na Γ 60 (offR hdL41 (((rngX js (t + 1)) / 65536) % 8) 1)) = G13 at hw hM hfr
            refine lv_aload_n hx hb dX12_easters_104 rfl (lv_at hl 2 rfl) ?_
            refine nr_get (own := RX12) (C := RX12) (T := TX12) (N := 19) (v := .ref (ad Γ (mo + 7))) hx hb hts hi_X12_easters_X12 hown hw (by omega) (isM_0 hM) rfl 8 (by decide) wl_X12_easters_8 rfl rfl dX12_easters_105 ?_
            refine nr_goV (nr_runS (As := [.ref (ad Γ (mo + 7))]) ⟨hx, hb, hml, hown, hts⟩ hw (c_X12_goDay l Γ n G13 (mo + 7) 60 (offR hdL41 (((rngX js (t + 1)) / 65536) % 8) 1) (isM_7 hM) (by omega) (by omega) (by omega) (aI_off (by rw [hh]; exact (aI_ea hX js t (by omega)).1) (by omega)) hj (by first | (rw [hh, (aI_ea hX js t (by omega)).2]; omega) | (rw [hh, offR_21 ((aI_ea hX js t (by omega)).1.2.2.2.1 _ (by omega)), (aI_ea hX js t (by omega)).2]; omega))) (va_cwS 1 hts gX12_easters_X12_goDay rfl rfl rfl (by decide +kernel) ⟨Nat.le_of_ble_eq_true rfl, Nat.le_of_ble_eq_true rfl⟩) rfl hl.1 rfl (Nat.le_of_ble_eq_true rfl) dX12_easters_108 ⟨Nat.zero_le _, Nat.zero_le _⟩) hw hA hS (fun G14 H locs hp hw hS => ?_)
            subst hp
            have hM := isM_s7 hM (dayR (offR hdL41 (((rngX js (t + 1)) / 65536) % 8) 1))
            have hfr := fr_up hfr (i := mo + 7) (by omega) (by omega) (na Γ 60 (dayR (offR hdL41 (((rngX js (t + 1)) / 65536) % 8) 1)))
            generalize va_up G13 (mo + 7) (na Γ 60 (dayR (offR hdL41 (((rngX js (t + 1)) / 65536) % 8) 1))) = G15 at hw hM hfr
            refine nr_inc (d := 1) (k := 5) (lv' := [(5, .int (nI (t + 1))), (6, .int (nI (((rngX js (t + 1)) / 65536) % 8))), (3, .long (lN (rngX js (t + 1)))), (0, .ref (ad Γ (mo + 0))), (1, .int (nI js)), (2, .int (nI jq))]) hx hb dX12_easters_111 hl rfl (by decide) (by decide) rfl (fun ls hl => ?_)
            refine lv_goto (tgt := 41) hx hb dX12_easters_114 (by decide) ?_
            exact ih41 (G15, t + 1, rngX js (t + 1), dayR (offR hdL41 (((rngX js (t + 1)) / 65536) % 8) 1)) _ _ _ _ hw hS (lv_sub hl [3, 4, 5, 2, 0] rfl) ⟨rfl, hM, hfr, by (try dsimp only); omega, rfl, by (try dsimp only); rw [hh]; simp only [eaH]; rw [hX1]; first | rw [if_pos ⟨by assumption, by rw [← hh]; assumption⟩] | (rw [if_neg]; intro hh9; first | exact absurd hh9.1 (by assumption) | exact absurd hh9.2 (by rw [← hh]; assumption)), by (try dsimp only); exact (hxl)⟩ (by (try dsimp only); omega)
          · refine nr_if_eq (tgt := 104) hx hb (by decide) dX12_easters_91 (by decide) (fun c16 => ?_) (fun c16 => absurd c16 (by decide))
            refine lv_aload_n hx hb dX12_easters_104 rfl (lv_at hl 2 rfl) ?_
            refine nr_get (own := RX12) (C := RX12) (T := TX12) (N := 19) (v := .ref (ad Γ (mo + 7))) hx hb hts hi_X12_easters_X12 hown hw (by omega) (isM_0 hM) rfl 8 (by decide) wl_X12_easters_8 rfl rfl dX12_easters_105 ?_
            refine nr_goV (nr_runS (As := [.ref (ad Γ (mo + 7))]) ⟨hx, hb, hml, hown, hts⟩ hw (c_X12_goDay l Γ n Gl41 (mo + 7) 60 hdL41 (isM_7 hM) (by omega) (by omega) (by omega) (by rw [hh]; exact (aI_ea hX js t (by omega)).1) hj (by first | (rw [hh, (aI_ea hX js t (by omega)).2]; omega) | (rw [hh, offR_21 ((aI_ea hX js t (by omega)).1.2.2.2.1 _ (by omega)), (aI_ea hX js t (by omega)).2]; omega))) (va_cwS 1 hts gX12_easters_X12_goDay rfl rfl rfl (by decide +kernel) ⟨Nat.le_of_ble_eq_true rfl, Nat.le_of_ble_eq_true rfl⟩) rfl hl.1 rfl (Nat.le_of_ble_eq_true rfl) dX12_easters_108 ⟨Nat.zero_le _, Nat.zero_le _⟩) hw hA hS (fun G17 H locs hp hw hS => ?_)
            subst hp
            have hM := isM_s7 hM (dayR hdL41)
            have hfr := fr_up hfr (i := mo + 7) (by omega) (by omega) (na Γ 60 (dayR hdL41))
            generalize va_up Gl41 (mo + 7) (na Γ 60 (dayR hdL41)) = G18 at hw hM hfr
            refine nr_inc (d := 1) (k := 5) (lv' := [(5, .int (nI (t + 1))), (6, .int (nI (((rngX js (t + 1)) / 65536) % 8))), (3, .long (lN (rngX js (t + 1)))), (0, .ref (ad Γ (mo + 0))), (1, .int (nI js)), (2, .int (nI jq))]) hx hb dX12_easters_111 hl rfl (by decide) (by decide) rfl (fun ls hl => ?_)
            refine lv_goto (tgt := 41) hx hb dX12_easters_114 (by decide) ?_
            exact ih41 (G18, t + 1, rngX js (t + 1), dayR hdL41) _ _ _ _ hw hS (lv_sub hl [3, 4, 5, 2, 0] rfl) ⟨rfl, hM, hfr, by (try dsimp only); omega, rfl, by (try dsimp only); rw [hh]; simp only [eaH]; rw [hX1]; first | rw [if_pos ⟨by assumption, by rw [← hh]; assumption⟩] | (rw [if_neg]; intro hh9; first | exact absurd hh9.1 (by assumption) | exact absurd hh9.2 (by rw [← hh]; assumption)), by (try dsimp only); exact (hxl)⟩ (by (try dsimp only); omega)
        · have hkx : ¬ rngX js (t + 1) / 65536 % 8 < R 1 := fun hh9 => b8 ⟨_, hh9, rfl⟩
          refine nr_if_eq (tgt := 104) hx hb (by decide) dX12_easters_79 (by decide) (fun c19 => ?_) (fun c19 => absurd c19 (by decide))
          refine lv_aload_n hx hb dX12_easters_104 rfl (lv_at hl 2 rfl) ?_
          refine nr_get (own := RX12) (C := RX12) (T := TX12) (N := 19) (v := .ref (ad Γ (mo + 7))) hx hb hts hi_X12_easters_X12 hown hw (by omega) (isM_0 hM) rfl 8 (by decide) wl_X12_easters_8 rfl rfl dX12_easters_105 ?_
          refine nr_goV (nr_runS (As := [.ref (ad Γ (mo + 7))]) ⟨hx, hb, hml, hown, hts⟩ hw (c_X12_goDay l Γ n Gl41 (mo + 7) 60 hdL41 (isM_7 hM) (by omega) (by omega) (by omega) (by rw [hh]; exact (aI_ea hX js t (by omega)).1) hj (by first | (rw [hh, (aI_ea hX js t (by omega)).2]; omega) | (rw [hh, offR_21 ((aI_ea hX js t (by omega)).1.2.2.2.1 _ (by omega)), (aI_ea hX js t (by omega)).2]; omega))) (va_cwS 1 hts gX12_easters_X12_goDay rfl rfl rfl (by decide +kernel) ⟨Nat.le_of_ble_eq_true rfl, Nat.le_of_ble_eq_true rfl⟩) rfl hl.1 rfl (Nat.le_of_ble_eq_true rfl) dX12_easters_108 ⟨Nat.zero_le _, Nat.zero_le _⟩) hw hA hS (fun G20 H locs hp hw hS => ?_)
          subst hp
          have hM := isM_s7 hM (dayR hdL41)
          have hfr := fr_up hfr (i := mo + 7) (by omega) (by omega) (na Γ 60 (dayR hdL41))
          generalize va_up Gl41 (mo + 7) (na Γ 60 (dayR hdL41)) = G21 at hw hM hfr
          refine nr_inc (d := 1) (k := 5) (lv' := [(5, .int (nI (t + 1))), (6, .int (nI (((rngX js (t + 1)) / 65536) % 8))), (3, .long (lN (rngX js (t + 1)))), (0, .ref (ad Γ (mo + 0))), (1, .int (nI js)), (2, .int (nI jq))]) hx hb dX12_easters_111 hl rfl (by decide) (by decide) rfl (fun ls hl => ?_)
          refine lv_goto (tgt := 41) hx hb dX12_easters_114 (by decide) ?_
          exact ih41 (G21, t + 1, rngX js (t + 1), dayR hdL41) _ _ _ _ hw hS (lv_sub hl [3, 4, 5, 2, 0] rfl) ⟨rfl, hM, hfr, by (try dsimp only); omega, rfl, by (try dsimp only); rw [hh]; simp only [eaH]; rw [hX1]; first | rw [if_pos ⟨by assumption, by rw [← hh]; assumption⟩] | (rw [if_neg]; intro hh9; first | exact absurd hh9.1 (by assumption) | exact absurd hh9.2 (by rw [← hh]; assumption)), by (try dsimp only); exact (hxl)⟩ (by (try dsimp only); omega)
    · have b3n : ¬ vRng 0 60 q := fun hh => b3 ((in_c (by decide) (by decide)).mpr hh)
      refine nr_if_ne (tgt := 31) hx hb (by decide) dX12_easters_21 (by decide) (fun c22 => absurd c22 (by decide)) (fun c22 => ?_)
      refine lv_aload_n hx hb dX12_easters_24 rfl (lv_at hl 0 rfl) ?_
      refine lv_bipush (v := (-2)) hx hb dX12_easters_25 (by decide) ?_
      refine nr_goI (nr_runV (As := [.int (-2)]) (C := RX12) (T := TX12) (N := 19) ⟨hx, hb, hml, hown, hts⟩ hw (by omega) (isM_0 hM) rfl (c_X12_bad l Γ n G mo R K kp rf ca rc hd fw tl by0 an vl iv hM (by omega) hI hj (-2)) (cwV 1 hts gX12_easters_X12_bad rfl rfl rfl (by decide +kernel) ⟨Nat.le_of_ble_eq_true rfl, Nat.le_of_ble_eq_true rfl⟩) rfl hl.1 rfl (Nat.le_of_ble_eq_true rfl) dX12_easters_27 ⟨Nat.zero_le _, Nat.zero_le _⟩) hw hA hS (fun z23 G23 H locs hp hw hS => ?_)
      obtain ⟨ha23, hM, hfr23⟩ := hp
      have hfr := fr_tr hfr hfr23 (Nat.le_refl _) (Nat.le_refl _)
      subst ha23
      exact nr_retI hx hb hr hlocks hw hS (Or.inl ⟨by intro hh; first | contradiction | (obtain ⟨hq1, hq2⟩ := hh; first | contradiction | (obtain ⟨hq2, hq3⟩ := hq2; first | contradiction | (obtain ⟨hq3, hq4⟩ := hq3; first | contradiction | (obtain ⟨hq4, hq5⟩ := hq4; first | contradiction | (exact hq4 (congrArg nI (by assumption))))))), rfl, hM, hfr⟩) dX12_easters_30
  · have b1n : ¬ vRng 0 999999 sd := fun hh => b1 ((in_c (by decide) (by decide)).mpr hh)
    refine nr_if_eq (tgt := 24) hx hb (by decide) dX12_easters_9 (by decide) (fun c24 => ?_) (fun c24 => absurd c24 (by decide))
    refine lv_aload_n hx hb dX12_easters_24 rfl (lv_at hl 0 rfl) ?_
    refine lv_bipush (v := (-2)) hx hb dX12_easters_25 (by decide) ?_
    refine nr_goI (nr_runV (As := [.int (-2)]) (C := RX12) (T := TX12) (N := 19) ⟨hx, hb, hml, hown, hts⟩ hw (by omega) (isM_0 hM) rfl (c_X12_bad l Γ n G mo R K kp rf ca rc hd fw tl by0 an vl iv hM (by omega) hI hj (-2)) (cwV 1 hts gX12_easters_X12_bad rfl rfl rfl (by decide +kernel) ⟨Nat.le_of_ble_eq_true rfl, Nat.le_of_ble_eq_true rfl⟩) rfl hl.1 rfl (Nat.le_of_ble_eq_true rfl) dX12_easters_27 ⟨Nat.zero_le _, Nat.zero_le _⟩) hw hA hS (fun z25 G25 H locs hp hw hS => ?_)
    obtain ⟨ha25, hM, hfr25⟩ := hp
    have hfr := fr_tr hfr hfr25 (Nat.le_refl _) (Nat.le_refl _)
    subst ha25
    exact nr_retI hx hb hr hlocks hw hS (Or.inl ⟨by intro hh; first | contradiction | (obtain ⟨hq1, hq2⟩ := hh; first | contradiction | (obtain ⟨hq2, hq3⟩ := hq2; first | contradiction | (obtain ⟨hq3, hq4⟩ := hq3; first | contradiction | (obtain ⟨hq4, hq5⟩ := hq4; first | contradiction | (exact hq4 (congrArg nI (by assumption))))))), rfl, hM, hfr⟩) dX12_easters_30
