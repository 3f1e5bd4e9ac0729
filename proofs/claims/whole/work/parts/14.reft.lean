theorem wl_X12_easters_1 : Cond.constantLong RX12 207 (999999) ∈ wsX12_easters := List.mem_of_getElem? (i := 1) rfl
theorem wl_X12_easters_2 : Cond.constantLong RX12 109 (60) ∈ wsX12_easters := List.mem_of_getElem? (i := 2) rfl
theorem wl_X12_easters_3 : Cond.constantLong RX12 209 (1103515245) ∈ wsX12_easters := List.mem_of_getElem? (i := 3) rfl
theorem wl_X12_easters_4 : Cond.constantLong RX12 211 (12345) ∈ wsX12_easters := List.mem_of_getElem? (i := 4) rfl
theorem wl_X12_easters_5 : Cond.constantLong RX12 213 (2147483648) ∈ wsX12_easters := List.mem_of_getElem? (i := 5) rfl
theorem wl_X12_easters_6 : Cond.constantLong RX12 215 (65536) ∈ wsX12_easters := List.mem_of_getElem? (i := 6) rfl
theorem wl_X12_easters_7 : Cond.constantLong RX12 217 (8) ∈ wsX12_easters := List.mem_of_getElem? (i := 7) rfl
theorem wl_X12_easters_8 : Cond.fieldLink RX12 33 "BellForgivenModel" "hand" "[I" ∈ wsX12_easters := List.mem_of_getElem? (i := 8) rfl
theorem hi_X12_easters_X12 : ∀ w ∈ u_ws RX12 TX12 19, w ∈ wsX12_easters := fun w h => (List.mem_cons_of_mem _ (List.mem_append_right _ h))
set_option maxHeartbeats 4000000 in
set_option maxRecDepth 100000 in
theorem c_X12_easters (l : Launch) (Γ : Gam) (n : Nat) (G : Nat → va_E) (mo : Nat) (R K kp rf ca rc hd fw tl by0 an vl iv : Nat → Nat) (hM : isM Γ G mo R K kp rf ca rc hd fw tl by0 an vl iv) (hmo : mo + 13 ≤ n) (hI : vI R) (hj : winj Γ n) (sd q : Int32) (h21 : R 21 ≤ 999) (hhd : ∀ j, hd j ≤ 1999)  : Met l yX12_easters wsX12_easters ({ frames := 3, cells := 0, slots := 0, locals := 66 }) (va_Pc [.ref (ad Γ (mo + 0)), .int sd, .int q] (fun U => hw Γ n G U U.heap)) (wQi Γ n (fun z G2 => ((¬ (vRng 0 999999 sd ∧ vRng 0 60 q)) ∧ (z = -2) ∧ isM Γ G2 mo R K kp (bmp rf 0) ca rc hd fw tl by0 an vl iv ∧ fr G G2 mo (mo + 13)) ∨ (∃ js jq : Nat, (js ≤ 999999) ∧ (sd = nI js) ∧ (jq ≤ 60) ∧ (q = nI jq) ∧ (z = nI (pc8 (eaH (cpyR hd R 60) js jq 20))) ∧ ∃ hd2 : Nat → Nat, isM Γ G2 mo R K kp rf ca rc hd2 fw tl by0 an vl iv ∧ fr G G2 mo (mo + 13)))) 0 0 (wA Γ n) := by
  refine Met.ofW (cc := cX12_easters) (maxL := 7) (ret := (some .int)) (by decide) rfl ?_
  intro p e s m args below meth c s₁ B hml hv
  obtain ⟨rfl, hw⟩ := hv
  have hx := B.exec
  have hb := B.bytes
  have hr := B.returns
  have hts := atoms_spec (ws := wsX12_easters) B.pre
  have hown : s.vm.findClass RX12 = some m.cls := findClass_of_methodNamed B.named
  have hlocks := B.notSynchronized
  have hS : va_S (wA Γ n) s.heap s.heap [] := va_S.rf
  have hA : ∀ q, wA Γ n q → wA Γ n q := fun _ h => h
  have hl := lv_entry ([.ref (ad Γ (mo + 0)), .int sd, .int q]) (n := 7) (Nat.le_of_ble_eq_true rfl)
  rw [lg_entry_eq]
  generalize (lg_sl ([.ref (ad Γ (mo + 0)), .int sd, .int q]) ++ List.replicate (7 - (lg_sl ([.ref (ad Γ (mo + 0)), .int sd, .int q])).length) Slot.unset).toArray = ls at hl ⊢
  have hl : lv_has ls 7 [(0, .ref (ad Γ (mo + 0))), (1, .int sd), (2, .int q)] := hl
  have hfr := fr_rf G mo (mo + 13)
  have hB := hI.1
  have hB0 := hI.2.1
  have hB1 := hI.2.2.1
  have hB20 := hI.2.2.2.2.2.2.2.2.2
  have hBz2 := hI.2.2.2.1
  have hBz3 := hI.2.2.2.2.1
  have hBz4 := hI.2.2.2.2.2.1
  have hBz5 := hI.2.2.2.2.2.2.1
  have hby := hI.2.2.2.2.2.2.2.1
  have hto := hI.2.2.2.2.2.2.2.2.1
  have hX := aI_cpy hI hhd
  have hX21 : cpyR hd R 60 21 = R 21 := cpyR_at (by decide)
  have hX1 : cpyR hd R 60 1 = R 1 := cpyR_at (by decide)
  refine lv_iload_n hx hb dX12_easters_0 rfl (lv_at hl 1 rfl) ?_
  refine lv_i2l (v := (sd).toInt64) hx hb dX12_easters_1 rfl ?_
  refine lv_lconst (v := lN 0) hx hb dX12_easters_2 rfl ?_
  refine nr_ldc2 (k := 999999) hx hb hown (hts _ wl_X12_easters_1) (by decide) dX12_easters_3 ?_
  refine nr_goB (P := (lN 0) ≤ ((sd).toInt64) ∧ ((sd).toInt64) ≤ (lN 999999)) (nr_runS (As := [.long ((sd).toInt64), .long (lN 0), .long (lN 999999)]) ⟨hx, hb, hml, hown, hts⟩ hw (c_X12_in l Γ n G ((sd).toInt64) (lN 0) (lN 999999)) (va_cwS 3 hts gX12_easters_X12_in rfl rfl rfl (by decide +kernel) ⟨Nat.le_of_ble_eq_true rfl, Nat.le_of_ble_eq_true rfl⟩) rfl hl.1 rfl (Nat.le_of_ble_eq_true rfl) dX12_easters_6 ⟨Nat.zero_le _, Nat.zero_le _⟩) (fun b1 => ?_) (fun b1 => ?_)
  · obtain ⟨js, hjsa, hjsb, rfl⟩ := (in_c (a := 0) (b := 999999) (by decide) (by decide)).mp b1
    refine nr_if_eq (tgt := 24) hx hb (by decide) dX12_easters_9 (by decide) (fun c2 => absurd c2 (by decide)) (fun c2 => ?_)
    refine lv_iload_n hx hb dX12_easters_12 rfl (lv_at hl 2 rfl) ?_
    refine lv_i2l (v := (q).toInt64) hx hb dX12_easters_13 rfl ?_
    refine lv_lconst (v := lN 0) hx hb dX12_easters_14 rfl ?_
    refine nr_ldc2 (k := 60) hx hb hown (hts _ wl_X12_easters_2) (by decide) dX12_easters_15 ?_
    refine nr_goB (P := (lN 0) ≤ ((q).toInt64) ∧ ((q).toInt64) ≤ (lN 60)) (nr_runS (As := [.long ((q).toInt64), .long (lN 0), .long (lN 60)]) ⟨hx, hb, hml, hown, hts⟩ hw (c_X12_in l Γ n G ((q).toInt64) (lN 0) (lN 60)) (va_cwS 3 hts gX12_easters_X12_in rfl rfl rfl (by decide +kernel) ⟨Nat.le_of_ble_eq_true rfl, Nat.le_of_ble_eq_true rfl⟩) rfl hl.1 rfl (Nat.le_of_ble_eq_true rfl) dX12_easters_18 ⟨Nat.zero_le _, Nat.zero_le _⟩) (fun b3 => ?_) (fun b3 => ?_)
    · obtain ⟨jq, hjqa, hjqb, rfl⟩ := (in_c (a := 0) (b := 60) (by decide) (by decide)).mp b3
      refine nr_if_ne (tgt := 31) hx hb (by decide) dX12_easters_21 (by decide) (fun c4 => ?_) (fun c4 => absurd c4 (by decide))
      refine lv_iload_n hx hb dX12_easters_31 rfl (lv_at hl 1 rfl) ?_
      refine lv_i2l (v := lN js) hx hb dX12_easters_32 (nI_l (by omega)) ?_
      refine lv_lstore_n (lv' := [(3, .long (lN js)), (0, .ref (ad Γ (mo + 0))), (1, .int (nI js)), (2, .int (nI jq))]) hx hb dX12_easters_33 rfl hl (by decide) rfl (fun ls hl => ?_)
      refine lv_aload_n hx hb dX12_easters_34 rfl (lv_at hl 1 rfl) ?_
      refine nr_goV (nr_runV (As := []) (C := RX12) (T := TX12) (N := 19) ⟨hx, hb, hml, hown, hts⟩ hw (by omega) (isM_0 hM) rfl (c_X12_layHand l Γ n G mo R K kp rf ca rc hd fw tl by0 an vl iv hM (by omega) hI hj) (cwV 0 hts gX12_easters_X12_layHand rfl rfl rfl (by decide +kernel) ⟨Nat.le_of_ble_eq_true rfl, Nat.le_of_ble_eq_true rfl⟩) rfl hl.1 rfl (Nat.le_of_ble_eq_true rfl) dX12_easters_35 ⟨Nat.zero_le _, Nat.zero_le _⟩) hw hA hS (fun G5 H locs hp hw hS => ?_)
      obtain ⟨hM, hfr5⟩ := hp
      have hfr := fr_tr hfr hfr5 (Nat.le_refl _) (Nat.le_refl _)
      refine lv_iconst (v := nI 0) hx hb dX12_easters_38 (by decide) ?_
      refine lv_istore (lv' := [(5, .int (nI 0)), (3, .long (lN js)), (0, .ref (ad Γ (mo + 0))), (1, .int (nI js)), (2, .int (nI jq))]) hx hb dX12_easters_39 hl (by decide) rfl (fun ls hl => ?_)
      refine nr_lpI (σ := (Nat → va_E) × Nat × Nat × (Nat → Nat)) 41 (fun x => x.1) (fun x lv => lv = [(0, .ref (ad Γ (mo + 0))), (1, .int (nI js)), (2, .int (nI jq)), (3, .long (lN x.2.2.1)), (5, .int (nI x.2.1))] ∧ isM Γ x.1 mo R K kp rf ca rc x.2.2.2 fw tl by0 an vl iv ∧ fr G x.1 mo (mo + 13) ∧ (x.2.1 ≤ jq) ∧ (x.2.2.1 = rngX js x.2.1) ∧ (x.2.2.2 = eaH (cpyR hd R 60) js x.2.1) ∧ (x.2.2.1 < 2147483648)) (fun x => jq - x.2.1) (G5, 0, js, cpyR hd R 60) hw hS (lv_sub hl [2, 3, 4, 1, 0] rfl) ⟨rfl, hM, hfr, by (try dsimp only); omega, rfl, rfl, by (try dsimp only); omega⟩ ?_
      intro x lv ls H locs hw hS hl hI ih41
      obtain ⟨Gl41, t, x, hdL41⟩ := x
      obtain ⟨rfl, hM, hfr, ht, hx9, hh, hxl0⟩ := hI
      try dsimp only at hM hfr ht hx9 hh hxl0 hw hl ih41
      refine lv_iload hx hb dX12_easters_41 (lv_at hl 4 rfl) ?_
      refine lv_iload_n hx hb dX12_easters_43 rfl (lv_at hl 2 rfl) ?_
      refine nr_icmp_ge (tgt := 117) hx hb (by omega) (by omega) dX12_easters_44 (by decide) (fun c6 => ?_) (fun c6 => ?_)
      · have hea := (aI_ea hX js t (by omega)).1.2.2.2.2.2
        rw [← hh] at hea
        refine lv_aload_n hx hb dX12_easters_117 rfl (lv_at hl 0 rfl) ?_
        refine nr_get (own := RX12) (C := RX12) (T := TX12) (N := 19) (v := .ref (ad Γ (mo + 7))) hx hb hts hi_X12_easters_X12 hown hw (by omega) (isM_0 hM) rfl 8 (by decide) wl_X12_easters_8 rfl rfl dX12_easters_118 ?_
        refine lv_bipush (v := nI 20) hx hb dX12_easters_121 (by decide) ?_
        refine nr_iald (x := (hdL41 20)) hx hb hw (by omega) (isM_7 hM) rfl (by omega) (by decide) dX12_easters_123 ?_
        refine nr_goS (nr_runS (As := [.int (nI (hdL41 20))]) ⟨hx, hb, hml, hown, hts⟩ hw (c_X12_bits l Γ n Gl41 (hdL41 20) (by omega)) (va_cwS 1 hts gX12_easters_X12_bits rfl rfl rfl (by decide +kernel) ⟨Nat.le_of_ble_eq_true rfl, Nat.le_of_ble_eq_true rfl⟩) rfl hl.1 rfl (Nat.le_of_ble_eq_true rfl) dX12_easters_124 ⟨Nat.zero_le _, Nat.zero_le _⟩) (fun r7 hr7 => ?_)
        obtain rfl : r7 = (nI (pc8 (hdL41 20))) := hr7
        exact nr_retI hx hb hr hlocks hw hS (Or.inr (⟨js, jq, hjsb, rfl, hjqb, rfl, by rw [hh, show t = jq by omega], _, hM, hfr⟩)) dX12_easters_127
      · refine lv_lload_n hx hb dX12_easters_47 rfl (lv_at hl 3 rfl) ?_
        refine nr_ldc2 (k := 1103515245) hx hb hown (hts _ wl_X12_easters_3) (by decide) dX12_easters_48 ?_
        refine nr_lmul hx hb dX12_easters_51 ?_
        refine nr_ldc2 (k := 12345) hx hb hown (hts _ wl_X12_easters_4) (by decide) dX12_easters_52 ?_
        refine nr_ladd hx hb dX12_easters_55 ?_
        refine nr_ldc2 (k := 2147483648) hx hb hown (hts _ wl_X12_easters_5) (by decide) dX12_easters_56 ?_
        refine nr_lrem hx hb (by omega) (by omega) (by omega) dX12_easters_59 ?_
        rw [show (x * 1103515245 + 12345) % 2147483648 = rngX js (t + 1) from (by rw [hx9]; rfl)]
        have hxl : rngX js (t + 1) < 2147483648 := rngX_lt hjsb (t + 1)
        refine lv_lstore_n (lv' := [(3, .long (lN (rngX js (t + 1)))), (0, .ref (ad Γ (mo + 0))), (1, .int (nI js)), (2, .int (nI jq)), (5, .int (nI t))]) hx hb dX12_easters_60 rfl hl (by decide) rfl (fun ls hl => ?_)
        refine lv_lload_n hx hb dX12_easters_61 rfl (lv_at hl 0 rfl) ?_
        refine nr_ldc2 (k := 65536) hx hb hown (hts _ wl_X12_easters_6) (by decide) dX12_easters_62 ?_
        refine nr_ldiv hx hb (by omega) (by omega) (by omega) dX12_easters_65 ?_
        refine nr_ldc2 (k := 8) hx hb hown (hts _ wl_X12_easters_7) (by decide) dX12_easters_66 ?_
        refine nr_lrem hx hb (by omega) (by omega) (by omega) dX12_easters_69 ?_
        refine lv_l2i (v := nI (((rngX js (t + 1)) / 65536) % 8)) hx hb dX12_easters_70 (lN_i _) ?_
        refine lv_istore (lv' := [(6, .int (nI (((rngX js (t + 1)) / 65536) % 8))), (3, .long (lN (rngX js (t + 1)))), (0, .ref (ad Γ (mo + 0))), (1, .int (nI js)), (2, .int (nI jq)), (5, .int (nI t))]) hx hb dX12_easters_71 hl (by decide) rfl (fun ls hl => ?_)
        refine lv_aload_n hx hb dX12_easters_73 rfl (lv_at hl 2 rfl) ?_
        refine lv_iload hx hb dX12_easters_74 (lv_at hl 0 rfl) ?_
        refine nr_goB (P := ∃ j, j < R 1 ∧ (nI (((rngX js (t + 1)) / 65536) % 8)) = nI j) (nr_runV (As := [.int (nI (((rngX js (t + 1)) / 65536) % 8))]) (C := RX12) (T := TX12) (N := 19) ⟨hx, hb, hml, hown, hts⟩ hw (by omega) (isM_0 hM) rfl (c_X12_isWrong l Γ n Gl41 mo R K kp rf ca rc hdL41 fw tl by0 an vl iv hM (by omega) hI (nI (((rngX js (t + 1)) / 65536) % 8))) (cwV 1 hts gX12_easters_X12_isWrong rfl rfl rfl (by decide +kernel) ⟨Nat.le_of_ble_eq_true rfl, Nat.le_of_ble_eq_true rfl⟩) rfl hl.1 rfl (Nat.le_of_ble_eq_true rfl) dX12_easters_76 ⟨Nat.zero_le _, Nat.zero_le _⟩) (fun b8 => ?_) (fun b8 => ?_)
        · have hkx : rngX js (t + 1) / 65536 % 8 < R 1 := by obtain ⟨j, hj, e9⟩ := b8; rw [show rngX js (t + 1) / 65536 % 8 = j from (nI_eq (by omega) (by omega)).mp e9]; exact hj
          refine nr_if_eq (tgt := 104) hx hb (by decide) dX12_easters_79 (by decide) (fun c9 => absurd c9 (by decide)) (fun c9 => ?_)
          refine lv_aload_n hx hb dX12_easters_82 rfl (lv_at hl 2 rfl) ?_
          refine nr_get (own := RX12) (C := RX12) (T := TX12) (N := 19) (v := .ref (ad Γ (mo + 7))) hx hb hts hi_X12_easters_X12 hown hw (by omega) (isM_0 hM) rfl 8 (by decide) wl_X12_easters_8 rfl rfl dX12_easters_83 ?_
          refine lv_iload hx hb dX12_easters_86 (lv_at hl 0 rfl) ?_
          refine nr_goB (P := canP hdL41 (((rngX js (t + 1)) / 65536) % 8)) (nr_runS (As := [.ref (ad Γ (mo + 7)), .int (nI (((rngX js (t + 1)) / 65536) % 8))]) ⟨hx, hb, hml, hown, hts⟩ hw (c_X12_canOff l Γ n Gl41 (mo + 7) 60 hdL41 (isM_7 hM) (by omega) (by omega) (by omega) (by rw [hh]; exact (aI_ea hX js t (by omega)).1) (((rngX js (t + 1)) / 65536) % 8) (by omega)) (va_cwS 2 hts gX12_easters_X12_canOff rfl rfl rfl (by decide +kernel) ⟨Nat.le_of_ble_eq_true rfl, Nat.le_of_ble_eq_true rfl⟩) rfl hl.1 rfl (Nat.le_of_ble_eq_true rfl) dX12_easters_88 ⟨Nat.zero_le _, Nat.zero_le _⟩) (fun b10 => ?_) (fun b10 => ?_)
          · refine nr_if_eq (tgt := 104) hx hb (by decide) dX12_easters_91 (by decide) (fun c11 => absurd c11 (by decide)) (fun c11 => ?_)
            refine lv_aload_n hx hb dX12_easters_94 rfl (lv_at hl 2 rfl) ?_
            refine nr_get (own := RX12) (C := RX12) (T := TX12) (N := 19) (v := .ref (ad Γ (mo + 7))) hx hb hts hi_X12_easters_X12 hown hw (by omega) (isM_0 hM) rfl 8 (by decide) wl_X12_easters_8 rfl rfl dX12_easters_95 ?_
            refine lv_iload hx hb dX12_easters_98 (lv_at hl 0 rfl) ?_
            refine lv_iconst (v := nI 1) hx hb dX12_easters_100 (by decide) ?_
            refine nr_goV (nr_runS (As := [.ref (ad Γ (mo + 7)), .int (nI (((rngX js (t + 1)) / 65536) % 8)), .int (nI 1)]) ⟨hx, hb, hml, hown, hts⟩ hw (c_X12_goOff l Γ n Gl41 (mo + 7) 60 hdL41 (isM_7 hM) (by omega) (by omega) (by omega) (by rw [hh]; exact (aI_ea hX js t (by omega)).1) hj (((rngX js (t + 1)) / 65536) % 8) 1 (by omega) (by omega)) (va_cwS 3 hts gX12_easters_X12_goOff rfl rfl rfl (by decide +kernel) ⟨Nat.le_of_ble_eq_true rfl, Nat.le_of_ble_eq_true rfl⟩) rfl hl.1 rfl (Nat.le_of_ble_eq_true rfl) dX12_easters_101 ⟨Nat.zero_le _, Nat.zero_le _⟩) hw hA hS (fun G12 H locs hp hw hS => ?_)
            subst hp
            have hM := isM_s7 hM (offR hdL41 (((rngX js (t + 1)) / 65536) % 8) 1)
            have hfr := fr_up hfr (i := mo + 7) (by omega) (by omega) (na Γ 60 (offR hdL41 (((rngX js (t + 1)) / 65536) % 8) 1))
            generalize va_up Gl41 (mo + 7) (na Γ 60 (offR hdL41 (((rngX js (t + 1)) / 65536) % 8) 1)) = G13 at hw hM hfr
            refine lv_aload_n hx hb dX12_easters_104 rfl (lv_at hl 2 rfl) ?_
            refine nr_get (own := RX12) (C := RX12) (T := TX12) (N := 19) (v := .ref (ad Γ (mo + 7))) hx hb hts hi_X12_easters_X12 hown hw (by omega) (isM_0 hM) rfl 8 (by decide) wl_X12_easters_8 rfl rfl dX12_easters_105 ?_
            refine nr_goV (nr_runS (As := [.ref (ad Γ (mo + 7))]) ⟨hx, hb, hml, hown, hts⟩ hw (c_X12_goDay l Γ n G13 (mo + 7) 60 (offR hdL41 (((rngX js (t + 1)) / 65536) % 8) 1) (isM_7 hM) (by omega) (by omega) (by omega) (aI_off (by rw [hh]; exact (aI_ea hX js t (by omega)).1) (by omega)) hj (by first | (rw [hh, (aI_ea hX js t (by omega)).2]; omega) | (rw [hh, offR_21 ((aI_ea hX js t (by omega)).1.2.2.2.1 _ (by omega)), (aI_ea hX js t (by omega)).2]; omega))) (va_cwS 1 hts gX12_easters_X12_goDay rfl rfl rfl (by decide +kernel) ⟨Nat.le_of_ble_eq_true rfl, Nat.le_of_ble_eq_true rfl⟩) rfl hl.1 rfl (Nat.le_of_ble_eq_true rfl) dX12_easters_108 ⟨Nat.zero_le _, Nat.zero_le _⟩) hw hA hS (fun G14 H locs hp hw hS => ?_)
            subst hp
            have hM := isM_s7 hM (dayR (offR hdL41 (((rngX js (t + 1)) / 65536) % 8) 1))
            have hfr := fr_up hfr (i := mo + 7) (by omega) (by omega) (na Γ 60 (dayR (offR hdL41 (((rngX js (t + 1)) / 65536) % 8) 1)))
            generalize va_up G13 (mo + 7) (na Γ 60 (dayR (offR hdL41 (((rngX js (t + 1)) / 65536) % 8) 1))) = G15 at hw hM hfr
            refine nr_inc (d := 1) (k := 5) (lv' := [(5, .int (nI (t + 1))), (6, .int (nI (((rngX js (t + 1)) / 65536) % 8))), (3, .long (lN (rngX js (t + 1)))), (0, .ref (ad Γ (mo + 0))), (1, .int (nI js)), (2, .int (nI jq))]) hx hb dX12_easters_111 hl rfl (by decide) (by decide) rfl (fun ls hl => ?_)
            refine lv_goto (tgt := 41) hx hb dX12_easters_114 (by decide) ?_
            exact ih41 (G15, t + 1, rngX js (t + 1), dayR (offR hdL41 (((rngX js (t + 1)) / 65536) % 8) 1)) _ _ _ _ hw hS (lv_sub hl [3, 4, 5, 2, 0] rfl) ⟨rfl, hM, hfr, by (try dsimp only); omega, rfl, by (try dsimp only); rw [hh]; simp only [eaH]; rw [hX1]; first | rw [if_pos ⟨by assumption, by rw [← hh]; assumption⟩] | (rw [if_neg]; intro hh9; first | exact absurd hh9.1 (by assumption) | exact absurd hh9.2 (by rw [← hh]; assumption)), by (try dsimp only); exact (hxl)⟩ (by (try dsimp only); omega)
          · refine nr_if_eq (tgt := 104) hx hb (by decide) dX12_easters_91 (by decide) (fun c16 => ?_) (fun c16 => absurd c16 (by decide))
            refine lv_aload_n hx hb dX12_easters_104 rfl (lv_at hl 2 rfl) ?_
            refine nr_get (own := RX12) (C := RX12) (T := TX12) (N := 19) (v := .ref (ad Γ (mo + 7))) hx hb hts hi_X12_easters_X12 hown hw (by omega) (isM_0 hM) rfl 8 (by decide) wl_X12_easters_8 rfl rfl dX12_easters_105 ?_
            refine nr_goV (nr_runS (As := [.ref (ad Γ (mo + 7))]) ⟨hx, hb, hml, hown, hts⟩ hw (c_X12_goDay l Γ n Gl41 (mo + 7) 60 hdL41 (isM_7 hM) (by omega) (by omega) (by omega) (by rw [hh]; exact (aI_ea hX js t (by omega)).1) hj (by first | (rw [hh, (aI_ea hX js t (by omega)).2]; omega) | (rw [hh, offR_21 ((aI_ea hX js t (by omega)).1.2.2.2.1 _ (by omega)), (aI_ea hX js t (by omega)).2]; omega))) (va_cwS 1 hts gX12_easters_X12_goDay rfl rfl rfl (by decide +kernel) ⟨Nat.le_of_ble_eq_true rfl, Nat.le_of_ble_eq_true rfl⟩) rfl hl.1 rfl (Nat.le_of_ble_eq_true rfl) dX12_easters_108 ⟨Nat.zero_le _, Nat.zero_le _⟩) hw hA hS (fun G17 H locs hp hw hS => ?_)
            subst hp
            have hM := isM_s7 hM (dayR hdL41)
            have hfr := fr_up hfr (i := mo + 7) (by omega) (by omega) (na Γ 60 (dayR hdL41))
            generalize va_up Gl41 (mo + 7) (na Γ 60 (dayR hdL41)) = G18 at hw hM hfr
            refine nr_inc (d := 1) (k := 5) (lv' := [(5, .int (nI (t + 1))), (6, .int (nI (((rngX js (t + 1)) / 65536) % 8))), (3, .long (lN (rngX js (t + 1)))), (0, .ref (ad Γ (mo + 0))), (1, .int (nI js)), (2, .int (nI jq))]) hx hb dX12_easters_111 hl rfl (by decide) (by decide) rfl (fun ls hl => ?_)
            refine lv_goto (tgt := 41) hx hb dX12_easters_114 (by decide) ?_
            exact ih41 (G18, t + 1, rngX js (t + 1), dayR hdL41) _ _ _ _ hw hS (lv_sub hl [3, 4, 5, 2, 0] rfl) ⟨rfl, hM, hfr, by (try dsimp only); omega, rfl, by (try dsimp only); rw [hh]; simp only [eaH]; rw [hX1]; first | rw [if_pos ⟨by assumption, by rw [← hh]; assumption⟩] | (rw [if_neg]; intro hh9; first | exact absurd hh9.1 (by assumption) | exact absurd hh9.2 (by rw [← hh]; assumption)), by (try dsimp only); exact (hxl)⟩ (by (try dsimp only); omega)
        · have hkx : ¬ rngX js (t + 1) / 65536 % 8 < R 1 := fun hh9 => b8 ⟨_, hh9, rfl⟩
          refine nr_if_eq (tgt := 104) hx hb (by decide) dX12_easters_79 (by decide) (fun c19 => ?_) (fun c19 => absurd c19 (by decide))
          refine lv_aload_n hx hb dX12_easters_104 rfl (lv_at hl 2 rfl) ?_
          refine nr_get (own := RX12) (C := RX12) (T := TX12) (N := 19) (v := .ref (ad Γ (mo + 7))) hx hb hts hi_X12_easters_X12 hown hw (by omega) (isM_0 hM) rfl 8 (by decide) wl_X12_easters_8 rfl rfl dX12_easters_105 ?_
          refine nr_goV (nr_runS (As := [.ref (ad Γ (mo + 7))]) ⟨hx, hb, hml, hown, hts⟩ hw (c_X12_goDay l Γ n Gl41 (mo + 7) 60 hdL41 (isM_7 hM) (by omega) (by omega) (by omega) (by rw [hh]; exact (aI_ea hX js t (by omega)).1) hj (by first | (rw [hh, (aI_ea hX js t (by omega)).2]; omega) | (rw [hh, offR_21 ((aI_ea hX js t (by omega)).1.2.2.2.1 _ (by omega)), (aI_ea hX js t (by omega)).2]; omega))) (va_cwS 1 hts gX12_easters_X12_goDay rfl rfl rfl (by decide +kernel) ⟨Nat.le_of_ble_eq_true rfl, Nat.le_of_ble_eq_true rfl⟩) rfl hl.1 rfl (Nat.le_of_ble_eq_true rfl) dX12_easters_108 ⟨Nat.zero_le _, Nat.zero_le _⟩) hw hA hS (fun G20 H locs hp hw hS => ?_)
          subst hp
          have hM := isM_s7 hM (dayR hdL41)
          have hfr := fr_up hfr (i := mo + 7) (by omega) (by omega) (na Γ 60 (dayR hdL41))
          generalize va_up Gl41 (mo + 7) (na Γ 60 (dayR hdL41)) = G21 at hw hM hfr
          refine nr_inc (d := 1) (k := 5) (lv' := [(5, .int (nI (t + 1))), (6, .int (nI (((rngX js (t + 1)) / 65536) % 8))), (3, .long (lN (rngX js (t + 1)))), (0, .ref (ad Γ (mo + 0))), (1, .int (nI js)), (2, .int (nI jq))]) hx hb dX12_easters_111 hl rfl (by decide) (by decide) rfl (fun ls hl => ?_)
          refine lv_goto (tgt := 41) hx hb dX12_easters_114 (by decide) ?_
          exact ih41 (G21, t + 1, rngX js (t + 1), dayR hdL41) _ _ _ _ hw hS (lv_sub hl [3, 4, 5, 2, 0] rfl) ⟨rfl, hM, hfr, by (try dsimp only); omega, rfl, by (try dsimp only); rw [hh]; simp only [eaH]; rw [hX1]; first | rw [if_pos ⟨by assumption, by rw [← hh]; assumption⟩] | (rw [if_neg]; intro hh9; first | exact absurd hh9.1 (by assumption) | exact absurd hh9.2 (by rw [← hh]; assumption)), by (try dsimp only); exact (hxl)⟩ (by (try dsimp only); omega)
    · have b3n : ¬ vRng 0 60 q := fun hh => b3 ((in_c (by decide) (by decide)).mpr hh)
      refine nr_if_ne (tgt := 31) hx hb (by decide) dX12_easters_21 (by decide) (fun c22 => absurd c22 (by decide)) (fun c22 => ?_)
      refine lv_aload_n hx hb dX12_easters_24 rfl (lv_at hl 0 rfl) ?_
      refine lv_bipush (v := (-2)) hx hb dX12_easters_25 (by decide) ?_
      refine nr_goI (nr_runV (As := [.int (-2)]) (C := RX12) (T := TX12) (N := 19) ⟨hx, hb, hml, hown, hts⟩ hw (by omega) (isM_0 hM) rfl (c_X12_bad l Γ n G mo R K kp rf ca rc hd fw tl by0 an vl iv hM (by omega) hI hj (-2)) (cwV 1 hts gX12_easters_X12_bad rfl rfl rfl (by decide +kernel) ⟨Nat.le_of_ble_eq_true rfl, Nat.le_of_ble_eq_true rfl⟩) rfl hl.1 rfl (Nat.le_of_ble_eq_true rfl) dX12_easters_27 ⟨Nat.zero_le _, Nat.zero_le _⟩) hw hA hS (fun z23 G23 H locs hp hw hS => ?_)
      obtain ⟨ha23, hM, hfr23⟩ := hp
      have hfr := fr_tr hfr hfr23 (Nat.le_refl _) (Nat.le_refl _)
      subst ha23
      exact nr_retI hx hb hr hlocks hw hS (Or.inl ⟨by intro hh; first | contradiction | (obtain ⟨hq1, hq2⟩ := hh; first | contradiction | (obtain ⟨hq2, hq3⟩ := hq2; first | contradiction | (obtain ⟨hq3, hq4⟩ := hq3; first | contradiction | (obtain ⟨hq4, hq5⟩ := hq4; first | contradiction | (exact hq4 (congrArg nI (by assumption))))))), rfl, hM, hfr⟩) dX12_easters_30
  · have b1n : ¬ vRng 0 999999 sd := fun hh => b1 ((in_c (by decide) (by decide)).mpr hh)
    refine nr_if_eq (tgt := 24) hx hb (by decide) dX12_easters_9 (by decide) (fun c24 => ?_) (fun c24 => absurd c24 (by decide))
    refine lv_aload_n hx hb dX12_easters_24 rfl (lv_at hl 0 rfl) ?_
    refine lv_bipush (v := (-2)) hx hb dX12_easters_25 (by decide) ?_
    refine nr_goI (nr_runV (As := [.int (-2)]) (C := RX12) (T := TX12) (N := 19) ⟨hx, hb, hml, hown, hts⟩ hw (by omega) (isM_0 hM) rfl (c_X12_bad l Γ n G mo R K kp rf ca rc hd fw tl by0 an vl iv hM (by omega) hI hj (-2)) (cwV 1 hts gX12_easters_X12_bad rfl rfl rfl (by decide +kernel) ⟨Nat.le_of_ble_eq_true rfl, Nat.le_of_ble_eq_true rfl⟩) rfl hl.1 rfl (Nat.le_of_ble_eq_true rfl) dX12_easters_27 ⟨Nat.zero_le _, Nat.zero_le _⟩) hw hA hS (fun z25 G25 H locs hp hw hS => ?_)
    obtain ⟨ha25, hM, hfr25⟩ := hp
    have hfr := fr_tr hfr hfr25 (Nat.le_refl _) (Nat.le_refl _)
    subst ha25
    exact nr_retI hx hb hr hlocks hw hS (Or.inl ⟨by intro hh; first | contradiction | (obtain ⟨hq1, hq2⟩ := hh; first | contradiction | (obtain ⟨hq2, hq3⟩ := hq2; first | contradiction | (obtain ⟨hq3, hq4⟩ := hq3; first | contradiction | (obtain ⟨hq4, hq5⟩ := hq4; first | contradiction | (exact hq4 (congrArg nI (by assumption))))))), rfl, hM, hfr⟩) dX12_easters_30
theorem wl_X12_grave_1 : Cond.constantLong RX12 174 (2) ∈ wsX12_grave := List.mem_of_getElem? (i := 1) rfl
set_option maxHeartbeats 4000000 in
set_option maxRecDepth 100000 in
theorem c_X12_grave (l : Launch) (Γ : Gam) (n : Nat) (G : Nat → va_E) (mo : Nat) (R K kp rf ca rc hd fw tl by0 an vl iv : Nat → Nat) (hM : isM Γ G mo R K kp rf ca rc hd fw tl by0 an vl iv) (hmo : mo + 13 ≤ n) (hI : vI R) (hj : winj Γ n) (k what : Int32)  : Met l yX12_grave wsX12_grave ({ frames := 2, cells := 0, slots := 0, locals := 50 }) (va_Pc [.ref (ad Γ (mo + 0)), .int k, .int what] (fun U => hw Γ n G U U.heap)) (wQi Γ n (fun z G2 => ((¬ (vBel (R 1) k ∧ vRng 0 2 what)) ∧ (z = -2) ∧ isM Γ G2 mo R K kp (bmp rf 0) ca rc hd fw tl by0 an vl iv ∧ fr G G2 mo (mo + 13)) ∨ (∃ jk jw : Nat, (jk < R 1) ∧ (k = nI jk) ∧ (jw ≤ 2) ∧ (what = nI jw) ∧ (graveM R jk jw z) ∧ isM Γ G2 mo R K kp rf ca rc hd fw tl by0 an vl iv ∧ fr G G2 mo (mo + 13)))) 0 0 (wA Γ n) := by
  refine Met.ofW (cc := cX12_grave) (maxL := 7) (ret := (some .int)) (by decide) rfl ?_
  intro p e s m args below meth c s₁ B hml hv
  obtain ⟨rfl, hw⟩ := hv
  have hx := B.exec
  have hb := B.bytes
  have hr := B.returns
  have hts := atoms_spec (ws := wsX12_grave) B.pre
  have hown : s.vm.findClass RX12 = some m.cls := findClass_of_methodNamed B.named
  have hlocks := B.notSynchronized
  have hS : va_S (wA Γ n) s.heap s.heap [] := va_S.rf
  have hA : ∀ q, wA Γ n q → wA Γ n q := fun _ h => h
  have hl := lv_entry ([.ref (ad Γ (mo + 0)), .int k, .int what]) (n := 7) (Nat.le_of_ble_eq_true rfl)
  rw [lg_entry_eq]
  generalize (lg_sl ([.ref (ad Γ (mo + 0)), .int k, .int what]) ++ List.replicate (7 - (lg_sl ([.ref (ad Γ (mo + 0)), .int k, .int what])).length) Slot.unset).toArray = ls at hl ⊢
  have hl : lv_has ls 7 [(0, .ref (ad Γ (mo + 0))), (1, .int k), (2, .int what)] := hl
  have hfr := fr_rf G mo (mo + 13)
  have hB := hI.1
  have hB0 := hI.2.1
  have hB1 := hI.2.2.1
  have hB20 := hI.2.2.2.2.2.2.2.2.2
  have hBz2 := hI.2.2.2.1
  have hBz3 := hI.2.2.2.2.1
  have hBz4 := hI.2.2.2.2.2.1
  have hBz5 := hI.2.2.2.2.2.2.1
  have hby := hI.2.2.2.2.2.2.2.1
  have hto := hI.2.2.2.2.2.2.2.2.1
  refine lv_aload_n hx hb dX12_grave_0 rfl (lv_at hl 0 rfl) ?_
  refine lv_iload_n hx hb dX12_grave_1 rfl (lv_at hl 1 rfl) ?_
  refine nr_goB (P := ∃ j, j < R 1 ∧ k = nI j) (nr_runV (As := [.int k]) (C := RX12) (T := TX12) (N := 19) ⟨hx, hb, hml, hown, hts⟩ hw (by omega) (isM_0 hM) rfl (c_X12_isWrong l Γ n G mo R K kp rf ca rc hd fw tl by0 an vl iv hM (by omega) hI k) (cwV 1 hts gX12_grave_X12_isWrong rfl rfl rfl (by decide +kernel) ⟨Nat.le_of_ble_eq_true rfl, Nat.le_of_ble_eq_true rfl⟩) rfl hl.1 rfl (Nat.le_of_ble_eq_true rfl) dX12_grave_2 ⟨Nat.zero_le _, Nat.zero_le _⟩) (fun b1 => ?_) (fun b1 => ?_)
  · obtain ⟨jk, hjk, rfl⟩ := b1
    refine nr_if_eq (tgt := 20) hx hb (by decide) dX12_grave_5 (by decide) (fun c2 => absurd c2 (by decide)) (fun c2 => ?_)
    refine lv_iload_n hx hb dX12_grave_8 rfl (lv_at hl 2 rfl) ?_
    refine lv_i2l (v := (what).toInt64) hx hb dX12_grave_9 rfl ?_
    refine lv_lconst (v := lN 0) hx hb dX12_grave_10 rfl ?_
    refine nr_ldc2 (k := 2) hx hb hown (hts _ wl_X12_grave_1) (by decide) dX12_grave_11 ?_
    refine nr_goB (P := (lN 0) ≤ ((what).toInt64) ∧ ((what).toInt64) ≤ (lN 2)) (nr_runS (As := [.long ((what).toInt64), .long (lN 0), .long (lN 2)]) ⟨hx, hb, hml, hown, hts⟩ hw (c_X12_in l Γ n G ((what).toInt64) (lN 0) (lN 2)) (va_cwS 3 hts gX12_grave_X12_in rfl rfl rfl (by decide +kernel) ⟨Nat.le_of_ble_eq_true rfl, Nat.le_of_ble_eq_true rfl⟩) rfl hl.1 rfl (Nat.le_of_ble_eq_true rfl) dX12_grave_14 ⟨Nat.zero_le _, Nat.zero_le _⟩) (fun b3 => ?_) (fun b3 => ?_)
    · obtain ⟨jw, hjwa, hjwb, rfl⟩ := (in_c (a := 0) (b := 2) (by decide) (by decide)).mp b3
      refine nr_if_ne (tgt := 27) hx hb (by decide) dX12_grave_17 (by decide) (fun c4 => ?_) (fun c4 => absurd c4 (by decide))
      refine lv_iconst (v := nI 0) hx hb dX12_grave_27 (by decide) ?_
      refine lv_istore_n (lv' := [(3, .int (nI 0)), (0, .ref (ad Γ (mo + 0))), (1, .int (nI jk)), (2, .int (nI jw))]) hx hb dX12_grave_28 rfl hl (by decide) rfl (fun ls hl => ?_)
      refine lv_iconst (v := (-1)) hx hb dX12_grave_29 (by decide) ?_
      refine lv_istore (lv' := [(4, .int (-1)), (3, .int (nI 0)), (0, .ref (ad Γ (mo + 0))), (1, .int (nI jk)), (2, .int (nI jw))]) hx hb dX12_grave_30 hl (by decide) rfl (fun ls hl => ?_)
      refine lv_iconst (v := (-1)) hx hb dX12_grave_32 (by decide) ?_
      refine lv_istore (lv' := [(5, .int (-1)), (4, .int (-1)), (3, .int (nI 0)), (0, .ref (ad Γ (mo + 0))), (1, .int (nI jk)), (2, .int (nI jw))]) hx hb dX12_grave_33 hl (by decide) rfl (fun ls hl => ?_)
      refine lv_iconst (v := nI 1) hx hb dX12_grave_35 (by decide) ?_
      refine lv_istore (lv' := [(6, .int (nI 1)), (5, .int (-1)), (4, .int (-1)), (3, .int (nI 0)), (0, .ref (ad Γ (mo + 0))), (1, .int (nI jk)), (2, .int (nI jw))]) hx hb dX12_grave_36 hl (by decide) rfl (fun ls hl => ?_)
      refine nr_lp (σ := Nat × Nat × Int32 × Int32) (pc := 38) (fun x lv => lv = [(0, .ref (ad Γ (mo + 0))), (1, .int (nI jk)), (2, .int (nI jw)), (3, .int (nI x.2.1)), (4, .int x.2.2.1), (5, .int x.2.2.2), (6, .int (nI x.1))] ∧ (1 ≤ x.1) ∧ (x.1 ≤ 10) ∧ (x.2.1 = cnt (fun y => 1 ≤ y ∧ fitsP R jk y) x.1) ∧ ((∃ y, 1 ≤ y ∧ y < x.1 ∧ fitsP R jk y ∧ (∀ u, 1 ≤ u → u < y → ¬ fitsP R jk u) ∧ x.2.2.1 = nI y) ∨ ((∀ u, 1 ≤ u → u < x.1 → ¬ fitsP R jk u) ∧ x.2.2.1 = -1)) ∧ ((∃ y, 1 ≤ y ∧ y < x.1 ∧ fitsP R jk y ∧ (∀ u, y < u → u < x.1 → ¬ fitsP R jk u) ∧ x.2.2.2 = nI y) ∨ ((∀ u, 1 ≤ u → u < x.1 → ¬ fitsP R jk u) ∧ x.2.2.2 = -1)) ∧ (x.2.1 ≤ x.1)) (fun x => 10 - x.1) (1, 0, (-1), (-1)) (lv_sub hl [4, 5, 6, 3, 2, 1, 0] rfl) ⟨rfl, by (try dsimp only); omega, by (try dsimp only); omega, by (try dsimp only); simp [cnt], by (try dsimp only); exact (Or.inr ⟨fun u h1 h2 => by omega, rfl⟩), by (try dsimp only); exact (Or.inr ⟨fun u h1 h2 => by omega, rfl⟩), by (try dsimp only); omega⟩ ?_
      intro x lv ls hl hI ih38
      obtain ⟨g, q, le, gr⟩ := x
      obtain ⟨rfl, hg1, hg, hn, hle, hgr, hqg⟩ := hI
      try dsimp only at hg1 hg hn hle hgr hqg hl ih38
      refine lv_iload hx hb dX12_grave_38 (lv_at hl 6 rfl) ?_
      refine lv_bipush (v := nI 10) hx hb dX12_grave_40 (by decide) ?_
      refine nr_icmp_ge (tgt := 81) hx hb (by omega) (by decide) dX12_grave_42 (by decide) (fun c5 => ?_) (fun c5 => ?_)
      · refine lv_iload_n hx hb dX12_grave_81 rfl (lv_at hl 2 rfl) ?_
        refine nr_if_ne (tgt := 89) hx hb (by omega) dX12_grave_82 (by decide) (fun c6 => ?_) (fun c6 => ?_)
        · refine lv_iload_n hx hb dX12_grave_89 rfl (lv_at hl 2 rfl) ?_
          refine lv_iconst (v := nI 1) hx hb dX12_grave_90 (by decide) ?_
          refine nr_icmp_ne (tgt := 99) hx hb (by omega) (by decide) dX12_grave_91 (by decide) (fun c7 => ?_) (fun c7 => ?_)
          · refine lv_iload hx hb dX12_grave_99 (lv_at hl 5 rfl) ?_
            exact nr_retI hx hb hr hlocks hw hS (Or.inr (⟨jk, jw, hjk, rfl, hjwb, rfl, by obtain rfl : g = 10 := (by omega); refine ⟨fun hw9 => ?_, fun hw9 => ?_, fun hw9 => ?_⟩ <;> first | exact hle | exact hgr | (rw [hn]; done) | (clear hle hgr; exfalso; omega), hM, hfr⟩)) dX12_grave_101
          · refine lv_iload hx hb dX12_grave_94 (lv_at hl 4 rfl) ?_
            refine lv_goto (tgt := 101) hx hb dX12_grave_96 (by decide) ?_
            exact nr_retI hx hb hr hlocks hw hS (Or.inr (⟨jk, jw, hjk, rfl, hjwb, rfl, by obtain rfl : g = 10 := (by omega); refine ⟨fun hw9 => ?_, fun hw9 => ?_, fun hw9 => ?_⟩ <;> first | exact hle | exact hgr | (rw [hn]; done) | (clear hle hgr; exfalso; omega), hM, hfr⟩)) dX12_grave_101
        · refine lv_iload_n hx hb dX12_grave_85 rfl (lv_at hl 3 rfl) ?_
          refine lv_goto (tgt := 101) hx hb dX12_grave_86 (by decide) ?_
          exact nr_retI hx hb hr hlocks hw hS (Or.inr (⟨jk, jw, hjk, rfl, hjwb, rfl, by obtain rfl : g = 10 := (by omega); refine ⟨fun hw9 => ?_, fun hw9 => ?_, fun hw9 => ?_⟩ <;> first | exact hle | exact hgr | (rw [hn]; done) | (clear hle hgr; exfalso; omega), hM, hfr⟩)) dX12_grave_101
      · refine lv_aload_n hx hb dX12_grave_45 rfl (lv_at hl 0 rfl) ?_
        refine lv_iload_n hx hb dX12_grave_46 rfl (lv_at hl 1 rfl) ?_
        refine lv_iload hx hb dX12_grave_47 (lv_at hl 6 rfl) ?_
        refine nr_goB (P := fitsP R jk g) (nr_runV (As := [.int (nI jk), .int (nI g)]) (C := RX12) (T := TX12) (N := 19) ⟨hx, hb, hml, hown, hts⟩ hw (by omega) (isM_0 hM) rfl (c_X12_isGraveBy l Γ n G mo R K kp rf ca rc hd fw tl by0 an vl iv hM (by omega) hI jk g (by omega) (by omega)) (cwV 2 hts gX12_grave_X12_isGraveBy rfl rfl rfl (by decide +kernel) ⟨Nat.le_of_ble_eq_true rfl, Nat.le_of_ble_eq_true rfl⟩) rfl hl.1 rfl (Nat.le_of_ble_eq_true rfl) dX12_grave_49 ⟨Nat.zero_le _, Nat.zero_le _⟩) (fun b8 => ?_) (fun b8 => ?_)
        · refine nr_if_eq (tgt := 75) hx hb (by decide) dX12_grave_52 (by decide) (fun c9 => absurd c9 (by decide)) (fun c9 => ?_)
          refine lv_iload_n hx hb dX12_grave_55 rfl (lv_at hl 3 rfl) ?_
          refine nr_if_ne (tgt := 64) hx hb (by omega) dX12_grave_56 (by decide) (fun c10 => ?_) (fun c10 => ?_)
          · refine lv_iload hx hb dX12_grave_64 (lv_at hl 4 rfl) ?_
            refine lv_istore (lv' := [(4, .int le), (0, .ref (ad Γ (mo + 0))), (1, .int (nI jk)), (2, .int (nI jw)), (3, .int (nI q)), (5, .int gr), (6, .int (nI g))]) hx hb dX12_grave_66 hl (by decide) rfl (fun ls hl => ?_)
            refine lv_iload hx hb dX12_grave_68 (lv_at hl 6 rfl) ?_
            refine lv_istore (lv' := [(5, .int (nI g)), (4, .int le), (0, .ref (ad Γ (mo + 0))), (1, .int (nI jk)), (2, .int (nI jw)), (3, .int (nI q)), (6, .int (nI g))]) hx hb dX12_grave_70 hl (by decide) rfl (fun ls hl => ?_)
            refine nr_inc (d := 1) (k := 5) (lv' := [(3, .int (nI (q + 1))), (5, .int (nI g)), (4, .int le), (0, .ref (ad Γ (mo + 0))), (1, .int (nI jk)), (2, .int (nI jw)), (6, .int (nI g))]) hx hb dX12_grave_72 hl rfl (by decide) (by decide) rfl (fun ls hl => ?_)
            refine nr_inc (d := 1) (k := 6) (lv' := [(6, .int (nI (g + 1))), (3, .int (nI (q + 1))), (5, .int (nI g)), (4, .int le), (0, .ref (ad Γ (mo + 0))), (1, .int (nI jk)), (2, .int (nI jw))]) hx hb dX12_grave_75 hl rfl (by decide) (by decide) rfl (fun ls hl => ?_)
            refine lv_goto (tgt := 38) hx hb dX12_grave_78 (by decide) ?_
            exact ih38 (g + 1, q + 1, le, (nI g)) _ _ (lv_sub hl [4, 5, 6, 1, 3, 2, 0] rfl) ⟨rfl, by (try dsimp only); omega, by (try dsimp only); omega, by (try dsimp only); rw [hn]; simp only [cnt]; first | rw [if_pos ⟨hg1, by assumption⟩] | rw [if_neg (fun z => absurd z.2 (by assumption))], by
            (try dsimp only)
            first
            | (rcases hle with ⟨y, y1, y2, y3, y4, y5⟩ | ⟨y1, y2⟩
               · exact Or.inl ⟨y, y1, by omega, y3, y4, y5⟩
               · refine Or.inr ⟨fun u h1 h2 => ?_, y2⟩
                 rcases Nat.lt_or_eq_of_le (Nat.le_of_lt_succ h2) with z | z
                 · exact y1 u h1 z
                 · rw [z]; assumption)
            | (rcases hle with ⟨y, y1, y2, y3, y4, y5⟩ | ⟨y1, y2⟩
               · first | exact Or.inl ⟨y, y1, by omega, y3, y4, y5⟩ | exact absurd (cnt_pos (P := fun y => 1 ≤ y ∧ fitsP R jk y) y2 ⟨y1, y3⟩) (by omega)
               · first | exact Or.inl ⟨g, hg1, by omega, by assumption, y1, rfl⟩ | exact absurd (hn.trans (cnt_0 (fun u h1 z => y1 u z.1 h1 z.2))) (by assumption)), by
            (try dsimp only)
            first
            | exact Or.inl ⟨g, hg1, by omega, by assumption, fun u h1 h2 => by omega, rfl⟩
            | (rcases hgr with ⟨y, y1, y2, y3, y4, y5⟩ | ⟨y1, y2⟩
               · refine Or.inl ⟨y, y1, by omega, y3, fun u h1 h2 => ?_, y5⟩
                 rcases Nat.lt_or_eq_of_le (Nat.le_of_lt_succ h2) with z | z
                 · exact y4 u h1 z
                 · rw [z]; assumption
               · refine Or.inr ⟨fun u h1 h2 => ?_, y2⟩
                 rcases Nat.lt_or_eq_of_le (Nat.le_of_lt_succ h2) with z | z
                 · exact y1 u h1 z
                 · rw [z]; assumption), by (try dsimp only); omega⟩ (by (try dsimp only); omega)
          · refine lv_iload hx hb dX12_grave_59 (lv_at hl 6 rfl) ?_
            refine lv_goto (tgt := 66) hx hb dX12_grave_61 (by decide) ?_
            refine lv_istore (lv' := [(4, .int (nI g)), (0, .ref (ad Γ (mo + 0))), (1, .int (nI jk)), (2, .int (nI jw)), (3, .int (nI q)), (5, .int gr), (6, .int (nI g))]) hx hb dX12_grave_66 hl (by decide) rfl (fun ls hl => ?_)
            refine lv_iload hx hb dX12_grave_68 (lv_at hl 6 rfl) ?_
            refine lv_istore (lv' := [(5, .int (nI g)), (4, .int (nI g)), (0, .ref (ad Γ (mo + 0))), (1, .int (nI jk)), (2, .int (nI jw)), (3, .int (nI q)), (6, .int (nI g))]) hx hb dX12_grave_70 hl (by decide) rfl (fun ls hl => ?_)
            refine nr_inc (d := 1) (k := 5) (lv' := [(3, .int (nI (q + 1))), (5, .int (nI g)), (4, .int (nI g)), (0, .ref (ad Γ (mo + 0))), (1, .int (nI jk)), (2, .int (nI jw)), (6, .int (nI g))]) hx hb dX12_grave_72 hl rfl (by decide) (by decide) rfl (fun ls hl => ?_)
            refine nr_inc (d := 1) (k := 6) (lv' := [(6, .int (nI (g + 1))), (3, .int (nI (q + 1))), (5, .int (nI g)), (4, .int (nI g)), (0, .ref (ad Γ (mo + 0))), (1, .int (nI jk)), (2, .int (nI jw))]) hx hb dX12_grave_75 hl rfl (by decide) (by decide) rfl (fun ls hl => ?_)
            refine lv_goto (tgt := 38) hx hb dX12_grave_78 (by decide) ?_
            exact ih38 (g + 1, q + 1, (nI g), (nI g)) _ _ (lv_sub hl [4, 5, 6, 1, 3, 2, 0] rfl) ⟨rfl, by (try dsimp only); omega, by (try dsimp only); omega, by (try dsimp only); rw [hn]; simp only [cnt]; first | rw [if_pos ⟨hg1, by assumption⟩] | rw [if_neg (fun z => absurd z.2 (by assumption))], by
            (try dsimp only)
            first
            | (rcases hle with ⟨y, y1, y2, y3, y4, y5⟩ | ⟨y1, y2⟩
               · exact Or.inl ⟨y, y1, by omega, y3, y4, y5⟩
               · refine Or.inr ⟨fun u h1 h2 => ?_, y2⟩
                 rcases Nat.lt_or_eq_of_le (Nat.le_of_lt_succ h2) with z | z
                 · exact y1 u h1 z
                 · rw [z]; assumption)
            | (rcases hle with ⟨y, y1, y2, y3, y4, y5⟩ | ⟨y1, y2⟩
               · first | exact Or.inl ⟨y, y1, by omega, y3, y4, y5⟩ | exact absurd (cnt_pos (P := fun y => 1 ≤ y ∧ fitsP R jk y) y2 ⟨y1, y3⟩) (by omega)
               · first | exact Or.inl ⟨g, hg1, by omega, by assumption, y1, rfl⟩ | exact absurd (hn.trans (cnt_0 (fun u h1 z => y1 u z.1 h1 z.2))) (by assumption)), by
            (try dsimp only)
            first
            | exact Or.inl ⟨g, hg1, by omega, by assumption, fun u h1 h2 => by omega, rfl⟩
            | (rcases hgr with ⟨y, y1, y2, y3, y4, y5⟩ | ⟨y1, y2⟩
               · refine Or.inl ⟨y, y1, by omega, y3, fun u h1 h2 => ?_, y5⟩
                 rcases Nat.lt_or_eq_of_le (Nat.le_of_lt_succ h2) with z | z
                 · exact y4 u h1 z
                 · rw [z]; assumption
               · refine Or.inr ⟨fun u h1 h2 => ?_, y2⟩
                 rcases Nat.lt_or_eq_of_le (Nat.le_of_lt_succ h2) with z | z
                 · exact y1 u h1 z
                 · rw [z]; assumption), by (try dsimp only); omega⟩ (by (try dsimp only); omega)
        · refine nr_if_eq (tgt := 75) hx hb (by decide) dX12_grave_52 (by decide) (fun c11 => ?_) (fun c11 => absurd c11 (by decide))
          refine nr_inc (d := 1) (k := 6) (lv' := [(6, .int (nI (g + 1))), (0, .ref (ad Γ (mo + 0))), (1, .int (nI jk)), (2, .int (nI jw)), (3, .int (nI q)), (4, .int le), (5, .int gr)]) hx hb dX12_grave_75 hl rfl (by decide) (by decide) rfl (fun ls hl => ?_)
          refine lv_goto (tgt := 38) hx hb dX12_grave_78 (by decide) ?_
          exact ih38 (g + 1, q, le, gr) _ _ (lv_sub hl [1, 2, 3, 4, 5, 6, 0] rfl) ⟨rfl, by (try dsimp only); omega, by (try dsimp only); omega, by (try dsimp only); rw [hn]; simp only [cnt]; first | rw [if_pos ⟨hg1, by assumption⟩] | rw [if_neg (fun z => absurd z.2 (by assumption))], by
            (try dsimp only)
            first
            | (rcases hle with ⟨y, y1, y2, y3, y4, y5⟩ | ⟨y1, y2⟩
               · exact Or.inl ⟨y, y1, by omega, y3, y4, y5⟩
               · refine Or.inr ⟨fun u h1 h2 => ?_, y2⟩
                 rcases Nat.lt_or_eq_of_le (Nat.le_of_lt_succ h2) with z | z
                 · exact y1 u h1 z
                 · rw [z]; assumption)
            | (rcases hle with ⟨y, y1, y2, y3, y4, y5⟩ | ⟨y1, y2⟩
               · first | exact Or.inl ⟨y, y1, by omega, y3, y4, y5⟩ | exact absurd (cnt_pos (P := fun y => 1 ≤ y ∧ fitsP R jk y) y2 ⟨y1, y3⟩) (by omega)
               · first | exact Or.inl ⟨g, hg1, by omega, by assumption, y1, rfl⟩ | exact absurd (hn.trans (cnt_0 (fun u h1 z => y1 u z.1 h1 z.2))) (by assumption)), by
            (try dsimp only)
            first
            | exact Or.inl ⟨g, hg1, by omega, by assumption, fun u h1 h2 => by omega, rfl⟩
            | (rcases hgr with ⟨y, y1, y2, y3, y4, y5⟩ | ⟨y1, y2⟩
               · refine Or.inl ⟨y, y1, by omega, y3, fun u h1 h2 => ?_, y5⟩
                 rcases Nat.lt_or_eq_of_le (Nat.le_of_lt_succ h2) with z | z
                 · exact y4 u h1 z
                 · rw [z]; assumption
               · refine Or.inr ⟨fun u h1 h2 => ?_, y2⟩
                 rcases Nat.lt_or_eq_of_le (Nat.le_of_lt_succ h2) with z | z
                 · exact y1 u h1 z
                 · rw [z]; assumption), by (try dsimp only); omega⟩ (by (try dsimp only); omega)
    · have b3n : ¬ vRng 0 2 what := fun hh => b3 ((in_c (by decide) (by decide)).mpr hh)
      refine nr_if_ne (tgt := 27) hx hb (by decide) dX12_grave_17 (by decide) (fun c12 => absurd c12 (by decide)) (fun c12 => ?_)
      refine lv_aload_n hx hb dX12_grave_20 rfl (lv_at hl 0 rfl) ?_
      refine lv_bipush (v := (-2)) hx hb dX12_grave_21 (by decide) ?_
      refine nr_goI (nr_runV (As := [.int (-2)]) (C := RX12) (T := TX12) (N := 19) ⟨hx, hb, hml, hown, hts⟩ hw (by omega) (isM_0 hM) rfl (c_X12_bad l Γ n G mo R K kp rf ca rc hd fw tl by0 an vl iv hM (by omega) hI hj (-2)) (cwV 1 hts gX12_grave_X12_bad rfl rfl rfl (by decide +kernel) ⟨Nat.le_of_ble_eq_true rfl, Nat.le_of_ble_eq_true rfl⟩) rfl hl.1 rfl (Nat.le_of_ble_eq_true rfl) dX12_grave_23 ⟨Nat.zero_le _, Nat.zero_le _⟩) hw hA hS (fun z13 G13 H locs hp hw hS => ?_)
      obtain ⟨ha13, hM, hfr13⟩ := hp
      have hfr := fr_tr hfr hfr13 (Nat.le_refl _) (Nat.le_refl _)
      subst ha13
      exact nr_retI hx hb hr hlocks hw hS (Or.inl ⟨by intro hh; first | contradiction | (obtain ⟨hq1, hq2⟩ := hh; first | contradiction | (obtain ⟨hq2, hq3⟩ := hq2; first | contradiction | (obtain ⟨hq3, hq4⟩ := hq3; first | contradiction | (obtain ⟨hq4, hq5⟩ := hq4; first | contradiction | (exact hq4 (congrArg nI (by assumption))))))), rfl, hM, hfr⟩) dX12_grave_26
  · refine nr_if_eq (tgt := 20) hx hb (by decide) dX12_grave_5 (by decide) (fun c14 => ?_) (fun c14 => absurd c14 (by decide))
    refine lv_aload_n hx hb dX12_grave_20 rfl (lv_at hl 0 rfl) ?_
    refine lv_bipush (v := (-2)) hx hb dX12_grave_21 (by decide) ?_
    refine nr_goI (nr_runV (As := [.int (-2)]) (C := RX12) (T := TX12) (N := 19) ⟨hx, hb, hml, hown, hts⟩ hw (by omega) (isM_0 hM) rfl (c_X12_bad l Γ n G mo R K kp rf ca rc hd fw tl by0 an vl iv hM (by omega) hI hj (-2)) (cwV 1 hts gX12_grave_X12_bad rfl rfl rfl (by decide +kernel) ⟨Nat.le_of_ble_eq_true rfl, Nat.le_of_ble_eq_true rfl⟩) rfl hl.1 rfl (Nat.le_of_ble_eq_true rfl) dX12_grave_23 ⟨Nat.zero_le _, Nat.zero_le _⟩) hw hA hS (fun z15 G15 H locs hp hw hS => ?_)
    obtain ⟨ha15, hM, hfr15⟩ := hp
    have hfr := fr_tr hfr hfr15 (Nat.le_refl _) (Nat.le_refl _)
    subst ha15
    exact nr_retI hx hb hr hlocks hw hS (Or.inl ⟨by intro hh; first | contradiction | (obtain ⟨hq1, hq2⟩ := hh; first | contradiction | (obtain ⟨hq2, hq3⟩ := hq2; first | contradiction | (obtain ⟨hq3, hq4⟩ := hq3; first | contradiction | (obtain ⟨hq4, hq5⟩ := hq4; first | contradiction | (exact hq4 (congrArg nI (by assumption))))))), rfl, hM, hfr⟩) dX12_grave_26
theorem wl_X12_tell_1 : Cond.constant RX12 155 (1000000) ∈ wsX12_tell := List.mem_of_getElem? (i := 1) rfl
theorem wl_X12_tell_2 : Cond.fieldLink RX12 7 "BellForgivenModel" "all" "[I" ∈ wsX12_tell := List.mem_of_getElem? (i := 2) rfl
theorem hi_X12_tell_X12 : ∀ w ∈ u_ws RX12 TX12 19, w ∈ wsX12_tell := fun w h => (List.mem_cons_of_mem _ (List.mem_append_right _ h))
set_option maxHeartbeats 4000000 in
set_option maxRecDepth 100000 in
theorem c_X12_tell (l : Launch) (Γ : Gam) (n : Nat) (G : Nat → va_E) (mo : Nat) (R K kp rf ca rc hd fw tl by0 an vl iv : Nat → Nat) (hM : isM Γ G mo R K kp rf ca rc hd fw tl by0 an vl iv) (hmo : mo + 13 ≤ n) (hI : vI R) (hj : winj Γ n) (k : Int32)  : Met l yX12_tell wsX12_tell ({ frames := 2, cells := 0, slots := 0, locals := 50 }) (va_Pc [.ref (ad Γ (mo + 0)), .int k] (fun U => hw Γ n G U U.heap)) (wQi Γ n (fun z G2 => ((¬ vBel (R 1) k) ∧ (z = -2) ∧ isM Γ G2 mo R K kp (bmp rf 0) ca rc hd fw tl by0 an vl iv ∧ fr G G2 mo (mo + 13)) ∨ (∃ jk : Nat, (jk < R 1) ∧ (k = nI jk) ∧ (tellM R jk 1000000 z) ∧ isM Γ G2 mo R K kp rf ca rc hd fw tl by0 an vl iv ∧ fr G G2 mo (mo + 13)))) 0 0 (wA Γ n) := by
  refine Met.ofW (cc := cX12_tell) (maxL := 10) (ret := (some .int)) (by decide) rfl ?_
  intro p e s m args below meth c s₁ B hml hv
  obtain ⟨rfl, hw⟩ := hv
  have hx := B.exec
  have hb := B.bytes
  have hr := B.returns
  have hts := atoms_spec (ws := wsX12_tell) B.pre
  have hown : s.vm.findClass RX12 = some m.cls := findClass_of_methodNamed B.named
  have hlocks := B.notSynchronized
  have hS : va_S (wA Γ n) s.heap s.heap [] := va_S.rf
  have hA : ∀ q, wA Γ n q → wA Γ n q := fun _ h => h
  have hl := lv_entry ([.ref (ad Γ (mo + 0)), .int k]) (n := 10) (Nat.le_of_ble_eq_true rfl)
  rw [lg_entry_eq]
  generalize (lg_sl ([.ref (ad Γ (mo + 0)), .int k]) ++ List.replicate (10 - (lg_sl ([.ref (ad Γ (mo + 0)), .int k])).length) Slot.unset).toArray = ls at hl ⊢
  have hl : lv_has ls 10 [(0, .ref (ad Γ (mo + 0))), (1, .int k)] := hl
  have hfr := fr_rf G mo (mo + 13)
  have hB := hI.1
  have hB0 := hI.2.1
  have hB1 := hI.2.2.1
  have hB20 := hI.2.2.2.2.2.2.2.2.2
  have hBz2 := hI.2.2.2.1
  have hBz3 := hI.2.2.2.2.1
  have hBz4 := hI.2.2.2.2.2.1
  have hBz5 := hI.2.2.2.2.2.2.1
  have hby := hI.2.2.2.2.2.2.2.1
  have hto := hI.2.2.2.2.2.2.2.2.1
  have hgl := fun k d j => gpM_lt (R (28 + k)) (sFit R k) d j
  refine lv_aload_n hx hb dX12_tell_0 rfl (lv_at hl 0 rfl) ?_
  refine lv_iload_n hx hb dX12_tell_1 rfl (lv_at hl 1 rfl) ?_
  refine nr_goB (P := ∃ j, j < R 1 ∧ k = nI j) (nr_runV (As := [.int k]) (C := RX12) (T := TX12) (N := 19) ⟨hx, hb, hml, hown, hts⟩ hw (by omega) (isM_0 hM) rfl (c_X12_isWrong l Γ n G mo R K kp rf ca rc hd fw tl by0 an vl iv hM (by omega) hI k) (cwV 1 hts gX12_tell_X12_isWrong rfl rfl rfl (by decide +kernel) ⟨Nat.le_of_ble_eq_true rfl, Nat.le_of_ble_eq_true rfl⟩) rfl hl.1 rfl (Nat.le_of_ble_eq_true rfl) dX12_tell_2 ⟨Nat.zero_le _, Nat.zero_le _⟩) (fun b1 => ?_) (fun b1 => ?_)
  · obtain ⟨jk, hjk, rfl⟩ := b1
    refine nr_if_ne (tgt := 15) hx hb (by decide) dX12_tell_5 (by decide) (fun c2 => ?_) (fun c2 => absurd c2 (by decide))
    refine lv_iconst (v := (-1)) hx hb dX12_tell_15 (by decide) ?_
    refine lv_istore_n (lv' := [(2, .int (-1)), (0, .ref (ad Γ (mo + 0))), (1, .int (nI jk))]) hx hb dX12_tell_16 rfl hl (by decide) rfl (fun ls hl => ?_)
    refine nr_ldc (k := 1000000) hx hb hown (hts _ wl_X12_tell_1) (by decide) dX12_tell_17 ?_
    refine lv_istore_n (lv' := [(3, .int (nI 1000000)), (2, .int (-1)), (0, .ref (ad Γ (mo + 0))), (1, .int (nI jk))]) hx hb dX12_tell_19 rfl hl (by decide) rfl (fun ls hl => ?_)
    refine lv_iconst (v := nI 0) hx hb dX12_tell_20 (by decide) ?_
    refine lv_istore (lv' := [(4, .int (nI 0)), (3, .int (nI 1000000)), (2, .int (-1)), (0, .ref (ad Γ (mo + 0))), (1, .int (nI jk))]) hx hb dX12_tell_21 hl (by decide) rfl (fun ls hl => ?_)
    refine nr_lp (σ := Nat × Nat × Int32) (pc := 23) (fun x lv => lv = [(0, .ref (ad Γ (mo + 0))), (1, .int (nI jk)), (2, .int x.2.2), (3, .int (nI x.2.1)), (4, .int (nI x.1))] ∧ (x.1 ≤ 10) ∧ ((sFit R jk = 0 ∧ x.2.2 = -1 ∧ x.2.1 = 1000000) ∨ (¬ sFit R jk = 0 ∧ amin (gpF R jk) (tOut 21) 1000000 (21 * x.1) x.2.1 x.2.2)) ∧ (x.2.1 ≤ 1000000)) (fun x => 10 - x.1) (0, 1000000, (-1)) (lv_sub hl [3, 4, 2, 1, 0] rfl) ⟨rfl, by (try dsimp only); omega, by (try dsimp only); by_cases q : sFit R jk = 0; exact Or.inl ⟨q, rfl, rfl⟩; exact Or.inr ⟨q, amin_0 _ _ _⟩, by (try dsimp only); omega⟩ ?_
    intro x lv ls hl hI ih23
    obtain ⟨d, lo, bs⟩ := x
    obtain ⟨rfl, hdd, hm, hlo⟩ := hI
    try dsimp only at hdd hm hlo hl ih23
    refine lv_iload hx hb dX12_tell_23 (lv_at hl 4 rfl) ?_
    refine lv_bipush (v := nI 10) hx hb dX12_tell_25 (by decide) ?_
    refine nr_icmp_ge (tgt := 210) hx hb (by omega) (by decide) dX12_tell_27 (by decide) (fun c3 => ?_) (fun c3 => ?_)
    · refine lv_iload_n hx hb dX12_tell_210 rfl (lv_at hl 2 rfl) ?_
      exact nr_retI hx hb hr hlocks hw hS (Or.inr (⟨jk, hjk, rfl, by rcases hm with ⟨m1, m2, m3⟩ | ⟨m1, m2⟩; exact Or.inl ⟨m1, m2⟩; exact Or.inr ⟨m1, lo, by rw [show 210 = 21 * d by omega]; exact m2⟩, hM, hfr⟩)) dX12_tell_211
    · refine lv_iconst (v := nI 0) hx hb dX12_tell_30 (by decide) ?_
      refine lv_istore (lv' := [(5, .int (nI 0)), (0, .ref (ad Γ (mo + 0))), (1, .int (nI jk)), (2, .int bs), (3, .int (nI lo)), (4, .int (nI d))]) hx hb dX12_tell_31 hl (by decide) rfl (fun ls hl => ?_)
      refine nr_lp (σ := Nat × Nat × Int32) (pc := 33) (fun x lv => lv = [(0, .ref (ad Γ (mo + 0))), (1, .int (nI jk)), (2, .int x.2.2), (3, .int (nI x.2.1)), (4, .int (nI d)), (5, .int (nI x.1))] ∧ (x.1 ≤ 21) ∧ ((sFit R jk = 0 ∧ x.2.2 = -1 ∧ x.2.1 = 1000000) ∨ (¬ sFit R jk = 0 ∧ amin (gpF R jk) (tOut 21) 1000000 (21 * d + x.1) x.2.1 x.2.2)) ∧ (x.2.1 ≤ 1000000)) (fun x => 21 - x.1) (0, lo, bs) (lv_sub hl [1, 2, 3, 4, 5, 0] rfl) ⟨rfl, by (try dsimp only); omega, by (try dsimp only); rw [Nat.add_zero]; exact hm, by (try dsimp only); omega⟩ ?_
      intro x lv ls hl hI ih33
      obtain ⟨lm, lo2, bs2⟩ := x
      obtain ⟨rfl, hj, hm2, hlo2⟩ := hI
      try dsimp only at hj hm2 hlo2 hl ih33
      refine lv_iload hx hb dX12_tell_33 (lv_at hl 5 rfl) ?_
      refine lv_bipush (v := nI 20) hx hb dX12_tell_35 (by decide) ?_
      refine nr_icmp_gt (tgt := 204) hx hb (by omega) (by decide) dX12_tell_37 (by decide) (fun c4 => ?_) (fun c4 => ?_)
      · refine nr_inc (d := 1) (k := 4) (lv' := [(4, .int (nI (d + 1))), (0, .ref (ad Γ (mo + 0))), (1, .int (nI jk)), (2, .int bs2), (3, .int (nI lo2)), (5, .int (nI lm))]) hx hb dX12_tell_204 hl rfl (by decide) (by decide) rfl (fun ls hl => ?_)
        refine lv_goto (tgt := 23) hx hb dX12_tell_207 (by decide) ?_
        exact ih23 (d + 1, lo2, bs2) _ _ (lv_sub hl [1, 2, 3, 4, 0] rfl) ⟨rfl, by (try dsimp only); omega, by (try dsimp only); rw [show 21 * (d + 1) = 21 * d + lm by omega]; exact hm2, by (try dsimp only); omega⟩ (by (try dsimp only); omega)
      · refine lv_iconst (v := nI 0) hx hb dX12_tell_40 (by decide) ?_
        refine lv_istore (lv' := [(6, .int (nI 0)), (0, .ref (ad Γ (mo + 0))), (1, .int (nI jk)), (2, .int bs2), (3, .int (nI lo2)), (4, .int (nI d)), (5, .int (nI lm))]) hx hb dX12_tell_41 hl (by decide) rfl (fun ls hl => ?_)
        refine lv_iconst (v := nI 0) hx hb dX12_tell_43 (by decide) ?_
        refine lv_istore (lv' := [(7, .int (nI 0)), (6, .int (nI 0)), (0, .ref (ad Γ (mo + 0))), (1, .int (nI jk)), (2, .int bs2), (3, .int (nI lo2)), (4, .int (nI d)), (5, .int (nI lm))]) hx hb dX12_tell_44 hl (by decide) rfl (fun ls hl => ?_)
        refine lv_iconst (v := nI 1) hx hb dX12_tell_46 (by decide) ?_
        refine lv_istore (lv' := [(8, .int (nI 1)), (7, .int (nI 0)), (6, .int (nI 0)), (0, .ref (ad Γ (mo + 0))), (1, .int (nI jk)), (2, .int bs2), (3, .int (nI lo2)), (4, .int (nI d)), (5, .int (nI lm))]) hx hb dX12_tell_47 hl (by decide) rfl (fun ls hl => ?_)
        refine nr_lp (σ := Nat × Nat × Nat) (pc := 49) (fun x lv => lv = [(0, .ref (ad Γ (mo + 0))), (1, .int (nI jk)), (2, .int bs2), (3, .int (nI lo2)), (4, .int (nI d)), (5, .int (nI lm)), (6, .int (nI x.2.1)), (7, .int (nI x.2.2)), (8, .int (nI x.1))] ∧ (1 ≤ x.1) ∧ (x.1 ≤ 10) ∧ (x.2.1 = gqO R jk d lm x.1) ∧ (x.2.2 = gqN R jk d lm x.1) ∧ (x.2.1 ≤ x.1) ∧ (x.2.2 ≤ x.1)) (fun x => 10 - x.1) (1, 0, 0) (lv_sub hl [3, 4, 5, 6, 7, 8, 2, 1, 0] rfl) ⟨rfl, by (try dsimp only); omega, by (try dsimp only); omega, by (try dsimp only); simp [gqO, cnt], by (try dsimp only); simp [gqN, cnt], by (try dsimp only); omega, by (try dsimp only); omega⟩ ?_
        intro x lv ls hl hI ih49
        obtain ⟨g, of, nt⟩ := x
        obtain ⟨rfl, hg1, hg, hof, hnt, hof2, hnt2⟩ := hI
        try dsimp only at hg1 hg hof hnt hof2 hnt2 hl ih49
        have hWl := sWeight_le (R (28 + jk)) g d
        refine lv_iload hx hb dX12_tell_49 (lv_at hl 8 rfl) ?_
        refine lv_bipush (v := nI 10) hx hb dX12_tell_51 (by decide) ?_
        refine nr_icmp_ge (tgt := 140) hx hb (by omega) (by decide) dX12_tell_53 (by decide) (fun c5 => ?_) (fun c5 => ?_)
        · obtain rfl : g = 10 := by omega
          refine lv_iload hx hb dX12_tell_140 (lv_at hl 6 rfl) ?_
          refine lv_iload hx hb dX12_tell_142 (lv_at hl 7 rfl) ?_
          refine nr_icmp_le (tgt := 152) hx hb (by omega) (by omega) dX12_tell_144 (by decide) (fun c6 => ?_) (fun c6 => ?_)
          · refine lv_iload hx hb dX12_tell_152 (lv_at hl 7 rfl) ?_
            refine lv_istore (lv' := [(8, .int (nI nt)), (0, .ref (ad Γ (mo + 0))), (1, .int (nI jk)), (2, .int bs2), (3, .int (nI lo2)), (4, .int (nI d)), (5, .int (nI lm)), (6, .int (nI of)), (7, .int (nI nt))]) hx hb dX12_tell_154 hl (by decide) rfl (fun ls hl => ?_)
            refine lv_iload hx hb dX12_tell_156 (lv_at hl 0 rfl) ?_
            refine nr_if_le (tgt := 178) hx hb (by omega) dX12_tell_158 (by decide) (fun c7 => ?_) (fun c7 => ?_)
            · refine lv_iload_n hx hb dX12_tell_178 rfl (lv_at hl 3 rfl) ?_
              refine lv_istore_n (lv' := [(2, .int bs2), (8, .int (nI nt)), (0, .ref (ad Γ (mo + 0))), (1, .int (nI jk)), (3, .int (nI lo2)), (4, .int (nI d)), (5, .int (nI lm)), (6, .int (nI of)), (7, .int (nI nt))]) hx hb dX12_tell_179 rfl hl (by decide) rfl (fun ls hl => ?_)
              refine lv_iload hx hb dX12_tell_180 (lv_at hl 1 rfl) ?_
              refine nr_if_le (tgt := 196) hx hb (by omega) dX12_tell_182 (by decide) (fun c8 => ?_) (fun c8 => ?_)
              · refine lv_iload_n hx hb dX12_tell_196 rfl (lv_at hl 4 rfl) ?_
                refine lv_istore_n (lv' := [(3, .int (nI lo2)), (2, .int bs2), (8, .int (nI nt)), (0, .ref (ad Γ (mo + 0))), (1, .int (nI jk)), (4, .int (nI d)), (5, .int (nI lm)), (6, .int (nI of)), (7, .int (nI nt))]) hx hb dX12_tell_197 rfl hl (by decide) rfl (fun ls hl => ?_)
                refine nr_inc (d := 1) (k := 6) (lv' := [(5, .int (nI (lm + 1))), (3, .int (nI lo2)), (2, .int bs2), (8, .int (nI nt)), (0, .ref (ad Γ (mo + 0))), (1, .int (nI jk)), (4, .int (nI d)), (6, .int (nI of)), (7, .int (nI nt))]) hx hb dX12_tell_198 hl rfl (by decide) (by decide) rfl (fun ls hl => ?_)
                refine lv_goto (tgt := 33) hx hb dX12_tell_201 (by decide) ?_
                exact ih33 (lm + 1, lo2, bs2) _ _ (lv_sub hl [4, 5, 2, 1, 6, 0] rfl) ⟨rfl, by (try dsimp only); omega, by
            (try dsimp only)
            rcases hm2 with ⟨m1, m2, m3⟩ | ⟨m1, m2⟩
            · have h0 := gq_0 (d := d) (lm := lm) m1
              first | exact Or.inl ⟨m1, m2, m3⟩ | (exfalso; omega)
            · have h0 := gq_p (d := d) (lm := lm) m1
              have e9 : gpF R jk (21 * d + lm) = max (gqO R jk d lm 10) (gqN R jk d lm 10) := by unfold gpF; rw [show (21 * d + lm) / 21 = d by omega, show (21 * d + lm) % 21 = lm by omega, gq_M]
              have hlt := hgl jk d lm
              rw [← gq_M] at hlt
              first
              | (exfalso; omega)
              | (refine Or.inr ⟨m1, ?_⟩; have h9 := amin_y m2 (by rw [e9]; omega); rw [e9, tOut_at (by omega), show max (gqO R jk d lm 10) (gqN R jk d lm 10) = of by omega] at h9; exact h9)
              | (refine Or.inr ⟨m1, ?_⟩; have h9 := amin_y m2 (by rw [e9]; omega); rw [e9, tOut_at (by omega), show max (gqO R jk d lm 10) (gqN R jk d lm 10) = nt by omega] at h9; exact h9)
              | (refine Or.inr ⟨m1, ?_⟩; exact amin_n m2 (show gpF R jk (21 * d + lm) < 1000000 by rw [e9]; omega) (show ¬ gpF R jk (21 * d + lm) < lo2 by rw [e9]; omega)), by (try dsimp only); omega⟩ (by (try dsimp only); omega)
              · refine lv_iload hx hb dX12_tell_185 (lv_at hl 1 rfl) ?_
                refine lv_iload_n hx hb dX12_tell_187 rfl (lv_at hl 4 rfl) ?_
                refine nr_icmp_ge (tgt := 196) hx hb (by omega) (by omega) dX12_tell_188 (by decide) (fun c9 => ?_) (fun c9 => ?_)
                · refine lv_iload_n hx hb dX12_tell_196 rfl (lv_at hl 4 rfl) ?_
                  refine lv_istore_n (lv' := [(3, .int (nI lo2)), (2, .int bs2), (8, .int (nI nt)), (0, .ref (ad Γ (mo + 0))), (1, .int (nI jk)), (4, .int (nI d)), (5, .int (nI lm)), (6, .int (nI of)), (7, .int (nI nt))]) hx hb dX12_tell_197 rfl hl (by decide) rfl (fun ls hl => ?_)
                  refine nr_inc (d := 1) (k := 6) (lv' := [(5, .int (nI (lm + 1))), (3, .int (nI lo2)), (2, .int bs2), (8, .int (nI nt)), (0, .ref (ad Γ (mo + 0))), (1, .int (nI jk)), (4, .int (nI d)), (6, .int (nI of)), (7, .int (nI nt))]) hx hb dX12_tell_198 hl rfl (by decide) (by decide) rfl (fun ls hl => ?_)
                  refine lv_goto (tgt := 33) hx hb dX12_tell_201 (by decide) ?_
                  exact ih33 (lm + 1, lo2, bs2) _ _ (lv_sub hl [4, 5, 2, 1, 6, 0] rfl) ⟨rfl, by (try dsimp only); omega, by
            (try dsimp only)
            rcases hm2 with ⟨m1, m2, m3⟩ | ⟨m1, m2⟩
            · have h0 := gq_0 (d := d) (lm := lm) m1
              first | exact Or.inl ⟨m1, m2, m3⟩ | (exfalso; omega)
            · have h0 := gq_p (d := d) (lm := lm) m1
              have e9 : gpF R jk (21 * d + lm) = max (gqO R jk d lm 10) (gqN R jk d lm 10) := by unfold gpF; rw [show (21 * d + lm) / 21 = d by omega, show (21 * d + lm) % 21 = lm by omega, gq_M]
              have hlt := hgl jk d lm
              rw [← gq_M] at hlt
              first
              | (exfalso; omega)
              | (refine Or.inr ⟨m1, ?_⟩; have h9 := amin_y m2 (by rw [e9]; omega); rw [e9, tOut_at (by omega), show max (gqO R jk d lm 10) (gqN R jk d lm 10) = of by omega] at h9; exact h9)
              | (refine Or.inr ⟨m1, ?_⟩; have h9 := amin_y m2 (by rw [e9]; omega); rw [e9, tOut_at (by omega), show max (gqO R jk d lm 10) (gqN R jk d lm 10) = nt by omega] at h9; exact h9)
              | (refine Or.inr ⟨m1, ?_⟩; exact amin_n m2 (show gpF R jk (21 * d + lm) < 1000000 by rw [e9]; omega) (show ¬ gpF R jk (21 * d + lm) < lo2 by rw [e9]; omega)), by (try dsimp only); omega⟩ (by (try dsimp only); omega)
                · refine lv_iload hx hb dX12_tell_191 (lv_at hl 1 rfl) ?_
                  refine lv_goto (tgt := 197) hx hb dX12_tell_193 (by decide) ?_
                  refine lv_istore_n (lv' := [(3, .int (nI nt)), (2, .int bs2), (8, .int (nI nt)), (0, .ref (ad Γ (mo + 0))), (1, .int (nI jk)), (4, .int (nI d)), (5, .int (nI lm)), (6, .int (nI of)), (7, .int (nI nt))]) hx hb dX12_tell_197 rfl hl (by decide) rfl (fun ls hl => ?_)
                  refine nr_inc (d := 1) (k := 6) (lv' := [(5, .int (nI (lm + 1))), (3, .int (nI nt)), (2, .int bs2), (8, .int (nI nt)), (0, .ref (ad Γ (mo + 0))), (1, .int (nI jk)), (4, .int (nI d)), (6, .int (nI of)), (7, .int (nI nt))]) hx hb dX12_tell_198 hl rfl (by decide) (by decide) rfl (fun ls hl => ?_)
                  refine lv_goto (tgt := 33) hx hb dX12_tell_201 (by decide) ?_
                  exact ih33 (lm + 1, nt, bs2) _ _ (lv_sub hl [4, 5, 2, 1, 6, 0] rfl) ⟨rfl, by (try dsimp only); omega, by
            (try dsimp only)
            rcases hm2 with ⟨m1, m2, m3⟩ | ⟨m1, m2⟩
            · have h0 := gq_0 (d := d) (lm := lm) m1
              first | exact Or.inl ⟨m1, m2, m3⟩ | (exfalso; omega)
            · have h0 := gq_p (d := d) (lm := lm) m1
              have e9 : gpF R jk (21 * d + lm) = max (gqO R jk d lm 10) (gqN R jk d lm 10) := by unfold gpF; rw [show (21 * d + lm) / 21 = d by omega, show (21 * d + lm) % 21 = lm by omega, gq_M]
              have hlt := hgl jk d lm
              rw [← gq_M] at hlt
              first
              | (exfalso; omega)
              | (refine Or.inr ⟨m1, ?_⟩; have h9 := amin_y m2 (by rw [e9]; omega); rw [e9, tOut_at (by omega), show max (gqO R jk d lm 10) (gqN R jk d lm 10) = of by omega] at h9; exact h9)
              | (refine Or.inr ⟨m1, ?_⟩; have h9 := amin_y m2 (by rw [e9]; omega); rw [e9, tOut_at (by omega), show max (gqO R jk d lm 10) (gqN R jk d lm 10) = nt by omega] at h9; exact h9)
              | (refine Or.inr ⟨m1, ?_⟩; exact amin_n m2 (show gpF R jk (21 * d + lm) < 1000000 by rw [e9]; omega) (show ¬ gpF R jk (21 * d + lm) < lo2 by rw [e9]; omega)), by (try dsimp only); omega⟩ (by (try dsimp only); omega)
            · refine lv_iload hx hb dX12_tell_161 (lv_at hl 0 rfl) ?_
              refine lv_iload_n hx hb dX12_tell_163 rfl (lv_at hl 4 rfl) ?_
              refine nr_icmp_ge (tgt := 178) hx hb (by omega) (by omega) dX12_tell_164 (by decide) (fun c10 => ?_) (fun c10 => ?_)
              · refine lv_iload_n hx hb dX12_tell_178 rfl (lv_at hl 3 rfl) ?_
                refine lv_istore_n (lv' := [(2, .int bs2), (8, .int (nI nt)), (0, .ref (ad Γ (mo + 0))), (1, .int (nI jk)), (3, .int (nI lo2)), (4, .int (nI d)), (5, .int (nI lm)), (6, .int (nI of)), (7, .int (nI nt))]) hx hb dX12_tell_179 rfl hl (by decide) rfl (fun ls hl => ?_)
                refine lv_iload hx hb dX12_tell_180 (lv_at hl 1 rfl) ?_
                refine nr_if_le (tgt := 196) hx hb (by omega) dX12_tell_182 (by decide) (fun c11 => ?_) (fun c11 => ?_)
                · refine lv_iload_n hx hb dX12_tell_196 rfl (lv_at hl 4 rfl) ?_
                  refine lv_istore_n (lv' := [(3, .int (nI lo2)), (2, .int bs2), (8, .int (nI nt)), (0, .ref (ad Γ (mo + 0))), (1, .int (nI jk)), (4, .int (nI d)), (5, .int (nI lm)), (6, .int (nI of)), (7, .int (nI nt))]) hx hb dX12_tell_197 rfl hl (by decide) rfl (fun ls hl => ?_)
                  refine nr_inc (d := 1) (k := 6) (lv' := [(5, .int (nI (lm + 1))), (3, .int (nI lo2)), (2, .int bs2), (8, .int (nI nt)), (0, .ref (ad Γ (mo + 0))), (1, .int (nI jk)), (4, .int (nI d)), (6, .int (nI of)), (7, .int (nI nt))]) hx hb dX12_tell_198 hl rfl (by decide) (by decide) rfl (fun ls hl => ?_)
                  refine lv_goto (tgt := 33) hx hb dX12_tell_201 (by decide) ?_
                  exact ih33 (lm + 1, lo2, bs2) _ _ (lv_sub hl [4, 5, 2, 1, 6, 0] rfl) ⟨rfl, by (try dsimp only); omega, by
            (try dsimp only)
            rcases hm2 with ⟨m1, m2, m3⟩ | ⟨m1, m2⟩
            · have h0 := gq_0 (d := d) (lm := lm) m1
              first | exact Or.inl ⟨m1, m2, m3⟩ | (exfalso; omega)
            · have h0 := gq_p (d := d) (lm := lm) m1
              have e9 : gpF R jk (21 * d + lm) = max (gqO R jk d lm 10) (gqN R jk d lm 10) := by unfold gpF; rw [show (21 * d + lm) / 21 = d by omega, show (21 * d + lm) % 21 = lm by omega, gq_M]
              have hlt := hgl jk d lm
              rw [← gq_M] at hlt
              first
              | (exfalso; omega)
              | (refine Or.inr ⟨m1, ?_⟩; have h9 := amin_y m2 (by rw [e9]; omega); rw [e9, tOut_at (by omega), show max (gqO R jk d lm 10) (gqN R jk d lm 10) = of by omega] at h9; exact h9)
              | (refine Or.inr ⟨m1, ?_⟩; have h9 := amin_y m2 (by rw [e9]; omega); rw [e9, tOut_at (by omega), show max (gqO R jk d lm 10) (gqN R jk d lm 10) = nt by omega] at h9; exact h9)
              | (refine Or.inr ⟨m1, ?_⟩; exact amin_n m2 (show gpF R jk (21 * d + lm) < 1000000 by rw [e9]; omega) (show ¬ gpF R jk (21 * d + lm) < lo2 by rw [e9]; omega)), by (try dsimp only); omega⟩ (by (try dsimp only); omega)
                · refine lv_iload hx hb dX12_tell_185 (lv_at hl 1 rfl) ?_
                  refine lv_iload_n hx hb dX12_tell_187 rfl (lv_at hl 4 rfl) ?_
                  refine nr_icmp_ge (tgt := 196) hx hb (by omega) (by omega) dX12_tell_188 (by decide) (fun c12 => ?_) (fun c12 => ?_)
                  · refine lv_iload_n hx hb dX12_tell_196 rfl (lv_at hl 4 rfl) ?_
                    refine lv_istore_n (lv' := [(3, .int (nI lo2)), (2, .int bs2), (8, .int (nI nt)), (0, .ref (ad Γ (mo + 0))), (1, .int (nI jk)), (4, .int (nI d)), (5, .int (nI lm)), (6, .int (nI of)), (7, .int (nI nt))]) hx hb dX12_tell_197 rfl hl (by decide) rfl (fun ls hl => ?_)
                    refine nr_inc (d := 1) (k := 6) (lv' := [(5, .int (nI (lm + 1))), (3, .int (nI lo2)), (2, .int bs2), (8, .int (nI nt)), (0, .ref (ad Γ (mo + 0))), (1, .int (nI jk)), (4, .int (nI d)), (6, .int (nI of)), (7, .int (nI nt))]) hx hb dX12_tell_198 hl rfl (by decide) (by decide) rfl (fun ls hl => ?_)
                    refine lv_goto (tgt := 33) hx hb dX12_tell_201 (by decide) ?_
                    exact ih33 (lm + 1, lo2, bs2) _ _ (lv_sub hl [4, 5, 2, 1, 6, 0] rfl) ⟨rfl, by (try dsimp only); omega, by
            (try dsimp only)
            rcases hm2 with ⟨m1, m2, m3⟩ | ⟨m1, m2⟩
            · have h0 := gq_0 (d := d) (lm := lm) m1
              first | exact Or.inl ⟨m1, m2, m3⟩ | (exfalso; omega)
            · have h0 := gq_p (d := d) (lm := lm) m1
              have e9 : gpF R jk (21 * d + lm) = max (gqO R jk d lm 10) (gqN R jk d lm 10) := by unfold gpF; rw [show (21 * d + lm) / 21 = d by omega, show (21 * d + lm) % 21 = lm by omega, gq_M]
              have hlt := hgl jk d lm
              rw [← gq_M] at hlt
              first
              | (exfalso; omega)
              | (refine Or.inr ⟨m1, ?_⟩; have h9 := amin_y m2 (by rw [e9]; omega); rw [e9, tOut_at (by omega), show max (gqO R jk d lm 10) (gqN R jk d lm 10) = of by omega] at h9; exact h9)
              | (refine Or.inr ⟨m1, ?_⟩; have h9 := amin_y m2 (by rw [e9]; omega); rw [e9, tOut_at (by omega), show max (gqO R jk d lm 10) (gqN R jk d lm 10) = nt by omega] at h9; exact h9)
              | (refine Or.inr ⟨m1, ?_⟩; exact amin_n m2 (show gpF R jk (21 * d + lm) < 1000000 by rw [e9]; omega) (show ¬ gpF R jk (21 * d + lm) < lo2 by rw [e9]; omega)), by (try dsimp only); omega⟩ (by (try dsimp only); omega)
                  · refine lv_iload hx hb dX12_tell_191 (lv_at hl 1 rfl) ?_
                    refine lv_goto (tgt := 197) hx hb dX12_tell_193 (by decide) ?_
                    refine lv_istore_n (lv' := [(3, .int (nI nt)), (2, .int bs2), (8, .int (nI nt)), (0, .ref (ad Γ (mo + 0))), (1, .int (nI jk)), (4, .int (nI d)), (5, .int (nI lm)), (6, .int (nI of)), (7, .int (nI nt))]) hx hb dX12_tell_197 rfl hl (by decide) rfl (fun ls hl => ?_)
                    refine nr_inc (d := 1) (k := 6) (lv' := [(5, .int (nI (lm + 1))), (3, .int (nI nt)), (2, .int bs2), (8, .int (nI nt)), (0, .ref (ad Γ (mo + 0))), (1, .int (nI jk)), (4, .int (nI d)), (6, .int (nI of)), (7, .int (nI nt))]) hx hb dX12_tell_198 hl rfl (by decide) (by decide) rfl (fun ls hl => ?_)
                    refine lv_goto (tgt := 33) hx hb dX12_tell_201 (by decide) ?_
                    exact ih33 (lm + 1, nt, bs2) _ _ (lv_sub hl [4, 5, 2, 1, 6, 0] rfl) ⟨rfl, by (try dsimp only); omega, by
            (try dsimp only)
            rcases hm2 with ⟨m1, m2, m3⟩ | ⟨m1, m2⟩
            · have h0 := gq_0 (d := d) (lm := lm) m1
              first | exact Or.inl ⟨m1, m2, m3⟩ | (exfalso; omega)
            · have h0 := gq_p (d := d) (lm := lm) m1
              have e9 : gpF R jk (21 * d + lm) = max (gqO R jk d lm 10) (gqN R jk d lm 10) := by unfold gpF; rw [show (21 * d + lm) / 21 = d by omega, show (21 * d + lm) % 21 = lm by omega, gq_M]
              have hlt := hgl jk d lm
              rw [← gq_M] at hlt
              first
              | (exfalso; omega)
              | (refine Or.inr ⟨m1, ?_⟩; have h9 := amin_y m2 (by rw [e9]; omega); rw [e9, tOut_at (by omega), show max (gqO R jk d lm 10) (gqN R jk d lm 10) = of by omega] at h9; exact h9)
              | (refine Or.inr ⟨m1, ?_⟩; have h9 := amin_y m2 (by rw [e9]; omega); rw [e9, tOut_at (by omega), show max (gqO R jk d lm 10) (gqN R jk d lm 10) = nt by omega] at h9; exact h9)
              | (refine Or.inr ⟨m1, ?_⟩; exact amin_n m2 (show gpF R jk (21 * d + lm) < 1000000 by rw [e9]; omega) (show ¬ gpF R jk (21 * d + lm) < lo2 by rw [e9]; omega)), by (try dsimp only); omega⟩ (by (try dsimp only); omega)
              · refine lv_bipush (v := nI 100) hx hb dX12_tell_167 (by decide) ?_
                refine lv_iload hx hb dX12_tell_169 (lv_at hl 5 rfl) ?_
                refine nr_imul hx hb dX12_tell_171 ?_
                refine lv_iload hx hb dX12_tell_172 (lv_at hl 6 rfl) ?_
                refine nr_iadd hx hb dX12_tell_174 ?_
                refine lv_goto (tgt := 179) hx hb dX12_tell_175 (by decide) ?_
                refine lv_istore_n (lv' := [(2, .int (nI (100 * d + lm))), (8, .int (nI nt)), (0, .ref (ad Γ (mo + 0))), (1, .int (nI jk)), (3, .int (nI lo2)), (4, .int (nI d)), (5, .int (nI lm)), (6, .int (nI of)), (7, .int (nI nt))]) hx hb dX12_tell_179 rfl hl (by decide) rfl (fun ls hl => ?_)
                refine lv_iload hx hb dX12_tell_180 (lv_at hl 1 rfl) ?_
                refine nr_if_le (tgt := 196) hx hb (by omega) dX12_tell_182 (by decide) (fun c13 => ?_) (fun c13 => ?_)
                · refine lv_iload_n hx hb dX12_tell_196 rfl (lv_at hl 4 rfl) ?_
                  refine lv_istore_n (lv' := [(3, .int (nI lo2)), (2, .int (nI (100 * d + lm))), (8, .int (nI nt)), (0, .ref (ad Γ (mo + 0))), (1, .int (nI jk)), (4, .int (nI d)), (5, .int (nI lm)), (6, .int (nI of)), (7, .int (nI nt))]) hx hb dX12_tell_197 rfl hl (by decide) rfl (fun ls hl => ?_)
                  refine nr_inc (d := 1) (k := 6) (lv' := [(5, .int (nI (lm + 1))), (3, .int (nI lo2)), (2, .int (nI (100 * d + lm))), (8, .int (nI nt)), (0, .ref (ad Γ (mo + 0))), (1, .int (nI jk)), (4, .int (nI d)), (6, .int (nI of)), (7, .int (nI nt))]) hx hb dX12_tell_198 hl rfl (by decide) (by decide) rfl (fun ls hl => ?_)
                  refine lv_goto (tgt := 33) hx hb dX12_tell_201 (by decide) ?_
                  exact ih33 (lm + 1, lo2, (nI (100 * d + lm))) _ _ (lv_sub hl [4, 5, 2, 1, 6, 0] rfl) ⟨rfl, by (try dsimp only); omega, by
            (try dsimp only)
            rcases hm2 with ⟨m1, m2, m3⟩ | ⟨m1, m2⟩
            · have h0 := gq_0 (d := d) (lm := lm) m1
              first | exact Or.inl ⟨m1, m2, m3⟩ | (exfalso; omega)
            · have h0 := gq_p (d := d) (lm := lm) m1
              have e9 : gpF R jk (21 * d + lm) = max (gqO R jk d lm 10) (gqN R jk d lm 10) := by unfold gpF; rw [show (21 * d + lm) / 21 = d by omega, show (21 * d + lm) % 21 = lm by omega, gq_M]
              have hlt := hgl jk d lm
              rw [← gq_M] at hlt
              first
              | (exfalso; omega)
              | (refine Or.inr ⟨m1, ?_⟩; have h9 := amin_y m2 (by rw [e9]; omega); rw [e9, tOut_at (by omega), show max (gqO R jk d lm 10) (gqN R jk d lm 10) = of by omega] at h9; exact h9)
              | (refine Or.inr ⟨m1, ?_⟩; have h9 := amin_y m2 (by rw [e9]; omega); rw [e9, tOut_at (by omega), show max (gqO R jk d lm 10) (gqN R jk d lm 10) = nt by omega] at h9; exact h9)
              | (refine Or.inr ⟨m1, ?_⟩; exact amin_n m2 (show gpF R jk (21 * d + lm) < 1000000 by rw [e9]; omega) (show ¬ gpF R jk (21 * d + lm) < lo2 by rw [e9]; omega)), by (try dsimp only); omega⟩ (by (try dsimp only); omega)
                · refine lv_iload hx hb dX12_tell_185 (lv_at hl 1 rfl) ?_
                  refine lv_iload_n hx hb dX12_tell_187 rfl (lv_at hl 4 rfl) ?_
                  refine nr_icmp_ge (tgt := 196) hx hb (by omega) (by omega) dX12_tell_188 (by decide) (fun c14 => ?_) (fun c14 => ?_)
                  · refine lv_iload_n hx hb dX12_tell_196 rfl (lv_at hl 4 rfl) ?_
                    refine lv_istore_n (lv' := [(3, .int (nI lo2)), (2, .int (nI (100 * d + lm))), (8, .int (nI nt)), (0, .ref (ad Γ (mo + 0))), (1, .int (nI jk)), (4, .int (nI d)), (5, .int (nI lm)), (6, .int (nI of)), (7, .int (nI nt))]) hx hb dX12_tell_197 rfl hl (by decide) rfl (fun ls hl => ?_)
                    refine nr_inc (d := 1) (k := 6) (lv' := [(5, .int (nI (lm + 1))), (3, .int (nI lo2)), (2, .int (nI (100 * d + lm))), (8, .int (nI nt)), (0, .ref (ad Γ (mo + 0))), (1, .int (nI jk)), (4, .int (nI d)), (6, .int (nI of)), (7, .int (nI nt))]) hx hb dX12_tell_198 hl rfl (by decide) (by decide) rfl (fun ls hl => ?_)
                    refine lv_goto (tgt := 33) hx hb dX12_tell_201 (by decide) ?_
                    exact ih33 (lm + 1, lo2, (nI (100 * d + lm))) _ _ (lv_sub hl [4, 5, 2, 1, 6, 0] rfl) ⟨rfl, by (try dsimp only); omega, by
            (try dsimp only)
            rcases hm2 with ⟨m1, m2, m3⟩ | ⟨m1, m2⟩
            · have h0 := gq_0 (d := d) (lm := lm) m1
              first | exact Or.inl ⟨m1, m2, m3⟩ | (exfalso; omega)
            · have h0 := gq_p (d := d) (lm := lm) m1
              have e9 : gpF R jk (21 * d + lm) = max (gqO R jk d lm 10) (gqN R jk d lm 10) := by unfold gpF; rw [show (21 * d + lm) / 21 = d by omega, show (21 * d + lm) % 21 = lm by omega, gq_M]
              have hlt := hgl jk d lm
              rw [← gq_M] at hlt
              first
              | (exfalso; omega)
              | (refine Or.inr ⟨m1, ?_⟩; have h9 := amin_y m2 (by rw [e9]; omega); rw [e9, tOut_at (by omega), show max (gqO R jk d lm 10) (gqN R jk d lm 10) = of by omega] at h9; exact h9)
              | (refine Or.inr ⟨m1, ?_⟩; have h9 := amin_y m2 (by rw [e9]; omega); rw [e9, tOut_at (by omega), show max (gqO R jk d lm 10) (gqN R jk d lm 10) = nt by omega] at h9; exact h9)
              | (refine Or.inr ⟨m1, ?_⟩; exact amin_n m2 (show gpF R jk (21 * d + lm) < 1000000 by rw [e9]; omega) (show ¬ gpF R jk (21 * d + lm) < lo2 by rw [e9]; omega)), by (try dsimp only); omega⟩ (by (try dsimp only); omega)
                  · refine lv_iload hx hb dX12_tell_191 (lv_at hl 1 rfl) ?_
                    refine lv_goto (tgt := 197) hx hb dX12_tell_193 (by decide) ?_
                    refine lv_istore_n (lv' := [(3, .int (nI nt)), (2, .int (nI (100 * d + lm))), (8, .int (nI nt)), (0, .ref (ad Γ (mo + 0))), (1, .int (nI jk)), (4, .int (nI d)), (5, .int (nI lm)), (6, .int (nI of)), (7, .int (nI nt))]) hx hb dX12_tell_197 rfl hl (by decide) rfl (fun ls hl => ?_)
                    refine nr_inc (d := 1) (k := 6) (lv' := [(5, .int (nI (lm + 1))), (3, .int (nI nt)), (2, .int (nI (100 * d + lm))), (8, .int (nI nt)), (0, .ref (ad Γ (mo + 0))), (1, .int (nI jk)), (4, .int (nI d)), (6, .int (nI of)), (7, .int (nI nt))]) hx hb dX12_tell_198 hl rfl (by decide) (by decide) rfl (fun ls hl => ?_)
                    refine lv_goto (tgt := 33) hx hb dX12_tell_201 (by decide) ?_
                    exact ih33 (lm + 1, nt, (nI (100 * d + lm))) _ _ (lv_sub hl [4, 5, 2, 1, 6, 0] rfl) ⟨rfl, by (try dsimp only); omega, by
            (try dsimp only)
            rcases hm2 with ⟨m1, m2, m3⟩ | ⟨m1, m2⟩
            · have h0 := gq_0 (d := d) (lm := lm) m1
              first | exact Or.inl ⟨m1, m2, m3⟩ | (exfalso; omega)
            · have h0 := gq_p (d := d) (lm := lm) m1
              have e9 : gpF R jk (21 * d + lm) = max (gqO R jk d lm 10) (gqN R jk d lm 10) := by unfold gpF; rw [show (21 * d + lm) / 21 = d by omega, show (21 * d + lm) % 21 = lm by omega, gq_M]
              have hlt := hgl jk d lm
              rw [← gq_M] at hlt
              first
              | (exfalso; omega)
              | (refine Or.inr ⟨m1, ?_⟩; have h9 := amin_y m2 (by rw [e9]; omega); rw [e9, tOut_at (by omega), show max (gqO R jk d lm 10) (gqN R jk d lm 10) = of by omega] at h9; exact h9)
              | (refine Or.inr ⟨m1, ?_⟩; have h9 := amin_y m2 (by rw [e9]; omega); rw [e9, tOut_at (by omega), show max (gqO R jk d lm 10) (gqN R jk d lm 10) = nt by omega] at h9; exact h9)
              | (refine Or.inr ⟨m1, ?_⟩; exact amin_n m2 (show gpF R jk (21 * d + lm) < 1000000 by rw [e9]; omega) (show ¬ gpF R jk (21 * d + lm) < lo2 by rw [e9]; omega)), by (try dsimp only); omega⟩ (by (try dsimp only); omega)
          · refine lv_iload hx hb dX12_tell_147 (lv_at hl 6 rfl) ?_
            refine lv_goto (tgt := 154) hx hb dX12_tell_149 (by decide) ?_
            refine lv_istore (lv' := [(8, .int (nI of)), (0, .ref (ad Γ (mo + 0))), (1, .int (nI jk)), (2, .int bs2), (3, .int (nI lo2)), (4, .int (nI d)), (5, .int (nI lm)), (6, .int (nI of)), (7, .int (nI nt))]) hx hb dX12_tell_154 hl (by decide) rfl (fun ls hl => ?_)
            refine lv_iload hx hb dX12_tell_156 (lv_at hl 0 rfl) ?_
            refine nr_if_le (tgt := 178) hx hb (by omega) dX12_tell_158 (by decide) (fun c15 => ?_) (fun c15 => ?_)
            · refine lv_iload_n hx hb dX12_tell_178 rfl (lv_at hl 3 rfl) ?_
              refine lv_istore_n (lv' := [(2, .int bs2), (8, .int (nI of)), (0, .ref (ad Γ (mo + 0))), (1, .int (nI jk)), (3, .int (nI lo2)), (4, .int (nI d)), (5, .int (nI lm)), (6, .int (nI of)), (7, .int (nI nt))]) hx hb dX12_tell_179 rfl hl (by decide) rfl (fun ls hl => ?_)
              refine lv_iload hx hb dX12_tell_180 (lv_at hl 1 rfl) ?_
              refine nr_if_le (tgt := 196) hx hb (by omega) dX12_tell_182 (by decide) (fun c16 => ?_) (fun c16 => ?_)
              · refine lv_iload_n hx hb dX12_tell_196 rfl (lv_at hl 4 rfl) ?_
                refine lv_istore_n (lv' := [(3, .int (nI lo2)), (2, .int bs2), (8, .int (nI of)), (0, .ref (ad Γ (mo + 0))), (1, .int (nI jk)), (4, .int (nI d)), (5, .int (nI lm)), (6, .int (nI of)), (7, .int (nI nt))]) hx hb dX12_tell_197 rfl hl (by decide) rfl (fun ls hl => ?_)
                refine nr_inc (d := 1) (k := 6) (lv' := [(5, .int (nI (lm + 1))), (3, .int (nI lo2)), (2, .int bs2), (8, .int (nI of)), (0, .ref (ad Γ (mo + 0))), (1, .int (nI jk)), (4, .int (nI d)), (6, .int (nI of)), (7, .int (nI nt))]) hx hb dX12_tell_198 hl rfl (by decide) (by decide) rfl (fun ls hl => ?_)
                refine lv_goto (tgt := 33) hx hb dX12_tell_201 (by decide) ?_
                exact ih33 (lm + 1, lo2, bs2) _ _ (lv_sub hl [4, 5, 2, 1, 6, 0] rfl) ⟨rfl, by (try dsimp only); omega, by
            (try dsimp only)
            rcases hm2 with ⟨m1, m2, m3⟩ | ⟨m1, m2⟩
            · have h0 := gq_0 (d := d) (lm := lm) m1
              first | exact Or.inl ⟨m1, m2, m3⟩ | (exfalso; omega)
            · have h0 := gq_p (d := d) (lm := lm) m1
              have e9 : gpF R jk (21 * d + lm) = max (gqO R jk d lm 10) (gqN R jk d lm 10) := by unfold gpF; rw [show (21 * d + lm) / 21 = d by omega, show (21 * d + lm) % 21 = lm by omega, gq_M]
              have hlt := hgl jk d lm
              rw [← gq_M] at hlt
              first
              | (exfalso; omega)
              | (refine Or.inr ⟨m1, ?_⟩; have h9 := amin_y m2 (by rw [e9]; omega); rw [e9, tOut_at (by omega), show max (gqO R jk d lm 10) (gqN R jk d lm 10) = of by omega] at h9; exact h9)
              | (refine Or.inr ⟨m1, ?_⟩; have h9 := amin_y m2 (by rw [e9]; omega); rw [e9, tOut_at (by omega), show max (gqO R jk d lm 10) (gqN R jk d lm 10) = nt by omega] at h9; exact h9)
              | (refine Or.inr ⟨m1, ?_⟩; exact amin_n m2 (show gpF R jk (21 * d + lm) < 1000000 by rw [e9]; omega) (show ¬ gpF R jk (21 * d + lm) < lo2 by rw [e9]; omega)), by (try dsimp only); omega⟩ (by (try dsimp only); omega)
              · refine lv_iload hx hb dX12_tell_185 (lv_at hl 1 rfl) ?_
                refine lv_iload_n hx hb dX12_tell_187 rfl (lv_at hl 4 rfl) ?_
                refine nr_icmp_ge (tgt := 196) hx hb (by omega) (by omega) dX12_tell_188 (by decide) (fun c17 => ?_) (fun c17 => ?_)
                · refine lv_iload_n hx hb dX12_tell_196 rfl (lv_at hl 4 rfl) ?_
                  refine lv_istore_n (lv' := [(3, .int (nI lo2)), (2, .int bs2), (8, .int (nI of)), (0, .ref (ad Γ (mo + 0))), (1, .int (nI jk)), (4, .int (nI d)), (5, .int (nI lm)), (6, .int (nI of)), (7, .int (nI nt))]) hx hb dX12_tell_197 rfl hl (by decide) rfl (fun ls hl => ?_)
                  refine nr_inc (d := 1) (k := 6) (lv' := [(5, .int (nI (lm + 1))), (3, .int (nI lo2)), (2, .int bs2), (8, .int (nI of)), (0, .ref (ad Γ (mo + 0))), (1, .int (nI jk)), (4, .int (nI d)), (6, .int (nI of)), (7, .int (nI nt))]) hx hb dX12_tell_198 hl rfl (by decide) (by decide) rfl (fun ls hl => ?_)
                  refine lv_goto (tgt := 33) hx hb dX12_tell_201 (by decide) ?_
                  exact ih33 (lm + 1, lo2, bs2) _ _ (lv_sub hl [4, 5, 2, 1, 6, 0] rfl) ⟨rfl, by (try dsimp only); omega, by
            (try dsimp only)
            rcases hm2 with ⟨m1, m2, m3⟩ | ⟨m1, m2⟩
            · have h0 := gq_0 (d := d) (lm := lm) m1
              first | exact Or.inl ⟨m1, m2, m3⟩ | (exfalso; omega)
            · have h0 := gq_p (d := d) (lm := lm) m1
              have e9 : gpF R jk (21 * d + lm) = max (gqO R jk d lm 10) (gqN R jk d lm 10) := by unfold gpF; rw [show (21 * d + lm) / 21 = d by omega, show (21 * d + lm) % 21 = lm by omega, gq_M]
              have hlt := hgl jk d lm
              rw [← gq_M] at hlt
              first
              | (exfalso; omega)
              | (refine Or.inr ⟨m1, ?_⟩; have h9 := amin_y m2 (by rw [e9]; omega); rw [e9, tOut_at (by omega), show max (gqO R jk d lm 10) (gqN R jk d lm 10) = of by omega] at h9; exact h9)
              | (refine Or.inr ⟨m1, ?_⟩; have h9 := amin_y m2 (by rw [e9]; omega); rw [e9, tOut_at (by omega), show max (gqO R jk d lm 10) (gqN R jk d lm 10) = nt by omega] at h9; exact h9)
              | (refine Or.inr ⟨m1, ?_⟩; exact amin_n m2 (show gpF R jk (21 * d + lm) < 1000000 by rw [e9]; omega) (show ¬ gpF R jk (21 * d + lm) < lo2 by rw [e9]; omega)), by (try dsimp only); omega⟩ (by (try dsimp only); omega)
                · refine lv_iload hx hb dX12_tell_191 (lv_at hl 1 rfl) ?_
                  refine lv_goto (tgt := 197) hx hb dX12_tell_193 (by decide) ?_
                  refine lv_istore_n (lv' := [(3, .int (nI of)), (2, .int bs2), (8, .int (nI of)), (0, .ref (ad Γ (mo + 0))), (1, .int (nI jk)), (4, .int (nI d)), (5, .int (nI lm)), (6, .int (nI of)), (7, .int (nI nt))]) hx hb dX12_tell_197 rfl hl (by decide) rfl (fun ls hl => ?_)
                  refine nr_inc (d := 1) (k := 6) (lv' := [(5, .int (nI (lm + 1))), (3, .int (nI of)), (2, .int bs2), (8, .int (nI of)), (0, .ref (ad Γ (mo + 0))), (1, .int (nI jk)), (4, .int (nI d)), (6, .int (nI of)), (7, .int (nI nt))]) hx hb dX12_tell_198 hl rfl (by decide) (by decide) rfl (fun ls hl => ?_)
                  refine lv_goto (tgt := 33) hx hb dX12_tell_201 (by decide) ?_
                  exact ih33 (lm + 1, of, bs2) _ _ (lv_sub hl [4, 5, 2, 1, 6, 0] rfl) ⟨rfl, by (try dsimp only); omega, by
            (try dsimp only)
            rcases hm2 with ⟨m1, m2, m3⟩ | ⟨m1, m2⟩
            · have h0 := gq_0 (d := d) (lm := lm) m1
              first | exact Or.inl ⟨m1, m2, m3⟩ | (exfalso; omega)
            · have h0 := gq_p (d := d) (lm := lm) m1
              have e9 : gpF R jk (21 * d + lm) = max (gqO R jk d lm 10) (gqN R jk d lm 10) := by unfold gpF; rw [show (21 * d + lm) / 21 = d by omega, show (21 * d + lm) % 21 = lm by omega, gq_M]
              have hlt := hgl jk d lm
              rw [← gq_M] at hlt
              first
              | (exfalso; omega)
              | (refine Or.inr ⟨m1, ?_⟩; have h9 := amin_y m2 (by rw [e9]; omega); rw [e9, tOut_at (by omega), show max (gqO R jk d lm 10) (gqN R jk d lm 10) = of by omega] at h9; exact h9)
              | (refine Or.inr ⟨m1, ?_⟩; have h9 := amin_y m2 (by rw [e9]; omega); rw [e9, tOut_at (by omega), show max (gqO R jk d lm 10) (gqN R jk d lm 10) = nt by omega] at h9; exact h9)
              | (refine Or.inr ⟨m1, ?_⟩; exact amin_n m2 (show gpF R jk (21 * d + lm) < 1000000 by rw [e9]; omega) (show ¬ gpF R jk (21 * d + lm) < lo2 by rw [e9]; omega)), by (try dsimp only); omega⟩ (by (try dsimp only); omega)
            · refine lv_iload hx hb dX12_tell_161 (lv_at hl 0 rfl) ?_
              refine lv_iload_n hx hb dX12_tell_163 rfl (lv_at hl 4 rfl) ?_
              refine nr_icmp_ge (tgt := 178) hx hb (by omega) (by omega) dX12_tell_164 (by decide) (fun c18 => ?_) (fun c18 => ?_)
              · refine lv_iload_n hx hb dX12_tell_178 rfl (lv_at hl 3 rfl) ?_
                refine lv_istore_n (lv' := [(2, .int bs2), (8, .int (nI of)), (0, .ref (ad Γ (mo + 0))), (1, .int (nI jk)), (3, .int (nI lo2)), (4, .int (nI d)), (5, .int (nI lm)), (6, .int (nI of)), (7, .int (nI nt))]) hx hb dX12_tell_179 rfl hl (by decide) rfl (fun ls hl => ?_)
                refine lv_iload hx hb dX12_tell_180 (lv_at hl 1 rfl) ?_
                refine nr_if_le (tgt := 196) hx hb (by omega) dX12_tell_182 (by decide) (fun c19 => ?_) (fun c19 => ?_)
                · refine lv_iload_n hx hb dX12_tell_196 rfl (lv_at hl 4 rfl) ?_
                  refine lv_istore_n (lv' := [(3, .int (nI lo2)), (2, .int bs2), (8, .int (nI of)), (0, .ref (ad Γ (mo + 0))), (1, .int (nI jk)), (4, .int (nI d)), (5, .int (nI lm)), (6, .int (nI of)), (7, .int (nI nt))]) hx hb dX12_tell_197 rfl hl (by decide) rfl (fun ls hl => ?_)
                  refine nr_inc (d := 1) (k := 6) (lv' := [(5, .int (nI (lm + 1))), (3, .int (nI lo2)), (2, .int bs2), (8, .int (nI of)), (0, .ref (ad Γ (mo + 0))), (1, .int (nI jk)), (4, .int (nI d)), (6, .int (nI of)), (7, .int (nI nt))]) hx hb dX12_tell_198 hl rfl (by decide) (by decide) rfl (fun ls hl => ?_)
                  refine lv_goto (tgt := 33) hx hb dX12_tell_201 (by decide) ?_
                  exact ih33 (lm + 1, lo2, bs2) _ _ (lv_sub hl [4, 5, 2, 1, 6, 0] rfl) ⟨rfl, by (try dsimp only); omega, by
            (try dsimp only)
            rcases hm2 with ⟨m1, m2, m3⟩ | ⟨m1, m2⟩
            · have h0 := gq_0 (d := d) (lm := lm) m1
              first | exact Or.inl ⟨m1, m2, m3⟩ | (exfalso; omega)
            · have h0 := gq_p (d := d) (lm := lm) m1
              have e9 : gpF R jk (21 * d + lm) = max (gqO R jk d lm 10) (gqN R jk d lm 10) := by unfold gpF; rw [show (21 * d + lm) / 21 = d by omega, show (21 * d + lm) % 21 = lm by omega, gq_M]
              have hlt := hgl jk d lm
              rw [← gq_M] at hlt
              first
              | (exfalso; omega)
              | (refine Or.inr ⟨m1, ?_⟩; have h9 := amin_y m2 (by rw [e9]; omega); rw [e9, tOut_at (by omega), show max (gqO R jk d lm 10) (gqN R jk d lm 10) = of by omega] at h9; exact h9)
              | (refine Or.inr ⟨m1, ?_⟩; have h9 := amin_y m2 (by rw [e9]; omega); rw [e9, tOut_at (by omega), show max (gqO R jk d lm 10) (gqN R jk d lm 10) = nt by omega] at h9; exact h9)
              | (refine Or.inr ⟨m1, ?_⟩; exact amin_n m2 (show gpF R jk (21 * d + lm) < 1000000 by rw [e9]; omega) (show ¬ gpF R jk (21 * d + lm) < lo2 by rw [e9]; omega)), by (try dsimp only); omega⟩ (by (try dsimp only); omega)
                · refine lv_iload hx hb dX12_tell_185 (lv_at hl 1 rfl) ?_
                  refine lv_iload_n hx hb dX12_tell_187 rfl (lv_at hl 4 rfl) ?_
                  refine nr_icmp_ge (tgt := 196) hx hb (by omega) (by omega) dX12_tell_188 (by decide) (fun c20 => ?_) (fun c20 => ?_)
                  · refine lv_iload_n hx hb dX12_tell_196 rfl (lv_at hl 4 rfl) ?_
                    refine lv_istore_n (lv' := [(3, .int (nI lo2)), (2, .int bs2), (8, .int (nI of)), (0, .ref (ad Γ (mo + 0))), (1, .int (nI jk)), (4, .int (nI d)), (5, .int (nI lm)), (6, .int (nI of)), (7, .int (nI nt))]) hx hb dX12_tell_197 rfl hl (by decide) rfl (fun ls hl => ?_)
                    refine nr_inc (d := 1) (k := 6) (lv' := [(5, .int (nI (lm + 1))), (3, .int (nI lo2)), (2, .int bs2), (8, .int (nI of)), (0, .ref (ad Γ (mo + 0))), (1, .int (nI jk)), (4, .int (nI d)), (6, .int (nI of)), (7, .int (nI nt))]) hx hb dX12_tell_198 hl rfl (by decide) (by decide) rfl (fun ls hl => ?_)
                    refine lv_goto (tgt := 33) hx hb dX12_tell_201 (by decide) ?_
                    exact ih33 (lm + 1, lo2, bs2) _ _ (lv_sub hl [4, 5, 2, 1, 6, 0] rfl) ⟨rfl, by (try dsimp only); omega, by
            (try dsimp only)
            rcases hm2 with ⟨m1, m2, m3⟩ | ⟨m1, m2⟩
            · have h0 := gq_0 (d := d) (lm := lm) m1
              first | exact Or.inl ⟨m1, m2, m3⟩ | (exfalso; omega)
            · have h0 := gq_p (d := d) (lm := lm) m1
              have e9 : gpF R jk (21 * d + lm) = max (gqO R jk d lm 10) (gqN R jk d lm 10) := by unfold gpF; rw [show (21 * d + lm) / 21 = d by omega, show (21 * d + lm) % 21 = lm by omega, gq_M]
              have hlt := hgl jk d lm
              rw [← gq_M] at hlt
              first
              | (exfalso; omega)
              | (refine Or.inr ⟨m1, ?_⟩; have h9 := amin_y m2 (by rw [e9]; omega); rw [e9, tOut_at (by omega), show max (gqO R jk d lm 10) (gqN R jk d lm 10) = of by omega] at h9; exact h9)
              | (refine Or.inr ⟨m1, ?_⟩; have h9 := amin_y m2 (by rw [e9]; omega); rw [e9, tOut_at (by omega), show max (gqO R jk d lm 10) (gqN R jk d lm 10) = nt by omega] at h9; exact h9)
              | (refine Or.inr ⟨m1, ?_⟩; exact amin_n m2 (show gpF R jk (21 * d + lm) < 1000000 by rw [e9]; omega) (show ¬ gpF R jk (21 * d + lm) < lo2 by rw [e9]; omega)), by (try dsimp only); omega⟩ (by (try dsimp only); omega)
                  · refine lv_iload hx hb dX12_tell_191 (lv_at hl 1 rfl) ?_
                    refine lv_goto (tgt := 197) hx hb dX12_tell_193 (by decide) ?_
                    refine lv_istore_n (lv' := [(3, .int (nI of)), (2, .int bs2), (8, .int (nI of)), (0, .ref (ad Γ (mo + 0))), (1, .int (nI jk)), (4, .int (nI d)), (5, .int (nI lm)), (6, .int (nI of)), (7, .int (nI nt))]) hx hb dX12_tell_197 rfl hl (by decide) rfl (fun ls hl => ?_)
                    refine nr_inc (d := 1) (k := 6) (lv' := [(5, .int (nI (lm + 1))), (3, .int (nI of)), (2, .int bs2), (8, .int (nI of)), (0, .ref (ad Γ (mo + 0))), (1, .int (nI jk)), (4, .int (nI d)), (6, .int (nI of)), (7, .int (nI nt))]) hx hb dX12_tell_198 hl rfl (by decide) (by decide) rfl (fun ls hl => ?_)
                    refine lv_goto (tgt := 33) hx hb dX12_tell_201 (by decide) ?_
                    exact ih33 (lm + 1, of, bs2) _ _ (lv_sub hl [4, 5, 2, 1, 6, 0] rfl) ⟨rfl, by (try dsimp only); omega, by
            (try dsimp only)
            rcases hm2 with ⟨m1, m2, m3⟩ | ⟨m1, m2⟩
            · have h0 := gq_0 (d := d) (lm := lm) m1
              first | exact Or.inl ⟨m1, m2, m3⟩ | (exfalso; omega)
            · have h0 := gq_p (d := d) (lm := lm) m1
              have e9 : gpF R jk (21 * d + lm) = max (gqO R jk d lm 10) (gqN R jk d lm 10) := by unfold gpF; rw [show (21 * d + lm) / 21 = d by omega, show (21 * d + lm) % 21 = lm by omega, gq_M]
              have hlt := hgl jk d lm
              rw [← gq_M] at hlt
              first
              | (exfalso; omega)
              | (refine Or.inr ⟨m1, ?_⟩; have h9 := amin_y m2 (by rw [e9]; omega); rw [e9, tOut_at (by omega), show max (gqO R jk d lm 10) (gqN R jk d lm 10) = of by omega] at h9; exact h9)
              | (refine Or.inr ⟨m1, ?_⟩; have h9 := amin_y m2 (by rw [e9]; omega); rw [e9, tOut_at (by omega), show max (gqO R jk d lm 10) (gqN R jk d lm 10) = nt by omega] at h9; exact h9)
              | (refine Or.inr ⟨m1, ?_⟩; exact amin_n m2 (show gpF R jk (21 * d + lm) < 1000000 by rw [e9]; omega) (show ¬ gpF R jk (21 * d + lm) < lo2 by rw [e9]; omega)), by (try dsimp only); omega⟩ (by (try dsimp only); omega)
              · refine lv_bipush (v := nI 100) hx hb dX12_tell_167 (by decide) ?_
                refine lv_iload hx hb dX12_tell_169 (lv_at hl 5 rfl) ?_
                refine nr_imul hx hb dX12_tell_171 ?_
                refine lv_iload hx hb dX12_tell_172 (lv_at hl 6 rfl) ?_
                refine nr_iadd hx hb dX12_tell_174 ?_
                refine lv_goto (tgt := 179) hx hb dX12_tell_175 (by decide) ?_
                refine lv_istore_n (lv' := [(2, .int (nI (100 * d + lm))), (8, .int (nI of)), (0, .ref (ad Γ (mo + 0))), (1, .int (nI jk)), (3, .int (nI lo2)), (4, .int (nI d)), (5, .int (nI lm)), (6, .int (nI of)), (7, .int (nI nt))]) hx hb dX12_tell_179 rfl hl (by decide) rfl (fun ls hl => ?_)
                refine lv_iload hx hb dX12_tell_180 (lv_at hl 1 rfl) ?_
                refine nr_if_le (tgt := 196) hx hb (by omega) dX12_tell_182 (by decide) (fun c21 => ?_) (fun c21 => ?_)
                · refine lv_iload_n hx hb dX12_tell_196 rfl (lv_at hl 4 rfl) ?_
                  refine lv_istore_n (lv' := [(3, .int (nI lo2)), (2, .int (nI (100 * d + lm))), (8, .int (nI of)), (0, .ref (ad Γ (mo + 0))), (1, .int (nI jk)), (4, .int (nI d)), (5, .int (nI lm)), (6, .int (nI of)), (7, .int (nI nt))]) hx hb dX12_tell_197 rfl hl (by decide) rfl (fun ls hl => ?_)
                  refine nr_inc (d := 1) (k := 6) (lv' := [(5, .int (nI (lm + 1))), (3, .int (nI lo2)), (2, .int (nI (100 * d + lm))), (8, .int (nI of)), (0, .ref (ad Γ (mo + 0))), (1, .int (nI jk)), (4, .int (nI d)), (6, .int (nI of)), (7, .int (nI nt))]) hx hb dX12_tell_198 hl rfl (by decide) (by decide) rfl (fun ls hl => ?_)
                  refine lv_goto (tgt := 33) hx hb dX12_tell_201 (by decide) ?_
                  exact ih33 (lm + 1, lo2, (nI (100 * d + lm))) _ _ (lv_sub hl [4, 5, 2, 1, 6, 0] rfl) ⟨rfl, by (try dsimp only); omega, by
            (try dsimp only)
            rcases hm2 with ⟨m1, m2, m3⟩ | ⟨m1, m2⟩
            · have h0 := gq_0 (d := d) (lm := lm) m1
              first | exact Or.inl ⟨m1, m2, m3⟩ | (exfalso; omega)
            · have h0 := gq_p (d := d) (lm := lm) m1
              have e9 : gpF R jk (21 * d + lm) = max (gqO R jk d lm 10) (gqN R jk d lm 10) := by unfold gpF; rw [show (21 * d + lm) / 21 = d by omega, show (21 * d + lm) % 21 = lm by omega, gq_M]
              have hlt := hgl jk d lm
              rw [← gq_M] at hlt
              first
              | (exfalso; omega)
              | (refine Or.inr ⟨m1, ?_⟩; have h9 := amin_y m2 (by rw [e9]; omega); rw [e9, tOut_at (by omega), show max (gqO R jk d lm 10) (gqN R jk d lm 10) = of by omega] at h9; exact h9)
              | (refine Or.inr ⟨m1, ?_⟩; have h9 := amin_y m2 (by rw [e9]; omega); rw [e9, tOut_at (by omega), show max (gqO R jk d lm 10) (gqN R jk d lm 10) = nt by omega] at h9; exact h9)
              | (refine Or.inr ⟨m1, ?_⟩; exact amin_n m2 (show gpF R jk (21 * d + lm) < 1000000 by rw [e9]; omega) (show ¬ gpF R jk (21 * d + lm) < lo2 by rw [e9]; omega)), by (try dsimp only); omega⟩ (by (try dsimp only); omega)
                · refine lv_iload hx hb dX12_tell_185 (lv_at hl 1 rfl) ?_
                  refine lv_iload_n hx hb dX12_tell_187 rfl (lv_at hl 4 rfl) ?_
                  refine nr_icmp_ge (tgt := 196) hx hb (by omega) (by omega) dX12_tell_188 (by decide) (fun c22 => ?_) (fun c22 => ?_)
                  · refine lv_iload_n hx hb dX12_tell_196 rfl (lv_at hl 4 rfl) ?_
                    refine lv_istore_n (lv' := [(3, .int (nI lo2)), (2, .int (nI (100 * d + lm))), (8, .int (nI of)), (0, .ref (ad Γ (mo + 0))), (1, .int (nI jk)), (4, .int (nI d)), (5, .int (nI lm)), (6, .int (nI of)), (7, .int (nI nt))]) hx hb dX12_tell_197 rfl hl (by decide) rfl (fun ls hl => ?_)
                    refine nr_inc (d := 1) (k := 6) (lv' := [(5, .int (nI (lm + 1))), (3, .int (nI lo2)), (2, .int (nI (100 * d + lm))), (8, .int (nI of)), (0, .ref (ad Γ (mo + 0))), (1, .int (nI jk)), (4, .int (nI d)), (6, .int (nI of)), (7, .int (nI nt))]) hx hb dX12_tell_198 hl rfl (by decide) (by decide) rfl (fun ls hl => ?_)
                    refine lv_goto (tgt := 33) hx hb dX12_tell_201 (by decide) ?_
                    exact ih33 (lm + 1, lo2, (nI (100 * d + lm))) _ _ (lv_sub hl [4, 5, 2, 1, 6, 0] rfl) ⟨rfl, by (try dsimp only); omega, by
            (try dsimp only)
            rcases hm2 with ⟨m1, m2, m3⟩ | ⟨m1, m2⟩
            · have h0 := gq_0 (d := d) (lm := lm) m1
              first | exact Or.inl ⟨m1, m2, m3⟩ | (exfalso; omega)
            · have h0 := gq_p (d := d) (lm := lm) m1
              have e9 : gpF R jk (21 * d + lm) = max (gqO R jk d lm 10) (gqN R jk d lm 10) := by unfold gpF; rw [show (21 * d + lm) / 21 = d by omega, show (21 * d + lm) % 21 = lm by omega, gq_M]
              have hlt := hgl jk d lm
              rw [← gq_M] at hlt
              first
              | (exfalso; omega)
              | (refine Or.inr ⟨m1, ?_⟩; have h9 := amin_y m2 (by rw [e9]; omega); rw [e9, tOut_at (by omega), show max (gqO R jk d lm 10) (gqN R jk d lm 10) = of by omega] at h9; exact h9)
              | (refine Or.inr ⟨m1, ?_⟩; have h9 := amin_y m2 (by rw [e9]; omega); rw [e9, tOut_at (by omega), show max (gqO R jk d lm 10) (gqN R jk d lm 10) = nt by omega] at h9; exact h9)
              | (refine Or.inr ⟨m1, ?_⟩; exact amin_n m2 (show gpF R jk (21 * d + lm) < 1000000 by rw [e9]; omega) (show ¬ gpF R jk (21 * d + lm) < lo2 by rw [e9]; omega)), by (try dsimp only); omega⟩ (by (try dsimp only); omega)
                  · refine lv_iload hx hb dX12_tell_191 (lv_at hl 1 rfl) ?_
                    refine lv_goto (tgt := 197) hx hb dX12_tell_193 (by decide) ?_
                    refine lv_istore_n (lv' := [(3, .int (nI of)), (2, .int (nI (100 * d + lm))), (8, .int (nI of)), (0, .ref (ad Γ (mo + 0))), (1, .int (nI jk)), (4, .int (nI d)), (5, .int (nI lm)), (6, .int (nI of)), (7, .int (nI nt))]) hx hb dX12_tell_197 rfl hl (by decide) rfl (fun ls hl => ?_)
                    refine nr_inc (d := 1) (k := 6) (lv' := [(5, .int (nI (lm + 1))), (3, .int (nI of)), (2, .int (nI (100 * d + lm))), (8, .int (nI of)), (0, .ref (ad Γ (mo + 0))), (1, .int (nI jk)), (4, .int (nI d)), (6, .int (nI of)), (7, .int (nI nt))]) hx hb dX12_tell_198 hl rfl (by decide) (by decide) rfl (fun ls hl => ?_)
                    refine lv_goto (tgt := 33) hx hb dX12_tell_201 (by decide) ?_
                    exact ih33 (lm + 1, of, (nI (100 * d + lm))) _ _ (lv_sub hl [4, 5, 2, 1, 6, 0] rfl) ⟨rfl, by (try dsimp only); omega, by
            (try dsimp only)
            rcases hm2 with ⟨m1, m2, m3⟩ | ⟨m1, m2⟩
            · have h0 := gq_0 (d := d) (lm := lm) m1
              first | exact Or.inl ⟨m1, m2, m3⟩ | (exfalso; omega)
            · have h0 := gq_p (d := d) (lm := lm) m1
              have e9 : gpF R jk (21 * d + lm) = max (gqO R jk d lm 10) (gqN R jk d lm 10) := by unfold gpF; rw [show (21 * d + lm) / 21 = d by omega, show (21 * d + lm) % 21 = lm by omega, gq_M]
              have hlt := hgl jk d lm
              rw [← gq_M] at hlt
              first
              | (exfalso; omega)
              | (refine Or.inr ⟨m1, ?_⟩; have h9 := amin_y m2 (by rw [e9]; omega); rw [e9, tOut_at (by omega), show max (gqO R jk d lm 10) (gqN R jk d lm 10) = of by omega] at h9; exact h9)
              | (refine Or.inr ⟨m1, ?_⟩; have h9 := amin_y m2 (by rw [e9]; omega); rw [e9, tOut_at (by omega), show max (gqO R jk d lm 10) (gqN R jk d lm 10) = nt by omega] at h9; exact h9)
              | (refine Or.inr ⟨m1, ?_⟩; exact amin_n m2 (show gpF R jk (21 * d + lm) < 1000000 by rw [e9]; omega) (show ¬ gpF R jk (21 * d + lm) < lo2 by rw [e9]; omega)), by (try dsimp only); omega⟩ (by (try dsimp only); omega)
        · refine lv_aload_n hx hb dX12_tell_56 rfl (lv_at hl 0 rfl) ?_
          refine nr_get (own := RX12) (C := RX12) (T := TX12) (N := 19) (v := .ref (ad Γ (mo + 1))) hx hb hts hi_X12_tell_X12 hown hw (by omega) (isM_0 hM) rfl 0 (by decide) wl_X12_tell_2 rfl rfl dX12_tell_57 ?_
          refine lv_bipush (v := nI 28) hx hb dX12_tell_60 (by decide) ?_
          refine lv_iload_n hx hb dX12_tell_62 rfl (lv_at hl 1 rfl) ?_
          refine nr_iadd hx hb dX12_tell_63 ?_
          refine nr_iald (x := (R (28 + jk))) hx hb hw (by omega) (isM_1 hM) rfl (by omega) (by decide) dX12_tell_64 ?_
          have hL23 := hB (28 + jk)
          refine lv_iload hx hb dX12_tell_65 (lv_at hl 8 rfl) ?_
          refine lv_iload hx hb dX12_tell_67 (lv_at hl 4 rfl) ?_
          refine nr_goS (nr_runS (As := [.int (nI (R (28 + jk))), .int (nI g), .int (nI d)]) ⟨hx, hb, hml, hown, hts⟩ hw (c_X12_weighsAs l Γ n G (R (28 + jk)) g d (by omega) (by omega) (by omega)) (va_cwS 3 hts gX12_tell_X12_weighsAs rfl rfl rfl (by decide +kernel) ⟨Nat.le_of_ble_eq_true rfl, Nat.le_of_ble_eq_true rfl⟩) rfl hl.1 rfl (Nat.le_of_ble_eq_true rfl) dX12_tell_69 ⟨Nat.zero_le _, Nat.zero_le _⟩) (fun r24 hr24 => ?_)
          obtain rfl : r24 = (nI (sWeight (R (28 + jk)) g d)) := hr24
          refine lv_iload hx hb dX12_tell_72 (lv_at hl 5 rfl) ?_
          refine nr_icmp_gt (tgt := 81) hx hb (by omega) (by omega) dX12_tell_74 (by decide) (fun c25 => ?_) (fun c25 => ?_)
          · refine lv_iconst (v := nI 0) hx hb dX12_tell_81 (by decide) ?_
            refine lv_istore (lv' := [(9, .int (nI 0)), (0, .ref (ad Γ (mo + 0))), (1, .int (nI jk)), (2, .int bs2), (3, .int (nI lo2)), (4, .int (nI d)), (5, .int (nI lm)), (6, .int (nI of)), (7, .int (nI nt)), (8, .int (nI g))]) hx hb dX12_tell_82 hl (by decide) rfl (fun ls hl => ?_)
            refine lv_iload hx hb dX12_tell_84 (lv_at hl 7 rfl) ?_
            refine lv_aload_n hx hb dX12_tell_86 rfl (lv_at hl 1 rfl) ?_
            refine lv_iload_n hx hb dX12_tell_87 rfl (lv_at hl 2 rfl) ?_
            refine lv_iload hx hb dX12_tell_88 (lv_at hl 9 rfl) ?_
            refine nr_goB (P := fitsP R jk g) (nr_runV (As := [.int (nI jk), .int (nI g)]) (C := RX12) (T := TX12) (N := 19) ⟨hx, hb, hml, hown, hts⟩ hw (by omega) (isM_0 hM) rfl (c_X12_isGraveBy l Γ n G mo R K kp rf ca rc hd fw tl by0 an vl iv hM (by omega) hI jk g (by omega) (by omega)) (cwV 2 hts gX12_tell_X12_isGraveBy rfl rfl rfl (by decide +kernel) ⟨Nat.le_of_ble_eq_true rfl, Nat.le_of_ble_eq_true rfl⟩) rfl hl.1 rfl (Nat.le_of_ble_eq_true rfl) dX12_tell_90 ⟨Nat.zero_le _, Nat.zero_le _⟩) (fun b26 => ?_) (fun b26 => ?_)
            · refine nr_if_eq (tgt := 105) hx hb (by decide) dX12_tell_93 (by decide) (fun c27 => absurd c27 (by decide)) (fun c27 => ?_)
              refine lv_iload hx hb dX12_tell_96 (lv_at hl 0 rfl) ?_
              refine nr_if_eq (tgt := 105) hx hb (by decide) dX12_tell_98 (by decide) (fun c28 => ?_) (fun c28 => absurd c28 (by decide))
              refine lv_iconst (v := nI 0) hx hb dX12_tell_105 (by decide) ?_
              refine nr_iadd hx hb dX12_tell_106 ?_
              refine lv_istore (lv' := [(6, .int (nI (of + 0))), (9, .int (nI 0)), (0, .ref (ad Γ (mo + 0))), (1, .int (nI jk)), (2, .int bs2), (3, .int (nI lo2)), (4, .int (nI d)), (5, .int (nI lm)), (7, .int (nI nt)), (8, .int (nI g))]) hx hb dX12_tell_107 hl (by decide) rfl (fun ls hl => ?_)
              refine lv_iload hx hb dX12_tell_109 (lv_at hl 8 rfl) ?_
              refine lv_aload_n hx hb dX12_tell_111 rfl (lv_at hl 2 rfl) ?_
              refine lv_iload_n hx hb dX12_tell_112 rfl (lv_at hl 3 rfl) ?_
              refine lv_iload hx hb dX12_tell_113 (lv_at hl 9 rfl) ?_
              refine nr_goB (P := fitsP R jk g) (nr_runV (As := [.int (nI jk), .int (nI g)]) (C := RX12) (T := TX12) (N := 19) ⟨hx, hb, hml, hown, hts⟩ hw (by omega) (isM_0 hM) rfl (c_X12_isGraveBy l Γ n G mo R K kp rf ca rc hd fw tl by0 an vl iv hM (by omega) hI jk g (by omega) (by omega)) (cwV 2 hts gX12_tell_X12_isGraveBy rfl rfl rfl (by decide +kernel) ⟨Nat.le_of_ble_eq_true rfl, Nat.le_of_ble_eq_true rfl⟩) rfl hl.1 rfl (Nat.le_of_ble_eq_true rfl) dX12_tell_115 ⟨Nat.zero_le _, Nat.zero_le _⟩) (fun b29 => ?_) (fun b29 => ?_)
              · refine nr_if_eq (tgt := 130) hx hb (by decide) dX12_tell_118 (by decide) (fun c30 => absurd c30 (by decide)) (fun c30 => ?_)
                refine lv_iload hx hb dX12_tell_121 (lv_at hl 1 rfl) ?_
                refine nr_if_ne (tgt := 130) hx hb (by decide) dX12_tell_123 (by decide) (fun c31 => absurd c31 (by decide)) (fun c31 => ?_)
                refine lv_iconst (v := nI 1) hx hb dX12_tell_126 (by decide) ?_
                refine lv_goto (tgt := 131) hx hb dX12_tell_127 (by decide) ?_
                refine nr_iadd hx hb dX12_tell_131 ?_
                refine lv_istore (lv' := [(7, .int (nI (nt + 1))), (6, .int (nI (of + 0))), (9, .int (nI 0)), (0, .ref (ad Γ (mo + 0))), (1, .int (nI jk)), (2, .int bs2), (3, .int (nI lo2)), (4, .int (nI d)), (5, .int (nI lm)), (8, .int (nI g))]) hx hb dX12_tell_132 hl (by decide) rfl (fun ls hl => ?_)
                refine nr_inc (d := 1) (k := 9) (lv' := [(8, .int (nI (g + 1))), (7, .int (nI (nt + 1))), (6, .int (nI (of + 0))), (9, .int (nI 0)), (0, .ref (ad Γ (mo + 0))), (1, .int (nI jk)), (2, .int bs2), (3, .int (nI lo2)), (4, .int (nI d)), (5, .int (nI lm))]) hx hb dX12_tell_134 hl rfl (by decide) (by decide) rfl (fun ls hl => ?_)
                refine lv_goto (tgt := 49) hx hb dX12_tell_137 (by decide) ?_
                exact ih49 (g + 1, of + 0, nt + 1) _ _ (lv_sub hl [4, 5, 6, 7, 8, 9, 2, 1, 0] rfl) ⟨rfl, by (try dsimp only); omega, by (try dsimp only); omega, by (try dsimp only); (first | contradiction | (rw [hof]; simp only [gqO, cnt]; first | rw [if_pos ⟨⟨hg1, by assumption⟩, by omega⟩] | (rw [if_neg, Nat.add_zero]; intro z; first | exact absurd z.1.2 (by assumption) | (have := z.2; omega)))), by (try dsimp only); (first | contradiction | (rw [hnt]; simp only [gqN, cnt]; first | rw [if_pos ⟨⟨hg1, by assumption⟩, by omega⟩] | (rw [if_neg, Nat.add_zero]; intro z; first | exact absurd z.1.2 (by assumption) | (have := z.2; omega)))), by (try dsimp only); omega, by (try dsimp only); omega⟩ (by (try dsimp only); omega)
              · refine nr_if_eq (tgt := 130) hx hb (by decide) dX12_tell_118 (by decide) (fun c32 => ?_) (fun c32 => absurd c32 (by decide))
                refine lv_iconst (v := nI 0) hx hb dX12_tell_130 (by decide) ?_
                refine nr_iadd hx hb dX12_tell_131 ?_
                refine lv_istore (lv' := [(7, .int (nI (nt + 0))), (6, .int (nI (of + 0))), (9, .int (nI 0)), (0, .ref (ad Γ (mo + 0))), (1, .int (nI jk)), (2, .int bs2), (3, .int (nI lo2)), (4, .int (nI d)), (5, .int (nI lm)), (8, .int (nI g))]) hx hb dX12_tell_132 hl (by decide) rfl (fun ls hl => ?_)
                refine nr_inc (d := 1) (k := 9) (lv' := [(8, .int (nI (g + 1))), (7, .int (nI (nt + 0))), (6, .int (nI (of + 0))), (9, .int (nI 0)), (0, .ref (ad Γ (mo + 0))), (1, .int (nI jk)), (2, .int bs2), (3, .int (nI lo2)), (4, .int (nI d)), (5, .int (nI lm))]) hx hb dX12_tell_134 hl rfl (by decide) (by decide) rfl (fun ls hl => ?_)
                refine lv_goto (tgt := 49) hx hb dX12_tell_137 (by decide) ?_
                exact ih49 (g + 1, of + 0, nt + 0) _ _ (lv_sub hl [4, 5, 6, 7, 8, 9, 2, 1, 0] rfl) ⟨rfl, by (try dsimp only); omega, by (try dsimp only); omega, by (try dsimp only); (first | contradiction | (rw [hof]; simp only [gqO, cnt]; first | rw [if_pos ⟨⟨hg1, by assumption⟩, by omega⟩] | (rw [if_neg, Nat.add_zero]; intro z; first | exact absurd z.1.2 (by assumption) | (have := z.2; omega)))), by (try dsimp only); (first | contradiction | (rw [hnt]; simp only [gqN, cnt]; first | rw [if_pos ⟨⟨hg1, by assumption⟩, by omega⟩] | (rw [if_neg, Nat.add_zero]; intro z; first | exact absurd z.1.2 (by assumption) | (have := z.2; omega)))), by (try dsimp only); omega, by (try dsimp only); omega⟩ (by (try dsimp only); omega)
            · refine nr_if_eq (tgt := 105) hx hb (by decide) dX12_tell_93 (by decide) (fun c33 => ?_) (fun c33 => absurd c33 (by decide))
              refine lv_iconst (v := nI 0) hx hb dX12_tell_105 (by decide) ?_
              refine nr_iadd hx hb dX12_tell_106 ?_
              refine lv_istore (lv' := [(6, .int (nI (of + 0))), (9, .int (nI 0)), (0, .ref (ad Γ (mo + 0))), (1, .int (nI jk)), (2, .int bs2), (3, .int (nI lo2)), (4, .int (nI d)), (5, .int (nI lm)), (7, .int (nI nt)), (8, .int (nI g))]) hx hb dX12_tell_107 hl (by decide) rfl (fun ls hl => ?_)
              refine lv_iload hx hb dX12_tell_109 (lv_at hl 8 rfl) ?_
              refine lv_aload_n hx hb dX12_tell_111 rfl (lv_at hl 2 rfl) ?_
              refine lv_iload_n hx hb dX12_tell_112 rfl (lv_at hl 3 rfl) ?_
              refine lv_iload hx hb dX12_tell_113 (lv_at hl 9 rfl) ?_
              refine nr_goB (P := fitsP R jk g) (nr_runV (As := [.int (nI jk), .int (nI g)]) (C := RX12) (T := TX12) (N := 19) ⟨hx, hb, hml, hown, hts⟩ hw (by omega) (isM_0 hM) rfl (c_X12_isGraveBy l Γ n G mo R K kp rf ca rc hd fw tl by0 an vl iv hM (by omega) hI jk g (by omega) (by omega)) (cwV 2 hts gX12_tell_X12_isGraveBy rfl rfl rfl (by decide +kernel) ⟨Nat.le_of_ble_eq_true rfl, Nat.le_of_ble_eq_true rfl⟩) rfl hl.1 rfl (Nat.le_of_ble_eq_true rfl) dX12_tell_115 ⟨Nat.zero_le _, Nat.zero_le _⟩) (fun b34 => ?_) (fun b34 => ?_)
              · refine nr_if_eq (tgt := 130) hx hb (by decide) dX12_tell_118 (by decide) (fun c35 => absurd c35 (by decide)) (fun c35 => ?_)
                refine lv_iload hx hb dX12_tell_121 (lv_at hl 1 rfl) ?_
                refine nr_if_ne (tgt := 130) hx hb (by decide) dX12_tell_123 (by decide) (fun c36 => absurd c36 (by decide)) (fun c36 => ?_)
                refine lv_iconst (v := nI 1) hx hb dX12_tell_126 (by decide) ?_
                refine lv_goto (tgt := 131) hx hb dX12_tell_127 (by decide) ?_
                refine nr_iadd hx hb dX12_tell_131 ?_
                refine lv_istore (lv' := [(7, .int (nI (nt + 1))), (6, .int (nI (of + 0))), (9, .int (nI 0)), (0, .ref (ad Γ (mo + 0))), (1, .int (nI jk)), (2, .int bs2), (3, .int (nI lo2)), (4, .int (nI d)), (5, .int (nI lm)), (8, .int (nI g))]) hx hb dX12_tell_132 hl (by decide) rfl (fun ls hl => ?_)
                refine nr_inc (d := 1) (k := 9) (lv' := [(8, .int (nI (g + 1))), (7, .int (nI (nt + 1))), (6, .int (nI (of + 0))), (9, .int (nI 0)), (0, .ref (ad Γ (mo + 0))), (1, .int (nI jk)), (2, .int bs2), (3, .int (nI lo2)), (4, .int (nI d)), (5, .int (nI lm))]) hx hb dX12_tell_134 hl rfl (by decide) (by decide) rfl (fun ls hl => ?_)
                refine lv_goto (tgt := 49) hx hb dX12_tell_137 (by decide) ?_
                exact ih49 (g + 1, of + 0, nt + 1) _ _ (lv_sub hl [4, 5, 6, 7, 8, 9, 2, 1, 0] rfl) ⟨rfl, by (try dsimp only); omega, by (try dsimp only); omega, by (try dsimp only); (first | contradiction | (rw [hof]; simp only [gqO, cnt]; first | rw [if_pos ⟨⟨hg1, by assumption⟩, by omega⟩] | (rw [if_neg, Nat.add_zero]; intro z; first | exact absurd z.1.2 (by assumption) | (have := z.2; omega)))), by (try dsimp only); (first | contradiction | (rw [hnt]; simp only [gqN, cnt]; first | rw [if_pos ⟨⟨hg1, by assumption⟩, by omega⟩] | (rw [if_neg, Nat.add_zero]; intro z; first | exact absurd z.1.2 (by assumption) | (have := z.2; omega)))), by (try dsimp only); omega, by (try dsimp only); omega⟩ (by (try dsimp only); omega)
              · refine nr_if_eq (tgt := 130) hx hb (by decide) dX12_tell_118 (by decide) (fun c37 => ?_) (fun c37 => absurd c37 (by decide))
                refine lv_iconst (v := nI 0) hx hb dX12_tell_130 (by decide) ?_
                refine nr_iadd hx hb dX12_tell_131 ?_
                refine lv_istore (lv' := [(7, .int (nI (nt + 0))), (6, .int (nI (of + 0))), (9, .int (nI 0)), (0, .ref (ad Γ (mo + 0))), (1, .int (nI jk)), (2, .int bs2), (3, .int (nI lo2)), (4, .int (nI d)), (5, .int (nI lm)), (8, .int (nI g))]) hx hb dX12_tell_132 hl (by decide) rfl (fun ls hl => ?_)
                refine nr_inc (d := 1) (k := 9) (lv' := [(8, .int (nI (g + 1))), (7, .int (nI (nt + 0))), (6, .int (nI (of + 0))), (9, .int (nI 0)), (0, .ref (ad Γ (mo + 0))), (1, .int (nI jk)), (2, .int bs2), (3, .int (nI lo2)), (4, .int (nI d)), (5, .int (nI lm))]) hx hb dX12_tell_134 hl rfl (by decide) (by decide) rfl (fun ls hl => ?_)
                refine lv_goto (tgt := 49) hx hb dX12_tell_137 (by decide) ?_
                exact ih49 (g + 1, of + 0, nt + 0) _ _ (lv_sub hl [4, 5, 6, 7, 8, 9, 2, 1, 0] rfl) ⟨rfl, by (try dsimp only); omega, by (try dsimp only); omega, by (try dsimp only); (first | contradiction | (rw [hof]; simp only [gqO, cnt]; first | rw [if_pos ⟨⟨hg1, by assumption⟩, by omega⟩] | (rw [if_neg, Nat.add_zero]; intro z; first | exact absurd z.1.2 (by assumption) | (have := z.2; omega)))), by (try dsimp only); (first | contradiction | (rw [hnt]; simp only [gqN, cnt]; first | rw [if_pos ⟨⟨hg1, by assumption⟩, by omega⟩] | (rw [if_neg, Nat.add_zero]; intro z; first | exact absurd z.1.2 (by assumption) | (have := z.2; omega)))), by (try dsimp only); omega, by (try dsimp only); omega⟩ (by (try dsimp only); omega)
          · refine lv_iconst (v := nI 1) hx hb dX12_tell_77 (by decide) ?_
            refine lv_goto (tgt := 82) hx hb dX12_tell_78 (by decide) ?_
            refine lv_istore (lv' := [(9, .int (nI 1)), (0, .ref (ad Γ (mo + 0))), (1, .int (nI jk)), (2, .int bs2), (3, .int (nI lo2)), (4, .int (nI d)), (5, .int (nI lm)), (6, .int (nI of)), (7, .int (nI nt)), (8, .int (nI g))]) hx hb dX12_tell_82 hl (by decide) rfl (fun ls hl => ?_)
            refine lv_iload hx hb dX12_tell_84 (lv_at hl 7 rfl) ?_
            refine lv_aload_n hx hb dX12_tell_86 rfl (lv_at hl 1 rfl) ?_
            refine lv_iload_n hx hb dX12_tell_87 rfl (lv_at hl 2 rfl) ?_
            refine lv_iload hx hb dX12_tell_88 (lv_at hl 9 rfl) ?_
            refine nr_goB (P := fitsP R jk g) (nr_runV (As := [.int (nI jk), .int (nI g)]) (C := RX12) (T := TX12) (N := 19) ⟨hx, hb, hml, hown, hts⟩ hw (by omega) (isM_0 hM) rfl (c_X12_isGraveBy l Γ n G mo R K kp rf ca rc hd fw tl by0 an vl iv hM (by omega) hI jk g (by omega) (by omega)) (cwV 2 hts gX12_tell_X12_isGraveBy rfl rfl rfl (by decide +kernel) ⟨Nat.le_of_ble_eq_true rfl, Nat.le_of_ble_eq_true rfl⟩) rfl hl.1 rfl (Nat.le_of_ble_eq_true rfl) dX12_tell_90 ⟨Nat.zero_le _, Nat.zero_le _⟩) (fun b38 => ?_) (fun b38 => ?_)
            · refine nr_if_eq (tgt := 105) hx hb (by decide) dX12_tell_93 (by decide) (fun c39 => absurd c39 (by decide)) (fun c39 => ?_)
              refine lv_iload hx hb dX12_tell_96 (lv_at hl 0 rfl) ?_
              refine nr_if_eq (tgt := 105) hx hb (by decide) dX12_tell_98 (by decide) (fun c40 => absurd c40 (by decide)) (fun c40 => ?_)
              refine lv_iconst (v := nI 1) hx hb dX12_tell_101 (by decide) ?_
              refine lv_goto (tgt := 106) hx hb dX12_tell_102 (by decide) ?_
              refine nr_iadd hx hb dX12_tell_106 ?_
              refine lv_istore (lv' := [(6, .int (nI (of + 1))), (9, .int (nI 1)), (0, .ref (ad Γ (mo + 0))), (1, .int (nI jk)), (2, .int bs2), (3, .int (nI lo2)), (4, .int (nI d)), (5, .int (nI lm)), (7, .int (nI nt)), (8, .int (nI g))]) hx hb dX12_tell_107 hl (by decide) rfl (fun ls hl => ?_)
              refine lv_iload hx hb dX12_tell_109 (lv_at hl 8 rfl) ?_
              refine lv_aload_n hx hb dX12_tell_111 rfl (lv_at hl 2 rfl) ?_
              refine lv_iload_n hx hb dX12_tell_112 rfl (lv_at hl 3 rfl) ?_
              refine lv_iload hx hb dX12_tell_113 (lv_at hl 9 rfl) ?_
              refine nr_goB (P := fitsP R jk g) (nr_runV (As := [.int (nI jk), .int (nI g)]) (C := RX12) (T := TX12) (N := 19) ⟨hx, hb, hml, hown, hts⟩ hw (by omega) (isM_0 hM) rfl (c_X12_isGraveBy l Γ n G mo R K kp rf ca rc hd fw tl by0 an vl iv hM (by omega) hI jk g (by omega) (by omega)) (cwV 2 hts gX12_tell_X12_isGraveBy rfl rfl rfl (by decide +kernel) ⟨Nat.le_of_ble_eq_true rfl, Nat.le_of_ble_eq_true rfl⟩) rfl hl.1 rfl (Nat.le_of_ble_eq_true rfl) dX12_tell_115 ⟨Nat.zero_le _, Nat.zero_le _⟩) (fun b41 => ?_) (fun b41 => ?_)
              · refine nr_if_eq (tgt := 130) hx hb (by decide) dX12_tell_118 (by decide) (fun c42 => absurd c42 (by decide)) (fun c42 => ?_)
                refine lv_iload hx hb dX12_tell_121 (lv_at hl 1 rfl) ?_
                refine nr_if_ne (tgt := 130) hx hb (by decide) dX12_tell_123 (by decide) (fun c43 => ?_) (fun c43 => absurd c43 (by decide))
                refine lv_iconst (v := nI 0) hx hb dX12_tell_130 (by decide) ?_
                refine nr_iadd hx hb dX12_tell_131 ?_
                refine lv_istore (lv' := [(7, .int (nI (nt + 0))), (6, .int (nI (of + 1))), (9, .int (nI 1)), (0, .ref (ad Γ (mo + 0))), (1, .int (nI jk)), (2, .int bs2), (3, .int (nI lo2)), (4, .int (nI d)), (5, .int (nI lm)), (8, .int (nI g))]) hx hb dX12_tell_132 hl (by decide) rfl (fun ls hl => ?_)
                refine nr_inc (d := 1) (k := 9) (lv' := [(8, .int (nI (g + 1))), (7, .int (nI (nt + 0))), (6, .int (nI (of + 1))), (9, .int (nI 1)), (0, .ref (ad Γ (mo + 0))), (1, .int (nI jk)), (2, .int bs2), (3, .int (nI lo2)), (4, .int (nI d)), (5, .int (nI lm))]) hx hb dX12_tell_134 hl rfl (by decide) (by decide) rfl (fun ls hl => ?_)
                refine lv_goto (tgt := 49) hx hb dX12_tell_137 (by decide) ?_
                exact ih49 (g + 1, of + 1, nt + 0) _ _ (lv_sub hl [4, 5, 6, 7, 8, 9, 2, 1, 0] rfl) ⟨rfl, by (try dsimp only); omega, by (try dsimp only); omega, by (try dsimp only); (first | contradiction | (rw [hof]; simp only [gqO, cnt]; first | rw [if_pos ⟨⟨hg1, by assumption⟩, by omega⟩] | (rw [if_neg, Nat.add_zero]; intro z; first | exact absurd z.1.2 (by assumption) | (have := z.2; omega)))), by (try dsimp only); (first | contradiction | (rw [hnt]; simp only [gqN, cnt]; first | rw [if_pos ⟨⟨hg1, by assumption⟩, by omega⟩] | (rw [if_neg, Nat.add_zero]; intro z; first | exact absurd z.1.2 (by assumption) | (have := z.2; omega)))), by (try dsimp only); omega, by (try dsimp only); omega⟩ (by (try dsimp only); omega)
              · refine nr_if_eq (tgt := 130) hx hb (by decide) dX12_tell_118 (by decide) (fun c44 => ?_) (fun c44 => absurd c44 (by decide))
                refine lv_iconst (v := nI 0) hx hb dX12_tell_130 (by decide) ?_
                refine nr_iadd hx hb dX12_tell_131 ?_
                refine lv_istore (lv' := [(7, .int (nI (nt + 0))), (6, .int (nI (of + 1))), (9, .int (nI 1)), (0, .ref (ad Γ (mo + 0))), (1, .int (nI jk)), (2, .int bs2), (3, .int (nI lo2)), (4, .int (nI d)), (5, .int (nI lm)), (8, .int (nI g))]) hx hb dX12_tell_132 hl (by decide) rfl (fun ls hl => ?_)
                refine nr_inc (d := 1) (k := 9) (lv' := [(8, .int (nI (g + 1))), (7, .int (nI (nt + 0))), (6, .int (nI (of + 1))), (9, .int (nI 1)), (0, .ref (ad Γ (mo + 0))), (1, .int (nI jk)), (2, .int bs2), (3, .int (nI lo2)), (4, .int (nI d)), (5, .int (nI lm))]) hx hb dX12_tell_134 hl rfl (by decide) (by decide) rfl (fun ls hl => ?_)
                refine lv_goto (tgt := 49) hx hb dX12_tell_137 (by decide) ?_
                exact ih49 (g + 1, of + 1, nt + 0) _ _ (lv_sub hl [4, 5, 6, 7, 8, 9, 2, 1, 0] rfl) ⟨rfl, by (try dsimp only); omega, by (try dsimp only); omega, by (try dsimp only); (first | contradiction | (rw [hof]; simp only [gqO, cnt]; first | rw [if_pos ⟨⟨hg1, by assumption⟩, by omega⟩] | (rw [if_neg, Nat.add_zero]; intro z; first | exact absurd z.1.2 (by assumption) | (have := z.2; omega)))), by (try dsimp only); (first | contradiction | (rw [hnt]; simp only [gqN, cnt]; first | rw [if_pos ⟨⟨hg1, by assumption⟩, by omega⟩] | (rw [if_neg, Nat.add_zero]; intro z; first | exact absurd z.1.2 (by assumption) | (have := z.2; omega)))), by (try dsimp only); omega, by (try dsimp only); omega⟩ (by (try dsimp only); omega)
            · refine nr_if_eq (tgt := 105) hx hb (by decide) dX12_tell_93 (by decide) (fun c45 => ?_) (fun c45 => absurd c45 (by decide))
              refine lv_iconst (v := nI 0) hx hb dX12_tell_105 (by decide) ?_
              refine nr_iadd hx hb dX12_tell_106 ?_
              refine lv_istore (lv' := [(6, .int (nI (of + 0))), (9, .int (nI 1)), (0, .ref (ad Γ (mo + 0))), (1, .int (nI jk)), (2, .int bs2), (3, .int (nI lo2)), (4, .int (nI d)), (5, .int (nI lm)), (7, .int (nI nt)), (8, .int (nI g))]) hx hb dX12_tell_107 hl (by decide) rfl (fun ls hl => ?_)
              refine lv_iload hx hb dX12_tell_109 (lv_at hl 8 rfl) ?_
              refine lv_aload_n hx hb dX12_tell_111 rfl (lv_at hl 2 rfl) ?_
              refine lv_iload_n hx hb dX12_tell_112 rfl (lv_at hl 3 rfl) ?_
              refine lv_iload hx hb dX12_tell_113 (lv_at hl 9 rfl) ?_
              refine nr_goB (P := fitsP R jk g) (nr_runV (As := [.int (nI jk), .int (nI g)]) (C := RX12) (T := TX12) (N := 19) ⟨hx, hb, hml, hown, hts⟩ hw (by omega) (isM_0 hM) rfl (c_X12_isGraveBy l Γ n G mo R K kp rf ca rc hd fw tl by0 an vl iv hM (by omega) hI jk g (by omega) (by omega)) (cwV 2 hts gX12_tell_X12_isGraveBy rfl rfl rfl (by decide +kernel) ⟨Nat.le_of_ble_eq_true rfl, Nat.le_of_ble_eq_true rfl⟩) rfl hl.1 rfl (Nat.le_of_ble_eq_true rfl) dX12_tell_115 ⟨Nat.zero_le _, Nat.zero_le _⟩) (fun b46 => ?_) (fun b46 => ?_)
              · refine nr_if_eq (tgt := 130) hx hb (by decide) dX12_tell_118 (by decide) (fun c47 => absurd c47 (by decide)) (fun c47 => ?_)
                refine lv_iload hx hb dX12_tell_121 (lv_at hl 1 rfl) ?_
                refine nr_if_ne (tgt := 130) hx hb (by decide) dX12_tell_123 (by decide) (fun c48 => ?_) (fun c48 => absurd c48 (by decide))
                refine lv_iconst (v := nI 0) hx hb dX12_tell_130 (by decide) ?_
                refine nr_iadd hx hb dX12_tell_131 ?_
                refine lv_istore (lv' := [(7, .int (nI (nt + 0))), (6, .int (nI (of + 0))), (9, .int (nI 1)), (0, .ref (ad Γ (mo + 0))), (1, .int (nI jk)), (2, .int bs2), (3, .int (nI lo2)), (4, .int (nI d)), (5, .int (nI lm)), (8, .int (nI g))]) hx hb dX12_tell_132 hl (by decide) rfl (fun ls hl => ?_)
                refine nr_inc (d := 1) (k := 9) (lv' := [(8, .int (nI (g + 1))), (7, .int (nI (nt + 0))), (6, .int (nI (of + 0))), (9, .int (nI 1)), (0, .ref (ad Γ (mo + 0))), (1, .int (nI jk)), (2, .int bs2), (3, .int (nI lo2)), (4, .int (nI d)), (5, .int (nI lm))]) hx hb dX12_tell_134 hl rfl (by decide) (by decide) rfl (fun ls hl => ?_)
                refine lv_goto (tgt := 49) hx hb dX12_tell_137 (by decide) ?_
                exact ih49 (g + 1, of + 0, nt + 0) _ _ (lv_sub hl [4, 5, 6, 7, 8, 9, 2, 1, 0] rfl) ⟨rfl, by (try dsimp only); omega, by (try dsimp only); omega, by (try dsimp only); (first | contradiction | (rw [hof]; simp only [gqO, cnt]; first | rw [if_pos ⟨⟨hg1, by assumption⟩, by omega⟩] | (rw [if_neg, Nat.add_zero]; intro z; first | exact absurd z.1.2 (by assumption) | (have := z.2; omega)))), by (try dsimp only); (first | contradiction | (rw [hnt]; simp only [gqN, cnt]; first | rw [if_pos ⟨⟨hg1, by assumption⟩, by omega⟩] | (rw [if_neg, Nat.add_zero]; intro z; first | exact absurd z.1.2 (by assumption) | (have := z.2; omega)))), by (try dsimp only); omega, by (try dsimp only); omega⟩ (by (try dsimp only); omega)
              · refine nr_if_eq (tgt := 130) hx hb (by decide) dX12_tell_118 (by decide) (fun c49 => ?_) (fun c49 => absurd c49 (by decide))
                refine lv_iconst (v := nI 0) hx hb dX12_tell_130 (by decide) ?_
                refine nr_iadd hx hb dX12_tell_131 ?_
                refine lv_istore (lv' := [(7, .int (nI (nt + 0))), (6, .int (nI (of + 0))), (9, .int (nI 1)), (0, .ref (ad Γ (mo + 0))), (1, .int (nI jk)), (2, .int bs2), (3, .int (nI lo2)), (4, .int (nI d)), (5, .int (nI lm)), (8, .int (nI g))]) hx hb dX12_tell_132 hl (by decide) rfl (fun ls hl => ?_)
                refine nr_inc (d := 1) (k := 9) (lv' := [(8, .int (nI (g + 1))), (7, .int (nI (nt + 0))), (6, .int (nI (of + 0))), (9, .int (nI 1)), (0, .ref (ad Γ (mo + 0))), (1, .int (nI jk)), (2, .int bs2), (3, .int (nI lo2)), (4, .int (nI d)), (5, .int (nI lm))]) hx hb dX12_tell_134 hl rfl (by decide) (by decide) rfl (fun ls hl => ?_)
                refine lv_goto (tgt := 49) hx hb dX12_tell_137 (by decide) ?_
                exact ih49 (g + 1, of + 0, nt + 0) _ _ (lv_sub hl [4, 5, 6, 7, 8, 9, 2, 1, 0] rfl) ⟨rfl, by (try dsimp only); omega, by (try dsimp only); omega, by (try dsimp only); (first | contradiction | (rw [hof]; simp only [gqO, cnt]; first | rw [if_pos ⟨⟨hg1, by assumption⟩, by omega⟩] | (rw [if_neg, Nat.add_zero]; intro z; first | exact absurd z.1.2 (by assumption) | (have := z.2; omega)))), by (try dsimp only); (first | contradiction | (rw [hnt]; simp only [gqN, cnt]; first | rw [if_pos ⟨⟨hg1, by assumption⟩, by omega⟩] | (rw [if_neg, Nat.add_zero]; intro z; first | exact absurd z.1.2 (by assumption) | (have := z.2; omega)))), by (try dsimp only); omega, by (try dsimp only); omega⟩ (by (try dsimp only); omega)
  · refine nr_if_ne (tgt := 15) hx hb (by decide) dX12_tell_5 (by decide) (fun c50 => absurd c50 (by decide)) (fun c50 => ?_)
    refine lv_aload_n hx hb dX12_tell_8 rfl (lv_at hl 0 rfl) ?_
    refine lv_bipush (v := (-2)) hx hb dX12_tell_9 (by decide) ?_
    refine nr_goI (nr_runV (As := [.int (-2)]) (C := RX12) (T := TX12) (N := 19) ⟨hx, hb, hml, hown, hts⟩ hw (by omega) (isM_0 hM) rfl (c_X12_bad l Γ n G mo R K kp rf ca rc hd fw tl by0 an vl iv hM (by omega) hI hj (-2)) (cwV 1 hts gX12_tell_X12_bad rfl rfl rfl (by decide +kernel) ⟨Nat.le_of_ble_eq_true rfl, Nat.le_of_ble_eq_true rfl⟩) rfl hl.1 rfl (Nat.le_of_ble_eq_true rfl) dX12_tell_11 ⟨Nat.zero_le _, Nat.zero_le _⟩) hw hA hS (fun z51 G51 H locs hp hw hS => ?_)
    obtain ⟨ha51, hM, hfr51⟩ := hp
    have hfr := fr_tr hfr hfr51 (Nat.le_refl _) (Nat.le_refl _)
    subst ha51
    exact nr_retI hx hb hr hlocks hw hS (Or.inl ⟨by assumption, rfl, hM, hfr⟩) dX12_tell_14
theorem wl_X12_look_1 : Cond.constant RX12 155 (1000000) ∈ wsX12_look := List.mem_of_getElem? (i := 1) rfl
theorem wl_X12_look_2 : Cond.fieldLink RX12 39 "BellForgivenModel" "tells" "[I" ∈ wsX12_look := List.mem_of_getElem? (i := 2) rfl
theorem wl_X12_look_3 : Cond.fieldLink RX12 7 "BellForgivenModel" "all" "[I" ∈ wsX12_look := List.mem_of_getElem? (i := 3) rfl
theorem hi_X12_look_X12 : ∀ w ∈ u_ws RX12 TX12 19, w ∈ wsX12_look := fun w h => (List.mem_cons_of_mem _ (List.mem_append_right _ h))
set_option maxHeartbeats 4000000 in
set_option maxRecDepth 100000 in
theorem c_X12_look (l : Launch) (Γ : Gam) (n : Nat) (G : Nat → va_E) (mo : Nat) (R K kp rf ca rc hd fw tl by0 an vl iv : Nat → Nat) (hM : isM Γ G mo R K kp rf ca rc hd fw tl by0 an vl iv) (hmo : mo + 13 ≤ n) (hI : vI R) (hj : winj Γ n) (k : Int32) (htl : ∀ j, tl j < 2147483648)  : Met l yX12_look wsX12_look ({ frames := 3, cells := 0, slots := 0, locals := 75 }) (va_Pc [.ref (ad Γ (mo + 0)), .int k] (fun U => hw Γ n G U U.heap)) (wQi Γ n (fun z G2 => ((¬ vBel (R 1) k) ∧ (z = -2) ∧ isM Γ G2 mo R K kp (bmp rf 0) ca rc hd fw tl by0 an vl iv ∧ fr G G2 mo (mo + 13)) ∨ (∃ jk : Nat, (jk < R 1) ∧ (k = nI jk) ∧ (lookM R jk 1000000 z) ∧ ∃ tl2 : Nat → Nat, (∀ j, tl2 j < 2147483648) ∧ isM Γ G2 mo R K kp rf ca rc hd fw tl2 by0 an vl iv ∧ fr G G2 mo (mo + 13)))) 0 0 (wA Γ n) := by
  refine Met.ofW (cc := cX12_look) (maxL := 7) (ret := (some .int)) (by decide) rfl ?_
  intro p e s m args below meth c s₁ B hml hv
  obtain ⟨rfl, hw⟩ := hv
  have hx := B.exec
  have hb := B.bytes
  have hr := B.returns
  have hts := atoms_spec (ws := wsX12_look) B.pre
  have hown : s.vm.findClass RX12 = some m.cls := findClass_of_methodNamed B.named
  have hlocks := B.notSynchronized
  have hS : va_S (wA Γ n) s.heap s.heap [] := va_S.rf
  have hA : ∀ q, wA Γ n q → wA Γ n q := fun _ h => h
  have hl := lv_entry ([.ref (ad Γ (mo + 0)), .int k]) (n := 7) (Nat.le_of_ble_eq_true rfl)
  rw [lg_entry_eq]
  generalize (lg_sl ([.ref (ad Γ (mo + 0)), .int k]) ++ List.replicate (7 - (lg_sl ([.ref (ad Γ (mo + 0)), .int k])).length) Slot.unset).toArray = ls at hl ⊢
  have hl : lv_has ls 7 [(0, .ref (ad Γ (mo + 0))), (1, .int k)] := hl
  have hfr := fr_rf G mo (mo + 13)
  have hB := hI.1
  have hB0 := hI.2.1
  have hB1 := hI.2.2.1
  have hB20 := hI.2.2.2.2.2.2.2.2.2
  have hBz2 := hI.2.2.2.1
  have hBz3 := hI.2.2.2.2.1
  have hBz4 := hI.2.2.2.2.2.1
  have hBz5 := hI.2.2.2.2.2.2.1
  have hby := hI.2.2.2.2.2.2.2.1
  have hto := hI.2.2.2.2.2.2.2.2.1
  have hwk : wkinds R = wkinds R := rfl
  have hwl := fun k => (show wkinds R k < 64 from bitsOf_lt _ 6)
  refine lv_aload_n hx hb dX12_look_0 rfl (lv_at hl 0 rfl) ?_
  refine lv_iload_n hx hb dX12_look_1 rfl (lv_at hl 1 rfl) ?_
  refine nr_goB (P := ∃ j, j < R 1 ∧ k = nI j) (nr_runV (As := [.int k]) (C := RX12) (T := TX12) (N := 19) ⟨hx, hb, hml, hown, hts⟩ hw (by omega) (isM_0 hM) rfl (c_X12_isWrong l Γ n G mo R K kp rf ca rc hd fw tl by0 an vl iv hM (by omega) hI k) (cwV 1 hts gX12_look_X12_isWrong rfl rfl rfl (by decide +kernel) ⟨Nat.le_of_ble_eq_true rfl, Nat.le_of_ble_eq_true rfl⟩) rfl hl.1 rfl (Nat.le_of_ble_eq_true rfl) dX12_look_2 ⟨Nat.zero_le _, Nat.zero_le _⟩) (fun b1 => ?_) (fun b1 => ?_)
  · obtain ⟨jk, hjk, rfl⟩ := b1
    refine nr_if_ne (tgt := 15) hx hb (by decide) dX12_look_5 (by decide) (fun c2 => ?_) (fun c2 => absurd c2 (by decide))
    refine lv_aload_n hx hb dX12_look_15 rfl (lv_at hl 0 rfl) ?_
    refine lv_iload_n hx hb dX12_look_16 rfl (lv_at hl 1 rfl) ?_
    refine nr_goS (nr_runV (As := [.int (nI jk)]) (C := RX12) (T := TX12) (N := 19) ⟨hx, hb, hml, hown, hts⟩ hw (by omega) (isM_0 hM) rfl (c_X12_kindsOfWrong l Γ n G mo R K kp rf ca rc hd fw tl by0 an vl iv hM (by omega) hI jk (by omega)) (cwV 1 hts gX12_look_X12_kindsOfWrong rfl rfl rfl (by decide +kernel) ⟨Nat.le_of_ble_eq_true rfl, Nat.le_of_ble_eq_true rfl⟩) rfl hl.1 rfl (Nat.le_of_ble_eq_true rfl) dX12_look_17 ⟨Nat.zero_le _, Nat.zero_le _⟩) (fun r3 hr3 => ?_)
    obtain rfl : r3 = (nI (wkinds R jk)) := hr3
    refine lv_istore_n (lv' := [(2, .int (nI (wkinds R jk))), (0, .ref (ad Γ (mo + 0))), (1, .int (nI jk))]) hx hb dX12_look_20 rfl hl (by decide) rfl (fun ls hl => ?_)
    refine lv_iconst (v := (-1)) hx hb dX12_look_21 (by decide) ?_
    refine lv_istore_n (lv' := [(3, .int (-1)), (2, .int (nI (wkinds R jk))), (0, .ref (ad Γ (mo + 0))), (1, .int (nI jk))]) hx hb dX12_look_22 rfl hl (by decide) rfl (fun ls hl => ?_)
    refine nr_ldc (k := 1000000) hx hb hown (hts _ wl_X12_look_1) (by decide) dX12_look_23 ?_
    refine lv_istore (lv' := [(4, .int (nI 1000000)), (3, .int (-1)), (2, .int (nI (wkinds R jk))), (0, .ref (ad Γ (mo + 0))), (1, .int (nI jk))]) hx hb dX12_look_25 hl (by decide) rfl (fun ls hl => ?_)
    refine lv_iconst (v := nI 0) hx hb dX12_look_27 (by decide) ?_
    refine lv_istore (lv' := [(5, .int (nI 0)), (4, .int (nI 1000000)), (3, .int (-1)), (2, .int (nI (wkinds R jk))), (0, .ref (ad Γ (mo + 0))), (1, .int (nI jk))]) hx hb dX12_look_28 hl (by decide) rfl (fun ls hl => ?_)
    refine nr_lpI (σ := (Nat → va_E) × Nat × Nat × Int32 × (Nat → Nat)) 30 (fun x => x.1) (fun x lv => lv = [(0, .ref (ad Γ (mo + 0))), (1, .int (nI jk)), (2, .int (nI (wkinds R jk))), (3, .int x.2.2.2.1), (4, .int (nI x.2.2.1)), (5, .int (nI x.2.1))] ∧ isM Γ x.1 mo R K kp rf ca rc hd fw x.2.2.2.2 by0 an vl iv ∧ fr G x.1 mo (mo + 13) ∧ (x.2.1 ≤ 31) ∧ ((wkinds R jk = 0 ∧ x.2.2.2.1 = -1 ∧ x.2.2.1 = 1000000) ∨ (¬ wkinds R jk = 0 ∧ amin (lookF R jk) nI 1000000 x.2.1 x.2.2.1 x.2.2.2.1)) ∧ (x.2.2.1 ≤ 1000000) ∧ (∀ j, x.2.2.2.2 j < 2147483648)) (fun x => 31 - x.2.1) (G, 0, 1000000, (-1), tl) hw hS (lv_sub hl [4, 5, 3, 2, 1, 0] rfl) ⟨rfl, hM, hfr, by (try dsimp only); omega, by (try dsimp only); by_cases q : wkinds R jk = 0; exact Or.inl ⟨q, rfl, rfl⟩; exact Or.inr ⟨q, amin_0 _ _ _⟩, by (try dsimp only); omega, by (try dsimp only); exact (htl)⟩ ?_
    intro x lv ls H locs hw hS hl hI ih30
    obtain ⟨Gl30, d, lo, bs, tlL30⟩ := x
    obtain ⟨rfl, hM, hfr, hdd, hm, hlo, htl2⟩ := hI
    try dsimp only at hM hfr hdd hm hlo htl2 hw hl ih30
    have hwl1 := hwl jk
    refine lv_iload hx hb dX12_look_30 (lv_at hl 5 rfl) ?_
    refine lv_bipush (v := nI 30) hx hb dX12_look_32 (by decide) ?_
    refine nr_icmp_gt (tgt := 123) hx hb (by omega) (by decide) dX12_look_34 (by decide) (fun c4 => ?_) (fun c4 => ?_)
    · refine lv_iload_n hx hb dX12_look_123 rfl (lv_at hl 3 rfl) ?_
      exact nr_retI hx hb hr hlocks hw hS (Or.inr (⟨jk, hjk, rfl, by rcases hm with ⟨m1, m2, m3⟩ | ⟨m1, m2⟩; exact Or.inl ⟨m1, m2⟩; exact Or.inr ⟨m1, lo, by rw [show 31 = d by omega]; exact m2⟩, _, htl2, hM, hfr⟩)) dX12_look_124
    · refine lv_iload_n hx hb dX12_look_37 rfl (lv_at hl 2 rfl) ?_
      refine nr_if_le (tgt := 123) hx hb (by omega) dX12_look_38 (by decide) (fun c5 => ?_) (fun c5 => ?_)
      · refine lv_iload_n hx hb dX12_look_123 rfl (lv_at hl 3 rfl) ?_
        exact nr_retI hx hb hr hlocks hw hS (Or.inr (⟨jk, hjk, rfl, by rcases hm with ⟨m1, m2, m3⟩ | ⟨m1, m2⟩; exact Or.inl ⟨m1, m2⟩; exact Or.inr ⟨m1, lo, by rw [show 31 = d by omega]; exact m2⟩, _, htl2, hM, hfr⟩)) dX12_look_124
      · refine lv_iconst (v := nI 0) hx hb dX12_look_41 (by decide) ?_
        refine lv_istore (lv' := [(6, .int (nI 0)), (0, .ref (ad Γ (mo + 0))), (1, .int (nI jk)), (2, .int (nI (wkinds R jk))), (3, .int bs), (4, .int (nI lo)), (5, .int (nI d))]) hx hb dX12_look_42 hl (by decide) rfl (fun ls hl => ?_)
        refine nr_lpI (σ := (Nat → va_E) × Nat × (Nat → Nat)) 44 (fun x => x.1) (fun x lv => lv = [(0, .ref (ad Γ (mo + 0))), (1, .int (nI jk)), (2, .int (nI (wkinds R jk))), (3, .int bs), (4, .int (nI lo)), (5, .int (nI d)), (6, .int (nI x.2.1))] ∧ isM Γ x.1 mo R K kp rf ca rc hd fw x.2.2 by0 an vl iv ∧ fr G x.1 mo (mo + 13) ∧ (x.2.1 ≤ 6) ∧ (∀ j, x.2.2 j < 2147483648) ∧ (∀ j, j < x.2.1 → x.2.2 j = sWeight j (R (52 + jk)) d)) (fun x => 6 - x.2.1) (Gl30, 0, tlL30) hw hS (lv_sub hl [1, 2, 3, 4, 5, 6, 0] rfl) ⟨rfl, hM, hfr, by (try dsimp only); omega, by (try dsimp only); exact (htl2), by (try dsimp only); exact (fun j hj => absurd hj (Nat.not_lt_zero j))⟩ ?_
        intro x lv ls H locs hw hS hl hI ih44
        obtain ⟨Gl44, kd, tlL44⟩ := x
        obtain ⟨rfl, hM, hfr, hkd, htl3, htv⟩ := hI
        try dsimp only at hM hfr hkd htl3 htv hw hl ih44
        have hWl := sWeight_le kd (R (52 + jk)) d
        have hL9 := hB (52 + jk)
        refine lv_iload hx hb dX12_look_44 (lv_at hl 6 rfl) ?_
        refine lv_bipush (v := nI 6) hx hb dX12_look_46 (by decide) ?_
        refine nr_icmp_ge (tgt := 80) hx hb (by omega) (by decide) dX12_look_48 (by decide) (fun c6 => ?_) (fun c6 => ?_)
        · have hlf : lookF R jk d = most tlL44 (wkinds R jk) 6 := most_cong (fun j hj => (htv j (by omega)).symm) (Nat.le_refl _)
          have hmo9 := most_le tlL44 (wkinds R jk) 6
          refine lv_aload_n hx hb dX12_look_80 rfl (lv_at hl 0 rfl) ?_
          refine lv_iload_n hx hb dX12_look_81 rfl (lv_at hl 2 rfl) ?_
          refine nr_goS (nr_runV (As := [.int (nI (wkinds R jk))]) (C := RX12) (T := TX12) (N := 19) ⟨hx, hb, hml, hown, hts⟩ hw (by omega) (isM_0 hM) rfl (c_X12_mostAlike l Γ n Gl44 mo R K kp rf ca rc hd fw tlL44 by0 an vl iv hM (by omega) hI (wkinds R jk) (by omega) htl3) (cwV 1 hts gX12_look_X12_mostAlike rfl rfl rfl (by decide +kernel) ⟨Nat.le_of_ble_eq_true rfl, Nat.le_of_ble_eq_true rfl⟩) rfl hl.1 rfl (Nat.le_of_ble_eq_true rfl) dX12_look_82 ⟨Nat.zero_le _, Nat.zero_le _⟩) (fun r7 hr7 => ?_)
          obtain rfl : r7 = (nI (most tlL44 (wkinds R jk) 6)) := hr7
          refine lv_istore (lv' := [(6, .int (nI (most tlL44 (wkinds R jk) 6))), (0, .ref (ad Γ (mo + 0))), (1, .int (nI jk)), (2, .int (nI (wkinds R jk))), (3, .int bs), (4, .int (nI lo)), (5, .int (nI d))]) hx hb dX12_look_85 hl (by decide) rfl (fun ls hl => ?_)
          refine lv_iload hx hb dX12_look_87 (lv_at hl 0 rfl) ?_
          refine lv_iload hx hb dX12_look_89 (lv_at hl 5 rfl) ?_
          refine nr_icmp_ge (tgt := 99) hx hb (by omega) (by omega) dX12_look_91 (by decide) (fun c8 => ?_) (fun c8 => ?_)
          · refine lv_iload_n hx hb dX12_look_99 rfl (lv_at hl 4 rfl) ?_
            refine lv_istore_n (lv' := [(3, .int bs), (6, .int (nI (most tlL44 (wkinds R jk) 6))), (0, .ref (ad Γ (mo + 0))), (1, .int (nI jk)), (2, .int (nI (wkinds R jk))), (4, .int (nI lo)), (5, .int (nI d))]) hx hb dX12_look_100 rfl hl (by decide) rfl (fun ls hl => ?_)
            refine lv_iload hx hb dX12_look_101 (lv_at hl 1 rfl) ?_
            refine lv_iload hx hb dX12_look_103 (lv_at hl 5 rfl) ?_
            refine nr_icmp_ge (tgt := 113) hx hb (by omega) (by omega) dX12_look_105 (by decide) (fun c9 => ?_) (fun c9 => ?_)
            · refine lv_iload hx hb dX12_look_113 (lv_at hl 5 rfl) ?_
              refine lv_istore (lv' := [(4, .int (nI lo)), (3, .int bs), (6, .int (nI (most tlL44 (wkinds R jk) 6))), (0, .ref (ad Γ (mo + 0))), (1, .int (nI jk)), (2, .int (nI (wkinds R jk))), (5, .int (nI d))]) hx hb dX12_look_115 hl (by decide) rfl (fun ls hl => ?_)
              refine nr_inc (d := 1) (k := 6) (lv' := [(5, .int (nI (d + 1))), (4, .int (nI lo)), (3, .int bs), (6, .int (nI (most tlL44 (wkinds R jk) 6))), (0, .ref (ad Γ (mo + 0))), (1, .int (nI jk)), (2, .int (nI (wkinds R jk)))]) hx hb dX12_look_117 hl rfl (by decide) (by decide) rfl (fun ls hl => ?_)
              refine lv_goto (tgt := 30) hx hb dX12_look_120 (by decide) ?_
              exact ih30 (Gl44, d + 1, lo, bs, tlL44) _ _ _ _ hw hS (lv_sub hl [4, 5, 6, 2, 1, 0] rfl) ⟨rfl, hM, hfr, by (try dsimp only); omega, by
            (try dsimp only)
            rcases hm with ⟨m1, m2, m3⟩ | ⟨m1, m2⟩
            · exfalso; omega
            · refine Or.inr ⟨m1, ?_⟩
              first
              | (exfalso; omega)
              | (have h9 := amin_y m2 (show lookF R jk d < lo by rw [hlf]; assumption); rw [hlf] at h9; exact h9)
              | exact amin_n m2 (show lookF R jk d < 1000000 by rw [hlf]; omega) (show ¬ lookF R jk d < lo by rw [hlf]; omega), by (try dsimp only); omega, by (try dsimp only); exact (htl3)⟩ (by (try dsimp only); omega)
            · refine lv_iload hx hb dX12_look_108 (lv_at hl 1 rfl) ?_
              refine lv_goto (tgt := 115) hx hb dX12_look_110 (by decide) ?_
              refine lv_istore (lv' := [(4, .int (nI (most tlL44 (wkinds R jk) 6))), (3, .int bs), (6, .int (nI (most tlL44 (wkinds R jk) 6))), (0, .ref (ad Γ (mo + 0))), (1, .int (nI jk)), (2, .int (nI (wkinds R jk))), (5, .int (nI d))]) hx hb dX12_look_115 hl (by decide) rfl (fun ls hl => ?_)
              refine nr_inc (d := 1) (k := 6) (lv' := [(5, .int (nI (d + 1))), (4, .int (nI (most tlL44 (wkinds R jk) 6))), (3, .int bs), (6, .int (nI (most tlL44 (wkinds R jk) 6))), (0, .ref (ad Γ (mo + 0))), (1, .int (nI jk)), (2, .int (nI (wkinds R jk)))]) hx hb dX12_look_117 hl rfl (by decide) (by decide) rfl (fun ls hl => ?_)
              refine lv_goto (tgt := 30) hx hb dX12_look_120 (by decide) ?_
              exact ih30 (Gl44, d + 1, most tlL44 (wkinds R jk) 6, bs, tlL44) _ _ _ _ hw hS (lv_sub hl [4, 5, 6, 2, 1, 0] rfl) ⟨rfl, hM, hfr, by (try dsimp only); omega, by
            (try dsimp only)
            rcases hm with ⟨m1, m2, m3⟩ | ⟨m1, m2⟩
            · exfalso; omega
            · refine Or.inr ⟨m1, ?_⟩
              first
              | (exfalso; omega)
              | (have h9 := amin_y m2 (show lookF R jk d < lo by rw [hlf]; assumption); rw [hlf] at h9; exact h9)
              | exact amin_n m2 (show lookF R jk d < 1000000 by rw [hlf]; omega) (show ¬ lookF R jk d < lo by rw [hlf]; omega), by (try dsimp only); omega, by (try dsimp only); exact (htl3)⟩ (by (try dsimp only); omega)
          · refine lv_iload hx hb dX12_look_94 (lv_at hl 6 rfl) ?_
            refine lv_goto (tgt := 100) hx hb dX12_look_96 (by decide) ?_
            refine lv_istore_n (lv' := [(3, .int (nI d)), (6, .int (nI (most tlL44 (wkinds R jk) 6))), (0, .ref (ad Γ (mo + 0))), (1, .int (nI jk)), (2, .int (nI (wkinds R jk))), (4, .int (nI lo)), (5, .int (nI d))]) hx hb dX12_look_100 rfl hl (by decide) rfl (fun ls hl => ?_)
            refine lv_iload hx hb dX12_look_101 (lv_at hl 1 rfl) ?_
            refine lv_iload hx hb dX12_look_103 (lv_at hl 5 rfl) ?_
            refine nr_icmp_ge (tgt := 113) hx hb (by omega) (by omega) dX12_look_105 (by decide) (fun c10 => ?_) (fun c10 => ?_)
            · refine lv_iload hx hb dX12_look_113 (lv_at hl 5 rfl) ?_
              refine lv_istore (lv' := [(4, .int (nI lo)), (3, .int (nI d)), (6, .int (nI (most tlL44 (wkinds R jk) 6))), (0, .ref (ad Γ (mo + 0))), (1, .int (nI jk)), (2, .int (nI (wkinds R jk))), (5, .int (nI d))]) hx hb dX12_look_115 hl (by decide) rfl (fun ls hl => ?_)
              refine nr_inc (d := 1) (k := 6) (lv' := [(5, .int (nI (d + 1))), (4, .int (nI lo)), (3, .int (nI d)), (6, .int (nI (most tlL44 (wkinds R jk) 6))), (0, .ref (ad Γ (mo + 0))), (1, .int (nI jk)), (2, .int (nI (wkinds R jk)))]) hx hb dX12_look_117 hl rfl (by decide) (by decide) rfl (fun ls hl => ?_)
              refine lv_goto (tgt := 30) hx hb dX12_look_120 (by decide) ?_
              exact ih30 (Gl44, d + 1, lo, (nI d), tlL44) _ _ _ _ hw hS (lv_sub hl [4, 5, 6, 2, 1, 0] rfl) ⟨rfl, hM, hfr, by (try dsimp only); omega, by
            (try dsimp only)
            rcases hm with ⟨m1, m2, m3⟩ | ⟨m1, m2⟩
            · exfalso; omega
            · refine Or.inr ⟨m1, ?_⟩
              first
              | (exfalso; omega)
              | (have h9 := amin_y m2 (show lookF R jk d < lo by rw [hlf]; assumption); rw [hlf] at h9; exact h9)
              | exact amin_n m2 (show lookF R jk d < 1000000 by rw [hlf]; omega) (show ¬ lookF R jk d < lo by rw [hlf]; omega), by (try dsimp only); omega, by (try dsimp only); exact (htl3)⟩ (by (try dsimp only); omega)
            · refine lv_iload hx hb dX12_look_108 (lv_at hl 1 rfl) ?_
              refine lv_goto (tgt := 115) hx hb dX12_look_110 (by decide) ?_
              refine lv_istore (lv' := [(4, .int (nI (most tlL44 (wkinds R jk) 6))), (3, .int (nI d)), (6, .int (nI (most tlL44 (wkinds R jk) 6))), (0, .ref (ad Γ (mo + 0))), (1, .int (nI jk)), (2, .int (nI (wkinds R jk))), (5, .int (nI d))]) hx hb dX12_look_115 hl (by decide) rfl (fun ls hl => ?_)
              refine nr_inc (d := 1) (k := 6) (lv' := [(5, .int (nI (d + 1))), (4, .int (nI (most tlL44 (wkinds R jk) 6))), (3, .int (nI d)), (6, .int (nI (most tlL44 (wkinds R jk) 6))), (0, .ref (ad Γ (mo + 0))), (1, .int (nI jk)), (2, .int (nI (wkinds R jk)))]) hx hb dX12_look_117 hl rfl (by decide) (by decide) rfl (fun ls hl => ?_)
              refine lv_goto (tgt := 30) hx hb dX12_look_120 (by decide) ?_
              exact ih30 (Gl44, d + 1, most tlL44 (wkinds R jk) 6, (nI d), tlL44) _ _ _ _ hw hS (lv_sub hl [4, 5, 6, 2, 1, 0] rfl) ⟨rfl, hM, hfr, by (try dsimp only); omega, by
            (try dsimp only)
            rcases hm with ⟨m1, m2, m3⟩ | ⟨m1, m2⟩
            · exfalso; omega
            · refine Or.inr ⟨m1, ?_⟩
              first
              | (exfalso; omega)
              | (have h9 := amin_y m2 (show lookF R jk d < lo by rw [hlf]; assumption); rw [hlf] at h9; exact h9)
              | exact amin_n m2 (show lookF R jk d < 1000000 by rw [hlf]; omega) (show ¬ lookF R jk d < lo by rw [hlf]; omega), by (try dsimp only); omega, by (try dsimp only); exact (htl3)⟩ (by (try dsimp only); omega)
        · refine lv_aload_n hx hb dX12_look_51 rfl (lv_at hl 0 rfl) ?_
          refine nr_get (own := RX12) (C := RX12) (T := TX12) (N := 19) (v := .ref (ad Γ (mo + 9))) hx hb hts hi_X12_look_X12 hown hw (by omega) (isM_0 hM) rfl 10 (by decide) wl_X12_look_2 rfl rfl dX12_look_52 ?_
          refine lv_iload hx hb dX12_look_55 (lv_at hl 6 rfl) ?_
          refine lv_iload hx hb dX12_look_57 (lv_at hl 6 rfl) ?_
          refine lv_aload_n hx hb dX12_look_59 rfl (lv_at hl 0 rfl) ?_
          refine nr_get (own := RX12) (C := RX12) (T := TX12) (N := 19) (v := .ref (ad Γ (mo + 1))) hx hb hts hi_X12_look_X12 hown hw (by omega) (isM_0 hM) rfl 0 (by decide) wl_X12_look_3 rfl rfl dX12_look_60 ?_
          refine lv_bipush (v := nI 52) hx hb dX12_look_63 (by decide) ?_
          refine lv_iload_n hx hb dX12_look_65 rfl (lv_at hl 1 rfl) ?_
          refine nr_iadd hx hb dX12_look_66 ?_
          refine nr_iald (x := (R (52 + jk))) hx hb hw (by omega) (isM_1 hM) rfl (by omega) (by decide) dX12_look_67 ?_
          have hL11 := hB (52 + jk)
          refine lv_iload hx hb dX12_look_68 (lv_at hl 5 rfl) ?_
          refine nr_goS (nr_runS (As := [.int (nI kd), .int (nI (R (52 + jk))), .int (nI d)]) ⟨hx, hb, hml, hown, hts⟩ hw (c_X12_weighsAs l Γ n Gl44 kd (R (52 + jk)) d (by omega) (by omega) (by omega)) (va_cwS 3 hts gX12_look_X12_weighsAs rfl rfl rfl (by decide +kernel) ⟨Nat.le_of_ble_eq_true rfl, Nat.le_of_ble_eq_true rfl⟩) rfl hl.1 rfl (Nat.le_of_ble_eq_true rfl) dX12_look_70 ⟨Nat.zero_le _, Nat.zero_le _⟩) (fun r12 hr12 => ?_)
          obtain rfl : r12 = (nI (sWeight kd (R (52 + jk)) d)) := hr12
          refine nr_iast (k := kd) (v := sWeight kd (R (52 + jk)) d) hx hb hw hj hA hS (by omega) (isM_9 hM) (by omega) (by decide) dX12_look_73 (fun H locs hw hS => ?_)
          have hM := isM_s9 hM (va_up tlL44 kd (sWeight kd (R (52 + jk)) d))
          have hfr := fr_up hfr (i := mo + 9) (by omega) (by omega) (na Γ 6 (va_up tlL44 kd (sWeight kd (R (52 + jk)) d)))
          generalize va_up Gl44 (mo + 9) (na Γ 6 (va_up tlL44 kd (sWeight kd (R (52 + jk)) d))) = G13 at hw hM hfr
          refine nr_inc (d := 1) (k := 6) (lv' := [(6, .int (nI (kd + 1))), (0, .ref (ad Γ (mo + 0))), (1, .int (nI jk)), (2, .int (nI (wkinds R jk))), (3, .int bs), (4, .int (nI lo)), (5, .int (nI d))]) hx hb dX12_look_74 hl rfl (by decide) (by decide) rfl (fun ls hl => ?_)
          refine lv_goto (tgt := 44) hx hb dX12_look_77 (by decide) ?_
          exact ih44 (G13, kd + 1, va_up tlL44 kd (sWeight kd (R (52 + jk)) d)) _ _ _ _ hw hS (lv_sub hl [1, 2, 3, 4, 5, 6, 0] rfl) ⟨rfl, hM, hfr, by (try dsimp only); omega, by (try dsimp only); exact (fun j => by
          by_cases q : j = kd
          · rw [q, va_up_self]; omega
          · rw [va_up_ne _ _ q]; exact htl3 j), by (try dsimp only); exact (fun j hj => by
          by_cases q : j = kd
          · rw [q, va_up_self]
          · rw [va_up_ne _ _ q]; exact htv j (by omega))⟩ (by (try dsimp only); omega)
  · refine nr_if_ne (tgt := 15) hx hb (by decide) dX12_look_5 (by decide) (fun c14 => absurd c14 (by decide)) (fun c14 => ?_)
    refine lv_aload_n hx hb dX12_look_8 rfl (lv_at hl 0 rfl) ?_
    refine lv_bipush (v := (-2)) hx hb dX12_look_9 (by decide) ?_
    refine nr_goI (nr_runV (As := [.int (-2)]) (C := RX12) (T := TX12) (N := 19) ⟨hx, hb, hml, hown, hts⟩ hw (by omega) (isM_0 hM) rfl (c_X12_bad l Γ n G mo R K kp rf ca rc hd fw tl by0 an vl iv hM (by omega) hI hj (-2)) (cwV 1 hts gX12_look_X12_bad rfl rfl rfl (by decide +kernel) ⟨Nat.le_of_ble_eq_true rfl, Nat.le_of_ble_eq_true rfl⟩) rfl hl.1 rfl (Nat.le_of_ble_eq_true rfl) dX12_look_11 ⟨Nat.zero_le _, Nat.zero_le _⟩) hw hA hS (fun z15 G15 H locs hp hw hS => ?_)
    obtain ⟨ha15, hM, hfr15⟩ := hp
    have hfr := fr_tr hfr hfr15 (Nat.le_refl _) (Nat.le_refl _)
    subst ha15
    exact nr_retI hx hb hr hlocks hw hS (Or.inl ⟨by assumption, rfl, hM, hfr⟩) dX12_look_14
theorem wl_X12_ask_1 : Cond.constant RX12 155 (1000000) ∈ wsX12_ask := List.mem_of_getElem? (i := 1) rfl
theorem wl_X12_ask_2 : Cond.fieldLink RX12 39 "BellForgivenModel" "tells" "[I" ∈ wsX12_ask := List.mem_of_getElem? (i := 2) rfl
theorem hi_X12_ask_X12 : ∀ w ∈ u_ws RX12 TX12 19, w ∈ wsX12_ask := fun w h => (List.mem_cons_of_mem _ (List.mem_append_right _ h))
set_option maxHeartbeats 4000000 in
set_option maxRecDepth 100000 in
theorem c_X12_ask (l : Launch) (Γ : Gam) (n : Nat) (G : Nat → va_E) (mo : Nat) (R K kp rf ca rc hd fw tl by0 an vl iv : Nat → Nat) (hM : isM Γ G mo R K kp rf ca rc hd fw tl by0 an vl iv) (hmo : mo + 13 ≤ n) (hI : vI R) (hj : winj Γ n) (i : Int32) (htl : ∀ j, tl j < 2147483648)  : Met l yX12_ask wsX12_ask ({ frames := 3, cells := 0, slots := 0, locals := 75 }) (va_Pc [.ref (ad Γ (mo + 0)), .int i] (fun U => hw Γ n G U U.heap)) (wQi Γ n (fun z G2 => ((¬ vBel (R 0) i) ∧ (z = -2) ∧ isM Γ G2 mo R K kp (bmp rf 0) ca rc hd fw tl by0 an vl iv ∧ fr G G2 mo (mo + 13)) ∨ (∃ ji : Nat, (ji < R 0) ∧ (i = nI ji) ∧ (askM R ji 1000000 z) ∧ ∃ tl2 : Nat → Nat, (∀ j, tl2 j < 2147483648) ∧ isM Γ G2 mo R K kp rf ca rc hd fw tl2 by0 an vl iv ∧ fr G G2 mo (mo + 13)))) 0 0 (wA Γ n) := by
  refine Met.ofW (cc := cX12_ask) (maxL := 8) (ret := (some .int)) (by decide) rfl ?_
  intro p e s m args below meth c s₁ B hml hv
  obtain ⟨rfl, hw⟩ := hv
  have hx := B.exec
  have hb := B.bytes
  have hr := B.returns
  have hts := atoms_spec (ws := wsX12_ask) B.pre
  have hown : s.vm.findClass RX12 = some m.cls := findClass_of_methodNamed B.named
  have hlocks := B.notSynchronized
  have hS : va_S (wA Γ n) s.heap s.heap [] := va_S.rf
  have hA : ∀ q, wA Γ n q → wA Γ n q := fun _ h => h
  have hl := lv_entry ([.ref (ad Γ (mo + 0)), .int i]) (n := 8) (Nat.le_of_ble_eq_true rfl)
  rw [lg_entry_eq]
  generalize (lg_sl ([.ref (ad Γ (mo + 0)), .int i]) ++ List.replicate (8 - (lg_sl ([.ref (ad Γ (mo + 0)), .int i])).length) Slot.unset).toArray = ls at hl ⊢
  have hl : lv_has ls 8 [(0, .ref (ad Γ (mo + 0))), (1, .int i)] := hl
  have hfr := fr_rf G mo (mo + 13)
  have hB := hI.1
  have hB0 := hI.2.1
  have hB1 := hI.2.2.1
  have hB20 := hI.2.2.2.2.2.2.2.2.2
  have hBz2 := hI.2.2.2.1
  have hBz3 := hI.2.2.2.2.1
  have hBz4 := hI.2.2.2.2.2.1
  have hBz5 := hI.2.2.2.2.2.2.1
  have hby := hI.2.2.2.2.2.2.2.1
  have hto := hI.2.2.2.2.2.2.2.2.1
  have hwl := fun k => (show pkinds R k < 64 from bitsOf_lt _ 6)
  refine lv_aload_n hx hb dX12_ask_0 rfl (lv_at hl 0 rfl) ?_
  refine lv_iload_n hx hb dX12_ask_1 rfl (lv_at hl 1 rfl) ?_
  refine nr_goB (P := ∃ j, j < R 0 ∧ i = nI j) (nr_runV (As := [.int i]) (C := RX12) (T := TX12) (N := 19) ⟨hx, hb, hml, hown, hts⟩ hw (by omega) (isM_0 hM) rfl (c_X12_isOne l Γ n G mo R K kp rf ca rc hd fw tl by0 an vl iv hM (by omega) hI i) (cwV 1 hts gX12_ask_X12_isOne rfl rfl rfl (by decide +kernel) ⟨Nat.le_of_ble_eq_true rfl, Nat.le_of_ble_eq_true rfl⟩) rfl hl.1 rfl (Nat.le_of_ble_eq_true rfl) dX12_ask_2 ⟨Nat.zero_le _, Nat.zero_le _⟩) (fun b1 => ?_) (fun b1 => ?_)
  · obtain ⟨ji, hji, rfl⟩ := b1
    refine nr_if_ne (tgt := 15) hx hb (by decide) dX12_ask_5 (by decide) (fun c2 => ?_) (fun c2 => absurd c2 (by decide))
    refine lv_aload_n hx hb dX12_ask_15 rfl (lv_at hl 0 rfl) ?_
    refine lv_iload_n hx hb dX12_ask_16 rfl (lv_at hl 1 rfl) ?_
    refine nr_goS (nr_runV (As := [.int (nI ji)]) (C := RX12) (T := TX12) (N := 19) ⟨hx, hb, hml, hown, hts⟩ hw (by omega) (isM_0 hM) rfl (c_X12_kindsOfOne l Γ n G mo R K kp rf ca rc hd fw tl by0 an vl iv hM (by omega) hI ji (by omega)) (cwV 1 hts gX12_ask_X12_kindsOfOne rfl rfl rfl (by decide +kernel) ⟨Nat.le_of_ble_eq_true rfl, Nat.le_of_ble_eq_true rfl⟩) rfl hl.1 rfl (Nat.le_of_ble_eq_true rfl) dX12_ask_17 ⟨Nat.zero_le _, Nat.zero_le _⟩) (fun r3 hr3 => ?_)
    obtain rfl : r3 = (nI (pkinds R ji)) := hr3
    refine lv_istore_n (lv' := [(2, .int (nI (pkinds R ji))), (0, .ref (ad Γ (mo + 0))), (1, .int (nI ji))]) hx hb dX12_ask_20 rfl hl (by decide) rfl (fun ls hl => ?_)
    refine lv_iconst (v := (-1)) hx hb dX12_ask_21 (by decide) ?_
    refine lv_istore_n (lv' := [(3, .int (-1)), (2, .int (nI (pkinds R ji))), (0, .ref (ad Γ (mo + 0))), (1, .int (nI ji))]) hx hb dX12_ask_22 rfl hl (by decide) rfl (fun ls hl => ?_)
    refine nr_ldc (k := 1000000) hx hb hown (hts _ wl_X12_ask_1) (by decide) dX12_ask_23 ?_
    refine lv_istore (lv' := [(4, .int (nI 1000000)), (3, .int (-1)), (2, .int (nI (pkinds R ji))), (0, .ref (ad Γ (mo + 0))), (1, .int (nI ji))]) hx hb dX12_ask_25 hl (by decide) rfl (fun ls hl => ?_)
    refine lv_iconst (v := nI 0) hx hb dX12_ask_27 (by decide) ?_
    refine lv_istore (lv' := [(5, .int (nI 0)), (4, .int (nI 1000000)), (3, .int (-1)), (2, .int (nI (pkinds R ji))), (0, .ref (ad Γ (mo + 0))), (1, .int (nI ji))]) hx hb dX12_ask_28 hl (by decide) rfl (fun ls hl => ?_)
    refine nr_lpI (σ := (Nat → va_E) × Nat × Nat × Int32 × (Nat → Nat)) 30 (fun x => x.1) (fun x lv => lv = [(0, .ref (ad Γ (mo + 0))), (1, .int (nI ji)), (2, .int (nI (pkinds R ji))), (3, .int x.2.2.2.1), (4, .int (nI x.2.2.1)), (5, .int (nI x.2.1))] ∧ isM Γ x.1 mo R K kp rf ca rc hd fw x.2.2.2.2 by0 an vl iv ∧ fr G x.1 mo (mo + 13) ∧ (x.2.1 ≤ 6) ∧ ((pkinds R ji = 0 ∧ x.2.2.2.1 = -1 ∧ x.2.2.1 = 1000000) ∨ (¬ pkinds R ji = 0 ∧ amin (askF R ji) (tOut 31) 1000000 (31 * x.2.1) x.2.2.1 x.2.2.2.1)) ∧ (x.2.2.1 ≤ 1000000) ∧ (∀ j, x.2.2.2.2 j < 2147483648)) (fun x => 6 - x.2.1) (G, 0, 1000000, (-1), tl) hw hS (lv_sub hl [4, 5, 3, 2, 1, 0] rfl) ⟨rfl, hM, hfr, by (try dsimp only); omega, by (try dsimp only); by_cases q : pkinds R ji = 0; exact Or.inl ⟨q, rfl, rfl⟩; exact Or.inr ⟨q, amin_0 _ _ _⟩, by (try dsimp only); omega, by (try dsimp only); exact (htl)⟩ ?_
    intro x lv ls H locs hw hS hl hI ih30
    obtain ⟨Gl30, r, lo, bs, tlL30⟩ := x
    obtain ⟨rfl, hM, hfr, hr6, hm, hlo, htl2⟩ := hI
    try dsimp only at hM hfr hr6 hm hlo htl2 hw hl ih30
    have hwl1 := hwl ji
    refine lv_iload hx hb dX12_ask_30 (lv_at hl 5 rfl) ?_
    refine lv_bipush (v := nI 6) hx hb dX12_ask_32 (by decide) ?_
    refine nr_icmp_ge (tgt := 138) hx hb (by omega) (by decide) dX12_ask_34 (by decide) (fun c4 => ?_) (fun c4 => ?_)
    · refine lv_iload_n hx hb dX12_ask_138 rfl (lv_at hl 3 rfl) ?_
      exact nr_retI hx hb hr hlocks hw hS (Or.inr (⟨ji, hji, rfl, by rcases hm with ⟨m1, m2, m3⟩ | ⟨m1, m2⟩; exact Or.inl ⟨m1, m2⟩; exact Or.inr ⟨m1, lo, by rw [show 186 = 31 * r by omega]; exact m2⟩, _, htl2, hM, hfr⟩)) dX12_ask_139
    · refine lv_iload_n hx hb dX12_ask_37 rfl (lv_at hl 2 rfl) ?_
      refine nr_if_le (tgt := 138) hx hb (by omega) dX12_ask_38 (by decide) (fun c5 => ?_) (fun c5 => ?_)
      · refine lv_iload_n hx hb dX12_ask_138 rfl (lv_at hl 3 rfl) ?_
        exact nr_retI hx hb hr hlocks hw hS (Or.inr (⟨ji, hji, rfl, by rcases hm with ⟨m1, m2, m3⟩ | ⟨m1, m2⟩; exact Or.inl ⟨m1, m2⟩; exact Or.inr ⟨m1, lo, by rw [show 186 = 31 * r by omega]; exact m2⟩, _, htl2, hM, hfr⟩)) dX12_ask_139
      · refine lv_iconst (v := nI 0) hx hb dX12_ask_41 (by decide) ?_
        refine lv_istore (lv' := [(6, .int (nI 0)), (0, .ref (ad Γ (mo + 0))), (1, .int (nI ji)), (2, .int (nI (pkinds R ji))), (3, .int bs), (4, .int (nI lo)), (5, .int (nI r))]) hx hb dX12_ask_42 hl (by decide) rfl (fun ls hl => ?_)
        refine nr_lpI (σ := (Nat → va_E) × Nat × Nat × Int32 × (Nat → Nat)) 44 (fun x => x.1) (fun x lv => lv = [(0, .ref (ad Γ (mo + 0))), (1, .int (nI ji)), (2, .int (nI (pkinds R ji))), (3, .int x.2.2.2.1), (4, .int (nI x.2.2.1)), (5, .int (nI r)), (6, .int (nI x.2.1))] ∧ isM Γ x.1 mo R K kp rf ca rc hd fw x.2.2.2.2 by0 an vl iv ∧ fr G x.1 mo (mo + 13) ∧ (x.2.1 ≤ 31) ∧ ((pkinds R ji = 0 ∧ x.2.2.2.1 = -1 ∧ x.2.2.1 = 1000000) ∨ (¬ pkinds R ji = 0 ∧ amin (askF R ji) (tOut 31) 1000000 (31 * r + x.2.1) x.2.2.1 x.2.2.2.1)) ∧ (x.2.2.1 ≤ 1000000) ∧ (∀ j, x.2.2.2.2 j < 2147483648)) (fun x => 31 - x.2.1) (Gl30, 0, lo, bs, tlL30) hw hS (lv_sub hl [1, 2, 3, 4, 5, 6, 0] rfl) ⟨rfl, hM, hfr, by (try dsimp only); omega, by (try dsimp only); rw [Nat.add_zero]; exact hm, by (try dsimp only); omega, by (try dsimp only); exact (htl2)⟩ ?_
        intro x lv ls H locs hw hS hl hI ih44
        obtain ⟨Gl44, t, lo2, bs2, tlL44⟩ := x
        obtain ⟨rfl, hM, hfr, ht31, hm2, hlo2, htl5⟩ := hI
        try dsimp only at hM hfr ht31 hm2 hlo2 htl5 hw hl ih44
        refine lv_iload hx hb dX12_ask_44 (lv_at hl 6 rfl) ?_
        refine lv_bipush (v := nI 30) hx hb dX12_ask_46 (by decide) ?_
        refine nr_icmp_gt (tgt := 132) hx hb (by omega) (by decide) dX12_ask_48 (by decide) (fun c6 => ?_) (fun c6 => ?_)
        · refine nr_inc (d := 1) (k := 5) (lv' := [(5, .int (nI (r + 1))), (0, .ref (ad Γ (mo + 0))), (1, .int (nI ji)), (2, .int (nI (pkinds R ji))), (3, .int bs2), (4, .int (nI lo2)), (6, .int (nI t))]) hx hb dX12_ask_132 hl rfl (by decide) (by decide) rfl (fun ls hl => ?_)
          refine lv_goto (tgt := 30) hx hb dX12_ask_135 (by decide) ?_
          exact ih30 (Gl44, r + 1, lo2, bs2, tlL44) _ _ _ _ hw hS (lv_sub hl [1, 2, 3, 4, 5, 0] rfl) ⟨rfl, hM, hfr, by (try dsimp only); omega, by (try dsimp only); rw [show 31 * (r + 1) = 31 * r + t by omega]; exact hm2, by (try dsimp only); omega, by (try dsimp only); exact (htl5)⟩ (by (try dsimp only); omega)
        · refine lv_iconst (v := nI 0) hx hb dX12_ask_51 (by decide) ?_
          refine lv_istore (lv' := [(7, .int (nI 0)), (0, .ref (ad Γ (mo + 0))), (1, .int (nI ji)), (2, .int (nI (pkinds R ji))), (3, .int bs2), (4, .int (nI lo2)), (5, .int (nI r)), (6, .int (nI t))]) hx hb dX12_ask_52 hl (by decide) rfl (fun ls hl => ?_)
          refine nr_lpI (σ := (Nat → va_E) × Nat × (Nat → Nat)) 54 (fun x => x.1) (fun x lv => lv = [(0, .ref (ad Γ (mo + 0))), (1, .int (nI ji)), (2, .int (nI (pkinds R ji))), (3, .int bs2), (4, .int (nI lo2)), (5, .int (nI r)), (6, .int (nI t)), (7, .int (nI x.2.1))] ∧ isM Γ x.1 mo R K kp rf ca rc hd fw x.2.2 by0 an vl iv ∧ fr G x.1 mo (mo + 13) ∧ (x.2.1 ≤ 6) ∧ (∀ j, x.2.2 j < 2147483648) ∧ (∀ j, j < x.2.1 → x.2.2 j = sMercy j r t)) (fun x => 6 - x.2.1) (Gl44, 0, tlL44) hw hS (lv_sub hl [1, 2, 3, 4, 5, 6, 7, 0] rfl) ⟨rfl, hM, hfr, by (try dsimp only); omega, by (try dsimp only); exact (htl5), by (try dsimp only); exact (fun j hj => absurd hj (Nat.not_lt_zero j))⟩ ?_
          intro x lv ls H locs hw hS hl hI ih54
          obtain ⟨Gl54, kd, tlL54⟩ := x
          obtain ⟨rfl, hM, hfr, hkd, htl3, htv⟩ := hI
          try dsimp only at hM hfr hkd htl3 htv hw hl ih54
          have hWl := sMercy_le kd r t
          refine lv_iload hx hb dX12_ask_54 (lv_at hl 7 rfl) ?_
          refine lv_bipush (v := nI 6) hx hb dX12_ask_56 (by decide) ?_
          refine nr_icmp_ge (tgt := 83) hx hb (by omega) (by decide) dX12_ask_58 (by decide) (fun c7 => ?_) (fun c7 => ?_)
          · have hlf : askF R ji (31 * r + t) = most tlL54 (pkinds R ji) 6 := by unfold askF; rw [show (31 * r + t) / 31 = r by omega, show (31 * r + t) % 31 = t by omega]; exact most_cong (fun j hj => (htv j (by omega)).symm) (Nat.le_refl _)
            have hmo9 := most_le tlL54 (pkinds R ji) 6
            refine lv_aload_n hx hb dX12_ask_83 rfl (lv_at hl 0 rfl) ?_
            refine lv_iload_n hx hb dX12_ask_84 rfl (lv_at hl 2 rfl) ?_
            refine nr_goS (nr_runV (As := [.int (nI (pkinds R ji))]) (C := RX12) (T := TX12) (N := 19) ⟨hx, hb, hml, hown, hts⟩ hw (by omega) (isM_0 hM) rfl (c_X12_mostAlike l Γ n Gl54 mo R K kp rf ca rc hd fw tlL54 by0 an vl iv hM (by omega) hI (pkinds R ji) (by omega) htl3) (cwV 1 hts gX12_ask_X12_mostAlike rfl rfl rfl (by decide +kernel) ⟨Nat.le_of_ble_eq_true rfl, Nat.le_of_ble_eq_true rfl⟩) rfl hl.1 rfl (Nat.le_of_ble_eq_true rfl) dX12_ask_85 ⟨Nat.zero_le _, Nat.zero_le _⟩) (fun r8 hr8 => ?_)
            obtain rfl : r8 = (nI (most tlL54 (pkinds R ji) 6)) := hr8
            refine lv_istore (lv' := [(7, .int (nI (most tlL54 (pkinds R ji) 6))), (0, .ref (ad Γ (mo + 0))), (1, .int (nI ji)), (2, .int (nI (pkinds R ji))), (3, .int bs2), (4, .int (nI lo2)), (5, .int (nI r)), (6, .int (nI t))]) hx hb dX12_ask_88 hl (by decide) rfl (fun ls hl => ?_)
            refine lv_iload hx hb dX12_ask_90 (lv_at hl 0 rfl) ?_
            refine lv_iload hx hb dX12_ask_92 (lv_at hl 5 rfl) ?_
            refine nr_icmp_ge (tgt := 108) hx hb (by omega) (by omega) dX12_ask_94 (by decide) (fun c9 => ?_) (fun c9 => ?_)
            · refine lv_iload_n hx hb dX12_ask_108 rfl (lv_at hl 4 rfl) ?_
              refine lv_istore_n (lv' := [(3, .int bs2), (7, .int (nI (most tlL54 (pkinds R ji) 6))), (0, .ref (ad Γ (mo + 0))), (1, .int (nI ji)), (2, .int (nI (pkinds R ji))), (4, .int (nI lo2)), (5, .int (nI r)), (6, .int (nI t))]) hx hb dX12_ask_109 rfl hl (by decide) rfl (fun ls hl => ?_)
              refine lv_iload hx hb dX12_ask_110 (lv_at hl 1 rfl) ?_
              refine lv_iload hx hb dX12_ask_112 (lv_at hl 5 rfl) ?_
              refine nr_icmp_ge (tgt := 122) hx hb (by omega) (by omega) dX12_ask_114 (by decide) (fun c10 => ?_) (fun c10 => ?_)
              · refine lv_iload hx hb dX12_ask_122 (lv_at hl 5 rfl) ?_
                refine lv_istore (lv' := [(4, .int (nI lo2)), (3, .int bs2), (7, .int (nI (most tlL54 (pkinds R ji) 6))), (0, .ref (ad Γ (mo + 0))), (1, .int (nI ji)), (2, .int (nI (pkinds R ji))), (5, .int (nI r)), (6, .int (nI t))]) hx hb dX12_ask_124 hl (by decide) rfl (fun ls hl => ?_)
                refine nr_inc (d := 1) (k := 7) (lv' := [(6, .int (nI (t + 1))), (4, .int (nI lo2)), (3, .int bs2), (7, .int (nI (most tlL54 (pkinds R ji) 6))), (0, .ref (ad Γ (mo + 0))), (1, .int (nI ji)), (2, .int (nI (pkinds R ji))), (5, .int (nI r))]) hx hb dX12_ask_126 hl rfl (by decide) (by decide) rfl (fun ls hl => ?_)
                refine lv_goto (tgt := 44) hx hb dX12_ask_129 (by decide) ?_
                exact ih44 (Gl54, t + 1, lo2, bs2, tlL54) _ _ _ _ hw hS (lv_sub hl [4, 5, 6, 2, 1, 7, 0] rfl) ⟨rfl, hM, hfr, by (try dsimp only); omega, by
            (try dsimp only)
            rcases hm2 with ⟨m1, m2, m3⟩ | ⟨m1, m2⟩
            · exfalso; omega
            · refine Or.inr ⟨m1, ?_⟩
              first
              | (exfalso; omega)
              | (have h9 := amin_y m2 (show askF R ji (31 * r + t) < lo2 by rw [hlf]; assumption); rw [hlf, tOut_at (by omega)] at h9; exact h9)
              | exact amin_n m2 (show askF R ji (31 * r + t) < 1000000 by rw [hlf]; omega) (show ¬ askF R ji (31 * r + t) < lo2 by rw [hlf]; omega), by (try dsimp only); omega, by (try dsimp only); exact (htl3)⟩ (by (try dsimp only); omega)
              · refine lv_iload hx hb dX12_ask_117 (lv_at hl 1 rfl) ?_
                refine lv_goto (tgt := 124) hx hb dX12_ask_119 (by decide) ?_
                refine lv_istore (lv' := [(4, .int (nI (most tlL54 (pkinds R ji) 6))), (3, .int bs2), (7, .int (nI (most tlL54 (pkinds R ji) 6))), (0, .ref (ad Γ (mo + 0))), (1, .int (nI ji)), (2, .int (nI (pkinds R ji))), (5, .int (nI r)), (6, .int (nI t))]) hx hb dX12_ask_124 hl (by decide) rfl (fun ls hl => ?_)
                refine nr_inc (d := 1) (k := 7) (lv' := [(6, .int (nI (t + 1))), (4, .int (nI (most tlL54 (pkinds R ji) 6))), (3, .int bs2), (7, .int (nI (most tlL54 (pkinds R ji) 6))), (0, .ref (ad Γ (mo + 0))), (1, .int (nI ji)), (2, .int (nI (pkinds R ji))), (5, .int (nI r))]) hx hb dX12_ask_126 hl rfl (by decide) (by decide) rfl (fun ls hl => ?_)
                refine lv_goto (tgt := 44) hx hb dX12_ask_129 (by decide) ?_
                exact ih44 (Gl54, t + 1, most tlL54 (pkinds R ji) 6, bs2, tlL54) _ _ _ _ hw hS (lv_sub hl [4, 5, 6, 2, 1, 7, 0] rfl) ⟨rfl, hM, hfr, by (try dsimp only); omega, by
            (try dsimp only)
            rcases hm2 with ⟨m1, m2, m3⟩ | ⟨m1, m2⟩
            · exfalso; omega
            · refine Or.inr ⟨m1, ?_⟩
              first
              | (exfalso; omega)
              | (have h9 := amin_y m2 (show askF R ji (31 * r + t) < lo2 by rw [hlf]; assumption); rw [hlf, tOut_at (by omega)] at h9; exact h9)
              | exact amin_n m2 (show askF R ji (31 * r + t) < 1000000 by rw [hlf]; omega) (show ¬ askF R ji (31 * r + t) < lo2 by rw [hlf]; omega), by (try dsimp only); omega, by (try dsimp only); exact (htl3)⟩ (by (try dsimp only); omega)
            · refine lv_bipush (v := nI 100) hx hb dX12_ask_97 (by decide) ?_
              refine lv_iload hx hb dX12_ask_99 (lv_at hl 6 rfl) ?_
              refine nr_imul hx hb dX12_ask_101 ?_
              refine lv_iload hx hb dX12_ask_102 (lv_at hl 7 rfl) ?_
              refine nr_iadd hx hb dX12_ask_104 ?_
              refine lv_goto (tgt := 109) hx hb dX12_ask_105 (by decide) ?_
              refine lv_istore_n (lv' := [(3, .int (nI (100 * r + t))), (7, .int (nI (most tlL54 (pkinds R ji) 6))), (0, .ref (ad Γ (mo + 0))), (1, .int (nI ji)), (2, .int (nI (pkinds R ji))), (4, .int (nI lo2)), (5, .int (nI r)), (6, .int (nI t))]) hx hb dX12_ask_109 rfl hl (by decide) rfl (fun ls hl => ?_)
              refine lv_iload hx hb dX12_ask_110 (lv_at hl 1 rfl) ?_
              refine lv_iload hx hb dX12_ask_112 (lv_at hl 5 rfl) ?_
              refine nr_icmp_ge (tgt := 122) hx hb (by omega) (by omega) dX12_ask_114 (by decide) (fun c11 => ?_) (fun c11 => ?_)
              · refine lv_iload hx hb dX12_ask_122 (lv_at hl 5 rfl) ?_
                refine lv_istore (lv' := [(4, .int (nI lo2)), (3, .int (nI (100 * r + t))), (7, .int (nI (most tlL54 (pkinds R ji) 6))), (0, .ref (ad Γ (mo + 0))), (1, .int (nI ji)), (2, .int (nI (pkinds R ji))), (5, .int (nI r)), (6, .int (nI t))]) hx hb dX12_ask_124 hl (by decide) rfl (fun ls hl => ?_)
                refine nr_inc (d := 1) (k := 7) (lv' := [(6, .int (nI (t + 1))), (4, .int (nI lo2)), (3, .int (nI (100 * r + t))), (7, .int (nI (most tlL54 (pkinds R ji) 6))), (0, .ref (ad Γ (mo + 0))), (1, .int (nI ji)), (2, .int (nI (pkinds R ji))), (5, .int (nI r))]) hx hb dX12_ask_126 hl rfl (by decide) (by decide) rfl (fun ls hl => ?_)
                refine lv_goto (tgt := 44) hx hb dX12_ask_129 (by decide) ?_
                exact ih44 (Gl54, t + 1, lo2, (nI (100 * r + t)), tlL54) _ _ _ _ hw hS (lv_sub hl [4, 5, 6, 2, 1, 7, 0] rfl) ⟨rfl, hM, hfr, by (try dsimp only); omega, by
            (try dsimp only)
            rcases hm2 with ⟨m1, m2, m3⟩ | ⟨m1, m2⟩
            · exfalso; omega
            · refine Or.inr ⟨m1, ?_⟩
              first
              | (exfalso; omega)
              | (have h9 := amin_y m2 (show askF R ji (31 * r + t) < lo2 by rw [hlf]; assumption); rw [hlf, tOut_at (by omega)] at h9; exact h9)
              | exact amin_n m2 (show askF R ji (31 * r + t) < 1000000 by rw [hlf]; omega) (show ¬ askF R ji (31 * r + t) < lo2 by rw [hlf]; omega), by (try dsimp only); omega, by (try dsimp only); exact (htl3)⟩ (by (try dsimp only); omega)
              · refine lv_iload hx hb dX12_ask_117 (lv_at hl 1 rfl) ?_
                refine lv_goto (tgt := 124) hx hb dX12_ask_119 (by decide) ?_
                refine lv_istore (lv' := [(4, .int (nI (most tlL54 (pkinds R ji) 6))), (3, .int (nI (100 * r + t))), (7, .int (nI (most tlL54 (pkinds R ji) 6))), (0, .ref (ad Γ (mo + 0))), (1, .int (nI ji)), (2, .int (nI (pkinds R ji))), (5, .int (nI r)), (6, .int (nI t))]) hx hb dX12_ask_124 hl (by decide) rfl (fun ls hl => ?_)
                refine nr_inc (d := 1) (k := 7) (lv' := [(6, .int (nI (t + 1))), (4, .int (nI (most tlL54 (pkinds R ji) 6))), (3, .int (nI (100 * r + t))), (7, .int (nI (most tlL54 (pkinds R ji) 6))), (0, .ref (ad Γ (mo + 0))), (1, .int (nI ji)), (2, .int (nI (pkinds R ji))), (5, .int (nI r))]) hx hb dX12_ask_126 hl rfl (by decide) (by decide) rfl (fun ls hl => ?_)
                refine lv_goto (tgt := 44) hx hb dX12_ask_129 (by decide) ?_
                exact ih44 (Gl54, t + 1, most tlL54 (pkinds R ji) 6, (nI (100 * r + t)), tlL54) _ _ _ _ hw hS (lv_sub hl [4, 5, 6, 2, 1, 7, 0] rfl) ⟨rfl, hM, hfr, by (try dsimp only); omega, by
            (try dsimp only)
            rcases hm2 with ⟨m1, m2, m3⟩ | ⟨m1, m2⟩
            · exfalso; omega
            · refine Or.inr ⟨m1, ?_⟩
              first
              | (exfalso; omega)
              | (have h9 := amin_y m2 (show askF R ji (31 * r + t) < lo2 by rw [hlf]; assumption); rw [hlf, tOut_at (by omega)] at h9; exact h9)
              | exact amin_n m2 (show askF R ji (31 * r + t) < 1000000 by rw [hlf]; omega) (show ¬ askF R ji (31 * r + t) < lo2 by rw [hlf]; omega), by (try dsimp only); omega, by (try dsimp only); exact (htl3)⟩ (by (try dsimp only); omega)
          · refine lv_aload_n hx hb dX12_ask_61 rfl (lv_at hl 0 rfl) ?_
            refine nr_get (own := RX12) (C := RX12) (T := TX12) (N := 19) (v := .ref (ad Γ (mo + 9))) hx hb hts hi_X12_ask_X12 hown hw (by omega) (isM_0 hM) rfl 10 (by decide) wl_X12_ask_2 rfl rfl dX12_ask_62 ?_
            refine lv_iload hx hb dX12_ask_65 (lv_at hl 7 rfl) ?_
            refine lv_iload hx hb dX12_ask_67 (lv_at hl 7 rfl) ?_
            refine lv_iload hx hb dX12_ask_69 (lv_at hl 5 rfl) ?_
            refine lv_iload hx hb dX12_ask_71 (lv_at hl 6 rfl) ?_
            refine nr_goS (nr_runS (As := [.int (nI kd), .int (nI r), .int (nI t)]) ⟨hx, hb, hml, hown, hts⟩ hw (c_X12_letsAs l Γ n Gl54 kd r t (by omega) (by omega) (by omega)) (va_cwS 3 hts gX12_ask_X12_letsAs rfl rfl rfl (by decide +kernel) ⟨Nat.le_of_ble_eq_true rfl, Nat.le_of_ble_eq_true rfl⟩) rfl hl.1 rfl (Nat.le_of_ble_eq_true rfl) dX12_ask_73 ⟨Nat.zero_le _, Nat.zero_le _⟩) (fun r12 hr12 => ?_)
            obtain rfl : r12 = (nI (sMercy kd r t)) := hr12
            refine nr_iast (k := kd) (v := sMercy kd r t) hx hb hw hj hA hS (by omega) (isM_9 hM) (by omega) (by decide) dX12_ask_76 (fun H locs hw hS => ?_)
            have hM := isM_s9 hM (va_up tlL54 kd (sMercy kd r t))
            have hfr := fr_up hfr (i := mo + 9) (by omega) (by omega) (na Γ 6 (va_up tlL54 kd (sMercy kd r t)))
            generalize va_up Gl54 (mo + 9) (na Γ 6 (va_up tlL54 kd (sMercy kd r t))) = G13 at hw hM hfr
            refine nr_inc (d := 1) (k := 7) (lv' := [(7, .int (nI (kd + 1))), (0, .ref (ad Γ (mo + 0))), (1, .int (nI ji)), (2, .int (nI (pkinds R ji))), (3, .int bs2), (4, .int (nI lo2)), (5, .int (nI r)), (6, .int (nI t))]) hx hb dX12_ask_77 hl rfl (by decide) (by decide) rfl (fun ls hl => ?_)
            refine lv_goto (tgt := 54) hx hb dX12_ask_80 (by decide) ?_
            exact ih54 (G13, kd + 1, va_up tlL54 kd (sMercy kd r t)) _ _ _ _ hw hS (lv_sub hl [1, 2, 3, 4, 5, 6, 7, 0] rfl) ⟨rfl, hM, hfr, by (try dsimp only); omega, by (try dsimp only); exact (fun j => by
          by_cases q : j = kd
          · rw [q, va_up_self]; omega
          · rw [va_up_ne _ _ q]; exact htl3 j), by (try dsimp only); exact (fun j hj => by
          by_cases q : j = kd
          · rw [q, va_up_self]
          · rw [va_up_ne _ _ q]; exact htv j (by omega))⟩ (by (try dsimp only); omega)
  · refine nr_if_ne (tgt := 15) hx hb (by decide) dX12_ask_5 (by decide) (fun c14 => absurd c14 (by decide)) (fun c14 => ?_)
    refine lv_aload_n hx hb dX12_ask_8 rfl (lv_at hl 0 rfl) ?_
    refine lv_bipush (v := (-2)) hx hb dX12_ask_9 (by decide) ?_
    refine nr_goI (nr_runV (As := [.int (-2)]) (C := RX12) (T := TX12) (N := 19) ⟨hx, hb, hml, hown, hts⟩ hw (by omega) (isM_0 hM) rfl (c_X12_bad l Γ n G mo R K kp rf ca rc hd fw tl by0 an vl iv hM (by omega) hI hj (-2)) (cwV 1 hts gX12_ask_X12_bad rfl rfl rfl (by decide +kernel) ⟨Nat.le_of_ble_eq_true rfl, Nat.le_of_ble_eq_true rfl⟩) rfl hl.1 rfl (Nat.le_of_ble_eq_true rfl) dX12_ask_11 ⟨Nat.zero_le _, Nat.zero_le _⟩) hw hA hS (fun z15 G15 H locs hp hw hS => ?_)
    obtain ⟨ha15, hM, hfr15⟩ := hp
    have hfr := fr_tr hfr hfr15 (Nat.le_refl _) (Nat.le_refl _)
    subst ha15
    exact nr_retI hx hb hr hlocks hw hS (Or.inl ⟨by assumption, rfl, hM, hfr⟩) dX12_ask_14
