section SEE
theorem spl_none {T iv : Nat → Nat} {L P W its : Nat} (hl : lkAt T L iv) (hits : 0 < its) (h1 : ¬ splP T iv 1) (h2 : ¬ splP T iv 2) (h3 : ¬ splP T iv 3) (h4 : ¬ splP T iv 4) : ¬ (tokK T L (iv 1) = 1 ∧ cstP P W (vlK T L (iv 1)) its) := by
  rintro ⟨hk, hc⟩
  unfold cstP at hc
  by_cases h0 : splP T iv 0
  · have := (spl_vl hl (by decide) h0).2
    omega
  · exact spl_no hl (fun i hi => by
      rcases (show i = 0 ∨ i = 1 ∨ i = 2 ∨ i = 3 ∨ i = 4 by omega) with rfl | rfl | rfl | rfl | rfl
      · exact h0
      · exact h1
      · exact h2
      · exact h3
      · exact h4) ⟨hk, by omega⟩
theorem spl_0 {T iv : Nat → Nat} {L P W : Nat} (hl : lkAt T L iv) (h0 : ¬ splP T iv 0) : ¬ (tokK T L (iv 1) = 1 ∧ cstP P W (vlK T L (iv 1)) 0) := by
  rintro ⟨hk, hc⟩
  unfold cstP at hc
  by_cases h1 : splP T iv 1
  · have := (spl_vl hl (by decide) h1).2; omega
  · by_cases h2 : splP T iv 2
    · have := (spl_vl hl (by decide) h2).2; omega
    · by_cases h3 : splP T iv 3
      · have := (spl_vl hl (by decide) h3).2; omega
      · by_cases h4 : splP T iv 4
        · have := (spl_vl hl (by decide) h4).2; omega
        · exact spl_no hl (fun i hi => by
            rcases (show i = 0 ∨ i = 1 ∨ i = 2 ∨ i = 3 ∨ i = 4 by omega) with rfl | rfl | rfl | rfl | rfl
            · exact h0
            · exact h1
            · exact h2
            · exact h3
            · exact h4) ⟨hk, by omega⟩
theorem rG_zero {X : Nat → Nat} (h : ∀ j, X j ≤ 1999) : rG (zeroR X 128) := by
  have e : ∀ j, j < 128 → zeroR X 128 j = 0 := fun j hj => by unfold zeroR; rw [if_pos hj]
  refine ⟨⟨⟨fun j => ?_, by rw [e 0 (by omega)]; omega, by rw [e 1 (by omega)]; omega, by rw [e 2 (by omega)]; omega, by rw [e 3 (by omega)]; omega, by rw [e 4 (by omega)]; omega, by rw [e 5 (by omega)]; omega, fun j hj => by rw [e _ (by omega)]; omega, fun j hj => by rw [e _ (by omega)]; omega, by rw [e 20 (by omega)]; omega⟩, by rw [e 21 (by omega)]; omega, by rw [e 20 (by omega)]; exact Nat.two_pow_pos _, fun k hk => by rw [e 1 (by omega)] at hk; omega, fun i hi => by rw [e 0 (by omega)] at hi; omega⟩, fun i h1 h2 => e _ (by omega)⟩
  have := h j
  unfold zeroR; split <;> omega
theorem rdV_r {T : Nat → Nat} {L : Nat} {V0 : Nat → Nat} (hG : rG V0) : ∀ k, (∀ u, u < k → rdOK T L V0 u) → rG (rdV T L V0 k)
  | 0, _ => hG
  | k + 1, h => itV_r (rdV_r hG k (fun u hu => h u (by omega))) (h k (by omega))
theorem rdX_1 {T : Nat → Nat} {L : Nat} {V0 : Nat → Nat} (k : Nat) : rdX T L V0 (k + 1) = nT T L (stopX T L (rdX T L V0 k)) := rfl
theorem lt_sP {P : Nat → Prop} {k : Nat} (h : ∀ u, u < k → P u) (hk : P k) : ∀ u, u < k + 1 → P u := fun u hu =>
  (Nat.lt_or_eq_of_le (Nat.le_of_lt_succ hu)).elim (fun z => h u z) (fun z => by rw [z]; exact hk)
end SEE
theorem anV1 {T X : Nat → Nat} {L : Nat} (h : vlK T L (rdX T L (zeroR X 128) 0) = 0 + 1) : zeroR X 128 = rdV T L (zeroR X 128) 1 := by
  show _ = itV T L (zeroR X 128) (rdX T L (zeroR X 128) 0)
  unfold itV
  rw [h, if_neg (by decide), if_neg (by decide), if_neg (by decide), if_neg (by decide)]
theorem itV_g3 {T : Nat → Nat} {L : Nat} {V : Nat → Nat} {x its : Nat} (hG : vG V) (h1 : tokK T L x = 1 ∧ cstP (V 0) (V 1) (vlK T L x) its) (h3 : ∀ q, q < nmF (vlK T L x - 1) → okQ T L (V 0) (V 1) (cn V) (vlK T L x - 1) x q) : vG (itV T L V x) := by
  have h2 := h1.2
  have f1 : ∀ wd, vlK T L x = wd + 1 → ∀ q, q < nmF wd → fitP (V 0) (V 1) (cn V) (tokV T L (xq T L x 2)) wd q (tokV T L (xq T L x (q + 1))) := fun wd e q hq => by
    have := h3 q (by rw [e]; exact hq)
    rw [e] at this
    exact this.2
  unfold itV
  split
  · rename_i e
    have := f1 1 e 0 (by decide)
    unfold fitP at this
    rw [if_pos rfl] at this
    exact vG_per hG this (by unfold cstP at h2; omega)
  · split
    · rename_i e0 e
      have a0 := f1 2 e 0 (by decide)
      have a1 := f1 2 e 1 (by decide)
      have a2 := f1 2 e 2 (by decide)
      have a3 := f1 2 e 3 (by decide)
      simp [fitP] at a0 a1 a2 a3
      exact vG_lay hG a0 a1 a2.1 a3.2 (by unfold cstP at h2; omega)
    · split
      · rename_i e0 e1 e
        have a0 := f1 3 e 0 (by decide)
        unfold fitP at a0
        rw [if_neg (by decide), if_neg (by decide), if_pos rfl] at a0
        refine vG_stk hG a0.1 (fun hb => a0.2.1 ?_)
        rw [Nat.or_zero]
        exact hb
      · split
        · exact vG_pas hG (by have := hG.2.1; omega)
        · exact hG
set_option maxHeartbeats 4000000 in
set_option maxRecDepth 100000 in
theorem c_X12_givesItem (l : Launch) (Γ : Gam) (n : Nat) (G : Nat → va_E) (mo : Nat) (R K kp rf ca rc hd fw tl by0 an vl iv : Nat → Nat) (hM : isM Γ G mo R K kp rf ca rc hd fw tl by0 an vl iv) (hmo : mo + 13 ≤ n) (hI : vI R) (hj : winj Γ n) (hL : iv 0 ≤ 150) (hbt : ∀ j, by0 j ≤ 127) (hlk : lkAt by0 (iv 0) iv) (hAn : rG an) (hvl : ∀ j, vl j < 2000) (its : Nat) (hits : 0 < its)  : Met l yX12_givesItem wsX12_givesItem ({ frames := 6, cells := 0, slots := 0, locals := 132 }) (va_Pc [.ref (ad Γ (mo + 0))] (fun U => hw Γ n G U U.heap)) (wQi Γ n (fun z G2 => (((tokK by0 (iv 0) (iv 1) = 1 ∧ cstP (an 0) (an 1) (vlK by0 (iv 0) (iv 1)) its)) ∧ (∀ q, q < nmF (vlK by0 (iv 0) (iv 1) - 1) → okQ by0 (iv 0) (an 0) (an 1) (cn an) (vlK by0 (iv 0) (iv 1) - 1) (iv 1) q) ∧ (z = nI 1) ∧ ∃ iv2 : Nat → Nat, ∃ vl2 : Nat → Nat, (lkAt by0 (iv 0) iv2 ∧ iv2 1 = stopX by0 (iv 0) (iv 1) ∧ iv2 5 = iv 5 ∧ iv2 6 = iv 6 ∧ ∀ j, vl2 j < 2000) ∧ isM Γ G2 mo R K kp rf ca rc hd fw tl by0 (itV by0 (iv 0) an (iv 1)) vl2 iv2 ∧ fr G G2 mo (mo + 13)) ∨ ((z = nI 0) ∧ ∃ iv2 : Nat → Nat, ∃ vl2 : Nat → Nat, (lkAt by0 (iv 0) iv2 ∧ ((¬ (tokK by0 (iv 0) (iv 1) = 1 ∧ cstP (an 0) (an 1) (vlK by0 (iv 0) (iv 1)) its) ∧ iv2 1 = iv 1) ∨ ((tokK by0 (iv 0) (iv 1) = 1 ∧ cstP (an 0) (an 1) (vlK by0 (iv 0) (iv 1)) its) ∧ ∃ q, q < nmF (vlK by0 (iv 0) (iv 1) - 1) ∧ (∀ u, u < q → okQ by0 (iv 0) (an 0) (an 1) (cn an) (vlK by0 (iv 0) (iv 1) - 1) (iv 1) u) ∧ ¬ okQ by0 (iv 0) (an 0) (an 1) (cn an) (vlK by0 (iv 0) (iv 1) - 1) (iv 1) q ∧ iv2 1 = xq by0 (iv 0) (iv 1) (q + 1))) ∧ iv2 5 = iv 5 ∧ iv2 6 = iv 6 ∧ ∀ j, vl2 j < 2000) ∧ isM Γ G2 mo R K kp rf ca rc hd fw tl by0 an vl2 iv2 ∧ fr G G2 mo (mo + 13)))) 0 0 (wA Γ n) := by
  refine Met.ofW (cc := cX12_givesItem) (maxL := 1) (ret := (some .boolean)) (by decide) rfl ?_
  intro p e s m args below meth c s₁ B hml hv
  obtain ⟨rfl, hw⟩ := hv
  have hx := B.exec
  have hb := B.bytes
  have hr := B.returns
  have hts := atoms_spec (ws := wsX12_givesItem) B.pre
  have hown : s.vm.findClass RX12 = some m.cls := findClass_of_methodNamed B.named
  have hlocks := B.notSynchronized
  have hS : va_S (wA Γ n) s.heap s.heap [] := va_S.rf
  have hA : ∀ q, wA Γ n q → wA Γ n q := fun _ h => h
  have hl := lv_entry ([.ref (ad Γ (mo + 0))]) (n := 1) (Nat.le_of_ble_eq_true rfl)
  rw [lg_entry_eq]
  generalize (lg_sl ([.ref (ad Γ (mo + 0))]) ++ List.replicate (1 - (lg_sl ([.ref (ad Γ (mo + 0))])).length) Slot.unset).toArray = ls at hl ⊢
  have hl : lv_has ls 1 [(0, .ref (ad Γ (mo + 0)))] := hl
  have hfr := fr_rf G mo (mo + 13)
  have hB := hI.1
  have hB0 := hI.2.1
  have hB1 := hI.2.2.1
  have hB20 := hI.2.2.2.2.2.2.2.2.2
  have hBz2 := hI.2.2.2.1
  have hBz3 := hI.2.2.2.2.1
  have hBz4 := hI.2.2.2.2.2.1
  have hBz5 := hI.2.2.2.2.2.2.1
  have hby := hI.2.2.2.2.2.2.2.1
  have hto := hI.2.2.2.2.2.2.2.2.1
  refine lv_aload_n hx hb dX12_givesItem_0 rfl (lv_at hl 0 rfl) ?_
  refine lv_iconst (v := nI 3) hx hb dX12_givesItem_1 (by decide) ?_
  refine lv_bipush (v := nI 111) hx hb dX12_givesItem_2 (by decide) ?_
  refine lv_bipush (v := nI 110) hx hb dX12_givesItem_4 (by decide) ?_
  refine lv_bipush (v := nI 101) hx hb dX12_givesItem_6 (by decide) ?_
  refine lv_iconst (v := nI 0) hx hb dX12_givesItem_8 (by decide) ?_
  refine lv_iconst (v := nI 0) hx hb dX12_givesItem_9 (by decide) ?_
  refine lv_iconst (v := nI 0) hx hb dX12_givesItem_10 (by decide) ?_
  refine nr_goB (P := splX by0 iv 3 111 110 101 0 0 0) (nr_runV (As := [.int (nI 3), .int (nI 111), .int (nI 110), .int (nI 101), .int (nI 0), .int (nI 0), .int (nI 0)]) (C := RX12) (T := TX12) (N := 19) ⟨hx, hb, hml, hown, hts⟩ hw (by omega) (isM_0 hM) rfl (c_X12_spells l Γ n G mo R K kp rf ca rc hd fw tl by0 an vl iv hM (by omega) hI 3 111 110 101 0 0 0 hL hbt hlk (by decide) (by decide) (by decide) (by decide) (by decide) (by decide) (by decide)) (cwV 7 hts gX12_givesItem_X12_spells rfl rfl rfl (by decide +kernel) ⟨Nat.le_of_ble_eq_true rfl, Nat.le_of_ble_eq_true rfl⟩) rfl hl.1 rfl (Nat.le_of_ble_eq_true rfl) dX12_givesItem_11 ⟨Nat.zero_le _, Nat.zero_le _⟩) (fun b1 => ?_) (fun b1 => ?_)
  · have hsp := (spl_i (i := 1) (by decide) (by decide)).mp b1
    obtain ⟨hkw, hvw⟩ := spl_vl hlk (by decide) hsp
    refine nr_if_eq (tgt := 22) hx hb (by decide) dX12_givesItem_14 (by decide) (fun c2 => absurd c2 (by decide)) (fun c2 => ?_)
    refine lv_aload_n hx hb dX12_givesItem_17 rfl (lv_at hl 0 rfl) ?_
    refine nr_goI (nr_runV (As := []) (C := RX12) (T := TX12) (N := 19) ⟨hx, hb, hml, hown, hts⟩ hw (by omega) (isM_0 hM) rfl (c_X12_givesOne l Γ n G mo R K kp rf ca rc hd fw tl by0 an vl iv hM (by omega) hI hj hL hbt hlk hAn hvl hvw) (cwV 0 hts gX12_givesItem_X12_givesOne rfl rfl rfl (by decide +kernel) ⟨Nat.le_of_ble_eq_true rfl, Nat.le_of_ble_eq_true rfl⟩) rfl hl.1 rfl (Nat.le_of_ble_eq_true rfl) dX12_givesItem_18 ⟨Nat.zero_le _, Nat.zero_le _⟩) hw hA hS (fun z3 G3 H locs hp hw hS => ?_)
    rcases hp with ⟨hc3_0, hc3_1, ha3, iv3, vl3, hx3, hM, hf3⟩ | ⟨ha3, iv3, vl3, hx3, hM, hf3⟩
    · have hfr := fr_tr hfr hf3 (Nat.le_refl _) (Nat.le_refl _)
      subst ha3
      have hcs : cstP (an 0) (an 1) (vlK by0 (iv 0) (iv 1)) its := by rw [hvw]; unfold cstP; omega
      have hnums : ∀ q, q < nmF (vlK by0 (iv 0) (iv 1) - 1) → okQ by0 (iv 0) (an 0) (an 1) (cn an) (vlK by0 (iv 0) (iv 1) - 1) (iv 1) q := by rw [hvw]; exact hc3_1
      have hstp : iv3 1 = stopX by0 (iv 0) (iv 1) := by unfold stopX; rw [hvw]; exact hx3.2.1
      have hE9 := hx3
      exact nr_retIB hx hb hr hlocks (by decide) hw hS (Or.inl ⟨⟨hkw, hcs⟩, hnums, rfl, _, _, ⟨hE9.1, hstp, hE9.2.2.1, hE9.2.2.2.1, hE9.2.2.2.2⟩, hM, hfr⟩) dX12_givesItem_21
    · have hfr := fr_tr hfr hf3 (Nat.le_refl _) (Nat.le_refl _)
      subst ha3
      have hE9 := hx3
      have hbd : (¬ (tokK by0 (iv 0) (iv 1) = 1 ∧ cstP (an 0) (an 1) (vlK by0 (iv 0) (iv 1)) its) ∧ iv3 1 = iv 1) ∨ ((tokK by0 (iv 0) (iv 1) = 1 ∧ cstP (an 0) (an 1) (vlK by0 (iv 0) (iv 1)) its) ∧ ∃ q, q < nmF (vlK by0 (iv 0) (iv 1) - 1) ∧ (∀ u, u < q → okQ by0 (iv 0) (an 0) (an 1) (cn an) (vlK by0 (iv 0) (iv 1) - 1) (iv 1) u) ∧ ¬ okQ by0 (iv 0) (an 0) (an 1) (cn an) (vlK by0 (iv 0) (iv 1) - 1) (iv 1) q ∧ iv3 1 = xq by0 (iv 0) (iv 1) (q + 1)) := by
          rcases hx3.2.1 with z | z
          · exact Or.inl ⟨fun y => by have y2 := y.2; rw [hvw] at y2; unfold cstP at y2; omega, z.2⟩
          · exact Or.inr ⟨⟨hkw, by rw [hvw]; unfold cstP; omega⟩, by rw [hvw]; exact z.2⟩
      exact nr_retIB hx hb hr hlocks (by decide) hw hS (Or.inr (⟨rfl, _, _, ⟨hE9.1, hbd, hE9.2.2.1, hE9.2.2.2.1, hE9.2.2.2.2⟩, hM, hfr⟩)) dX12_givesItem_21
  · have hn1 : ¬ splP by0 iv 1 := fun z => b1 ((spl_i (i := 1) (by decide) (by decide)).mpr z)
    refine nr_if_eq (tgt := 22) hx hb (by decide) dX12_givesItem_14 (by decide) (fun c4 => ?_) (fun c4 => absurd c4 (by decide))
    refine lv_aload_n hx hb dX12_givesItem_22 rfl (lv_at hl 0 rfl) ?_
    refine lv_iconst (v := nI 5) hx hb dX12_givesItem_23 (by decide) ?_
    refine lv_bipush (v := nI 119) hx hb dX12_givesItem_24 (by decide) ?_
    refine lv_bipush (v := nI 114) hx hb dX12_givesItem_26 (by decide) ?_
    refine lv_bipush (v := nI 111) hx hb dX12_givesItem_28 (by decide) ?_
    refine lv_bipush (v := nI 110) hx hb dX12_givesItem_30 (by decide) ?_
    refine lv_bipush (v := nI 103) hx hb dX12_givesItem_32 (by decide) ?_
    refine lv_iconst (v := nI 0) hx hb dX12_givesItem_34 (by decide) ?_
    refine nr_goB (P := splX by0 iv 5 119 114 111 110 103 0) (nr_runV (As := [.int (nI 5), .int (nI 119), .int (nI 114), .int (nI 111), .int (nI 110), .int (nI 103), .int (nI 0)]) (C := RX12) (T := TX12) (N := 19) ⟨hx, hb, hml, hown, hts⟩ hw (by omega) (isM_0 hM) rfl (c_X12_spells l Γ n G mo R K kp rf ca rc hd fw tl by0 an vl iv hM (by omega) hI 5 119 114 111 110 103 0 hL hbt hlk (by decide) (by decide) (by decide) (by decide) (by decide) (by decide) (by decide)) (cwV 7 hts gX12_givesItem_X12_spells rfl rfl rfl (by decide +kernel) ⟨Nat.le_of_ble_eq_true rfl, Nat.le_of_ble_eq_true rfl⟩) rfl hl.1 rfl (Nat.le_of_ble_eq_true rfl) dX12_givesItem_35 ⟨Nat.zero_le _, Nat.zero_le _⟩) (fun b5 => ?_) (fun b5 => ?_)
    · have hsp := (spl_i (i := 2) (by decide) (by decide)).mp b5
      obtain ⟨hkw, hvw⟩ := spl_vl hlk (by decide) hsp
      refine nr_if_eq (tgt := 46) hx hb (by decide) dX12_givesItem_38 (by decide) (fun c6 => absurd c6 (by decide)) (fun c6 => ?_)
      refine lv_aload_n hx hb dX12_givesItem_41 rfl (lv_at hl 0 rfl) ?_
      refine nr_goI (nr_runV (As := []) (C := RX12) (T := TX12) (N := 19) ⟨hx, hb, hml, hown, hts⟩ hw (by omega) (isM_0 hM) rfl (c_X12_givesWrong l Γ n G mo R K kp rf ca rc hd fw tl by0 an vl iv hM (by omega) hI hj hL hbt hlk hAn hvl hvw) (cwV 0 hts gX12_givesItem_X12_givesWrong rfl rfl rfl (by decide +kernel) ⟨Nat.le_of_ble_eq_true rfl, Nat.le_of_ble_eq_true rfl⟩) rfl hl.1 rfl (Nat.le_of_ble_eq_true rfl) dX12_givesItem_42 ⟨Nat.zero_le _, Nat.zero_le _⟩) hw hA hS (fun z7 G7 H locs hp hw hS => ?_)
      rcases hp with ⟨hc7_0, hc7_1, ha7, iv7, vl7, hx7, hM, hf7⟩ | ⟨ha7, iv7, vl7, hx7, hM, hf7⟩
      · have hfr := fr_tr hfr hf7 (Nat.le_refl _) (Nat.le_refl _)
        subst ha7
        have hcs : cstP (an 0) (an 1) (vlK by0 (iv 0) (iv 1)) its := by rw [hvw]; unfold cstP; omega
        have hnums : ∀ q, q < nmF (vlK by0 (iv 0) (iv 1) - 1) → okQ by0 (iv 0) (an 0) (an 1) (cn an) (vlK by0 (iv 0) (iv 1) - 1) (iv 1) q := by rw [hvw]; exact hc7_1
        have hstp : iv7 1 = stopX by0 (iv 0) (iv 1) := by unfold stopX; rw [hvw]; exact hx7.2.1
        have hE9 := hx7
        exact nr_retIB hx hb hr hlocks (by decide) hw hS (Or.inl ⟨⟨hkw, hcs⟩, hnums, rfl, _, _, ⟨hE9.1, hstp, hE9.2.2.1, hE9.2.2.2.1, hE9.2.2.2.2⟩, hM, hfr⟩) dX12_givesItem_45
      · have hfr := fr_tr hfr hf7 (Nat.le_refl _) (Nat.le_refl _)
        subst ha7
        have hE9 := hx7
        have hbd : (¬ (tokK by0 (iv 0) (iv 1) = 1 ∧ cstP (an 0) (an 1) (vlK by0 (iv 0) (iv 1)) its) ∧ iv7 1 = iv 1) ∨ ((tokK by0 (iv 0) (iv 1) = 1 ∧ cstP (an 0) (an 1) (vlK by0 (iv 0) (iv 1)) its) ∧ ∃ q, q < nmF (vlK by0 (iv 0) (iv 1) - 1) ∧ (∀ u, u < q → okQ by0 (iv 0) (an 0) (an 1) (cn an) (vlK by0 (iv 0) (iv 1) - 1) (iv 1) u) ∧ ¬ okQ by0 (iv 0) (an 0) (an 1) (cn an) (vlK by0 (iv 0) (iv 1) - 1) (iv 1) q ∧ iv7 1 = xq by0 (iv 0) (iv 1) (q + 1)) := by
          rcases hx7.2.1 with z | z
          · exact Or.inl ⟨fun y => by have y2 := y.2; rw [hvw] at y2; unfold cstP at y2; omega, z.2⟩
          · exact Or.inr ⟨⟨hkw, by rw [hvw]; unfold cstP; omega⟩, by rw [hvw]; exact z.2⟩
        exact nr_retIB hx hb hr hlocks (by decide) hw hS (Or.inr (⟨rfl, _, _, ⟨hE9.1, hbd, hE9.2.2.1, hE9.2.2.2.1, hE9.2.2.2.2⟩, hM, hfr⟩)) dX12_givesItem_45
    · have hn2 : ¬ splP by0 iv 2 := fun z => b5 ((spl_i (i := 2) (by decide) (by decide)).mpr z)
      refine nr_if_eq (tgt := 46) hx hb (by decide) dX12_givesItem_38 (by decide) (fun c8 => ?_) (fun c8 => absurd c8 (by decide))
      refine lv_aload_n hx hb dX12_givesItem_46 rfl (lv_at hl 0 rfl) ?_
      refine lv_iconst (v := nI 4) hx hb dX12_givesItem_47 (by decide) ?_
      refine lv_bipush (v := nI 114) hx hb dX12_givesItem_48 (by decide) ?_
      refine lv_bipush (v := nI 105) hx hb dX12_givesItem_50 (by decide) ?_
      refine lv_bipush (v := nI 110) hx hb dX12_givesItem_52 (by decide) ?_
      refine lv_bipush (v := nI 103) hx hb dX12_givesItem_54 (by decide) ?_
      refine lv_iconst (v := nI 0) hx hb dX12_givesItem_56 (by decide) ?_
      refine lv_iconst (v := nI 0) hx hb dX12_givesItem_57 (by decide) ?_
      refine nr_goB (P := splX by0 iv 4 114 105 110 103 0 0) (nr_runV (As := [.int (nI 4), .int (nI 114), .int (nI 105), .int (nI 110), .int (nI 103), .int (nI 0), .int (nI 0)]) (C := RX12) (T := TX12) (N := 19) ⟨hx, hb, hml, hown, hts⟩ hw (by omega) (isM_0 hM) rfl (c_X12_spells l Γ n G mo R K kp rf ca rc hd fw tl by0 an vl iv hM (by omega) hI 4 114 105 110 103 0 0 hL hbt hlk (by decide) (by decide) (by decide) (by decide) (by decide) (by decide) (by decide)) (cwV 7 hts gX12_givesItem_X12_spells rfl rfl rfl (by decide +kernel) ⟨Nat.le_of_ble_eq_true rfl, Nat.le_of_ble_eq_true rfl⟩) rfl hl.1 rfl (Nat.le_of_ble_eq_true rfl) dX12_givesItem_58 ⟨Nat.zero_le _, Nat.zero_le _⟩) (fun b9 => ?_) (fun b9 => ?_)
      · have hsp := (spl_i (i := 3) (by decide) (by decide)).mp b9
        obtain ⟨hkw, hvw⟩ := spl_vl hlk (by decide) hsp
        refine nr_if_eq (tgt := 69) hx hb (by decide) dX12_givesItem_61 (by decide) (fun c10 => absurd c10 (by decide)) (fun c10 => ?_)
        refine lv_aload_n hx hb dX12_givesItem_64 rfl (lv_at hl 0 rfl) ?_
        refine nr_goI (nr_runV (As := []) (C := RX12) (T := TX12) (N := 19) ⟨hx, hb, hml, hown, hts⟩ hw (by omega) (isM_0 hM) rfl (c_X12_givesRing l Γ n G mo R K kp rf ca rc hd fw tl by0 an vl iv hM (by omega) hI hj hL hbt hlk hAn hvl hvw) (cwV 0 hts gX12_givesItem_X12_givesRing rfl rfl rfl (by decide +kernel) ⟨Nat.le_of_ble_eq_true rfl, Nat.le_of_ble_eq_true rfl⟩) rfl hl.1 rfl (Nat.le_of_ble_eq_true rfl) dX12_givesItem_65 ⟨Nat.zero_le _, Nat.zero_le _⟩) hw hA hS (fun z11 G11 H locs hp hw hS => ?_)
        rcases hp with ⟨hc11_0, ha11, iv11, vl11, hx11, hM, hf11⟩ | ⟨ha11, iv11, vl11, hx11, hM, hf11⟩
        · have hfr := fr_tr hfr hf11 (Nat.le_refl _) (Nat.le_refl _)
          subst ha11
          have hcs : cstP (an 0) (an 1) (vlK by0 (iv 0) (iv 1)) its := by rw [hvw]; unfold cstP; omega
          have hnums : ∀ q, q < nmF (vlK by0 (iv 0) (iv 1) - 1) → okQ by0 (iv 0) (an 0) (an 1) (cn an) (vlK by0 (iv 0) (iv 1) - 1) (iv 1) q := by rw [hvw]; exact hc11_0
          have hstp : iv11 1 = stopX by0 (iv 0) (iv 1) := by unfold stopX; rw [hvw]; exact hx11.2.1
          have hE9 := hx11
          exact nr_retIB hx hb hr hlocks (by decide) hw hS (Or.inl ⟨⟨hkw, hcs⟩, hnums, rfl, _, _, ⟨hE9.1, hstp, hE9.2.2.1, hE9.2.2.2.1, hE9.2.2.2.2⟩, hM, hfr⟩) dX12_givesItem_68
        · have hfr := fr_tr hfr hf11 (Nat.le_refl _) (Nat.le_refl _)
          subst ha11
          have hE9 := hx11
          have hbd : (¬ (tokK by0 (iv 0) (iv 1) = 1 ∧ cstP (an 0) (an 1) (vlK by0 (iv 0) (iv 1)) its) ∧ iv11 1 = iv 1) ∨ ((tokK by0 (iv 0) (iv 1) = 1 ∧ cstP (an 0) (an 1) (vlK by0 (iv 0) (iv 1)) its) ∧ ∃ q, q < nmF (vlK by0 (iv 0) (iv 1) - 1) ∧ (∀ u, u < q → okQ by0 (iv 0) (an 0) (an 1) (cn an) (vlK by0 (iv 0) (iv 1) - 1) (iv 1) u) ∧ ¬ okQ by0 (iv 0) (an 0) (an 1) (cn an) (vlK by0 (iv 0) (iv 1) - 1) (iv 1) q ∧ iv11 1 = xq by0 (iv 0) (iv 1) (q + 1)) := Or.inr ⟨⟨hkw, by rw [hvw]; unfold cstP; omega⟩, by rw [hvw]; exact hx11.2.1⟩
          exact nr_retIB hx hb hr hlocks (by decide) hw hS (Or.inr (⟨rfl, _, _, ⟨hE9.1, hbd, hE9.2.2.1, hE9.2.2.2.1, hE9.2.2.2.2⟩, hM, hfr⟩)) dX12_givesItem_68
      · have hn3 : ¬ splP by0 iv 3 := fun z => b9 ((spl_i (i := 3) (by decide) (by decide)).mpr z)
        refine nr_if_eq (tgt := 69) hx hb (by decide) dX12_givesItem_61 (by decide) (fun c12 => ?_) (fun c12 => absurd c12 (by decide))
        refine lv_aload_n hx hb dX12_givesItem_69 rfl (lv_at hl 0 rfl) ?_
        refine lv_iconst (v := nI 4) hx hb dX12_givesItem_70 (by decide) ?_
        refine lv_bipush (v := nI 100) hx hb dX12_givesItem_71 (by decide) ?_
        refine lv_bipush (v := nI 97) hx hb dX12_givesItem_73 (by decide) ?_
        refine lv_bipush (v := nI 121) hx hb dX12_givesItem_75 (by decide) ?_
        refine lv_bipush (v := nI 115) hx hb dX12_givesItem_77 (by decide) ?_
        refine lv_iconst (v := nI 0) hx hb dX12_givesItem_79 (by decide) ?_
        refine lv_iconst (v := nI 0) hx hb dX12_givesItem_80 (by decide) ?_
        refine nr_goB (P := splX by0 iv 4 100 97 121 115 0 0) (nr_runV (As := [.int (nI 4), .int (nI 100), .int (nI 97), .int (nI 121), .int (nI 115), .int (nI 0), .int (nI 0)]) (C := RX12) (T := TX12) (N := 19) ⟨hx, hb, hml, hown, hts⟩ hw (by omega) (isM_0 hM) rfl (c_X12_spells l Γ n G mo R K kp rf ca rc hd fw tl by0 an vl iv hM (by omega) hI 4 100 97 121 115 0 0 hL hbt hlk (by decide) (by decide) (by decide) (by decide) (by decide) (by decide) (by decide)) (cwV 7 hts gX12_givesItem_X12_spells rfl rfl rfl (by decide +kernel) ⟨Nat.le_of_ble_eq_true rfl, Nat.le_of_ble_eq_true rfl⟩) rfl hl.1 rfl (Nat.le_of_ble_eq_true rfl) dX12_givesItem_81 ⟨Nat.zero_le _, Nat.zero_le _⟩) (fun b13 => ?_) (fun b13 => ?_)
        · have hsp := (spl_i (i := 4) (by decide) (by decide)).mp b13
          obtain ⟨hkw, hvw⟩ := spl_vl hlk (by decide) hsp
          refine nr_if_eq (tgt := 98) hx hb (by decide) dX12_givesItem_84 (by decide) (fun c14 => absurd c14 (by decide)) (fun c14 => ?_)
          refine lv_aload_n hx hb dX12_givesItem_87 rfl (lv_at hl 0 rfl) ?_
          refine nr_goI (nr_runV (As := []) (C := RX12) (T := TX12) (N := 19) ⟨hx, hb, hml, hown, hts⟩ hw (by omega) (isM_0 hM) rfl (c_X12_givesDays l Γ n G mo R K kp rf ca rc hd fw tl by0 an vl iv hM (by omega) hI hj hL hbt hlk hAn hvl hvw) (cwV 0 hts gX12_givesItem_X12_givesDays rfl rfl rfl (by decide +kernel) ⟨Nat.le_of_ble_eq_true rfl, Nat.le_of_ble_eq_true rfl⟩) rfl hl.1 rfl (Nat.le_of_ble_eq_true rfl) dX12_givesItem_88 ⟨Nat.zero_le _, Nat.zero_le _⟩) hw hA hS (fun z15 G15 H locs hp hw hS => ?_)
          rcases hp with ⟨hc15_0, ha15, iv15, vl15, hx15, hM, hf15⟩ | ⟨ha15, iv15, vl15, hx15, hM, hf15⟩
          · have hfr := fr_tr hfr hf15 (Nat.le_refl _) (Nat.le_refl _)
            subst ha15
            have hcs : cstP (an 0) (an 1) (vlK by0 (iv 0) (iv 1)) its := by rw [hvw]; unfold cstP; omega
            have hnums : ∀ q, q < nmF (vlK by0 (iv 0) (iv 1) - 1) → okQ by0 (iv 0) (an 0) (an 1) (cn an) (vlK by0 (iv 0) (iv 1) - 1) (iv 1) q := by rw [hvw]; exact hc15_0
            have hstp : iv15 1 = stopX by0 (iv 0) (iv 1) := by unfold stopX; rw [hvw]; exact hx15.2.1
            have hE9 := hx15
            refine nr_if_eq (tgt := 98) hx hb (by decide) dX12_givesItem_91 (by decide) (fun c16 => absurd c16 (by decide)) (fun c16 => ?_)
            refine lv_iconst (v := nI 1) hx hb dX12_givesItem_94 (by decide) ?_
            refine lv_goto (tgt := 99) hx hb dX12_givesItem_95 (by decide) ?_
            exact nr_retIB hx hb hr hlocks (by decide) hw hS (Or.inl ⟨⟨hkw, hcs⟩, hnums, rfl, _, _, ⟨hE9.1, hstp, hE9.2.2.1, hE9.2.2.2.1, hE9.2.2.2.2⟩, hM, hfr⟩) dX12_givesItem_99
          · have hfr := fr_tr hfr hf15 (Nat.le_refl _) (Nat.le_refl _)
            subst ha15
            have hE9 := hx15
            have hbd : (¬ (tokK by0 (iv 0) (iv 1) = 1 ∧ cstP (an 0) (an 1) (vlK by0 (iv 0) (iv 1)) its) ∧ iv15 1 = iv 1) ∨ ((tokK by0 (iv 0) (iv 1) = 1 ∧ cstP (an 0) (an 1) (vlK by0 (iv 0) (iv 1)) its) ∧ ∃ q, q < nmF (vlK by0 (iv 0) (iv 1) - 1) ∧ (∀ u, u < q → okQ by0 (iv 0) (an 0) (an 1) (cn an) (vlK by0 (iv 0) (iv 1) - 1) (iv 1) u) ∧ ¬ okQ by0 (iv 0) (an 0) (an 1) (cn an) (vlK by0 (iv 0) (iv 1) - 1) (iv 1) q ∧ iv15 1 = xq by0 (iv 0) (iv 1) (q + 1)) := Or.inr ⟨⟨hkw, by rw [hvw]; unfold cstP; omega⟩, by rw [hvw]; exact hx15.2.1⟩
            refine nr_if_eq (tgt := 98) hx hb (by decide) dX12_givesItem_91 (by decide) (fun c17 => ?_) (fun c17 => absurd c17 (by decide))
            refine lv_iconst (v := nI 0) hx hb dX12_givesItem_98 (by decide) ?_
            exact nr_retIB hx hb hr hlocks (by decide) hw hS (Or.inr (⟨rfl, _, _, ⟨hE9.1, hbd, hE9.2.2.1, hE9.2.2.2.1, hE9.2.2.2.2⟩, hM, hfr⟩)) dX12_givesItem_99
        · have hn4 : ¬ splP by0 iv 4 := fun z => b13 ((spl_i (i := 4) (by decide) (by decide)).mpr z)
          refine nr_if_eq (tgt := 98) hx hb (by decide) dX12_givesItem_84 (by decide) (fun c18 => ?_) (fun c18 => absurd c18 (by decide))
          refine lv_iconst (v := nI 0) hx hb dX12_givesItem_98 (by decide) ?_
          exact nr_retIB hx hb hr hlocks (by decide) hw hS (Or.inr (⟨rfl, _, _, ⟨hlk, Or.inl ⟨spl_none hlk hits hn1 hn2 hn3 hn4, rfl⟩, rfl, rfl, hvl⟩, hM, hfr⟩)) dX12_givesItem_99
theorem wl_X12_read_1 : Cond.fieldLink RX12 233 "BellForgivenModel" "tokenAt" "I" ∈ wsX12_read := List.mem_of_getElem? (i := 1) rfl
theorem wl_X12_read_2 : Cond.fieldLink RX12 239 "BellForgivenModel" "token" "I" ∈ wsX12_read := List.mem_of_getElem? (i := 2) rfl
theorem wl_X12_read_3 : Cond.fieldLink RX12 45 "BellForgivenModel" "anew" "[I" ∈ wsX12_read := List.mem_of_getElem? (i := 3) rfl
theorem wl_X12_read_4 : Cond.fieldLink RX12 7 "BellForgivenModel" "all" "[I" ∈ wsX12_read := List.mem_of_getElem? (i := 4) rfl
theorem hi_X12_read_X12 : ∀ w ∈ u_ws RX12 TX12 19, w ∈ wsX12_read := fun w h => (List.mem_cons_of_mem _ (List.mem_append_right _ h))
set_option maxHeartbeats 4000000 in
set_option maxRecDepth 100000 in
theorem c_X12_read (l : Launch) (Γ : Gam) (n : Nat) (G : Nat → va_E) (mo : Nat) (R K kp rf ca rc hd fw tl by0 an vl iv : Nat → Nat) (hM : isM Γ G mo R K kp rf ca rc hd fw tl by0 an vl iv) (hmo : mo + 13 ≤ n) (hI : vI R) (hj : winj Γ n) (hL : iv 0 ≤ 150) (hbt : ∀ j, by0 j ≤ 127) (hAi : aI an) (hvl : ∀ j, vl j < 2000)  : Met l yX12_read wsX12_read ({ frames := 7, cells := 0, slots := 0, locals := 152 }) (va_Pc [.ref (ad Γ (mo + 0))] (fun U => hw Γ n G U U.heap)) (wQi Γ n (fun z G2 => (∃ k : Nat, (rdGood by0 (iv 0) (zeroR an 128) k) ∧ (z = nI k) ∧ ∃ iv2 : Nat → Nat, ∃ vl2 : Nat → Nat, (iv2 0 = iv 0 ∧ iv2 5 = iv 5 ∧ iv2 6 = iv 6 ∧ ∀ j, vl2 j < 2000) ∧ isM Γ G2 mo (cpyR R (rdV by0 (iv 0) (zeroR an 128) k) 128) K kp rf ca rc hd fw tl by0 (rdV by0 (iv 0) (zeroR an 128) k) vl2 iv2 ∧ fr G G2 mo (mo + 13)) ∨ (∃ p : Nat, (rdBad by0 (iv 0) (zeroR an 128) p) ∧ (z = nI 0 - nI (10 + p)) ∧ ∃ iv2 : Nat → Nat, ∃ vl2 : Nat → Nat, ∃ an2 : Nat → Nat, (iv2 0 = iv 0 ∧ iv2 5 = iv 5 ∧ iv2 6 = iv 6 ∧ (∀ j, vl2 j < 2000) ∧ aI an2) ∧ isM Γ G2 mo R K kp rf ca rc hd fw tl by0 an2 vl2 iv2 ∧ fr G G2 mo (mo + 13)))) 0 0 (wA Γ n) := by
  refine Met.ofW (cc := cX12_read) (maxL := 3) (ret := (some .int)) (by decide) rfl ?_
  intro p e s m args below meth c s₁ B hml hv
  obtain ⟨rfl, hw⟩ := hv
  have hx := B.exec
  have hb := B.bytes
  have hr := B.returns
  have hts := atoms_spec (ws := wsX12_read) B.pre
  have hown : s.vm.findClass RX12 = some m.cls := findClass_of_methodNamed B.named
  have hlocks := B.notSynchronized
  have hS : va_S (wA Γ n) s.heap s.heap [] := va_S.rf
  have hA : ∀ q, wA Γ n q → wA Γ n q := fun _ h => h
  have hl := lv_entry ([.ref (ad Γ (mo + 0))]) (n := 3) (Nat.le_of_ble_eq_true rfl)
  rw [lg_entry_eq]
  generalize (lg_sl ([.ref (ad Γ (mo + 0))]) ++ List.replicate (3 - (lg_sl ([.ref (ad Γ (mo + 0))])).length) Slot.unset).toArray = ls at hl ⊢
  have hl : lv_has ls 3 [(0, .ref (ad Γ (mo + 0)))] := hl
  have hfr := fr_rf G mo (mo + 13)
  have hB := hI.1
  have hB0 := hI.2.1
  have hB1 := hI.2.2.1
  have hB20 := hI.2.2.2.2.2.2.2.2.2
  have hBz2 := hI.2.2.2.1
  have hBz3 := hI.2.2.2.2.1
  have hBz4 := hI.2.2.2.2.2.1
  have hBz5 := hI.2.2.2.2.2.2.1
  have hby := hI.2.2.2.2.2.2.2.1
  have hto := hI.2.2.2.2.2.2.2.2.1
  have hAz := hAi.1
  have hZ := rG_zero hAz
  refine lv_aload_n hx hb dX12_read_0 rfl (lv_at hl 0 rfl) ?_
  refine lv_iconst (v := nI 0) hx hb dX12_read_1 (by decide) ?_
  refine nr_goV (nr_runV (As := [.int (nI 0)]) (C := RX12) (T := TX12) (N := 19) ⟨hx, hb, hml, hown, hts⟩ hw (by omega) (isM_0 hM) rfl (c_X12_lookAt l Γ n G mo R K kp rf ca rc hd fw tl by0 an vl iv hM (by omega) hI hj 0 (Nat.zero_le _) hL hbt) (cwV 1 hts gX12_read_X12_lookAt rfl rfl rfl (by decide +kernel) ⟨Nat.le_of_ble_eq_true rfl, Nat.le_of_ble_eq_true rfl⟩) rfl hl.1 rfl (Nat.le_of_ble_eq_true rfl) dX12_read_2 ⟨Nat.zero_le _, Nat.zero_le _⟩) hw hA hS (fun G1 H locs hp hw hS => ?_)
  obtain ⟨iv1, hx1, hM, hfr1⟩ := hp
  have hfr := fr_tr hfr hfr1 (Nat.le_refl _) (Nat.le_refl _)
  obtain ⟨pl0, p1, p5, p6⟩ := hx1
  have p0 := pl0.1
  have plk : lkAt by0 (iv1 0) iv1 := by rw [p0]; exact pl0
  have p1 : iv1 1 = rdX by0 (iv 0) (zeroR an 128) 0 := p1
  have pf9 := lk_f plk
  refine lv_aload_n hx hb dX12_read_5 rfl (lv_at hl 0 rfl) ?_
  refine lv_bipush (v := nI 6) hx hb dX12_read_6 (by decide) ?_
  refine lv_bipush (v := nI 118) hx hb dX12_read_8 (by decide) ?_
  refine lv_bipush (v := nI 97) hx hb dX12_read_10 (by decide) ?_
  refine lv_bipush (v := nI 108) hx hb dX12_read_12 (by decide) ?_
  refine lv_bipush (v := nI 108) hx hb dX12_read_14 (by decide) ?_
  refine lv_bipush (v := nI 101) hx hb dX12_read_16 (by decide) ?_
  refine lv_bipush (v := nI 121) hx hb dX12_read_18 (by decide) ?_
  refine nr_goB (P := splX by0 iv1 6 118 97 108 108 101 121) (nr_runV (As := [.int (nI 6), .int (nI 118), .int (nI 97), .int (nI 108), .int (nI 108), .int (nI 101), .int (nI 121)]) (C := RX12) (T := TX12) (N := 19) ⟨hx, hb, hml, hown, hts⟩ hw (by omega) (isM_0 hM) rfl (c_X12_spells l Γ n G1 mo R K kp rf ca rc hd fw tl by0 an vl iv1 hM (by omega) hI 6 118 97 108 108 101 121 (by omega) hbt plk (by decide) (by decide) (by decide) (by decide) (by decide) (by decide) (by decide)) (cwV 7 hts gX12_read_X12_spells rfl rfl rfl (by decide +kernel) ⟨Nat.le_of_ble_eq_true rfl, Nat.le_of_ble_eq_true rfl⟩) rfl hl.1 rfl (Nat.le_of_ble_eq_true rfl) dX12_read_20 ⟨Nat.zero_le _, Nat.zero_le _⟩) (fun b2 => ?_) (fun b2 => ?_)
  · have hsp := (spl_i (i := 0) (by decide) (by decide)).mp b2
    obtain ⟨hkw, hvw⟩ := spl_vl pl0 (by decide) hsp
    rw [p1] at hkw hvw
    have hc0 : tokK by0 (iv 0) (rdX by0 (iv 0) (zeroR an 128) 0) = 1 ∧ cstP (rdV by0 (iv 0) (zeroR an 128) 0 0) (rdV by0 (iv 0) (zeroR an 128) 0 1) (vlK by0 (iv 0) (rdX by0 (iv 0) (zeroR an 128) 0)) 0 := ⟨hkw, by rw [hvw]; exact Or.inl ⟨rfl, rfl⟩⟩
    have hnum0 : ∀ q, q < nmF (vlK by0 (iv 0) (rdX by0 (iv 0) (zeroR an 128) 0) - 1) → okQ by0 (iv 0) (rdV by0 (iv 0) (zeroR an 128) 0 0) (rdV by0 (iv 0) (zeroR an 128) 0 1) (cn (rdV by0 (iv 0) (zeroR an 128) 0)) (vlK by0 (iv 0) (rdX by0 (iv 0) (zeroR an 128) 0) - 1) (rdX by0 (iv 0) (zeroR an 128) 0) q := by rw [hvw]; exact fun q hq => absurd hq (Nat.not_lt_zero q)
    have hst0 : stopX by0 (iv 0) (rdX by0 (iv 0) (zeroR an 128) 0) = xq by0 (iv 0) (rdX by0 (iv 0) (zeroR an 128) 0) 1 := by unfold stopX; rw [hvw]; rfl
    refine nr_if_ne (tgt := 34) hx hb (by decide) dX12_read_23 (by decide) (fun c3 => ?_) (fun c3 => absurd c3 (by decide))
    refine lv_aload_n hx hb dX12_read_34 rfl (lv_at hl 0 rfl) ?_
    refine nr_goV (nr_runV (As := []) (C := RX12) (T := TX12) (N := 19) ⟨hx, hb, hml, hown, hts⟩ hw (by omega) (isM_0 hM) rfl (c_X12_goBehind l Γ n G1 mo R K kp rf ca rc hd fw tl by0 an vl iv1 hM (by omega) hI hj (by omega) hbt plk) (cwV 0 hts gX12_read_X12_goBehind rfl rfl rfl (by decide +kernel) ⟨Nat.le_of_ble_eq_true rfl, Nat.le_of_ble_eq_true rfl⟩) rfl hl.1 rfl (Nat.le_of_ble_eq_true rfl) dX12_read_35 ⟨Nat.zero_le _, Nat.zero_le _⟩) hw hA hS (fun G4 H locs hp hw hS => ?_)
    obtain ⟨iv4, hx4, hM, hfr4⟩ := hp
    have hfr := fr_tr hfr hfr4 (Nat.le_refl _) (Nat.le_refl _)
    obtain ⟨qlk, q0, q1, q3, q4, q5, q6⟩ := gb_step (x := rdX by0 (iv 0) (zeroR an 128) 0) (q := 0) hx4 p0 p1 p5 p6
    have q3 : iv4 3 = tokK by0 (iv 0) (xq by0 (iv 0) (rdX by0 (iv 0) (zeroR an 128) 0) 1) := q3
    have q1 : iv4 1 = xq by0 (iv 0) (rdX by0 (iv 0) (zeroR an 128) 0) 1 := q1
    have qf9 := lk_f qlk
    refine lv_aload_n hx hb dX12_read_38 rfl (lv_at hl 0 rfl) ?_
    refine nr_get (own := RX12) (C := RX12) (T := TX12) (N := 19) (v := .int (nI (iv4 3))) hx hb hts hi_X12_read_X12 hown hw (by omega) (isM_0 hM) rfl 15 (by decide) wl_X12_read_2 rfl rfl dX12_read_39 ?_
    refine lv_iconst (v := nI 3) hx hb dX12_read_42 (by decide) ?_
    refine nr_icmp_eq (tgt := 54) hx hb (by omega) (by decide) dX12_read_43 (by decide) (fun c5 => ?_) (fun c5 => ?_)
    · refine lv_aload_n hx hb dX12_read_54 rfl (lv_at hl 0 rfl) ?_
      refine nr_goV (nr_runV (As := []) (C := RX12) (T := TX12) (N := 19) ⟨hx, hb, hml, hown, hts⟩ hw (by omega) (isM_0 hM) rfl (c_X12_goBehind l Γ n G4 mo R K kp rf ca rc hd fw tl by0 an vl iv4 hM (by omega) hI hj (by omega) hbt qlk) (cwV 0 hts gX12_read_X12_goBehind rfl rfl rfl (by decide +kernel) ⟨Nat.le_of_ble_eq_true rfl, Nat.le_of_ble_eq_true rfl⟩) rfl hl.1 rfl (Nat.le_of_ble_eq_true rfl) dX12_read_55 ⟨Nat.zero_le _, Nat.zero_le _⟩) hw hA hS (fun G6 H locs hp hw hS => ?_)
      obtain ⟨iv6, hx6, hM, hfr6⟩ := hp
      have hfr := fr_tr hfr hfr6 (Nat.le_refl _) (Nat.le_refl _)
      obtain ⟨rlk, r0, r1, r3, r4, r5, r6⟩ := gb_step (x := rdX by0 (iv 0) (zeroR an 128) 0) (q := 1) hx6 q0 q1 q5 q6
      have hok0 : rdOK by0 (iv 0) (zeroR an 128) 0 := ⟨hkw, hc0.2, hnum0, by rw [hst0]; omega⟩
      have r1 : iv6 1 = rdX by0 (iv 0) (zeroR an 128) 1 := by rw [r1, rdX_1, hst0]; rfl
      refine lv_aload_n hx hb dX12_read_58 rfl (lv_at hl 0 rfl) ?_
      refine nr_get (own := RX12) (C := RX12) (T := TX12) (N := 19) (v := .ref (ad Γ (mo + 11))) hx hb hts hi_X12_read_X12 hown hw (by omega) (isM_0 hM) rfl 17 (by decide) wl_X12_read_3 rfl rfl dX12_read_59 ?_
      refine nr_goV (nr_runS (As := [.ref (ad Γ (mo + 11))]) ⟨hx, hb, hml, hown, hts⟩ hw (c_X12_begin l Γ n G6 (mo + 11) 128 an (isM_11 hM) (by omega) (by omega) (by omega) hAi hj (by decide)) (va_cwS 1 hts gX12_read_X12_begin rfl rfl rfl (by decide +kernel) ⟨Nat.le_of_ble_eq_true rfl, Nat.le_of_ble_eq_true rfl⟩) rfl hl.1 rfl (Nat.le_of_ble_eq_true rfl) dX12_read_62 ⟨Nat.zero_le _, Nat.zero_le _⟩) hw hA hS (fun G7 H locs hp hw hS => ?_)
      subst hp
      have hM := isM_s11 hM (zeroR an 128)
      have hfr := fr_up hfr (i := mo + 11) (by omega) (by omega) (na Γ 128 (zeroR an 128))
      generalize va_up G6 (mo + 11) (na Γ 128 (zeroR an 128)) = G8 at hw hM hfr
      refine lv_iconst (v := nI 1) hx hb dX12_read_65 (by decide) ?_
      refine lv_istore_n (lv' := [(1, .int (nI 1)), (0, .ref (ad Γ (mo + 0)))]) hx hb dX12_read_66 rfl hl (by decide) rfl (fun ls hl => ?_)
      refine nr_lpI (σ := (Nat → va_E) × Nat × (Nat → Nat) × (Nat → Nat) × (Nat → Nat)) 67 (fun x => x.1) (fun x lv => lv = [(0, .ref (ad Γ (mo + 0))), (1, .int (nI x.2.1))] ∧ isM Γ x.1 mo R K kp rf ca rc hd fw tl by0 x.2.2.2.1 x.2.2.2.2 x.2.2.1 ∧ fr G x.1 mo (mo + 13) ∧ (0 < x.2.1) ∧ (∀ u, u < x.2.1 → rdOK by0 (iv 0) (zeroR an 128) u) ∧ (x.2.2.1 0 = iv 0) ∧ (x.2.2.1 1 = rdX by0 (iv 0) (zeroR an 128) x.2.1) ∧ (x.2.2.1 5 = iv 5) ∧ (x.2.2.1 6 = iv 6) ∧ (lkAt by0 (x.2.2.1 0) x.2.2.1) ∧ (x.2.2.2.1 = rdV by0 (iv 0) (zeroR an 128) x.2.1) ∧ (∀ j, x.2.2.2.2 j < 2000)) (fun x => 151 - x.2.1) (G8, 1, iv6, zeroR an 128, vl) hw hS (lv_sub hl [1, 0] rfl) ⟨rfl, hM, hfr, by (try dsimp only); omega, by (try dsimp only); exact (fun u hu => by rw [show u = 0 by omega]; exact hok0), by (try dsimp only); exact (r0), by (try dsimp only); exact (r1), by (try dsimp only); exact (r5), by (try dsimp only); exact (r6), by (try dsimp only); exact (rlk), by (try dsimp only); exact (anV1 hvw), by (try dsimp only); exact (hvl)⟩ ?_
      intro x lv ls H locs hw hS hl hI ih67
      obtain ⟨Gl67, k, ivL67, anL67, vlL67⟩ := x
      obtain ⟨rfl, hM, hfr, hk0, hok, i0, i1, i5, i6, ilk, han, hvl9⟩ := hI
      try dsimp only at hM hfr hk0 hok i0 i1 i5 i6 ilk han hvl9 hw hl ih67
      have hrx : rG (rdV by0 (iv 0) (zeroR an 128) k) := rdV_r hZ k hok
      have hrg : rG anL67 := by rw [han]; exact hrx
      have hf9 := lk_f ilk
      have i3 : ivL67 3 = tokK by0 (iv 0) (rdX by0 (iv 0) (zeroR an 128) k) := by rw [ilk.2.2.2.1, i0, i1]
      have hkb := rdS_b (T := by0) (L := iv 0) (V0 := (zeroR an 128)) k hok
      refine lv_aload_n hx hb dX12_read_67 rfl (lv_at hl 0 rfl) ?_
      refine nr_get (own := RX12) (C := RX12) (T := TX12) (N := 19) (v := .int (nI (ivL67 3))) hx hb hts hi_X12_read_X12 hown hw (by omega) (isM_0 hM) rfl 15 (by decide) wl_X12_read_2 rfl rfl dX12_read_68 ?_
      refine nr_if_eq (tgt := 107) hx hb (by omega) dX12_read_71 (by decide) (fun c9 => ?_) (fun c9 => ?_)
      · refine lv_iconst (v := nI 0) hx hb dX12_read_107 (by decide) ?_
        refine lv_istore_n (lv' := [(2, .int (nI 0)), (0, .ref (ad Γ (mo + 0))), (1, .int (nI k))]) hx hb dX12_read_108 rfl hl (by decide) rfl (fun ls hl => ?_)
        refine nr_lpI (σ := (Nat → va_E) × Nat × (Nat → Nat)) 109 (fun x => x.1) (fun x lv => lv = [(0, .ref (ad Γ (mo + 0))), (1, .int (nI k)), (2, .int (nI x.2.1))] ∧ isM Γ x.1 mo x.2.2 K kp rf ca rc hd fw tl by0 anL67 vlL67 ivL67 ∧ fr G x.1 mo (mo + 13) ∧ (x.2.1 ≤ 128) ∧ (x.2.2 = cpyR R anL67 x.2.1)) (fun x => 128 - x.2.1) (Gl67, 0, R) hw hS (lv_sub hl [1, 2, 0] rfl) ⟨rfl, hM, hfr, by (try dsimp only); omega, by (try dsimp only); exact (cpyR_0 R _)⟩ ?_
        intro x lv ls H locs hw hS hl hI ih109
        obtain ⟨Gl109, kc, RL109⟩ := x
        obtain ⟨rfl, hM, hfr, hkc, hR2⟩ := hI
        try dsimp only at hM hfr hkc hR2 hw hl ih109
        have hab := hrg.1.1.1 kc
        refine lv_iload_n hx hb dX12_read_109 rfl (lv_at hl 2 rfl) ?_
        refine lv_sipush (v := nI 128) hx hb dX12_read_110 (by decide) ?_
        refine nr_icmp_ge (tgt := 134) hx hb (by omega) (by decide) dX12_read_113 (by decide) (fun c10 => ?_) (fun c10 => ?_)
        · have hk9 : kc = 128 := by omega
          have hRc : RL109 = cpyR R (rdV by0 (iv 0) (zeroR an 128) k) 128 := by rw [hR2, hk9, han]
          refine lv_iload_n hx hb dX12_read_134 rfl (lv_at hl 1 rfl) ?_
          exact nr_retI hx hb hr hlocks hw hS (Or.inl ⟨k, ⟨hk0, hok, by rw [← i3]; omega⟩, rfl, _, _, ⟨i0, i5, i6, hvl9⟩, by rw [← hRc, ← han]; exact hM, hfr⟩) dX12_read_135
        · refine lv_aload_n hx hb dX12_read_116 rfl (lv_at hl 0 rfl) ?_
          refine nr_get (own := RX12) (C := RX12) (T := TX12) (N := 19) (v := .ref (ad Γ (mo + 1))) hx hb hts hi_X12_read_X12 hown hw (by omega) (isM_0 hM) rfl 0 (by decide) wl_X12_read_4 rfl rfl dX12_read_117 ?_
          refine lv_iload_n hx hb dX12_read_120 rfl (lv_at hl 2 rfl) ?_
          refine lv_aload_n hx hb dX12_read_121 rfl (lv_at hl 0 rfl) ?_
          refine nr_get (own := RX12) (C := RX12) (T := TX12) (N := 19) (v := .ref (ad Γ (mo + 11))) hx hb hts hi_X12_read_X12 hown hw (by omega) (isM_0 hM) rfl 17 (by decide) wl_X12_read_3 rfl rfl dX12_read_122 ?_
          refine lv_iload_n hx hb dX12_read_125 rfl (lv_at hl 2 rfl) ?_
          refine nr_iald (x := (anL67 kc)) hx hb hw (by omega) (isM_11 hM) rfl (by omega) (by decide) dX12_read_126 ?_
          refine nr_iast (k := kc) (v := anL67 kc) hx hb hw hj hA hS (by omega) (isM_1 hM) (by omega) (by decide) dX12_read_127 (fun H locs hw hS => ?_)
          have hM := isM_s1 hM (va_up RL109 kc (anL67 kc))
          have hfr := fr_up hfr (i := mo + 1) (by omega) (by omega) (na Γ 256 (va_up RL109 kc (anL67 kc)))
          generalize va_up Gl109 (mo + 1) (na Γ 256 (va_up RL109 kc (anL67 kc))) = G11 at hw hM hfr
          refine nr_inc (d := 1) (k := 2) (lv' := [(2, .int (nI (kc + 1))), (0, .ref (ad Γ (mo + 0))), (1, .int (nI k))]) hx hb dX12_read_128 hl rfl (by decide) (by decide) rfl (fun ls hl => ?_)
          refine lv_goto (tgt := 109) hx hb dX12_read_131 (by decide) ?_
          exact ih109 (G11, kc + 1, va_up RL109 kc (anL67 kc)) _ _ _ _ hw hS (lv_sub hl [1, 2, 0] rfl) ⟨rfl, hM, hfr, by (try dsimp only); omega, by (try dsimp only); rw [hR2]; exact cpyR_s R anL67 kc⟩ (by (try dsimp only); omega)
      · refine lv_aload_n hx hb dX12_read_74 rfl (lv_at hl 0 rfl) ?_
        refine nr_goI (nr_runV (As := []) (C := RX12) (T := TX12) (N := 19) ⟨hx, hb, hml, hown, hts⟩ hw (by omega) (isM_0 hM) rfl (c_X12_givesItem l Γ n Gl67 mo R K kp rf ca rc hd fw tl by0 anL67 vlL67 ivL67 hM (by omega) hI hj (by omega) hbt ilk hrg hvl9 k hk0) (cwV 0 hts gX12_read_X12_givesItem rfl rfl rfl (by decide +kernel) ⟨Nat.le_of_ble_eq_true rfl, Nat.le_of_ble_eq_true rfl⟩) rfl hl.1 rfl (Nat.le_of_ble_eq_true rfl) dX12_read_75 ⟨Nat.zero_le _, Nat.zero_le _⟩) hw hA hS (fun z12 G12 H locs hp hw hS => ?_)
        rcases hp with ⟨hc12_0, hc12_1, ha12, iv12, vl12, hx12, hM, hf12⟩ | ⟨ha12, iv12, vl12, hx12, hM, hf12⟩
        · have hfr := fr_tr hfr hf12 (Nat.le_refl _) (Nat.le_refl _)
          subst ha12
          have ha12 := hc12_0
          obtain ⟨sl0, s1, s5, s6, hvl8⟩ := hx12
          have s0 := sl0.1
          have y0 : iv12 0 = iv 0 := by omega
          have slk : lkAt by0 (iv12 0) iv12 := by rw [s0]; exact sl0
          have y5 : iv12 5 = iv 5 := by omega
          have y6 : iv12 6 = iv 6 := by omega
          have hcI := hc12_0
          have hnI := hc12_1
          rw [han, i0, i1] at hcI hnI
          have hsx : iv12 1 = stopX by0 (iv 0) (rdX by0 (iv 0) (zeroR an 128) k) := by rw [s1, i0, i1]
          have s3 : iv12 3 = tokK by0 (iv 0) (stopX by0 (iv 0) (rdX by0 (iv 0) (zeroR an 128) k)) := by rw [sl0.2.2.2.1, i0, hsx]
          have hfs := lk_f slk
          have hAn9 : aI (itV by0 (ivL67 0) anL67 (ivL67 1)) := by rw [han, i0, i1]; exact vI_a (itV_g3 hrx.1 hcI hnI).1
          refine nr_if_eq (tgt := 89) hx hb (by decide) dX12_read_78 (by decide) (fun c13 => absurd c13 (by decide)) (fun c13 => ?_)
          refine lv_aload_n hx hb dX12_read_81 rfl (lv_at hl 0 rfl) ?_
          refine nr_get (own := RX12) (C := RX12) (T := TX12) (N := 19) (v := .int (nI (iv12 3))) hx hb hts hi_X12_read_X12 hown hw (by omega) (isM_0 hM) rfl 15 (by decide) wl_X12_read_2 rfl rfl dX12_read_82 ?_
          refine lv_iconst (v := nI 3) hx hb dX12_read_85 (by decide) ?_
          refine nr_icmp_eq (tgt := 97) hx hb (by omega) (by decide) dX12_read_86 (by decide) (fun c14 => ?_) (fun c14 => ?_)
          · refine lv_aload_n hx hb dX12_read_97 rfl (lv_at hl 0 rfl) ?_
            refine nr_goV (nr_runV (As := []) (C := RX12) (T := TX12) (N := 19) ⟨hx, hb, hml, hown, hts⟩ hw (by omega) (isM_0 hM) rfl (c_X12_goBehind l Γ n G12 mo R K kp rf ca rc hd fw tl by0 (itV by0 (ivL67 0) anL67 (ivL67 1)) vl12 iv12 hM (by omega) hI hj (by omega) hbt slk) (cwV 0 hts gX12_read_X12_goBehind rfl rfl rfl (by decide +kernel) ⟨Nat.le_of_ble_eq_true rfl, Nat.le_of_ble_eq_true rfl⟩) rfl hl.1 rfl (Nat.le_of_ble_eq_true rfl) dX12_read_98 ⟨Nat.zero_le _, Nat.zero_le _⟩) hw hA hS (fun G15 H locs hp hw hS => ?_)
            obtain ⟨iv15, hx15, hM, hfr15⟩ := hp
            have hfr := fr_tr hfr hfr15 (Nat.le_refl _) (Nat.le_refl _)
            obtain ⟨tlk, t0, t1, t3, t4, t5, t6⟩ := gb_step (x := stopX by0 (iv 0) (rdX by0 (iv 0) (zeroR an 128) k)) (q := 0) hx15 y0 hsx y5 y6
            have hokk : rdOK by0 (iv 0) (zeroR an 128) k := ⟨hcI.1, hcI.2, hnI, by omega⟩
            have hok1 := lt_sP hok hokk
            refine nr_inc (d := 1) (k := 1) (lv' := [(1, .int (nI (k + 1))), (0, .ref (ad Γ (mo + 0)))]) hx hb dX12_read_101 hl rfl (by decide) (by decide) rfl (fun ls hl => ?_)
            refine lv_goto (tgt := 67) hx hb dX12_read_104 (by decide) ?_
            exact ih67 (G15, k + 1, iv15, itV by0 (ivL67 0) anL67 (ivL67 1), vl12) _ _ _ _ hw hS (lv_sub hl [1, 0] rfl) ⟨rfl, hM, hfr, by (try dsimp only); omega, by (try dsimp only); exact (hok1), by (try dsimp only); exact (t0), by (try dsimp only); rw [t1]; rfl, by (try dsimp only); exact (t5), by (try dsimp only); exact (t6), by (try dsimp only); exact (tlk), by (try dsimp only); rw [han, i0, i1]; rfl, by (try dsimp only); exact (hvl8)⟩ (by (try dsimp only); omega)
          · refine lv_bipush (v := (-10)) hx hb dX12_read_89 (by decide) ?_
            refine lv_aload_n hx hb dX12_read_91 rfl (lv_at hl 0 rfl) ?_
            refine nr_get (own := RX12) (C := RX12) (T := TX12) (N := 19) (v := .int (nI (iv12 1))) hx hb hts hi_X12_read_X12 hown hw (by omega) (isM_0 hM) rfl 13 (by decide) wl_X12_read_1 rfl rfl dX12_read_92 ?_
            refine lv_isub hx hb dX12_read_95 ?_
            exact nr_retI hx hb hr hlocks hw hS (Or.inr ⟨_, ⟨k, hok, fun z => absurd z.2 (by rw [← i3]; omega), Or.inr (Or.inr ⟨hcI, hnI, fun z => absurd z (by rw [← s3]; omega), rfl⟩)⟩, (by rw [hsx]; exact m10 _), _, _, _, ⟨y0, y5, y6, hvl8, hAn9⟩, hM, hfr⟩) dX12_read_96
        · have hfr := fr_tr hfr hf12 (Nat.le_refl _) (Nat.le_refl _)
          subst ha12
          obtain ⟨sl0, sb, s5, s6, hvl8⟩ := hx12
          have s0 := sl0.1
          have y0 : iv12 0 = iv 0 := by omega
          have y5 : iv12 5 = iv 5 := by omega
          have y6 : iv12 6 = iv 6 := by omega
          rw [han, i0, i1] at sb
          have hfs := lk_f (show lkAt by0 (iv12 0) iv12 by rw [s0]; exact sl0)
          have hAn9 := vI_a hrg.1.1
          have hib : itBad by0 (iv 0) (rdV by0 (iv 0) (zeroR an 128) k 0) (rdV by0 (iv 0) (zeroR an 128) k 1) (cn (rdV by0 (iv 0) (zeroR an 128) k)) (rdX by0 (iv 0) (zeroR an 128) k) k (iv12 1) := sb.elim (fun z => Or.inl ⟨z.1, z.2⟩) (fun z => Or.inr (Or.inl ⟨z.1, z.2⟩))
          refine nr_if_eq (tgt := 89) hx hb (by decide) dX12_read_78 (by decide) (fun c16 => ?_) (fun c16 => absurd c16 (by decide))
          refine lv_bipush (v := (-10)) hx hb dX12_read_89 (by decide) ?_
          refine lv_aload_n hx hb dX12_read_91 rfl (lv_at hl 0 rfl) ?_
          refine nr_get (own := RX12) (C := RX12) (T := TX12) (N := 19) (v := .int (nI (iv12 1))) hx hb hts hi_X12_read_X12 hown hw (by omega) (isM_0 hM) rfl 13 (by decide) wl_X12_read_1 rfl rfl dX12_read_92 ?_
          refine lv_isub hx hb dX12_read_95 ?_
          exact nr_retI hx hb hr hlocks hw hS (Or.inr ⟨_, ⟨k, hok, fun z => absurd z.2 (by rw [← i3]; omega), hib⟩, m10 _, _, _, _, ⟨y0, y5, y6, hvl8, hAn9⟩, hM, hfr⟩) dX12_read_96
    · refine lv_bipush (v := (-10)) hx hb dX12_read_46 (by decide) ?_
      refine lv_aload_n hx hb dX12_read_48 rfl (lv_at hl 0 rfl) ?_
      refine nr_get (own := RX12) (C := RX12) (T := TX12) (N := 19) (v := .int (nI (iv4 1))) hx hb hts hi_X12_read_X12 hown hw (by omega) (isM_0 hM) rfl 13 (by decide) wl_X12_read_1 rfl rfl dX12_read_49 ?_
      refine lv_isub hx hb dX12_read_52 ?_
      exact nr_retI hx hb hr hlocks hw hS (Or.inr ⟨_, ⟨0, fun u hu => absurd hu (Nat.not_lt_zero u), fun z => absurd z.1 (Nat.lt_irrefl _), Or.inr (Or.inr ⟨hc0, hnum0, fun z => absurd z (by rw [hst0, ← q3]; omega), rfl⟩)⟩, (by rw [q1, ← hst0]; exact m10 _), _, _, _, ⟨q0, q5, q6, hvl, hAi⟩, hM, hfr⟩) dX12_read_53
  · have hb0 : ¬ (tokK by0 (iv 0) (rdX by0 (iv 0) (zeroR an 128) 0) = 1 ∧ cstP (rdV by0 (iv 0) (zeroR an 128) 0 0) (rdV by0 (iv 0) (zeroR an 128) 0 1) (vlK by0 (iv 0) (rdX by0 (iv 0) (zeroR an 128) 0)) 0) := by rw [← p1]; exact spl_0 pl0 (fun z => b2 ((spl_i (i := 0) (by decide) (by decide)).mpr z))
    refine nr_if_ne (tgt := 34) hx hb (by decide) dX12_read_23 (by decide) (fun c17 => absurd c17 (by decide)) (fun c17 => ?_)
    refine lv_bipush (v := (-10)) hx hb dX12_read_26 (by decide) ?_
    refine lv_aload_n hx hb dX12_read_28 rfl (lv_at hl 0 rfl) ?_
    refine nr_get (own := RX12) (C := RX12) (T := TX12) (N := 19) (v := .int (nI (iv1 1))) hx hb hts hi_X12_read_X12 hown hw (by omega) (isM_0 hM) rfl 13 (by decide) wl_X12_read_1 rfl rfl dX12_read_29 ?_
    refine lv_isub hx hb dX12_read_32 ?_
    exact nr_retI hx hb hr hlocks hw hS (Or.inr ⟨_, ⟨0, fun u hu => absurd hu (Nat.not_lt_zero u), fun z => absurd z.1 (Nat.lt_irrefl _), Or.inl ⟨hb0, rfl⟩⟩, (by rw [p1]; exact m10 _), _, _, _, ⟨p0, p5, p6, hvl, hAi⟩, hM, hfr⟩) dX12_read_33
