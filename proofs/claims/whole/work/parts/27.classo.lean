section SO
theorem stp_x0 {T tv tv2 : Nat → Nat} {L a : Nat} (h : stpR T tv tv2) (h0 : tv 0 = L) (h1 : tv 1 = a) : tv2 0 = L ∧ tv2 2 = tokS T L a ∧ tv2 1 = tokE T L (tokS T L a) ∧ tv2 3 = tokK T L (tokS T L a) ∧ tv2 4 = vlK T L (tokS T L a) := by
  obtain ⟨a1, b, c, d, e⟩ := h
  rw [h1] at b c d e
  rw [h0] at a1 b c d e
  exact ⟨a1, b, c, d, e⟩
theorem vlK_word {T : Nat → Nat} {L x : Nat} (h : tokK T L x = 1) : vlK T L x ≤ 5 := by
  rcases Nat.lt_or_ge x L with q | q
  · by_cases z : isSm (T x)
    · rw [(tk_let q z).2.2]
      have := wdF_le (T := T) (x := x) (e := runL (smP T) L x) (v0 := 0) 5
      omega
    · by_cases y : isFg (T x)
      · rw [(tk_fig q z y).2.1] at h; split at h <;> omega
      · rw [(tk_oth q z y).2.1] at h; split at h <;> omega
  · rw [(tk_end q).2.1] at h; omega
theorem cst_1 {P W w its : Nat} (h : cstP P W w its) : 1 ≤ w ∧ w ≤ 5 := by unfold cstP at h; omega
end SO
theorem wl_X5_items_1 : Cond.fieldLink RX5 12 "BellForgiven$Reader" "draft" "LBellForgiven$Valley;" ∈ wsX5_items := List.mem_of_getElem? (i := 1) rfl
theorem wl_X5_items_2 : Cond.fieldLink RX5 33 "BellForgiven$Text" "token" "I" ∈ wsX5_items := List.mem_of_getElem? (i := 2) rfl
theorem wl_X5_items_3 : Cond.fieldLink RX5 37 "BellForgiven$Text" "value" "I" ∈ wsX5_items := List.mem_of_getElem? (i := 3) rfl
theorem hi_X5_items_X5 : ∀ w ∈ u_ws RX5 TX5 2, w ∈ wsX5_items := fun w h => (List.mem_cons_of_mem _ (List.mem_append_left _ (List.mem_append_left _ (List.mem_append_left _ (List.mem_append_left _ (List.mem_append_right _ h))))))
theorem hi_X5_items_X9 : ∀ w ∈ u_ws RX9 TX9 6, w ∈ wsX5_items := fun w h => (List.mem_cons_of_mem _ (List.mem_append_left _ (List.mem_append_left _ (List.mem_append_left _ (List.mem_append_right _ h)))))
set_option maxHeartbeats 4000000 in
set_option maxRecDepth 100000 in
theorem c_X5_items (l : Launch) (Γ : Gam) (n : Nat) (G : Nat → va_E) (to : Nat) (by0 tv gv V : Nat → Nat) (hT : isT Γ G to by0 tv) (hRd : isRd Γ G (to + 2) gv) (hV : isV Γ G (to + 4) V) (hn_to : to + 20 ≤ n) (hj : winj Γ n) (hbt : ∀ j, by0 j ≤ 127) (hL : tv 0 ≤ 150) (hI : vI V) (hgv : ∀ j, gv j < 2000) (ak av : Nat → Nat) (fr0 : Option Nat)  : Met l yX5_items wsX5_items ({ frames := 8, cells := 0, slots := 0, locals := 172 }) (va_Pc [.ref (ad Γ (to + 2)), .ref (ad Γ (to + 0))] (fun U => hw Γ n G U U.heap ∧ kSt (wA Γ n) ak av fr0 U U.heap)) (wQi Γ n (fun z G2 => (∃ k : Nat, (rdGood by0 (tv 0) (emV V) k) ∧ (z = nI k) ∧ ∃ tv2 : Nat → Nat, ∃ gv2 : Nat → Nat, (tv2 0 = tv 0 ∧ tv2 2 ≤ tv 0 ∧ ∀ j, gv2 j < 2000) ∧ isT Γ G2 to by0 tv2 ∧ isRd Γ G2 (to + 2) gv2 ∧ isV Γ G2 (to + 4) (rdV by0 (tv 0) (emV V) k) ∧ fr G G2 (to + 0) (to + 20)) ∨ (∃ p : Nat, (rdBad by0 (tv 0) (emV V) p) ∧ (z = -1) ∧ ∃ tv2 : Nat → Nat, ∃ gv2 : Nat → Nat, ∃ V2 : Nat → Nat, (tv2 2 = p ∧ tv2 0 = tv 0 ∧ p ≤ tv 0 ∧ (∀ j, gv2 j < 2000) ∧ vI V2) ∧ isT Γ G2 to by0 tv2 ∧ isRd Γ G2 (to + 2) gv2 ∧ isV Γ G2 (to + 4) V2 ∧ fr G G2 (to + 0) (to + 20)))) 0 0 (wA Γ n) := by
  refine Met.ofW (cc := cX5_items) (maxL := 4) (ret := (some .int)) (by decide) rfl ?_
  intro p e s m args below meth c s₁ B hml hv
  obtain ⟨rfl, hw, hE⟩ := hv
  have hx := B.exec
  have hb := B.bytes
  have hr := B.returns
  have hts := atoms_spec (ws := wsX5_items) B.pre
  have hown : s.vm.findClass RX5 = some m.cls := findClass_of_methodNamed B.named
  have hlocks := B.notSynchronized
  have hS : va_S (wA Γ n) s.heap s.heap [] := va_S.rf
  have hA : ∀ q, wA Γ n q → wA Γ n q := fun _ h => h
  have hl := lv_entry ([.ref (ad Γ (to + 2)), .ref (ad Γ (to + 0))]) (n := 4) (Nat.le_of_ble_eq_true rfl)
  rw [lg_entry_eq]
  generalize (lg_sl ([.ref (ad Γ (to + 2)), .ref (ad Γ (to + 0))]) ++ List.replicate (4 - (lg_sl ([.ref (ad Γ (to + 2)), .ref (ad Γ (to + 0))])).length) Slot.unset).toArray = ls at hl ⊢
  have hl : lv_has ls 4 [(0, .ref (ad Γ (to + 2))), (1, .ref (ad Γ (to + 0)))] := hl
  have hfr := fr_rf G (to + 0) (to + 20)
  have hB := hI.1
  have hB0 := hI.2.1
  have hB1 := hI.2.2.1
  have hB20 := hI.2.2.2.2.2.2.2.2.2
  have hBz2 := hI.2.2.2.1
  have hBz3 := hI.2.2.2.2.1
  have hBz4 := hI.2.2.2.2.2.1
  have hBz5 := hI.2.2.2.2.2.2.1
  have hBd := hB 21
  have hG0 := vG_em hI
  refine lv_aload_n hx hb dX5_items_0 rfl (lv_at hl 0 rfl) ?_
  refine nr_get (own := RX5) (C := RX5) (T := TX5) (N := 2) (v := .ref (ad Γ (to + 4))) hx hb hts hi_X5_items_X5 hown hw (by omega) (isRd_0 hRd) rfl 0 (by decide) wl_X5_items_1 rfl rfl dX5_items_1 ?_
  refine nr_goV (nr_runV (As := []) (C := RX10) (T := TX10) (N := 15) ⟨hx, hb, hml, hown, hts⟩ hw (by omega) (isV_0 hV) rfl (c_X10_empty l Γ n G (to + 4) V hV (by omega) hj (by first | assumption | omega)) (cwV 0 hts gX5_items_X10_empty rfl rfl rfl (by decide +kernel) ⟨Nat.le_of_ble_eq_true rfl, Nat.le_of_ble_eq_true rfl⟩) rfl hl.1 rfl (Nat.le_of_ble_eq_true rfl) dX5_items_4 ⟨Nat.zero_le _, Nat.zero_le _⟩) hw hA hS (fun G1 H locs hp hw hS => ?_)
  obtain ⟨hV, hf1⟩ := hp
  have hT := isT_fr hT hf1 (by omega)
  have hRd := isRd_fr hRd hf1 (by omega)
  have hfr := fr_tr hfr hf1 (by omega) (by omega)
  have hV : isV Γ G1 (to + 4) (emV V) := hV
  refine lv_aload_n hx hb dX5_items_7 rfl (lv_at hl 1 rfl) ?_
  refine nr_goV (nr_runV (As := []) (C := RX9) (T := TX9) (N := 6) ⟨hx, hb, hml, hown, hts⟩ hw (by omega) (isT_0 hT) rfl (c_X9_rewind l Γ n G1 to by0 tv hT (by omega) hj) (cwV 0 hts gX5_items_X9_rewind rfl rfl rfl (by decide +kernel) ⟨Nat.le_of_ble_eq_true rfl, Nat.le_of_ble_eq_true rfl⟩) rfl hl.1 rfl (Nat.le_of_ble_eq_true rfl) dX5_items_8 ⟨Nat.zero_le _, Nat.zero_le _⟩) hw hA hS (fun G2 H locs hp hw hS => ?_)
  obtain ⟨hT, hf2⟩ := hp
  have hRd := isRd_fr hRd hf2 (by omega)
  have hV := isV_fr hV hf2 (by omega)
  have hfr := fr_tr hfr hf2 (by omega) (by omega)
  have hT : isT Γ G2 to by0 (va_up tv 1 0) := hT
  refine lv_iconst (v := nI 0) hx hb dX5_items_11 (by decide) ?_
  refine lv_istore_n (lv' := [(2, .int (nI 0)), (0, .ref (ad Γ (to + 2))), (1, .ref (ad Γ (to + 0)))]) hx hb dX5_items_12 rfl hl (by decide) rfl (fun ls hl => ?_)
  refine nr_lpI (σ := (Nat → va_E) × Nat × (Nat → Nat) × (Nat → Nat) × (Nat → Nat)) 13 (fun x => x.1) (fun x lv => lv = [(0, .ref (ad Γ (to + 2))), (1, .ref (ad Γ (to + 0))), (2, .int (nI x.2.1))] ∧ isT Γ x.1 to by0 x.2.2.1 ∧ isRd Γ x.1 (to + 2) x.2.2.2.1 ∧ isV Γ x.1 (to + 4) x.2.2.2.2 ∧ fr G x.1 (to + 0) (to + 20) ∧ (x.2.1 ≤ 150) ∧ (x.2.2.1 0 = tv 0) ∧ (x.2.2.1 1 = (rdS by0 (tv 0) (emV V) x.2.1).1) ∧ (x.2.2.2.2 = rdV by0 (tv 0) (emV V) x.2.1) ∧ (∀ u, u < x.2.1 → rdOK by0 (tv 0) (emV V) u) ∧ (∀ j, x.2.2.2.1 j < 2000)) (fun x => 151 - x.2.1) (G2, 0, (va_up tv 1 0), gv, (emV V)) hw hS (lv_sub hl [1, 2, 0] rfl) ⟨rfl, hT, hRd, hV, hfr, by (try dsimp only); omega, by (try dsimp only); simp [va_up], by (try dsimp only); simp [va_up, rdS], rfl, by (try dsimp only); exact (fun u hu => absurd hu (Nat.not_lt_zero u)), by (try dsimp only); exact (hgv)⟩ ?_
  intro x lv ls H locs hw hS hl hI ih13
  obtain ⟨Gl13, it, tvL13, gvL13, VL13⟩ := x
  obtain ⟨rfl, hT, hRd, hV, hfr, hit, h0, h1, hVL, hok, hgv2⟩ := hI
  try dsimp only at hT hRd hV hfr hit h0 h1 hVL hok hgv2 hw hl ih13
  have hrb := rdS_b it hok
  have hGL : vG VL13 := by rw [hVL]; exact rdV_good hG0 it hok
  have hIL : vI VL13 := hGL.1
  have hIx := hIL
  have hk9 := tokK_le by0 (tv 0) (rdX by0 (tv 0) (emV V) it)
  have hv9 := vlK_le by0 (tv 0) (rdX by0 (tv 0) (emV V) it)
  refine lv_iload_n hx hb dX5_items_13 rfl (lv_at hl 2 rfl) ?_
  refine lv_sipush (v := nI 150) hx hb dX5_items_14 (by decide) ?_
  refine nr_icmp_gt (tgt := 99) hx hb (by omega) (by decide) dX5_items_17 (by decide) (fun c3 => ?_) (fun c3 => ?_)
  · exfalso; omega
  · refine lv_aload_n hx hb dX5_items_20 rfl (lv_at hl 1 rfl) ?_
    refine nr_goV (nk_runV (As := []) (C := RX9) (T := TX9) (N := 6) ⟨hx, hb, hml, hown, hts⟩ hw hE hS (by omega) (isT_0 hT) rfl (c_X9_step l Γ n Gl13 to by0 tvL13 hT (by omega) hj hbt (by omega) (by omega) ak av fr0) (cwV 0 hts gX5_items_X9_step rfl rfl rfl (by decide +kernel) ⟨Nat.le_of_ble_eq_true rfl, Nat.le_of_ble_eq_true rfl⟩) rfl hl.1 rfl (Nat.le_of_ble_eq_true rfl) dX5_items_21 ⟨Nat.zero_le _, Nat.zero_le _⟩) hw hA hS (fun G4 H locs hp hw hS => ?_)
    obtain ⟨tv4, hx4, hT, hf4⟩ := hp
    have hRd := isRd_fr hRd hf4 (by omega)
    have hV := isV_fr hV hf4 (by omega)
    have hfr := fr_tr hfr hf4 (by omega) (by omega)
    have hT : isT Γ G4 to by0 tv4 := hT
    obtain ⟨hs0, hs2, hs1, hs3, hs4⟩ := stp_x0 hx4 h0 h1
    have hs2 : tv4 2 = rdX by0 (tv 0) (emV V) it := hs2
    have hs1 : tv4 1 = tokE by0 (tv 0) (rdX by0 (tv 0) (emV V) it) := hs1
    have hs3 : tv4 3 = tokK by0 (tv 0) (rdX by0 (tv 0) (emV V) it) := hs3
    have hs4 : tv4 4 = vlK by0 (tv 0) (rdX by0 (tv 0) (emV V) it) := hs4
    have hs0x := hs0
    have hgx := hgv2
    have hplx : rdX by0 (tv 0) (emV V) it ≤ tv 0 := hrb.2.2
    have heb := tokE_b (T := by0) hrb.2.2
    refine lv_aload_n hx hb dX5_items_24 rfl (lv_at hl 1 rfl) ?_
    refine nr_get (own := RX5) (C := RX9) (T := TX9) (N := 6) (v := .int (nI (tv4 3))) hx hb hts hi_X5_items_X9 hown hw (by omega) (isT_0 hT) rfl 4 (by decide) wl_X5_items_2 rfl rfl dX5_items_25 ?_
    refine nr_if_ne (tgt := 41) hx hb (by omega) dX5_items_28 (by decide) (fun c5 => ?_) (fun c5 => ?_)
    · refine lv_aload_n hx hb dX5_items_41 rfl (lv_at hl 1 rfl) ?_
      refine nr_get (own := RX5) (C := RX9) (T := TX9) (N := 6) (v := .int (nI (tv4 4) - nI 1)) hx hb hts hi_X5_items_X9 hown hw (by omega) (isT_0 hT) rfl 5 (by decide) wl_X5_items_3 rfl rfl dX5_items_42 ?_
      refine lv_istore_n (lv' := [(3, .int (nI (tv4 4) - nI 1)), (0, .ref (ad Γ (to + 2))), (1, .ref (ad Γ (to + 0))), (2, .int (nI it))]) hx hb dX5_items_45 rfl hl (by decide) rfl (fun ls hl => ?_)
      refine lv_aload_n hx hb dX5_items_46 rfl (lv_at hl 2 rfl) ?_
      refine nr_get (own := RX5) (C := RX9) (T := TX9) (N := 6) (v := .int (nI (tv4 3))) hx hb hts hi_X5_items_X9 hown hw (by omega) (isT_0 hT) rfl 4 (by decide) wl_X5_items_2 rfl rfl dX5_items_47 ?_
      refine lv_iconst (v := nI 1) hx hb dX5_items_50 (by decide) ?_
      refine nr_icmp_ne (tgt := 72) hx hb (by omega) (by decide) dX5_items_51 (by decide) (fun c6 => ?_) (fun c6 => ?_)
      · refine lv_iconst (v := (-1)) hx hb dX5_items_72 (by decide) ?_
        exact nr_retI hx hb hr hlocks hw hS (Or.inr ⟨_, ⟨it, hok, fun z => absurd z.2 (show ¬ tokK by0 (tv 0) (rdX by0 (tv 0) (emV V) it) = 0 from by omega), Or.inl ⟨fun z => absurd z.1 (by rw [← hs3]; omega), rfl⟩⟩, rfl, _, _, _, ⟨hs2, hs0x, hplx, hgx, hIx⟩, hT, hRd, hV, hfr⟩) dX5_items_73
      · have hk1 : tokK by0 (tv 0) (rdX by0 (tv 0) (emV V) it) = 1 := by omega
        refine lv_aload_n hx hb dX5_items_54 rfl (lv_at hl 1 rfl) ?_
        refine lv_iload_n hx hb dX5_items_55 rfl (lv_at hl 0 rfl) ?_
        refine lv_iload_n hx hb dX5_items_56 rfl (lv_at hl 3 rfl) ?_
        refine nr_goB (P := cstP (VL13 0) (VL13 1) (tv4 4) it) (nr_runV (As := [.int (nI (tv4 4) - nI 1), .int (nI it)]) (C := RX5) (T := TX5) (N := 2) ⟨hx, hb, hml, hown, hts⟩ hw (by omega) (isRd_0 hRd) rfl (c_X5_canStand l Γ n G4 to gvL13 VL13 hRd hV (by omega) (tv4 4) it (by rw [hs4]; exact vlK_word hk1) (by omega) hIL) (cwV 2 hts gX5_items_X5_canStand rfl rfl rfl (by decide +kernel) ⟨Nat.le_of_ble_eq_true rfl, Nat.le_of_ble_eq_true rfl⟩) rfl hl.1 rfl (Nat.le_of_ble_eq_true rfl) dX5_items_57 ⟨Nat.zero_le _, Nat.zero_le _⟩) (fun b7 => ?_) (fun b7 => ?_)
        · have hcst : cstP (rdV by0 (tv 0) (emV V) it 0) (rdV by0 (tv 0) (emV V) it 1) (vlK by0 (tv 0) (rdX by0 (tv 0) (emV V) it)) it := by rw [← hs4, ← hVL]; exact b7
          have hw15 := cst_1 hcst
          refine nr_if_eq (tgt := 72) hx hb (by decide) dX5_items_60 (by decide) (fun c8 => absurd c8 (by decide)) (fun c8 => ?_)
          rw [show nI (tv4 4) - nI 1 = nI (vlK by0 (tv 0) (rdX by0 (tv 0) (emV V) it) - 1) from (by rw [hs4]; exact pk_sub hw15.1)] at hl
          refine lv_aload_n hx hb dX5_items_63 rfl (lv_at hl 1 rfl) ?_
          refine lv_aload_n hx hb dX5_items_64 rfl (lv_at hl 2 rfl) ?_
          refine lv_iload_n hx hb dX5_items_65 rfl (lv_at hl 0 rfl) ?_
          refine nr_goI (nk_runV (As := [.ref (ad Γ (to + 0)), .int (nI (vlK by0 (tv 0) (rdX by0 (tv 0) (emV V) it) - 1))]) (C := RX5) (T := TX5) (N := 2) ⟨hx, hb, hml, hown, hts⟩ hw hE hS (by omega) (isRd_0 hRd) rfl (c_X5_readsNumbers l Γ n G4 to by0 tv4 gvL13 VL13 hT hRd hV (by omega) hj (vlK by0 (tv 0) (rdX by0 (tv 0) (emV V) it) - 1) hbt (by omega) hIL hgv2 (rdX by0 (tv 0) (emV V) it) (by omega) (by rw [hs1, hs0]) (by have := cst_1 hcst; omega) ak av fr0) (cwV 2 hts gX5_items_X5_readsNumbers rfl rfl rfl (by decide +kernel) ⟨Nat.le_of_ble_eq_true rfl, Nat.le_of_ble_eq_true rfl⟩) rfl hl.1 rfl (Nat.le_of_ble_eq_true rfl) dX5_items_66 ⟨Nat.zero_le _, Nat.zero_le _⟩) hw hA hS (fun z9 G9 H locs hp hw hS => ?_)
          rcases hp with ⟨hc9, ha9, tv9, gv9, hx9, hT, hRd, hf9⟩ | ⟨ha9, tv9, gv9, hx9, hT, hRd, hf9⟩
          · have hV := isV_fr hV hf9 (by omega)
            have hfr := fr_tr hfr hf9 (by omega) (by omega)
            subst ha9
            rw [hs0] at hx9 hc9
            rw [hVL] at hc9
            obtain ⟨ht0, ht1, hgq, hg2⟩ := hx9
            have heb2 := tokE_b (T := by0) (xq_b (T := by0) hrb.2.2 (nmF (vlK by0 (tv 0) (rdX by0 (tv 0) (emV V) it) - 1))).2
            have hnum : ∀ q, q < nmF (vlK by0 (tv 0) (rdX by0 (tv 0) (emV V) it) - 1) → okQ by0 (tv 0) (rdV by0 (tv 0) (emV V) it 0) (rdV by0 (tv 0) (emV V) it 1) (cn (rdV by0 (tv 0) (emV V) it)) (vlK by0 (tv 0) (rdX by0 (tv 0) (emV V) it) - 1) (rdX by0 (tv 0) (emV V) it) q := hc9
            refine nr_if_ne (tgt := 74) hx hb (by decide) dX5_items_69 (by decide) (fun c10 => ?_) (fun c10 => absurd c10 (by decide))
            refine lv_aload_n hx hb dX5_items_74 rfl (lv_at hl 2 rfl) ?_
            refine nr_goV (nk_runV (As := []) (C := RX9) (T := TX9) (N := 6) ⟨hx, hb, hml, hown, hts⟩ hw hE hS (by omega) (isT_0 hT) rfl (c_X9_step l Γ n G9 to by0 tv9 hT (by omega) hj hbt (by omega) (by omega) ak av fr0) (cwV 0 hts gX5_items_X9_step rfl rfl rfl (by decide +kernel) ⟨Nat.le_of_ble_eq_true rfl, Nat.le_of_ble_eq_true rfl⟩) rfl hl.1 rfl (Nat.le_of_ble_eq_true rfl) dX5_items_75 ⟨Nat.zero_le _, Nat.zero_le _⟩) hw hA hS (fun G11 H locs hp hw hS => ?_)
            obtain ⟨tv11, hx11, hT, hf11⟩ := hp
            have hRd := isRd_fr hRd hf11 (by omega)
            have hV := isV_fr hV hf11 (by omega)
            have hfr := fr_tr hfr hf11 (by omega) (by omega)
            have hT : isT Γ G11 to by0 tv11 := hT
            obtain ⟨hs0b, hs2b, hs1b, hs3b, hs4b⟩ := stp_xq (q := nmF (vlK by0 (tv 0) (rdX by0 (tv 0) (emV V) it) - 1)) (x := rdX by0 (tv 0) (emV V) it) hx11 ht0 ht1
            have hs2b : tv11 2 = stopX by0 (tv 0) (rdX by0 (tv 0) (emV V) it) := hs2b
            have hs3b : tv11 3 = tokK by0 (tv 0) (stopX by0 (tv 0) (rdX by0 (tv 0) (emV V) it)) := hs3b
            have hs0x := hs0b
            have hgx := hg2
            have hplx : stopX by0 (tv 0) (rdX by0 (tv 0) (emV V) it) ≤ tv 0 := (xq_b (T := by0) hrb.2.2 _).2
            have hk8 := tokK_le by0 (tv 0) (stopX by0 (tv 0) (rdX by0 (tv 0) (emV V) it))
            refine lv_aload_n hx hb dX5_items_78 rfl (lv_at hl 2 rfl) ?_
            refine nr_get (own := RX5) (C := RX9) (T := TX9) (N := 6) (v := .int (nI (tv11 3))) hx hb hts hi_X5_items_X9 hown hw (by omega) (isT_0 hT) rfl 4 (by decide) wl_X5_items_2 rfl rfl dX5_items_79 ?_
            refine lv_iconst (v := nI 3) hx hb dX5_items_82 (by decide) ?_
            refine nr_icmp_eq (tgt := 88) hx hb (by omega) (by decide) dX5_items_83 (by decide) (fun c12 => ?_) (fun c12 => ?_)
            · have hch := car_hyp (its := it) hGL (by rw [hVL]; exact hcst) (by rw [hVL]; exact hnum) hgq
              refine lv_aload_n hx hb dX5_items_88 rfl (lv_at hl 1 rfl) ?_
              refine lv_iload_n hx hb dX5_items_89 rfl (lv_at hl 0 rfl) ?_
              refine nr_goV (nr_runV (As := [.int (nI (vlK by0 (tv 0) (rdX by0 (tv 0) (emV V) it) - 1))]) (C := RX5) (T := TX5) (N := 2) ⟨hx, hb, hml, hown, hts⟩ hw (by omega) (isRd_0 hRd) rfl (c_X5_carryOut l Γ n G11 to gv9 VL13 hRd hV (by omega) hj (vlK by0 (tv 0) (rdX by0 (tv 0) (emV V) it) - 1) hIL hg2 (by have := cst_1 hcst; omega) hch.1 hch.2.1 hch.2.2.1 hch.2.2.2) (cwV 1 hts gX5_items_X5_carryOut rfl rfl rfl (by decide +kernel) ⟨Nat.le_of_ble_eq_true rfl, Nat.le_of_ble_eq_true rfl⟩) rfl hl.1 rfl (Nat.le_of_ble_eq_true rfl) dX5_items_90 ⟨Nat.zero_le _, Nat.zero_le _⟩) hw hA hS (fun G13 H locs hp hw hS => ?_)
              obtain ⟨hV, hf13⟩ := hp
              have hT := isT_fr hT hf13 (by omega)
              have hRd := isRd_fr hRd hf13 (by omega)
              have hfr := fr_tr hfr hf13 (by omega) (by omega)
              have hV : isV Γ G13 (to + 4) (carV VL13 gv9 (vlK by0 (tv 0) (rdX by0 (tv 0) (emV V) it) - 1)) := hV
              have hVn : carV VL13 gv9 (vlK by0 (tv 0) (rdX by0 (tv 0) (emV V) it) - 1) = itV by0 (tv 0) VL13 (rdX by0 (tv 0) (emV V) it) := car_it (its := it) (by rw [hVL]; exact hcst) hgq
              have hok1 : ∀ u, u < it + 1 → rdOK by0 (tv 0) (emV V) u := fun u hu => (Nat.lt_or_eq_of_le (Nat.le_of_lt_succ hu)).elim (fun z => hok u z) (fun z => by rw [z]; exact ⟨hk1, hcst, hnum, by show tokK by0 (tv 0) (stopX by0 (tv 0) (rdX by0 (tv 0) (emV V) it)) = 3; rw [← hs3b]; omega⟩)
              refine nr_inc (d := 1) (k := 3) (lv' := [(2, .int (nI (it + 1))), (3, .int (nI (vlK by0 (tv 0) (rdX by0 (tv 0) (emV V) it) - 1))), (0, .ref (ad Γ (to + 2))), (1, .ref (ad Γ (to + 0)))]) hx hb dX5_items_93 hl rfl (by decide) (by decide) rfl (fun ls hl => ?_)
              refine lv_goto (tgt := 13) hx hb dX5_items_96 (by decide) ?_
              exact ih13 (G13, it + 1, tv11, gv9, (carV VL13 gv9 (vlK by0 (tv 0) (rdX by0 (tv 0) (emV V) it) - 1))) _ _ _ _ hw hS (lv_sub hl [2, 3, 0] rfl) ⟨rfl, hT, hRd, hV, hfr, by (try dsimp only); have h9 := (rdS_b (T := by0) (L := tv 0) (V0 := emV V) (it + 1) hok1).1; have h8 := (rdS_b (T := by0) (L := tv 0) (V0 := emV V) (it + 1) hok1).2.1; omega, by (try dsimp only); omega, by (try dsimp only); exact (hs1b), by (try dsimp only); rw [hVn, hVL]; rfl, by (try dsimp only); exact (hok1), by (try dsimp only); exact (hg2)⟩ (by (try dsimp only); omega)
            · refine lv_iconst (v := (-1)) hx hb dX5_items_86 (by decide) ?_
              exact nr_retI hx hb hr hlocks hw hS (Or.inr ⟨_, ⟨it, hok, fun z => absurd z.2 (show ¬ tokK by0 (tv 0) (rdX by0 (tv 0) (emV V) it) = 0 from by omega), Or.inr (Or.inr ⟨⟨hk1, hcst⟩, hnum, fun z => absurd (hs3b.trans z) (by omega), rfl⟩)⟩, rfl, _, _, _, ⟨hs2b, hs0x, hplx, hgx, hIx⟩, hT, hRd, hV, hfr⟩) dX5_items_87
          · have hV := isV_fr hV hf9 (by omega)
            have hfr := fr_tr hfr hf9 (by omega) (by omega)
            subst ha9
            rw [hs0] at hx9
            rw [hVL] at hx9
            obtain ⟨hs0x, ⟨q8, hq81, hq82, hq83, hp8⟩, hgx⟩ := hx9
            have hq8 : ∃ q, q < nmF (vlK by0 (tv 0) (rdX by0 (tv 0) (emV V) it) - 1) ∧ (∀ u, u < q → okQ by0 (tv 0) (rdV by0 (tv 0) (emV V) it 0) (rdV by0 (tv 0) (emV V) it 1) (cn (rdV by0 (tv 0) (emV V) it)) (vlK by0 (tv 0) (rdX by0 (tv 0) (emV V) it) - 1) (rdX by0 (tv 0) (emV V) it) u) ∧ ¬ okQ by0 (tv 0) (rdV by0 (tv 0) (emV V) it 0) (rdV by0 (tv 0) (emV V) it 1) (cn (rdV by0 (tv 0) (emV V) it)) (vlK by0 (tv 0) (rdX by0 (tv 0) (emV V) it) - 1) (rdX by0 (tv 0) (emV V) it) q ∧ xq by0 (tv 0) (rdX by0 (tv 0) (emV V) it) (q8 + 1) = xq by0 (tv 0) (rdX by0 (tv 0) (emV V) it) (q + 1) := ⟨q8, hq81, hq82, hq83, rfl⟩
            have hplx := (xq_b (T := by0) hrb.2.2 (q8 + 1)).2
            refine nr_if_ne (tgt := 74) hx hb (by decide) dX5_items_69 (by decide) (fun c14 => absurd c14 (by decide)) (fun c14 => ?_)
            refine lv_iconst (v := (-1)) hx hb dX5_items_72 (by decide) ?_
            exact nr_retI hx hb hr hlocks hw hS (Or.inr ⟨_, ⟨it, hok, fun z => absurd z.2 (show ¬ tokK by0 (tv 0) (rdX by0 (tv 0) (emV V) it) = 0 from by omega), Or.inr (Or.inl ⟨⟨hk1, hcst⟩, hq8⟩)⟩, rfl, _, _, _, ⟨hp8, hs0x, hplx, hgx, hIx⟩, hT, hRd, hV, hfr⟩) dX5_items_73
        · have hcs := b7
          rw [hVL] at hcs
          refine nr_if_eq (tgt := 72) hx hb (by decide) dX5_items_60 (by decide) (fun c15 => ?_) (fun c15 => absurd c15 (by decide))
          refine lv_iconst (v := (-1)) hx hb dX5_items_72 (by decide) ?_
          exact nr_retI hx hb hr hlocks hw hS (Or.inr ⟨_, ⟨it, hok, fun z => absurd z.2 (show ¬ tokK by0 (tv 0) (rdX by0 (tv 0) (emV V) it) = 0 from by omega), Or.inl ⟨fun z => hcs (by rw [hs4]; exact z.2), rfl⟩⟩, rfl, _, _, _, ⟨hs2, hs0x, hplx, hgx, hIx⟩, hT, hRd, hV, hfr⟩) dX5_items_73
    · refine lv_iload_n hx hb dX5_items_31 rfl (lv_at hl 2 rfl) ?_
      refine nr_if_le (tgt := 39) hx hb (by omega) dX5_items_32 (by decide) (fun c16 => ?_) (fun c16 => ?_)
      · refine lv_iconst (v := (-1)) hx hb dX5_items_39 (by decide) ?_
        exact nr_retI hx hb hr hlocks hw hS (Or.inr ⟨_, ⟨it, hok, fun z => absurd z.1 (by omega), Or.inl ⟨fun z => absurd z.1 (by rw [← hs3]; omega), rfl⟩⟩, rfl, _, _, _, ⟨hs2, hs0x, hplx, hgx, hIx⟩, hT, hRd, hV, hfr⟩) dX5_items_40
      · refine lv_iload_n hx hb dX5_items_35 rfl (lv_at hl 2 rfl) ?_
        refine lv_goto (tgt := 40) hx hb dX5_items_36 (by decide) ?_
        exact nr_retI hx hb hr hlocks hw hS (Or.inl ⟨it, ⟨by omega, hok, by rw [← hs3]; omega⟩, rfl, _, _, ⟨hs0, by omega, hgv2⟩, hT, hRd, by rw [← hVL]; exact hV, hfr⟩) dX5_items_40
