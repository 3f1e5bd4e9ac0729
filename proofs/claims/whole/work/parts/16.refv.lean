section SV
abbrev pwP (ca F : Nat → Nat) (k w0 w : Nat) : Prop := ¬ w = k ∧ bt (ca w0) w ∧ 1 + F (w0 ||| 2 ^ w) = F w0
def stepR (ca F : Nat → Nat) (k m w0 w : Nat) : Prop := (F w0 ≤ 1 ∧ w = k) ∨ (1 < F w0 ∧ w < m ∧ pwP ca F k w0 w ∧ ∀ u, u < w → ¬ pwP ca F k w0 u)
def pathR (ca F : Nat → Nat) (k m : Nat) : Nat → Nat → Prop
  | 0, w0 => w0 = 0
  | q + 1, w0 => ∃ s0 w, pathR ca F k m q s0 ∧ stepR ca F k m s0 w ∧ w0 = s0 ||| 2 ^ w
theorem lfJ_ex {ca F : Nat → Nat} {k wo w : Nat} : ∀ {j : Nat}, 1 < lfJ ca F k wo w j → lfJ ca F k wo w j < 1000000 → ∃ i, i < j ∧ ¬ i = k ∧ bt (ca w) i ∧ ¬ bt wo i ∧ lfJ ca F k wo w j = 1 + F (w ||| 2 ^ i)
  | 0, h1, h2 => by
    unfold lfJ at h1 h2
    split at h1
    · omega
    · rename_i hb
      rw [if_neg hb] at h2
      omega
  | j + 1, h1, h2 => by
    rw [lfJ_s] at h1 h2 ⊢
    by_cases q : 1 < lfJ ca F k wo w j ∧ ¬ j = k ∧ bt (ca w) j ∧ ¬ bt wo j
    · rw [if_pos q] at h1 h2 ⊢
      rcases Nat.lt_or_ge (1 + F (w ||| 2 ^ j)) (lfJ ca F k wo w j) with z | z
      · exact ⟨j, by omega, q.2.1, q.2.2.1, q.2.2.2, by omega⟩
      · obtain ⟨i, i1, i2, i3, i4, i5⟩ := lfJ_ex (j := j) q.1 (by omega)
        exact ⟨i, by omega, i2, i3, i4, by omega⟩
    · rw [if_neg q] at h1 h2 ⊢
      obtain ⟨i, i1, i2, i3, i4, i5⟩ := lfJ_ex h1 h2
      exact ⟨i, by omega, i2, i3, i4, i5⟩
theorem path_ok {ca F : Nat → Nat} {k m : Nat} (hca : ∀ w, w < 2 ^ m → ∀ i, bt (ca w) i → i < m ∧ ¬ bt w i) : ∀ (q w0 : Nat), pathR ca F k m q w0 → q < F 0 → w0 < 2 ^ m ∧ F w0 = F 0 - q
  | 0, w0, h, _ => by
    have : w0 = 0 := h
    subst this
    exact ⟨Nat.two_pow_pos m, rfl⟩
  | q + 1, w0, h, hq => by
    obtain ⟨s0, w, h1, h2, rfl⟩ := h
    obtain ⟨g1, g2⟩ := path_ok hca q s0 h1 (by omega)
    rcases h2 with ⟨h3, _⟩ | ⟨h3, h4, h5, _⟩
    · omega
    · exact ⟨(or_up g1 h4 (hca s0 g1 w h5.2.1).2).2, by have := h5.2.2; omega⟩
def fewA (ca F : Nat → Nat) (R : Nat → Nat) (k : Nat) (q z : Int32) : Prop :=
  (1000000 ≤ (if bt (R 20) k then 0 else F 0) ∧ z = -6) ∨
  ((if bt (R 20) k then 0 else F 0) < 1000000 ∧ ((q = -1 ∧ z = nI (if bt (R 20) k then 0 else F 0)) ∨ (¬ q = -1 ∧ nI (if bt (R 20) k then 0 else F 0) ≤ q ∧ z = -5) ∨
    (∃ y, q = nI y ∧ y < (if bt (R 20) k then 0 else F 0) ∧ ∃ w0 w, pathR ca F k (R 1) y w0 ∧ stepR ca F k (R 1) w0 w ∧ z = nI w)))
theorem few_q {q : Int32} {s : Nat} (hs : s < 2147483648) (h1 : -1 ≤ q) (h2 : ¬ q = -1) (h3 : q < nI s) : ∃ y, y < s ∧ q = nI y := by
  have h0 : ¬ q < 0 := fun h => by
    have a := Int32.le_iff_toInt_le.mp h1
    have b := Int32.lt_iff_toInt_lt.mp h
    rw [Int32.toInt_zero] at b
    have c : (-1 : Int32).toInt = -1 := by decide
    rw [c] at a
    exact h2 (Int32.toInt_inj.mp (by rw [c]; omega))
  obtain ⟨y, hy, rfl⟩ := nI_of h0
  exact ⟨y, (nI_ltI hy hs).mp h3, rfl⟩
end SV
theorem wl_X12_strokeAt_1 : Cond.fieldLink RX12 36 "BellForgivenModel" "fewest" "[I" ∈ wsX12_strokeAt := List.mem_of_getElem? (i := 1) rfl
theorem wl_X12_strokeAt_2 : Cond.fieldLink RX12 27 "BellForgivenModel" "canAll" "[I" ∈ wsX12_strokeAt := List.mem_of_getElem? (i := 2) rfl
theorem hi_X12_strokeAt_X12 : ∀ w ∈ u_ws RX12 TX12 19, w ∈ wsX12_strokeAt := fun w h => (List.mem_cons_of_mem _ (List.mem_append_right _ h))
set_option maxHeartbeats 4000000 in
set_option maxRecDepth 100000 in
theorem c_X12_strokeAt (l : Launch) (Γ : Gam) (n : Nat) (G : Nat → va_E) (mo : Nat) (R K kp rf ca rc hd fw tl by0 an vl iv : Nat → Nat) (hM : isM Γ G mo R K kp rf ca rc hd fw tl by0 an vl iv) (hmo : mo + 13 ≤ n) (hI : vI R) (k q : Nat) (hk : k < R 1) (hq : q < fw 0) (h0 : fw 0 < 1000000) (hca : ∀ w, w < 2 ^ R 1 → ca w = canS R w) (hfe : ∀ w, w < 2 ^ R 1 → fw w = lfJ ca fw k 0 w (R 1)) (hfw : ∀ j, fw j ≤ 1000000)  : Met l yX12_strokeAt wsX12_strokeAt ({ frames := 1, cells := 0, slots := 0, locals := 21 }) (va_Pc [.ref (ad Γ (mo + 0)), .int (nI k), .int (nI q)] (fun U => hw Γ n G U U.heap)) (vp_Si (fun z => ∃ w0 w, pathR ca fw k (R 1) q w0 ∧ stepR ca fw k (R 1) w0 w ∧ z = nI w)) 0 0 (fun _ => False) := by
  refine Met.ofW (cc := cX12_strokeAt) (maxL := 6) (ret := (some .int)) (by decide) rfl ?_
  intro p e s m args below meth c s₁ B hml hv
  obtain ⟨rfl, hw⟩ := hv
  have hx := B.exec
  have hb := B.bytes
  have hr := B.returns
  have hts := atoms_spec (ws := wsX12_strokeAt) B.pre
  have hown : s.vm.findClass RX12 = some m.cls := findClass_of_methodNamed B.named
  have hlocks := B.notSynchronized
  have hl := lv_entry ([.ref (ad Γ (mo + 0)), .int (nI k), .int (nI q)]) (n := 6) (Nat.le_of_ble_eq_true rfl)
  rw [lg_entry_eq]
  generalize (lg_sl ([.ref (ad Γ (mo + 0)), .int (nI k), .int (nI q)]) ++ List.replicate (6 - (lg_sl ([.ref (ad Γ (mo + 0)), .int (nI k), .int (nI q)])).length) Slot.unset).toArray = ls at hl ⊢
  have hl : lv_has ls 6 [(0, .ref (ad Γ (mo + 0))), (1, .int (nI k)), (2, .int (nI q))] := hl
  have hB := hI.1
  have hB0 := hI.2.1
  have hB1 := hI.2.2.1
  have hB20 := hI.2.2.2.2.2.2.2.2.2
  have hBz2 := hI.2.2.2.1
  have hBz3 := hI.2.2.2.2.1
  have hBz4 := hI.2.2.2.2.2.1
  have hBz5 := hI.2.2.2.2.2.2.1
  have hby := hI.2.2.2.2.2.2.2.1
  have hto := hI.2.2.2.2.2.2.2.2.1
  have h2p := p2_le hB1
  have hcb : ∀ w, w < 2 ^ R 1 → ∀ i, bt (ca w) i → i < R 1 ∧ ¬ bt w i := fun w hw9 i hb9 => by rw [hca w hw9] at hb9; exact ⟨(canS_bt hb9).1, (canS_bt hb9).2.2.1⟩
  have hpk := path_ok (ca := ca) (F := fw) (k := k) (m := R 1) hcb
  refine lv_iconst (v := nI 0) hx hb dX12_strokeAt_0 (by decide) ?_
  refine lv_istore_n (lv' := [(3, .int (nI 0)), (0, .ref (ad Γ (mo + 0))), (1, .int (nI k)), (2, .int (nI q))]) hx hb dX12_strokeAt_1 rfl hl (by decide) rfl (fun ls hl => ?_)
  refine lv_iload_n hx hb dX12_strokeAt_2 rfl (lv_at hl 2 rfl) ?_
  refine lv_istore (lv' := [(4, .int (nI k)), (3, .int (nI 0)), (0, .ref (ad Γ (mo + 0))), (1, .int (nI k)), (2, .int (nI q))]) hx hb dX12_strokeAt_3 hl (by decide) rfl (fun ls hl => ?_)
  refine lv_iconst (v := nI 0) hx hb dX12_strokeAt_5 (by decide) ?_
  refine lv_istore (lv' := [(5, .int (nI 0)), (4, .int (nI k)), (3, .int (nI 0)), (0, .ref (ad Γ (mo + 0))), (1, .int (nI k)), (2, .int (nI q))]) hx hb dX12_strokeAt_6 hl (by decide) rfl (fun ls hl => ?_)
  refine nr_lp (σ := Nat × Nat × Nat) (pc := 8) (fun x lv => lv = [(0, .ref (ad Γ (mo + 0))), (1, .int (nI k)), (2, .int (nI q)), (3, .int (nI x.2.1)), (4, .int (nI x.2.2)), (5, .int (nI x.1))] ∧ (x.1 ≤ q + 1) ∧ (x.1 ≤ q → pathR ca fw k (R 1) x.1 x.2.1) ∧ (x.1 = 0 ∨ ∃ s0, pathR ca fw k (R 1) (x.1 - 1) s0 ∧ stepR ca fw k (R 1) s0 x.2.2)) (fun x => q + 1 - x.1) (0, 0, k) (lv_sub hl [3, 4, 5, 2, 1, 0] rfl) ⟨rfl, by (try dsimp only); omega, by (try dsimp only); exact (fun _ => rfl), by (try dsimp only); exact (Or.inl rfl)⟩ ?_
  intro x lv ls hl hI ih8
  obtain ⟨y, w0, u0⟩ := x
  obtain ⟨rfl, hy, hp, hu⟩ := hI
  try dsimp only at hy hp hu hl ih8
  refine lv_iload hx hb dX12_strokeAt_8 (lv_at hl 5 rfl) ?_
  refine lv_iload_n hx hb dX12_strokeAt_10 rfl (lv_at hl 2 rfl) ?_
  refine nr_icmp_gt (tgt := 91) hx hb (by omega) (by omega) dX12_strokeAt_11 (by decide) (fun c1 => ?_) (fun c1 => ?_)
  · refine lv_iload hx hb dX12_strokeAt_91 (lv_at hl 4 rfl) ?_
    exact nr_retS hx hb hr hlocks (by rcases hu with h9 | ⟨s0, h8, h9⟩; omega; exact ⟨s0, u0, by rw [show q = y - 1 by omega]; exact h8, h9, rfl⟩) rfl dX12_strokeAt_93
  · have hp0 := hp (by omega)
    have hp1 := hpk y w0 hp0 (by omega)
    refine lv_iload_n hx hb dX12_strokeAt_14 rfl (lv_at hl 1 rfl) ?_
    refine lv_istore (lv' := [(4, .int (nI k)), (0, .ref (ad Γ (mo + 0))), (1, .int (nI k)), (2, .int (nI q)), (3, .int (nI w0)), (5, .int (nI y))]) hx hb dX12_strokeAt_15 hl (by decide) rfl (fun ls hl => ?_)
    refine lv_aload_n hx hb dX12_strokeAt_17 rfl (lv_at hl 1 rfl) ?_
    refine nr_get (own := RX12) (C := RX12) (T := TX12) (N := 19) (v := .ref (ad Γ (mo + 8))) hx hb hts hi_X12_strokeAt_X12 hown hw (by omega) (isM_0 hM) rfl 9 (by decide) wl_X12_strokeAt_1 rfl rfl dX12_strokeAt_18 ?_
    refine lv_iload_n hx hb dX12_strokeAt_21 rfl (lv_at hl 4 rfl) ?_
    refine nr_iald (x := (fw w0)) hx hb hw (by omega) (isM_8 hM) rfl (by omega) (by decide) dX12_strokeAt_22 ?_
    have hL2 := hfw (w0)
    refine lv_iconst (v := nI 1) hx hb dX12_strokeAt_23 (by decide) ?_
    refine nr_icmp_le (tgt := 78) hx hb (by omega) (by decide) dX12_strokeAt_24 (by decide) (fun c3 => ?_) (fun c3 => ?_)
    · refine lv_iload_n hx hb dX12_strokeAt_78 rfl (lv_at hl 4 rfl) ?_
      refine lv_iconst (v := nI 1) hx hb dX12_strokeAt_79 (by decide) ?_
      refine lv_iload hx hb dX12_strokeAt_80 (lv_at hl 0 rfl) ?_
      refine nr_ishl1 hx hb (by omega) dX12_strokeAt_82 ?_
      refine nr_ior hx hb dX12_strokeAt_83 ?_
      refine lv_istore_n (lv' := [(3, .int (nI (w0 ||| (2 ^ k)))), (4, .int (nI k)), (0, .ref (ad Γ (mo + 0))), (1, .int (nI k)), (2, .int (nI q)), (5, .int (nI y))]) hx hb dX12_strokeAt_84 rfl hl (by decide) rfl (fun ls hl => ?_)
      refine nr_inc (d := 1) (k := 5) (lv' := [(5, .int (nI (y + 1))), (3, .int (nI (w0 ||| (2 ^ k)))), (4, .int (nI k)), (0, .ref (ad Γ (mo + 0))), (1, .int (nI k)), (2, .int (nI q))]) hx hb dX12_strokeAt_85 hl rfl (by decide) (by decide) rfl (fun ls hl => ?_)
      refine lv_goto (tgt := 8) hx hb dX12_strokeAt_88 (by decide) ?_
      exact ih8 (y + 1, w0 ||| (2 ^ k), k) _ _ (lv_sub hl [3, 4, 5, 1, 2, 0] rfl) ⟨rfl, by (try dsimp only); omega, by (try dsimp only); first | exact fun _ => ⟨w0, k, hp0, Or.inl ⟨by omega, rfl⟩, rfl⟩ | exact fun _ => ⟨w0, u, hp0, Or.inr ⟨by omega, by omega, ⟨by omega, by assumption, by omega⟩, hun⟩, rfl⟩, by (try dsimp only); rw [Nat.add_sub_cancel]; first | exact Or.inr ⟨w0, hp0, Or.inl ⟨by omega, rfl⟩⟩ | exact Or.inr ⟨w0, hp0, Or.inr ⟨by omega, by omega, ⟨by omega, by assumption, by omega⟩, hun⟩⟩⟩ (by (try dsimp only); omega)
    · have hfe9 := hfe w0 hp1.1
      obtain ⟨ix, hix, hix1, hix2, -, hix3⟩ := lfJ_ex (ca := ca) (F := fw) (k := k) (wo := 0) (w := w0) (j := R 1) (by omega) (by omega)
      have hpx : pwP ca fw k w0 ix := ⟨hix1, hix2, by omega⟩
      refine lv_iconst (v := nI 0) hx hb dX12_strokeAt_27 (by decide) ?_
      refine lv_istore (lv' := [(4, .int (nI 0)), (0, .ref (ad Γ (mo + 0))), (1, .int (nI k)), (2, .int (nI q)), (3, .int (nI w0)), (5, .int (nI y))]) hx hb dX12_strokeAt_28 hl (by decide) rfl (fun ls hl => ?_)
      refine nr_lp (σ := Nat) (pc := 30) (fun x lv => lv = [(0, .ref (ad Γ (mo + 0))), (1, .int (nI k)), (2, .int (nI q)), (3, .int (nI w0)), (4, .int (nI x)), (5, .int (nI y))] ∧ (∀ v, v < x → ¬ pwP ca fw k w0 v)) (fun x => R 1 - x) 0 (lv_sub hl [1, 2, 3, 4, 0, 5] rfl) ⟨rfl, by (try dsimp only); exact (fun v hv => absurd hv (Nat.not_lt_zero v))⟩ ?_
      intro u lv ls hl hI ih30
      obtain ⟨rfl, hun⟩ := hI
      try dsimp only at hun hl ih30
      have hui : u ≤ ix := by rcases Nat.lt_or_ge ix u with z | z; exact absurd hpx (hun ix z); exact z
      refine lv_iload hx hb dX12_strokeAt_30 (lv_at hl 4 rfl) ?_
      refine lv_iload_n hx hb dX12_strokeAt_32 rfl (lv_at hl 1 rfl) ?_
      refine nr_icmp_eq (tgt := 72) hx hb (by omega) (by omega) dX12_strokeAt_33 (by decide) (fun c4 => ?_) (fun c4 => ?_)
      · refine nr_inc (d := 1) (k := 4) (lv' := [(4, .int (nI (u + 1))), (0, .ref (ad Γ (mo + 0))), (1, .int (nI k)), (2, .int (nI q)), (3, .int (nI w0)), (5, .int (nI y))]) hx hb dX12_strokeAt_72 hl rfl (by decide) (by decide) rfl (fun ls hl => ?_)
        refine lv_goto (tgt := 30) hx hb dX12_strokeAt_75 (by decide) ?_
        exact ih30 (u + 1) _ _ (lv_sub hl [1, 2, 3, 4, 0, 5] rfl) ⟨rfl, by (try dsimp only); exact (fun v hv => by
          rcases Nat.lt_or_eq_of_le (Nat.le_of_lt_succ hv) with z | z
          · exact hun v z
          · rw [z]; intro hh9; first | exact hh9.1 (by assumption) | exact absurd hh9.2.1 (by assumption) | exact absurd hh9.2.2 (by assumption))⟩ (by (try dsimp only); omega)
      · refine lv_aload_n hx hb dX12_strokeAt_36 rfl (lv_at hl 0 rfl) ?_
        refine nr_get (own := RX12) (C := RX12) (T := TX12) (N := 19) (v := .ref (ad Γ (mo + 5))) hx hb hts hi_X12_strokeAt_X12 hown hw (by omega) (isM_0 hM) rfl 6 (by decide) wl_X12_strokeAt_2 rfl rfl dX12_strokeAt_37 ?_
        refine lv_iload_n hx hb dX12_strokeAt_40 rfl (lv_at hl 3 rfl) ?_
        refine nr_iald (x := (ca w0)) hx hb hw (by omega) (isM_5 hM) rfl (by omega) (by decide) dX12_strokeAt_41 ?_
        have hcl : ca w0 < 256 := by rw [hca w0 hp1.1]; exact canS_lt hB1 w0
        refine lv_iload hx hb dX12_strokeAt_42 (lv_at hl 4 rfl) ?_
        refine nr_goB (P := bt (ca w0) u) (nr_runS (As := [.int (nI (ca w0)), .int (nI u)]) ⟨hx, hb, hml, hown, hts⟩ hw (c_X12_has l Γ n G (ca w0) u (by omega) (by omega)) (va_cwS 2 hts gX12_strokeAt_X12_has rfl rfl rfl (by decide +kernel) ⟨Nat.le_of_ble_eq_true rfl, Nat.le_of_ble_eq_true rfl⟩) rfl hl.1 rfl (Nat.le_of_ble_eq_true rfl) dX12_strokeAt_44 ⟨Nat.zero_le _, Nat.zero_le _⟩) (fun b5 => ?_) (fun b5 => ?_)
        · refine nr_if_eq (tgt := 72) hx hb (by decide) dX12_strokeAt_47 (by decide) (fun c6 => absurd c6 (by decide)) (fun c6 => ?_)
          refine lv_iconst (v := nI 1) hx hb dX12_strokeAt_50 (by decide) ?_
          refine lv_aload_n hx hb dX12_strokeAt_51 rfl (lv_at hl 0 rfl) ?_
          refine nr_get (own := RX12) (C := RX12) (T := TX12) (N := 19) (v := .ref (ad Γ (mo + 8))) hx hb hts hi_X12_strokeAt_X12 hown hw (by omega) (isM_0 hM) rfl 9 (by decide) wl_X12_strokeAt_1 rfl rfl dX12_strokeAt_52 ?_
          refine lv_iload_n hx hb dX12_strokeAt_55 rfl (lv_at hl 3 rfl) ?_
          refine lv_iconst (v := nI 1) hx hb dX12_strokeAt_56 (by decide) ?_
          refine lv_iload hx hb dX12_strokeAt_57 (lv_at hl 4 rfl) ?_
          refine nr_ishl1 hx hb (by omega) dX12_strokeAt_59 ?_
          refine nr_ior hx hb dX12_strokeAt_60 ?_
          refine nr_iald (x := (fw (w0 ||| (2 ^ u)))) hx hb hw (by omega) (isM_8 hM) rfl (or_lt256 (by omega) (by omega)) (by decide) dX12_strokeAt_61 ?_
          have hL7 := hfw (w0 ||| (2 ^ u))
          refine nr_iadd hx hb dX12_strokeAt_62 ?_
          refine lv_aload_n hx hb dX12_strokeAt_63 rfl (lv_at hl 0 rfl) ?_
          refine nr_get (own := RX12) (C := RX12) (T := TX12) (N := 19) (v := .ref (ad Γ (mo + 8))) hx hb hts hi_X12_strokeAt_X12 hown hw (by omega) (isM_0 hM) rfl 9 (by decide) wl_X12_strokeAt_1 rfl rfl dX12_strokeAt_64 ?_
          refine lv_iload_n hx hb dX12_strokeAt_67 rfl (lv_at hl 3 rfl) ?_
          refine nr_iald (x := (fw w0)) hx hb hw (by omega) (isM_8 hM) rfl (by omega) (by decide) dX12_strokeAt_68 ?_
          have hL8 := hfw (w0)
          refine nr_icmp_eq (tgt := 78) hx hb (by omega) (by omega) dX12_strokeAt_69 (by decide) (fun c9 => ?_) (fun c9 => ?_)
          · refine lv_iload_n hx hb dX12_strokeAt_78 rfl (lv_at hl 3 rfl) ?_
            refine lv_iconst (v := nI 1) hx hb dX12_strokeAt_79 (by decide) ?_
            refine lv_iload hx hb dX12_strokeAt_80 (lv_at hl 4 rfl) ?_
            refine nr_ishl1 hx hb (by omega) dX12_strokeAt_82 ?_
            refine nr_ior hx hb dX12_strokeAt_83 ?_
            refine lv_istore_n (lv' := [(3, .int (nI (w0 ||| (2 ^ u)))), (0, .ref (ad Γ (mo + 0))), (1, .int (nI k)), (2, .int (nI q)), (4, .int (nI u)), (5, .int (nI y))]) hx hb dX12_strokeAt_84 rfl hl (by decide) rfl (fun ls hl => ?_)
            refine nr_inc (d := 1) (k := 5) (lv' := [(5, .int (nI (y + 1))), (3, .int (nI (w0 ||| (2 ^ u)))), (0, .ref (ad Γ (mo + 0))), (1, .int (nI k)), (2, .int (nI q)), (4, .int (nI u))]) hx hb dX12_strokeAt_85 hl rfl (by decide) (by decide) rfl (fun ls hl => ?_)
            refine lv_goto (tgt := 8) hx hb dX12_strokeAt_88 (by decide) ?_
            exact ih8 (y + 1, w0 ||| (2 ^ u), u) _ _ (lv_sub hl [2, 3, 4, 1, 5, 0] rfl) ⟨rfl, by (try dsimp only); omega, by (try dsimp only); first | exact fun _ => ⟨w0, k, hp0, Or.inl ⟨by omega, rfl⟩, rfl⟩ | exact fun _ => ⟨w0, u, hp0, Or.inr ⟨by omega, by omega, ⟨by omega, by assumption, by omega⟩, hun⟩, rfl⟩, by (try dsimp only); rw [Nat.add_sub_cancel]; first | exact Or.inr ⟨w0, hp0, Or.inl ⟨by omega, rfl⟩⟩ | exact Or.inr ⟨w0, hp0, Or.inr ⟨by omega, by omega, ⟨by omega, by assumption, by omega⟩, hun⟩⟩⟩ (by (try dsimp only); omega)
          · refine nr_inc (d := 1) (k := 4) (lv' := [(4, .int (nI (u + 1))), (0, .ref (ad Γ (mo + 0))), (1, .int (nI k)), (2, .int (nI q)), (3, .int (nI w0)), (5, .int (nI y))]) hx hb dX12_strokeAt_72 hl rfl (by decide) (by decide) rfl (fun ls hl => ?_)
            refine lv_goto (tgt := 30) hx hb dX12_strokeAt_75 (by decide) ?_
            exact ih30 (u + 1) _ _ (lv_sub hl [1, 2, 3, 4, 0, 5] rfl) ⟨rfl, by (try dsimp only); exact (fun v hv => by
          rcases Nat.lt_or_eq_of_le (Nat.le_of_lt_succ hv) with z | z
          · exact hun v z
          · rw [z]; intro hh9; first | exact hh9.1 (by assumption) | exact absurd hh9.2.1 (by assumption) | exact absurd hh9.2.2 (by assumption))⟩ (by (try dsimp only); omega)
        · refine nr_if_eq (tgt := 72) hx hb (by decide) dX12_strokeAt_47 (by decide) (fun c10 => ?_) (fun c10 => absurd c10 (by decide))
          refine nr_inc (d := 1) (k := 4) (lv' := [(4, .int (nI (u + 1))), (0, .ref (ad Γ (mo + 0))), (1, .int (nI k)), (2, .int (nI q)), (3, .int (nI w0)), (5, .int (nI y))]) hx hb dX12_strokeAt_72 hl rfl (by decide) (by decide) rfl (fun ls hl => ?_)
          refine lv_goto (tgt := 30) hx hb dX12_strokeAt_75 (by decide) ?_
          exact ih30 (u + 1) _ _ (lv_sub hl [1, 2, 3, 4, 0, 5] rfl) ⟨rfl, by (try dsimp only); exact (fun v hv => by
          rcases Nat.lt_or_eq_of_le (Nat.le_of_lt_succ hv) with z | z
          · exact hun v z
          · rw [z]; intro hh9; first | exact hh9.1 (by assumption) | exact absurd hh9.2.1 (by assumption) | exact absurd hh9.2.2 (by assumption))⟩ (by (try dsimp only); omega)
theorem wl_X12_few_1 : Cond.fieldLink RX12 7 "BellForgivenModel" "all" "[I" ∈ wsX12_few := List.mem_of_getElem? (i := 1) rfl
theorem wl_X12_few_2 : Cond.fieldLink RX12 36 "BellForgivenModel" "fewest" "[I" ∈ wsX12_few := List.mem_of_getElem? (i := 2) rfl
theorem wl_X12_few_3 : Cond.constant RX12 155 (1000000) ∈ wsX12_few := List.mem_of_getElem? (i := 3) rfl
theorem hi_X12_few_X12 : ∀ w ∈ u_ws RX12 TX12 19, w ∈ wsX12_few := fun w h => (List.mem_cons_of_mem _ (List.mem_append_right _ h))
set_option maxHeartbeats 4000000 in
set_option maxRecDepth 100000 in
theorem c_X12_few (l : Launch) (Γ : Gam) (n : Nat) (G : Nat → va_E) (mo : Nat) (R K kp rf ca rc hd fw tl by0 an vl iv : Nat → Nat) (hM : isM Γ G mo R K kp rf ca rc hd fw tl by0 an vl iv) (hmo : mo + 13 ≤ n) (hI : vI R) (hj : winj Γ n) (k q : Int32) (hfw : ∀ j, fw j ≤ 1000000)  : Met l yX12_few wsX12_few ({ frames := 4, cells := 0, slots := 0, locals := 90 }) (va_Pc [.ref (ad Γ (mo + 0)), .int k, .int q] (fun U => hw Γ n G U U.heap)) (wQi Γ n (fun z G2 => ((¬ (vBel (R 1) k ∧ -1 ≤ q)) ∧ (z = -10) ∧ isM Γ G2 mo R K kp (bmp rf 0) ca rc hd fw tl by0 an vl iv ∧ fr G G2 mo (mo + 13)) ∨ (∃ jk : Nat, (jk < R 1) ∧ (k = nI jk) ∧ (-1 ≤ q) ∧ (True) ∧ ∃ ca2 : Nat → Nat, ∃ fw2 : Nat → Nat, ((∀ w, w < 2 ^ R 1 → ca2 w = canS R w) ∧ (∀ w, w < 2 ^ R 1 → fw2 w = lfJ ca2 fw2 jk 0 w (R 1)) ∧ (∀ j, fw2 j ≤ 1000000) ∧ fewA ca2 fw2 R jk q z) ∧ isM Γ G2 mo R K kp rf ca2 rc hd fw2 tl by0 an vl iv ∧ fr G G2 mo (mo + 13)))) 0 0 (wA Γ n) := by
  refine Met.ofW (cc := cX12_few) (maxL := 4) (ret := (some .int)) (by decide) rfl ?_
  intro p e s m args below meth c s₁ B hml hv
  obtain ⟨rfl, hw⟩ := hv
  have hx := B.exec
  have hb := B.bytes
  have hr := B.returns
  have hts := atoms_spec (ws := wsX12_few) B.pre
  have hown : s.vm.findClass RX12 = some m.cls := findClass_of_methodNamed B.named
  have hlocks := B.notSynchronized
  have hS : va_S (wA Γ n) s.heap s.heap [] := va_S.rf
  have hA : ∀ q, wA Γ n q → wA Γ n q := fun _ h => h
  have hl := lv_entry ([.ref (ad Γ (mo + 0)), .int k, .int q]) (n := 4) (Nat.le_of_ble_eq_true rfl)
  rw [lg_entry_eq]
  generalize (lg_sl ([.ref (ad Γ (mo + 0)), .int k, .int q]) ++ List.replicate (4 - (lg_sl ([.ref (ad Γ (mo + 0)), .int k, .int q])).length) Slot.unset).toArray = ls at hl ⊢
  have hl : lv_has ls 4 [(0, .ref (ad Γ (mo + 0))), (1, .int k), (2, .int q)] := hl
  have hfr := fr_rf G mo (mo + 13)
  have hB := hI.1
  have hB0 := hI.2.1
  have hB1 := hI.2.2.1
  have hB20 := hI.2.2.2.2.2.2.2.2.2
  have hBz2 := hI.2.2.2.1
  have hBz3 := hI.2.2.2.2.1
  have hBz4 := hI.2.2.2.2.2.1
  have hBz5 := hI.2.2.2.2.2.2.1
  have hby := hI.2.2.2.2.2.2.2.1
  have hto := hI.2.2.2.2.2.2.2.2.1
  refine lv_aload_n hx hb dX12_few_0 rfl (lv_at hl 0 rfl) ?_
  refine lv_iload_n hx hb dX12_few_1 rfl (lv_at hl 1 rfl) ?_
  refine nr_goB (P := ∃ j, j < R 1 ∧ k = nI j) (nr_runV (As := [.int k]) (C := RX12) (T := TX12) (N := 19) ⟨hx, hb, hml, hown, hts⟩ hw (by omega) (isM_0 hM) rfl (c_X12_isWrong l Γ n G mo R K kp rf ca rc hd fw tl by0 an vl iv hM (by omega) hI k) (cwV 1 hts gX12_few_X12_isWrong rfl rfl rfl (by decide +kernel) ⟨Nat.le_of_ble_eq_true rfl, Nat.le_of_ble_eq_true rfl⟩) rfl hl.1 rfl (Nat.le_of_ble_eq_true rfl) dX12_few_2 ⟨Nat.zero_le _, Nat.zero_le _⟩) (fun b1 => ?_) (fun b1 => ?_)
  · obtain ⟨jk, hjk, rfl⟩ := b1
    refine nr_if_eq (tgt := 13) hx hb (by decide) dX12_few_5 (by decide) (fun c2 => absurd c2 (by decide)) (fun c2 => ?_)
    refine lv_iload_n hx hb dX12_few_8 rfl (lv_at hl 2 rfl) ?_
    refine lv_iconst (v := (-1)) hx hb dX12_few_9 (by decide) ?_
    refine lv_icmp_ge (tgt := 20) hx hb dX12_few_10 (by decide) (fun c3 => ?_) (fun c3 => ?_)
    · refine lv_aload_n hx hb dX12_few_20 rfl (lv_at hl 0 rfl) ?_
      refine nr_goV (nr_runV (As := []) (C := RX12) (T := TX12) (N := 19) ⟨hx, hb, hml, hown, hts⟩ hw (by omega) (isM_0 hM) rfl (c_X12_layCan l Γ n G mo R K kp rf ca rc hd fw tl by0 an vl iv hM (by omega) hI hj) (cwV 0 hts gX12_few_X12_layCan rfl rfl rfl (by decide +kernel) ⟨Nat.le_of_ble_eq_true rfl, Nat.le_of_ble_eq_true rfl⟩) rfl hl.1 rfl (Nat.le_of_ble_eq_true rfl) dX12_few_21 ⟨Nat.zero_le _, Nat.zero_le _⟩) hw hA hS (fun G4 H locs hp hw hS => ?_)
      obtain ⟨ca4, hx4, hM, hfr4⟩ := hp
      have hfr := fr_tr hfr hfr4 (Nat.le_refl _) (Nat.le_refl _)
      have hcc := hx4
      refine lv_aload_n hx hb dX12_few_24 rfl (lv_at hl 0 rfl) ?_
      refine lv_iload_n hx hb dX12_few_25 rfl (lv_at hl 1 rfl) ?_
      refine lv_iconst (v := nI 0) hx hb dX12_few_26 (by decide) ?_
      refine nr_goV (nr_runV (As := [.int (nI jk), .int (nI 0)]) (C := RX12) (T := TX12) (N := 19) ⟨hx, hb, hml, hown, hts⟩ hw (by omega) (isM_0 hM) rfl (c_X12_layFewest l Γ n G4 mo R K kp rf ca4 rc hd fw tl by0 an vl iv hM (by omega) hI hj jk 0 (by omega) (by decide) hcc hfw) (cwV 2 hts gX12_few_X12_layFewest rfl rfl rfl (by decide +kernel) ⟨Nat.le_of_ble_eq_true rfl, Nat.le_of_ble_eq_true rfl⟩) rfl hl.1 rfl (Nat.le_of_ble_eq_true rfl) dX12_few_27 ⟨Nat.zero_le _, Nat.zero_le _⟩) hw hA hS (fun G5 H locs hp hw hS => ?_)
      obtain ⟨fw5, hx5, hM, hfr5⟩ := hp
      have hfr := fr_tr hfr hfr5 (Nat.le_refl _) (Nat.le_refl _)
      have hff := hx5
      have hf0 := hff.2 0
      refine lv_aload_n hx hb dX12_few_30 rfl (lv_at hl 0 rfl) ?_
      refine nr_get (own := RX12) (C := RX12) (T := TX12) (N := 19) (v := .ref (ad Γ (mo + 1))) hx hb hts hi_X12_few_X12 hown hw (by omega) (isM_0 hM) rfl 0 (by decide) wl_X12_few_1 rfl rfl dX12_few_31 ?_
      refine lv_bipush (v := nI 20) hx hb dX12_few_34 (by decide) ?_
      refine nr_iald (x := (R 20)) hx hb hw (by omega) (isM_1 hM) rfl (by omega) (by decide) dX12_few_36 ?_
      have hL6 := hB (20)
      refine lv_iload_n hx hb dX12_few_37 rfl (lv_at hl 1 rfl) ?_
      refine nr_goB (P := bt (R 20) jk) (nr_runS (As := [.int (nI (R 20)), .int (nI jk)]) ⟨hx, hb, hml, hown, hts⟩ hw (c_X12_has l Γ n G5 (R 20) jk (by omega) (by omega)) (va_cwS 2 hts gX12_few_X12_has rfl rfl rfl (by decide +kernel) ⟨Nat.le_of_ble_eq_true rfl, Nat.le_of_ble_eq_true rfl⟩) rfl hl.1 rfl (Nat.le_of_ble_eq_true rfl) dX12_few_38 ⟨Nat.zero_le _, Nat.zero_le _⟩) (fun b7 => ?_) (fun b7 => ?_)
      · refine nr_if_eq (tgt := 48) hx hb (by decide) dX12_few_41 (by decide) (fun c8 => absurd c8 (by decide)) (fun c8 => ?_)
        refine lv_iconst (v := nI 0) hx hb dX12_few_44 (by decide) ?_
        refine lv_goto (tgt := 54) hx hb dX12_few_45 (by decide) ?_
        refine lv_istore_n (lv' := [(3, .int (nI 0)), (0, .ref (ad Γ (mo + 0))), (1, .int (nI jk)), (2, .int q)]) hx hb dX12_few_54 rfl hl (by decide) rfl (fun ls hl => ?_)
        refine lv_iload_n hx hb dX12_few_55 rfl (lv_at hl 0 rfl) ?_
        refine nr_ldc (k := 1000000) hx hb hown (hts _ wl_X12_few_3) (by decide) dX12_few_56 ?_
        refine nr_icmp_lt (tgt := 64) hx hb (by decide) (by decide) dX12_few_58 (by decide) (fun c9 => ?_) (fun c9 => absurd c9 (by decide))
        refine lv_iload_n hx hb dX12_few_64 rfl (lv_at hl 3 rfl) ?_
        refine lv_iconst (v := (-1)) hx hb dX12_few_65 (by decide) ?_
        refine lv_icmp_ne (tgt := 73) hx hb dX12_few_66 (by decide) (fun c10 => ?_) (fun c10 => ?_)
        · refine lv_iload_n hx hb dX12_few_73 rfl (lv_at hl 3 rfl) ?_
          refine lv_iload_n hx hb dX12_few_74 rfl (lv_at hl 0 rfl) ?_
          refine lv_icmp_lt (tgt := 83) hx hb dX12_few_75 (by decide) (fun c11 => ?_) (fun c11 => ?_)
          · obtain ⟨y, hy, rfl⟩ := few_q (s := 0) (by omega) (by assumption) (by assumption) (by assumption)
            exact absurd hy (Nat.not_lt_zero y)
          · refine lv_bipush (v := (-5)) hx hb dX12_few_78 (by decide) ?_
            refine lv_goto (tgt := 89) hx hb dX12_few_80 (by decide) ?_
            exact nr_retI hx hb hr hlocks hw hS (Or.inr (⟨jk, hjk, rfl, by assumption, trivial, _, _, ⟨hcc, hff.1, hff.2, by unfold fewA; (first | rw [if_pos (by assumption)] | rw [if_neg (by assumption)]); first | exact Or.inl ⟨by omega, rfl⟩ | exact Or.inr ⟨by omega, Or.inl ⟨by assumption, rfl⟩⟩ | exact Or.inr ⟨by omega, Or.inr (Or.inl ⟨by assumption, Int32.not_lt.mp (by assumption), rfl⟩)⟩ | exact Or.inr ⟨by omega, Or.inr (Or.inr ⟨y, rfl, hy, by assumption⟩)⟩⟩, hM, hfr⟩)) dX12_few_89
        · refine lv_iload_n hx hb dX12_few_69 rfl (lv_at hl 0 rfl) ?_
          refine lv_goto (tgt := 89) hx hb dX12_few_70 (by decide) ?_
          exact nr_retI hx hb hr hlocks hw hS (Or.inr (⟨jk, hjk, rfl, by assumption, trivial, _, _, ⟨hcc, hff.1, hff.2, by unfold fewA; (first | rw [if_pos (by assumption)] | rw [if_neg (by assumption)]); first | exact Or.inl ⟨by omega, rfl⟩ | exact Or.inr ⟨by omega, Or.inl ⟨by assumption, rfl⟩⟩ | exact Or.inr ⟨by omega, Or.inr (Or.inl ⟨by assumption, Int32.not_lt.mp (by assumption), rfl⟩)⟩ | exact Or.inr ⟨by omega, Or.inr (Or.inr ⟨y, rfl, hy, by assumption⟩)⟩⟩, hM, hfr⟩)) dX12_few_89
      · refine nr_if_eq (tgt := 48) hx hb (by decide) dX12_few_41 (by decide) (fun c12 => ?_) (fun c12 => absurd c12 (by decide))
        refine lv_aload_n hx hb dX12_few_48 rfl (lv_at hl 0 rfl) ?_
        refine nr_get (own := RX12) (C := RX12) (T := TX12) (N := 19) (v := .ref (ad Γ (mo + 8))) hx hb hts hi_X12_few_X12 hown hw (by omega) (isM_0 hM) rfl 9 (by decide) wl_X12_few_2 rfl rfl dX12_few_49 ?_
        refine lv_iconst (v := nI 0) hx hb dX12_few_52 (by decide) ?_
        refine nr_iald (x := (fw5 0)) hx hb hw (by omega) (isM_8 hM) rfl (by omega) (by decide) dX12_few_53 ?_
        refine lv_istore_n (lv' := [(3, .int (nI (fw5 0))), (0, .ref (ad Γ (mo + 0))), (1, .int (nI jk)), (2, .int q)]) hx hb dX12_few_54 rfl hl (by decide) rfl (fun ls hl => ?_)
        refine lv_iload_n hx hb dX12_few_55 rfl (lv_at hl 0 rfl) ?_
        refine nr_ldc (k := 1000000) hx hb hown (hts _ wl_X12_few_3) (by decide) dX12_few_56 ?_
        refine nr_icmp_lt (tgt := 64) hx hb (by omega) (by decide) dX12_few_58 (by decide) (fun c13 => ?_) (fun c13 => ?_)
        · refine lv_iload_n hx hb dX12_few_64 rfl (lv_at hl 3 rfl) ?_
          refine lv_iconst (v := (-1)) hx hb dX12_few_65 (by decide) ?_
          refine lv_icmp_ne (tgt := 73) hx hb dX12_few_66 (by decide) (fun c14 => ?_) (fun c14 => ?_)
          · refine lv_iload_n hx hb dX12_few_73 rfl (lv_at hl 3 rfl) ?_
            refine lv_iload_n hx hb dX12_few_74 rfl (lv_at hl 0 rfl) ?_
            refine lv_icmp_lt (tgt := 83) hx hb dX12_few_75 (by decide) (fun c15 => ?_) (fun c15 => ?_)
            · obtain ⟨y, hy, rfl⟩ := few_q (s := fw5 0) (by omega) (by assumption) (by assumption) (by assumption)
              refine lv_aload_n hx hb dX12_few_83 rfl (lv_at hl 1 rfl) ?_
              refine lv_iload_n hx hb dX12_few_84 rfl (lv_at hl 2 rfl) ?_
              refine lv_iload_n hx hb dX12_few_85 rfl (lv_at hl 3 rfl) ?_
              refine nr_goS (nr_runV (As := [.int (nI jk), .int (nI y)]) (C := RX12) (T := TX12) (N := 19) ⟨hx, hb, hml, hown, hts⟩ hw (by omega) (isM_0 hM) rfl (c_X12_strokeAt l Γ n G5 mo R K kp rf ca4 rc hd fw5 tl by0 an vl iv hM (by omega) hI jk y hjk hy (by omega) hcc hff.1 hff.2) (cwV 2 hts gX12_few_X12_strokeAt rfl rfl rfl (by decide +kernel) ⟨Nat.le_of_ble_eq_true rfl, Nat.le_of_ble_eq_true rfl⟩) rfl hl.1 rfl (Nat.le_of_ble_eq_true rfl) dX12_few_86 ⟨Nat.zero_le _, Nat.zero_le _⟩) (fun r16 hr16 => ?_)
              exact nr_retI hx hb hr hlocks hw hS (Or.inr (⟨jk, hjk, rfl, by assumption, trivial, _, _, ⟨hcc, hff.1, hff.2, by unfold fewA; (first | rw [if_pos (by assumption)] | rw [if_neg (by assumption)]); first | exact Or.inl ⟨by omega, rfl⟩ | exact Or.inr ⟨by omega, Or.inl ⟨by assumption, rfl⟩⟩ | exact Or.inr ⟨by omega, Or.inr (Or.inl ⟨by assumption, Int32.not_lt.mp (by assumption), rfl⟩)⟩ | exact Or.inr ⟨by omega, Or.inr (Or.inr ⟨y, rfl, hy, by assumption⟩)⟩⟩, hM, hfr⟩)) dX12_few_89
            · refine lv_bipush (v := (-5)) hx hb dX12_few_78 (by decide) ?_
              refine lv_goto (tgt := 89) hx hb dX12_few_80 (by decide) ?_
              exact nr_retI hx hb hr hlocks hw hS (Or.inr (⟨jk, hjk, rfl, by assumption, trivial, _, _, ⟨hcc, hff.1, hff.2, by unfold fewA; (first | rw [if_pos (by assumption)] | rw [if_neg (by assumption)]); first | exact Or.inl ⟨by omega, rfl⟩ | exact Or.inr ⟨by omega, Or.inl ⟨by assumption, rfl⟩⟩ | exact Or.inr ⟨by omega, Or.inr (Or.inl ⟨by assumption, Int32.not_lt.mp (by assumption), rfl⟩)⟩ | exact Or.inr ⟨by omega, Or.inr (Or.inr ⟨y, rfl, hy, by assumption⟩)⟩⟩, hM, hfr⟩)) dX12_few_89
          · refine lv_iload_n hx hb dX12_few_69 rfl (lv_at hl 0 rfl) ?_
            refine lv_goto (tgt := 89) hx hb dX12_few_70 (by decide) ?_
            exact nr_retI hx hb hr hlocks hw hS (Or.inr (⟨jk, hjk, rfl, by assumption, trivial, _, _, ⟨hcc, hff.1, hff.2, by unfold fewA; (first | rw [if_pos (by assumption)] | rw [if_neg (by assumption)]); first | exact Or.inl ⟨by omega, rfl⟩ | exact Or.inr ⟨by omega, Or.inl ⟨by assumption, rfl⟩⟩ | exact Or.inr ⟨by omega, Or.inr (Or.inl ⟨by assumption, Int32.not_lt.mp (by assumption), rfl⟩)⟩ | exact Or.inr ⟨by omega, Or.inr (Or.inr ⟨y, rfl, hy, by assumption⟩)⟩⟩, hM, hfr⟩)) dX12_few_89
        · refine lv_bipush (v := (-6)) hx hb dX12_few_61 (by decide) ?_
          exact nr_retI hx hb hr hlocks hw hS (Or.inr (⟨jk, hjk, rfl, by assumption, trivial, _, _, ⟨hcc, hff.1, hff.2, by unfold fewA; (first | rw [if_pos (by assumption)] | rw [if_neg (by assumption)]); first | exact Or.inl ⟨by omega, rfl⟩ | exact Or.inr ⟨by omega, Or.inl ⟨by assumption, rfl⟩⟩ | exact Or.inr ⟨by omega, Or.inr (Or.inl ⟨by assumption, Int32.not_lt.mp (by assumption), rfl⟩)⟩ | exact Or.inr ⟨by omega, Or.inr (Or.inr ⟨y, rfl, hy, by assumption⟩)⟩⟩, hM, hfr⟩)) dX12_few_63
    · refine lv_aload_n hx hb dX12_few_13 rfl (lv_at hl 0 rfl) ?_
      refine lv_bipush (v := (-10)) hx hb dX12_few_14 (by decide) ?_
      refine nr_goI (nr_runV (As := [.int (-10)]) (C := RX12) (T := TX12) (N := 19) ⟨hx, hb, hml, hown, hts⟩ hw (by omega) (isM_0 hM) rfl (c_X12_bad l Γ n G mo R K kp rf ca rc hd fw tl by0 an vl iv hM (by omega) hI hj (-10)) (cwV 1 hts gX12_few_X12_bad rfl rfl rfl (by decide +kernel) ⟨Nat.le_of_ble_eq_true rfl, Nat.le_of_ble_eq_true rfl⟩) rfl hl.1 rfl (Nat.le_of_ble_eq_true rfl) dX12_few_16 ⟨Nat.zero_le _, Nat.zero_le _⟩) hw hA hS (fun z17 G17 H locs hp hw hS => ?_)
      obtain ⟨ha17, hM, hfr17⟩ := hp
      have hfr := fr_tr hfr hfr17 (Nat.le_refl _) (Nat.le_refl _)
      subst ha17
      exact nr_retI hx hb hr hlocks hw hS (Or.inl ⟨by intro hh; first | exact absurd hh.1 (by assumption) | exact absurd hh.2 (by assumption), rfl, hM, hfr⟩) dX12_few_19
  · refine nr_if_eq (tgt := 13) hx hb (by decide) dX12_few_5 (by decide) (fun c18 => ?_) (fun c18 => absurd c18 (by decide))
    refine lv_aload_n hx hb dX12_few_13 rfl (lv_at hl 0 rfl) ?_
    refine lv_bipush (v := (-10)) hx hb dX12_few_14 (by decide) ?_
    refine nr_goI (nr_runV (As := [.int (-10)]) (C := RX12) (T := TX12) (N := 19) ⟨hx, hb, hml, hown, hts⟩ hw (by omega) (isM_0 hM) rfl (c_X12_bad l Γ n G mo R K kp rf ca rc hd fw tl by0 an vl iv hM (by omega) hI hj (-10)) (cwV 1 hts gX12_few_X12_bad rfl rfl rfl (by decide +kernel) ⟨Nat.le_of_ble_eq_true rfl, Nat.le_of_ble_eq_true rfl⟩) rfl hl.1 rfl (Nat.le_of_ble_eq_true rfl) dX12_few_16 ⟨Nat.zero_le _, Nat.zero_le _⟩) hw hA hS (fun z19 G19 H locs hp hw hS => ?_)
    obtain ⟨ha19, hM, hfr19⟩ := hp
    have hfr := fr_tr hfr hfr19 (Nat.le_refl _) (Nat.le_refl _)
    subst ha19
    exact nr_retI hx hb hr hlocks hw hS (Or.inl ⟨by intro hh; first | exact absurd hh.1 (by assumption) | exact absurd hh.2 (by assumption), rfl, hM, hfr⟩) dX12_few_19
