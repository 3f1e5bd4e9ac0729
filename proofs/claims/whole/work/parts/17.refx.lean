section SX
theorem lfJ_ca {ca ca2 F : Nat → Nat} {k wo w : Nat} (h : ca w = ca2 w) : ∀ j, lfJ ca F k wo w j = lfJ ca2 F k wo w j
  | 0 => by unfold lfJ; rw [h]
  | j + 1 => by rw [lfJ_s, lfJ_s, lfJ_ca h j, h]
theorem fw_one {ca F F2 : Nat → Nat} {k wo m : Nat} (hca : ∀ w, w < 2 ^ m → ∀ i, bt (ca w) i → i < m ∧ ¬ bt w i) (hF : ∀ w, w < 2 ^ m → F w = lfJ ca F k wo w m) (hF2 : ∀ w, w < 2 ^ m → F2 w = lfJ ca F2 k wo w m) : ∀ (d w : Nat), w < 2 ^ m → 2 ^ m - w ≤ d → F w = F2 w
  | 0, w, h1, h2 => by omega
  | d + 1, w, h1, h2 => by
    rw [hF w h1, hF2 w h1]
    refine lfJ_cong (m := m) (fun j hj hb => ?_) m (Nat.le_refl _)
    obtain ⟨g1, g2⟩ := or_up h1 hj (hca w h1 j hb).2
    exact fw_one hca hF hF2 d _ g2 (by omega)
def blkR (R : Nat → Nat) (k S : Nat) : Prop := ∃ F : Nat → Nat, (∀ w, w < 2 ^ R 1 → F w = lfJ (canS R) F k S w (R 1)) ∧ 1000000 ≤ F 0
theorem blk_y {R ca F : Nat → Nat} {k S : Nat} (hca : ∀ w, w < 2 ^ R 1 → ca w = canS R w) (hF : ∀ w, w < 2 ^ R 1 → F w = lfJ ca F k S w (R 1)) (h : 1000000 ≤ F 0) : blkR R k S :=
  ⟨F, fun w hw9 => by rw [hF w hw9]; exact lfJ_ca (hca w hw9) _, h⟩
theorem blk_n {R ca F : Nat → Nat} {k S : Nat} (hca : ∀ w, w < 2 ^ R 1 → ca w = canS R w) (hF : ∀ w, w < 2 ^ R 1 → F w = lfJ ca F k S w (R 1)) (h : F 0 < 1000000) : ¬ blkR R k S := by
  rintro ⟨F2, h2, h3⟩
  have := fw_one (ca := canS R) (F := F) (F2 := F2) (k := k) (wo := S) (m := R 1) (fun w _ i hb => ⟨(canS_bt hb).1, (canS_bt hb).2.2.1⟩) (fun w hw9 => by rw [hF w hw9]; exact lfJ_ca (hca w hw9) _) h2 (2 ^ R 1) 0 (Nat.two_pow_pos _) (Nat.sub_le _ _)
  omega
abbrev hushV (R : Nat → Nat) (k S : Nat) : Prop := ¬ bt S k ∧ S &&& R 20 = 0
def hushI (R : Nat → Nat) (k q : Nat) (bs : Int32) : Prop := (bs = -1 ∧ ∀ S, S < q → hushV R k S → ¬ blkR R k S) ∨ ∃ b, b < q ∧ b < 256 ∧ bs = nI b ∧ hushV R k b ∧ blkR R k b ∧ ∀ S, S < q → hushV R k S → blkR R k S → pc8 b < pc8 S ∨ (pc8 b = pc8 S ∧ b ≤ S)
theorem hush_s1 {R : Nat → Nat} {k q : Nat} {bs : Int32} (h : hushI R k q bs) (hn : hushV R k q → ¬ blkR R k q) : hushI R k (q + 1) bs := by
  rcases h with ⟨h1, h2⟩ | ⟨b, h1, h2, h3, h4, h5, h6⟩
  · refine Or.inl ⟨h1, fun S hS hv => ?_⟩
    rcases Nat.lt_or_eq_of_le (Nat.le_of_lt_succ hS) with z | z
    · exact h2 S z hv
    · rw [z] at hv ⊢; exact hn hv
  · refine Or.inr ⟨b, by omega, h2, h3, h4, h5, fun S hS hv hb => ?_⟩
    rcases Nat.lt_or_eq_of_le (Nat.le_of_lt_succ hS) with z | z
    · exact h6 S z hv hb
    · rw [z] at hv hb; exact absurd hb (hn hv)
theorem hush_s3 {R : Nat → Nat} {k q b : Nat} (h : hushI R k q (nI b)) (hb : b < 256) (hn : pc8 b ≤ pc8 q) : hushI R k (q + 1) (nI b) := by
  rcases h with ⟨h1, h2⟩ | ⟨b2, h1, h2, h3, h4, h5, h6⟩
  · exact absurd h1 (fun h => by
      have := congrArg Int32.toInt h
      rw [nI_toInt (by omega)] at this
      have c : (-1 : Int32).toInt = -1 := by decide
      rw [c] at this
      omega)
  · obtain rfl : b = b2 := (nI_eq (by omega) (by omega)).mp h3
    refine Or.inr ⟨b, by omega, h2, rfl, h4, h5, fun S hS hv hb => ?_⟩
    rcases Nat.lt_or_eq_of_le (Nat.le_of_lt_succ hS) with z | z
    · exact h6 S z hv hb
    · rw [z]; omega
theorem hush_t {R : Nat → Nat} {k q : Nat} {bs : Int32} (h : hushI R k q bs) (hq : q < 256) (hv : hushV R k q) (hb : blkR R k q) (hf : bs = -1 ∨ ∃ b, bs = nI b ∧ b < 256 ∧ pc8 q < pc8 b) : hushI R k (q + 1) (nI q) := by
  refine Or.inr ⟨q, by omega, hq, rfl, hv, hb, fun S hS hv2 hb2 => ?_⟩
  rcases Nat.lt_or_eq_of_le (Nat.le_of_lt_succ hS) with z | z
  · rcases h with ⟨h1, h2⟩ | ⟨b2, h1, h2, h3, h4, h5, h6⟩
    · exact absurd hb2 (h2 S z hv2)
    · rcases hf with h7 | ⟨b, h7, h8, h9⟩
      · rw [h7] at h3
        exact absurd h3 (fun h => by
          have := congrArg Int32.toInt h
          rw [nI_toInt (by omega)] at this
          have c : (-1 : Int32).toInt = -1 := by decide
          rw [c] at this
          omega)
      · rw [h7] at h3
        obtain rfl : b = b2 := (nI_eq (by omega) (by omega)).mp h3
        have := h6 S z hv2 hb2
        omega
  · rw [z]; omega
/-- which sets the peal goes through: rc as the reference fills it -/
abbrev rchE (R rc : Nat → Nat) (w : Nat) : Prop := w = 0 ∨ ∃ j, j < R 1 ∧ bt w j ∧ rc (w &&& (2 ^ j ^^^ 4294967295)) = 1 ∧ bt (canS R (w &&& (2 ^ j ^^^ 4294967295))) j
theorem clr_lt {w j : Nat} (hb : bt w j) (hj : j < 32) : w &&& (2 ^ j ^^^ 4294967295) < w := by
  rcases Nat.lt_or_eq_of_le (Nat.and_le_left (n := w) (m := 2 ^ j ^^^ 4294967295)) with q | q
  · exact q
  · have h1 : bt (w &&& (2 ^ j ^^^ 4294967295)) j := by rw [q]; exact hb
    rw [bt_and, bt_neg hj, bt_2] at h1
    exact absurd rfl h1.2
end SX
theorem wl_X12_hush_1 : Cond.fieldLink RX12 7 "BellForgivenModel" "all" "[I" ∈ wsX12_hush := List.mem_of_getElem? (i := 1) rfl
theorem wl_X12_hush_2 : Cond.fieldLink RX12 36 "BellForgivenModel" "fewest" "[I" ∈ wsX12_hush := List.mem_of_getElem? (i := 2) rfl
theorem wl_X12_hush_3 : Cond.constant RX12 155 (1000000) ∈ wsX12_hush := List.mem_of_getElem? (i := 3) rfl
theorem hi_X12_hush_X12 : ∀ w ∈ u_ws RX12 TX12 19, w ∈ wsX12_hush := fun w h => (List.mem_cons_of_mem _ (List.mem_append_right _ h))
set_option maxHeartbeats 4000000 in
set_option maxRecDepth 100000 in
theorem c_X12_hush (l : Launch) (Γ : Gam) (n : Nat) (G : Nat → va_E) (mo : Nat) (R K kp rf ca rc hd fw tl by0 an vl iv : Nat → Nat) (hM : isM Γ G mo R K kp rf ca rc hd fw tl by0 an vl iv) (hmo : mo + 13 ≤ n) (hI : vI R) (hj : winj Γ n) (k : Int32) (hfw : ∀ j, fw j ≤ 1000000)  : Met l yX12_hush wsX12_hush ({ frames := 4, cells := 0, slots := 0, locals := 90 }) (va_Pc [.ref (ad Γ (mo + 0)), .int k] (fun U => hw Γ n G U U.heap)) (wQi Γ n (fun z G2 => ((¬ vBel (R 1) k) ∧ (z = -2) ∧ isM Γ G2 mo R K kp (bmp rf 0) ca rc hd fw tl by0 an vl iv ∧ fr G G2 mo (mo + 13)) ∨ (∃ jk : Nat, (jk < R 1) ∧ (k = nI jk) ∧ (hushI R jk (2 ^ R 1) z) ∧ ∃ ca2 : Nat → Nat, ∃ fw2 : Nat → Nat, (∀ j, fw2 j ≤ 1000000) ∧ isM Γ G2 mo R K kp rf ca2 rc hd fw2 tl by0 an vl iv ∧ fr G G2 mo (mo + 13)))) 0 0 (wA Γ n) := by
  refine Met.ofW (cc := cX12_hush) (maxL := 5) (ret := (some .int)) (by decide) rfl ?_
  intro p e s m args below meth c s₁ B hml hv
  obtain ⟨rfl, hw⟩ := hv
  have hx := B.exec
  have hb := B.bytes
  have hr := B.returns
  have hts := atoms_spec (ws := wsX12_hush) B.pre
  have hown : s.vm.findClass RX12 = some m.cls := findClass_of_methodNamed B.named
  have hlocks := B.notSynchronized
  have hS : va_S (wA Γ n) s.heap s.heap [] := va_S.rf
  have hA : ∀ q, wA Γ n q → wA Γ n q := fun _ h => h
  have hl := lv_entry ([.ref (ad Γ (mo + 0)), .int k]) (n := 5) (Nat.le_of_ble_eq_true rfl)
  rw [lg_entry_eq]
  generalize (lg_sl ([.ref (ad Γ (mo + 0)), .int k]) ++ List.replicate (5 - (lg_sl ([.ref (ad Γ (mo + 0)), .int k])).length) Slot.unset).toArray = ls at hl ⊢
  have hl : lv_has ls 5 [(0, .ref (ad Γ (mo + 0))), (1, .int k)] := hl
  have hfr := fr_rf G mo (mo + 13)
  have hB := hI.1
  have hB0 := hI.2.1
  have hB1 := hI.2.2.1
  have hB20 := hI.2.2.2.2.2.2.2.2.2
  have hBz2 := hI.2.2.2.1
  have hBz3 := hI.2.2.2.2.1
  have hBz4 := hI.2.2.2.2.2.1
  have hBz5 := hI.2.2.2.2.2.2.1
  have hby := hI.2.2.2.2.2.2.2.1
  have hto := hI.2.2.2.2.2.2.2.2.1
  have h2p := p2_le hB1
  refine lv_aload_n hx hb dX12_hush_0 rfl (lv_at hl 0 rfl) ?_
  refine lv_iload_n hx hb dX12_hush_1 rfl (lv_at hl 1 rfl) ?_
  refine nr_goB (P := ∃ j, j < R 1 ∧ k = nI j) (nr_runV (As := [.int k]) (C := RX12) (T := TX12) (N := 19) ⟨hx, hb, hml, hown, hts⟩ hw (by omega) (isM_0 hM) rfl (c_X12_isWrong l Γ n G mo R K kp rf ca rc hd fw tl by0 an vl iv hM (by omega) hI k) (cwV 1 hts gX12_hush_X12_isWrong rfl rfl rfl (by decide +kernel) ⟨Nat.le_of_ble_eq_true rfl, Nat.le_of_ble_eq_true rfl⟩) rfl hl.1 rfl (Nat.le_of_ble_eq_true rfl) dX12_hush_2 ⟨Nat.zero_le _, Nat.zero_le _⟩) (fun b1 => ?_) (fun b1 => ?_)
  · obtain ⟨jk, hjk, rfl⟩ := b1
    refine nr_if_ne (tgt := 15) hx hb (by decide) dX12_hush_5 (by decide) (fun c2 => ?_) (fun c2 => absurd c2 (by decide))
    refine lv_iconst (v := (-1)) hx hb dX12_hush_15 (by decide) ?_
    refine lv_istore_n (lv' := [(2, .int (-1)), (0, .ref (ad Γ (mo + 0))), (1, .int (nI jk))]) hx hb dX12_hush_16 rfl hl (by decide) rfl (fun ls hl => ?_)
    refine lv_aload_n hx hb dX12_hush_17 rfl (lv_at hl 1 rfl) ?_
    refine nr_goV (nr_runV (As := []) (C := RX12) (T := TX12) (N := 19) ⟨hx, hb, hml, hown, hts⟩ hw (by omega) (isM_0 hM) rfl (c_X12_layCan l Γ n G mo R K kp rf ca rc hd fw tl by0 an vl iv hM (by omega) hI hj) (cwV 0 hts gX12_hush_X12_layCan rfl rfl rfl (by decide +kernel) ⟨Nat.le_of_ble_eq_true rfl, Nat.le_of_ble_eq_true rfl⟩) rfl hl.1 rfl (Nat.le_of_ble_eq_true rfl) dX12_hush_18 ⟨Nat.zero_le _, Nat.zero_le _⟩) hw hA hS (fun G3 H locs hp hw hS => ?_)
    obtain ⟨ca3, hx3, hM, hfr3⟩ := hp
    have hfr := fr_tr hfr hfr3 (Nat.le_refl _) (Nat.le_refl _)
    have hcc := hx3
    refine lv_iconst (v := nI 0) hx hb dX12_hush_21 (by decide) ?_
    refine lv_istore_n (lv' := [(3, .int (nI 0)), (2, .int (-1)), (0, .ref (ad Γ (mo + 0))), (1, .int (nI jk))]) hx hb dX12_hush_22 rfl hl (by decide) rfl (fun ls hl => ?_)
    refine nr_lpI (σ := (Nat → va_E) × Nat × Int32 × (Nat → Nat)) 23 (fun x => x.1) (fun x lv => lv = [(0, .ref (ad Γ (mo + 0))), (1, .int (nI jk)), (2, .int x.2.2.1), (3, .int (nI x.2.1))] ∧ isM Γ x.1 mo R K kp rf ca3 rc hd x.2.2.2 tl by0 an vl iv ∧ fr G x.1 mo (mo + 13) ∧ (x.2.1 ≤ 2 ^ R 1) ∧ (hushI R jk x.2.1 x.2.2.1) ∧ (∀ y, x.2.2.2 y ≤ 1000000)) (fun x => 2 ^ R 1 - x.2.1) (G3, 0, (-1), fw) hw hS (lv_sub hl [2, 3, 1, 0] rfl) ⟨rfl, hM, hfr, Nat.zero_le _, by (try dsimp only); exact (Or.inl ⟨rfl, fun S hS => absurd hS (Nat.not_lt_zero S)⟩), by (try dsimp only); exact (hfw)⟩ ?_
    intro x lv ls H locs hw hS hl hI ih23
    obtain ⟨Gl23, S, bs, fwL23⟩ := x
    obtain ⟨rfl, hM, hfr, hS1, hhi, hfl⟩ := hI
    try dsimp only at hM hfr hS1 hhi hfl hw hl ih23
    have hsa : S &&& R 20 ≤ S := Nat.and_le_left
    have hps := pc8_le S
    refine lv_iload_n hx hb dX12_hush_23 rfl (lv_at hl 3 rfl) ?_
    refine lv_iconst (v := nI 1) hx hb dX12_hush_24 (by decide) ?_
    refine lv_aload_n hx hb dX12_hush_25 rfl (lv_at hl 0 rfl) ?_
    refine nr_goS (nr_runV (As := []) (C := RX12) (T := TX12) (N := 19) ⟨hx, hb, hml, hown, hts⟩ hw (by omega) (isM_0 hM) rfl (c_X12_many l Γ n Gl23 mo R K kp rf ca3 rc hd fwL23 tl by0 an vl iv hM (by omega) hI) (cwV 0 hts gX12_hush_X12_many rfl rfl rfl (by decide +kernel) ⟨Nat.le_of_ble_eq_true rfl, Nat.le_of_ble_eq_true rfl⟩) rfl hl.1 rfl (Nat.le_of_ble_eq_true rfl) dX12_hush_26 ⟨Nat.zero_le _, Nat.zero_le _⟩) (fun r4 hr4 => ?_)
    obtain rfl : r4 = (nI (R 1)) := hr4
    refine nr_ishl1 hx hb (by omega) dX12_hush_29 ?_
    refine nr_icmp_ge (tgt := 110) hx hb (by omega) (by omega) dX12_hush_30 (by decide) (fun c5 => ?_) (fun c5 => ?_)
    · refine lv_iload_n hx hb dX12_hush_110 rfl (lv_at hl 2 rfl) ?_
      exact nr_retI hx hb hr hlocks hw hS (Or.inr (⟨jk, hjk, rfl, by rw [show 2 ^ R 1 = S by omega]; exact hhi, _, _, hfl, hM, hfr⟩)) dX12_hush_111
    · refine lv_iload_n hx hb dX12_hush_33 rfl (lv_at hl 2 rfl) ?_
      refine lv_iconst (v := (-1)) hx hb dX12_hush_34 (by decide) ?_
      refine lv_icmp_eq (tgt := 49) hx hb dX12_hush_35 (by decide) (fun c6 => ?_) (fun c6 => ?_)
      · refine lv_iconst (v := nI 1) hx hb dX12_hush_49 (by decide) ?_
        refine lv_goto (tgt := 54) hx hb dX12_hush_50 (by decide) ?_
        refine lv_istore (lv' := [(4, .int (nI 1)), (0, .ref (ad Γ (mo + 0))), (1, .int (nI jk)), (2, .int bs), (3, .int (nI S))]) hx hb dX12_hush_54 hl (by decide) rfl (fun ls hl => ?_)
        refine lv_iload hx hb dX12_hush_56 (lv_at hl 0 rfl) ?_
        refine nr_if_eq (tgt := 104) hx hb (by decide) dX12_hush_58 (by decide) (fun c7 => absurd c7 (by decide)) (fun c7 => ?_)
        refine lv_iload_n hx hb dX12_hush_61 rfl (lv_at hl 4 rfl) ?_
        refine lv_iload_n hx hb dX12_hush_62 rfl (lv_at hl 2 rfl) ?_
        refine nr_goB (P := bt S jk) (nr_runS (As := [.int (nI S), .int (nI jk)]) ⟨hx, hb, hml, hown, hts⟩ hw (c_X12_has l Γ n Gl23 S jk (by omega) (by omega)) (va_cwS 2 hts gX12_hush_X12_has rfl rfl rfl (by decide +kernel) ⟨Nat.le_of_ble_eq_true rfl, Nat.le_of_ble_eq_true rfl⟩) rfl hl.1 rfl (Nat.le_of_ble_eq_true rfl) dX12_hush_63 ⟨Nat.zero_le _, Nat.zero_le _⟩) (fun b8 => ?_) (fun b8 => ?_)
        · refine nr_if_ne (tgt := 104) hx hb (by decide) dX12_hush_66 (by decide) (fun c9 => ?_) (fun c9 => absurd c9 (by decide))
          refine nr_inc (d := 1) (k := 4) (lv' := [(3, .int (nI (S + 1))), (4, .int (nI 1)), (0, .ref (ad Γ (mo + 0))), (1, .int (nI jk)), (2, .int bs)]) hx hb dX12_hush_104 hl rfl (by decide) (by decide) rfl (fun ls hl => ?_)
          refine lv_goto (tgt := 23) hx hb dX12_hush_107 (by decide) ?_
          exact ih23 (Gl23, S + 1, bs, fwL23) _ _ _ _ hw hS (lv_sub hl [2, 3, 4, 0] rfl) ⟨rfl, hM, hfr, by (try dsimp only); omega, by (try dsimp only); first | exact hush_s3 hhi (by omega) (by omega) | exact hush_s1 hhi (fun z => absurd z.1 (by first | assumption | (intro y; exact y (by assumption)))) | exact hush_s1 hhi (fun z => absurd z.2 (by assumption)) | exact hush_s1 hhi (fun _ => blk_n hcc hff.1 (by omega)) | exact hush_t hhi (by omega) ⟨by assumption, by assumption⟩ (blk_y hcc hff.1 (by omega)) (Or.inl (by assumption)) | exact hush_t hhi (by omega) ⟨by assumption, by assumption⟩ (blk_y hcc hff.1 (by omega)) (Or.inr ⟨b9, rfl, by omega, by omega⟩), by (try dsimp only); first | exact hfl | exact hff.2⟩ (by (try dsimp only); omega)
        · refine nr_if_ne (tgt := 104) hx hb (by decide) dX12_hush_66 (by decide) (fun c10 => absurd c10 (by decide)) (fun c10 => ?_)
          refine lv_iload_n hx hb dX12_hush_69 rfl (lv_at hl 4 rfl) ?_
          refine lv_aload_n hx hb dX12_hush_70 rfl (lv_at hl 1 rfl) ?_
          refine nr_get (own := RX12) (C := RX12) (T := TX12) (N := 19) (v := .ref (ad Γ (mo + 1))) hx hb hts hi_X12_hush_X12 hown hw (by omega) (isM_0 hM) rfl 0 (by decide) wl_X12_hush_1 rfl rfl dX12_hush_71 ?_
          refine lv_bipush (v := nI 20) hx hb dX12_hush_74 (by decide) ?_
          refine nr_iald (x := (R 20)) hx hb hw (by omega) (isM_1 hM) rfl (by omega) (by decide) dX12_hush_76 ?_
          have hL11 := hB (20)
          refine nr_iand hx hb dX12_hush_77 ?_
          refine nr_if_ne (tgt := 104) hx hb (by omega) dX12_hush_78 (by decide) (fun c12 => ?_) (fun c12 => ?_)
          · refine nr_inc (d := 1) (k := 4) (lv' := [(3, .int (nI (S + 1))), (4, .int (nI 1)), (0, .ref (ad Γ (mo + 0))), (1, .int (nI jk)), (2, .int bs)]) hx hb dX12_hush_104 hl rfl (by decide) (by decide) rfl (fun ls hl => ?_)
            refine lv_goto (tgt := 23) hx hb dX12_hush_107 (by decide) ?_
            exact ih23 (Gl23, S + 1, bs, fwL23) _ _ _ _ hw hS (lv_sub hl [2, 3, 4, 0] rfl) ⟨rfl, hM, hfr, by (try dsimp only); omega, by (try dsimp only); first | exact hush_s3 hhi (by omega) (by omega) | exact hush_s1 hhi (fun z => absurd z.1 (by first | assumption | (intro y; exact y (by assumption)))) | exact hush_s1 hhi (fun z => absurd z.2 (by assumption)) | exact hush_s1 hhi (fun _ => blk_n hcc hff.1 (by omega)) | exact hush_t hhi (by omega) ⟨by assumption, by assumption⟩ (blk_y hcc hff.1 (by omega)) (Or.inl (by assumption)) | exact hush_t hhi (by omega) ⟨by assumption, by assumption⟩ (blk_y hcc hff.1 (by omega)) (Or.inr ⟨b9, rfl, by omega, by omega⟩), by (try dsimp only); first | exact hfl | exact hff.2⟩ (by (try dsimp only); omega)
          · refine lv_aload_n hx hb dX12_hush_81 rfl (lv_at hl 1 rfl) ?_
            refine lv_iload_n hx hb dX12_hush_82 rfl (lv_at hl 2 rfl) ?_
            refine lv_iload_n hx hb dX12_hush_83 rfl (lv_at hl 4 rfl) ?_
            refine nr_goV (nr_runV (As := [.int (nI jk), .int (nI S)]) (C := RX12) (T := TX12) (N := 19) ⟨hx, hb, hml, hown, hts⟩ hw (by omega) (isM_0 hM) rfl (c_X12_layFewest l Γ n Gl23 mo R K kp rf ca3 rc hd fwL23 tl by0 an vl iv hM (by omega) hI hj jk S (by omega) (by omega) hcc hfl) (cwV 2 hts gX12_hush_X12_layFewest rfl rfl rfl (by decide +kernel) ⟨Nat.le_of_ble_eq_true rfl, Nat.le_of_ble_eq_true rfl⟩) rfl hl.1 rfl (Nat.le_of_ble_eq_true rfl) dX12_hush_84 ⟨Nat.zero_le _, Nat.zero_le _⟩) hw hA hS (fun G13 H locs hp hw hS => ?_)
            obtain ⟨fw13, hx13, hM, hfr13⟩ := hp
            have hfr := fr_tr hfr hfr13 (Nat.le_refl _) (Nat.le_refl _)
            have hff := hx13
            have hf0 := hff.2 0
            refine lv_aload_n hx hb dX12_hush_87 rfl (lv_at hl 1 rfl) ?_
            refine nr_get (own := RX12) (C := RX12) (T := TX12) (N := 19) (v := .ref (ad Γ (mo + 8))) hx hb hts hi_X12_hush_X12 hown hw (by omega) (isM_0 hM) rfl 9 (by decide) wl_X12_hush_2 rfl rfl dX12_hush_88 ?_
            refine lv_iconst (v := nI 0) hx hb dX12_hush_91 (by decide) ?_
            refine nr_iald (x := (fw13 0)) hx hb hw (by omega) (isM_8 hM) rfl (by omega) (by decide) dX12_hush_92 ?_
            refine nr_ldc (k := 1000000) hx hb hown (hts _ wl_X12_hush_3) (by decide) dX12_hush_93 ?_
            refine nr_icmp_lt (tgt := 102) hx hb (by omega) (by decide) dX12_hush_95 (by decide) (fun c14 => ?_) (fun c14 => ?_)
            · refine lv_iload_n hx hb dX12_hush_102 rfl (lv_at hl 3 rfl) ?_
              refine lv_istore_n (lv' := [(2, .int bs), (4, .int (nI 1)), (0, .ref (ad Γ (mo + 0))), (1, .int (nI jk)), (3, .int (nI S))]) hx hb dX12_hush_103 rfl hl (by decide) rfl (fun ls hl => ?_)
              refine nr_inc (d := 1) (k := 4) (lv' := [(3, .int (nI (S + 1))), (2, .int bs), (4, .int (nI 1)), (0, .ref (ad Γ (mo + 0))), (1, .int (nI jk))]) hx hb dX12_hush_104 hl rfl (by decide) (by decide) rfl (fun ls hl => ?_)
              refine lv_goto (tgt := 23) hx hb dX12_hush_107 (by decide) ?_
              exact ih23 (G13, S + 1, bs, fw13) _ _ _ _ hw hS (lv_sub hl [3, 4, 1, 0] rfl) ⟨rfl, hM, hfr, by (try dsimp only); omega, by (try dsimp only); first | exact hush_s3 hhi (by omega) (by omega) | exact hush_s1 hhi (fun z => absurd z.1 (by first | assumption | (intro y; exact y (by assumption)))) | exact hush_s1 hhi (fun z => absurd z.2 (by assumption)) | exact hush_s1 hhi (fun _ => blk_n hcc hff.1 (by omega)) | exact hush_t hhi (by omega) ⟨by assumption, by assumption⟩ (blk_y hcc hff.1 (by omega)) (Or.inl (by assumption)) | exact hush_t hhi (by omega) ⟨by assumption, by assumption⟩ (blk_y hcc hff.1 (by omega)) (Or.inr ⟨b9, rfl, by omega, by omega⟩), by (try dsimp only); first | exact hfl | exact hff.2⟩ (by (try dsimp only); omega)
            · refine lv_iload_n hx hb dX12_hush_98 rfl (lv_at hl 4 rfl) ?_
              refine lv_goto (tgt := 103) hx hb dX12_hush_99 (by decide) ?_
              refine lv_istore_n (lv' := [(2, .int (nI S)), (4, .int (nI 1)), (0, .ref (ad Γ (mo + 0))), (1, .int (nI jk)), (3, .int (nI S))]) hx hb dX12_hush_103 rfl hl (by decide) rfl (fun ls hl => ?_)
              refine nr_inc (d := 1) (k := 4) (lv' := [(3, .int (nI (S + 1))), (2, .int (nI S)), (4, .int (nI 1)), (0, .ref (ad Γ (mo + 0))), (1, .int (nI jk))]) hx hb dX12_hush_104 hl rfl (by decide) (by decide) rfl (fun ls hl => ?_)
              refine lv_goto (tgt := 23) hx hb dX12_hush_107 (by decide) ?_
              exact ih23 (G13, S + 1, (nI S), fw13) _ _ _ _ hw hS (lv_sub hl [3, 4, 1, 0] rfl) ⟨rfl, hM, hfr, by (try dsimp only); omega, by (try dsimp only); first | exact hush_s3 hhi (by omega) (by omega) | exact hush_s1 hhi (fun z => absurd z.1 (by first | assumption | (intro y; exact y (by assumption)))) | exact hush_s1 hhi (fun z => absurd z.2 (by assumption)) | exact hush_s1 hhi (fun _ => blk_n hcc hff.1 (by omega)) | exact hush_t hhi (by omega) ⟨by assumption, by assumption⟩ (blk_y hcc hff.1 (by omega)) (Or.inl (by assumption)) | exact hush_t hhi (by omega) ⟨by assumption, by assumption⟩ (blk_y hcc hff.1 (by omega)) (Or.inr ⟨b9, rfl, by omega, by omega⟩), by (try dsimp only); first | exact hfl | exact hff.2⟩ (by (try dsimp only); omega)
      · obtain ⟨b9, hb1, hb2, rfl, hb3, hb4, hb5⟩ := hhi.resolve_left (fun z => absurd z.1 (by assumption))
        have hpb := pc8_le b9
        refine lv_iload_n hx hb dX12_hush_38 rfl (lv_at hl 3 rfl) ?_
        refine nr_goS (nr_runS (As := [.int (nI S)]) ⟨hx, hb, hml, hown, hts⟩ hw (c_X12_bits l Γ n Gl23 S (by omega)) (va_cwS 1 hts gX12_hush_X12_bits rfl rfl rfl (by decide +kernel) ⟨Nat.le_of_ble_eq_true rfl, Nat.le_of_ble_eq_true rfl⟩) rfl hl.1 rfl (Nat.le_of_ble_eq_true rfl) dX12_hush_39 ⟨Nat.zero_le _, Nat.zero_le _⟩) (fun r15 hr15 => ?_)
        obtain rfl : r15 = (nI (pc8 S)) := hr15
        refine lv_iload_n hx hb dX12_hush_42 rfl (lv_at hl 2 rfl) ?_
        refine nr_goS (nr_runS (As := [.int (nI b9)]) ⟨hx, hb, hml, hown, hts⟩ hw (c_X12_bits l Γ n Gl23 b9 (by omega)) (va_cwS 1 hts gX12_hush_X12_bits rfl rfl rfl (by decide +kernel) ⟨Nat.le_of_ble_eq_true rfl, Nat.le_of_ble_eq_true rfl⟩) rfl hl.1 rfl (Nat.le_of_ble_eq_true rfl) dX12_hush_43 ⟨Nat.zero_le _, Nat.zero_le _⟩) (fun r16 hr16 => ?_)
        obtain rfl : r16 = (nI (pc8 b9)) := hr16
        refine nr_icmp_ge (tgt := 53) hx hb (by omega) (by omega) dX12_hush_46 (by decide) (fun c17 => ?_) (fun c17 => ?_)
        · refine lv_iconst (v := nI 0) hx hb dX12_hush_53 (by decide) ?_
          refine lv_istore (lv' := [(4, .int (nI 0)), (0, .ref (ad Γ (mo + 0))), (1, .int (nI jk)), (2, .int (nI b9)), (3, .int (nI S))]) hx hb dX12_hush_54 hl (by decide) rfl (fun ls hl => ?_)
          refine lv_iload hx hb dX12_hush_56 (lv_at hl 0 rfl) ?_
          refine nr_if_eq (tgt := 104) hx hb (by decide) dX12_hush_58 (by decide) (fun c18 => ?_) (fun c18 => absurd c18 (by decide))
          refine nr_inc (d := 1) (k := 4) (lv' := [(3, .int (nI (S + 1))), (4, .int (nI 0)), (0, .ref (ad Γ (mo + 0))), (1, .int (nI jk)), (2, .int (nI b9))]) hx hb dX12_hush_104 hl rfl (by decide) (by decide) rfl (fun ls hl => ?_)
          refine lv_goto (tgt := 23) hx hb dX12_hush_107 (by decide) ?_
          exact ih23 (Gl23, S + 1, (nI b9), fwL23) _ _ _ _ hw hS (lv_sub hl [2, 3, 4, 0] rfl) ⟨rfl, hM, hfr, by (try dsimp only); omega, by (try dsimp only); first | exact hush_s3 hhi (by omega) (by omega) | exact hush_s1 hhi (fun z => absurd z.1 (by first | assumption | (intro y; exact y (by assumption)))) | exact hush_s1 hhi (fun z => absurd z.2 (by assumption)) | exact hush_s1 hhi (fun _ => blk_n hcc hff.1 (by omega)) | exact hush_t hhi (by omega) ⟨by assumption, by assumption⟩ (blk_y hcc hff.1 (by omega)) (Or.inl (by assumption)) | exact hush_t hhi (by omega) ⟨by assumption, by assumption⟩ (blk_y hcc hff.1 (by omega)) (Or.inr ⟨b9, rfl, by omega, by omega⟩), by (try dsimp only); first | exact hfl | exact hff.2⟩ (by (try dsimp only); omega)
        · refine lv_iconst (v := nI 1) hx hb dX12_hush_49 (by decide) ?_
          refine lv_goto (tgt := 54) hx hb dX12_hush_50 (by decide) ?_
          refine lv_istore (lv' := [(4, .int (nI 1)), (0, .ref (ad Γ (mo + 0))), (1, .int (nI jk)), (2, .int (nI b9)), (3, .int (nI S))]) hx hb dX12_hush_54 hl (by decide) rfl (fun ls hl => ?_)
          refine lv_iload hx hb dX12_hush_56 (lv_at hl 0 rfl) ?_
          refine nr_if_eq (tgt := 104) hx hb (by decide) dX12_hush_58 (by decide) (fun c19 => absurd c19 (by decide)) (fun c19 => ?_)
          refine lv_iload_n hx hb dX12_hush_61 rfl (lv_at hl 4 rfl) ?_
          refine lv_iload_n hx hb dX12_hush_62 rfl (lv_at hl 2 rfl) ?_
          refine nr_goB (P := bt S jk) (nr_runS (As := [.int (nI S), .int (nI jk)]) ⟨hx, hb, hml, hown, hts⟩ hw (c_X12_has l Γ n Gl23 S jk (by omega) (by omega)) (va_cwS 2 hts gX12_hush_X12_has rfl rfl rfl (by decide +kernel) ⟨Nat.le_of_ble_eq_true rfl, Nat.le_of_ble_eq_true rfl⟩) rfl hl.1 rfl (Nat.le_of_ble_eq_true rfl) dX12_hush_63 ⟨Nat.zero_le _, Nat.zero_le _⟩) (fun b20 => ?_) (fun b20 => ?_)
          · refine nr_if_ne (tgt := 104) hx hb (by decide) dX12_hush_66 (by decide) (fun c21 => ?_) (fun c21 => absurd c21 (by decide))
            refine nr_inc (d := 1) (k := 4) (lv' := [(3, .int (nI (S + 1))), (4, .int (nI 1)), (0, .ref (ad Γ (mo + 0))), (1, .int (nI jk)), (2, .int (nI b9))]) hx hb dX12_hush_104 hl rfl (by decide) (by decide) rfl (fun ls hl => ?_)
            refine lv_goto (tgt := 23) hx hb dX12_hush_107 (by decide) ?_
            exact ih23 (Gl23, S + 1, (nI b9), fwL23) _ _ _ _ hw hS (lv_sub hl [2, 3, 4, 0] rfl) ⟨rfl, hM, hfr, by (try dsimp only); omega, by (try dsimp only); first | exact hush_s3 hhi (by omega) (by omega) | exact hush_s1 hhi (fun z => absurd z.1 (by first | assumption | (intro y; exact y (by assumption)))) | exact hush_s1 hhi (fun z => absurd z.2 (by assumption)) | exact hush_s1 hhi (fun _ => blk_n hcc hff.1 (by omega)) | exact hush_t hhi (by omega) ⟨by assumption, by assumption⟩ (blk_y hcc hff.1 (by omega)) (Or.inl (by assumption)) | exact hush_t hhi (by omega) ⟨by assumption, by assumption⟩ (blk_y hcc hff.1 (by omega)) (Or.inr ⟨b9, rfl, by omega, by omega⟩), by (try dsimp only); first | exact hfl | exact hff.2⟩ (by (try dsimp only); omega)
          · refine nr_if_ne (tgt := 104) hx hb (by decide) dX12_hush_66 (by decide) (fun c22 => absurd c22 (by decide)) (fun c22 => ?_)
            refine lv_iload_n hx hb dX12_hush_69 rfl (lv_at hl 4 rfl) ?_
            refine lv_aload_n hx hb dX12_hush_70 rfl (lv_at hl 1 rfl) ?_
            refine nr_get (own := RX12) (C := RX12) (T := TX12) (N := 19) (v := .ref (ad Γ (mo + 1))) hx hb hts hi_X12_hush_X12 hown hw (by omega) (isM_0 hM) rfl 0 (by decide) wl_X12_hush_1 rfl rfl dX12_hush_71 ?_
            refine lv_bipush (v := nI 20) hx hb dX12_hush_74 (by decide) ?_
            refine nr_iald (x := (R 20)) hx hb hw (by omega) (isM_1 hM) rfl (by omega) (by decide) dX12_hush_76 ?_
            have hL23 := hB (20)
            refine nr_iand hx hb dX12_hush_77 ?_
            refine nr_if_ne (tgt := 104) hx hb (by omega) dX12_hush_78 (by decide) (fun c24 => ?_) (fun c24 => ?_)
            · refine nr_inc (d := 1) (k := 4) (lv' := [(3, .int (nI (S + 1))), (4, .int (nI 1)), (0, .ref (ad Γ (mo + 0))), (1, .int (nI jk)), (2, .int (nI b9))]) hx hb dX12_hush_104 hl rfl (by decide) (by decide) rfl (fun ls hl => ?_)
              refine lv_goto (tgt := 23) hx hb dX12_hush_107 (by decide) ?_
              exact ih23 (Gl23, S + 1, (nI b9), fwL23) _ _ _ _ hw hS (lv_sub hl [2, 3, 4, 0] rfl) ⟨rfl, hM, hfr, by (try dsimp only); omega, by (try dsimp only); first | exact hush_s3 hhi (by omega) (by omega) | exact hush_s1 hhi (fun z => absurd z.1 (by first | assumption | (intro y; exact y (by assumption)))) | exact hush_s1 hhi (fun z => absurd z.2 (by assumption)) | exact hush_s1 hhi (fun _ => blk_n hcc hff.1 (by omega)) | exact hush_t hhi (by omega) ⟨by assumption, by assumption⟩ (blk_y hcc hff.1 (by omega)) (Or.inl (by assumption)) | exact hush_t hhi (by omega) ⟨by assumption, by assumption⟩ (blk_y hcc hff.1 (by omega)) (Or.inr ⟨b9, rfl, by omega, by omega⟩), by (try dsimp only); first | exact hfl | exact hff.2⟩ (by (try dsimp only); omega)
            · refine lv_aload_n hx hb dX12_hush_81 rfl (lv_at hl 1 rfl) ?_
              refine lv_iload_n hx hb dX12_hush_82 rfl (lv_at hl 2 rfl) ?_
              refine lv_iload_n hx hb dX12_hush_83 rfl (lv_at hl 4 rfl) ?_
              refine nr_goV (nr_runV (As := [.int (nI jk), .int (nI S)]) (C := RX12) (T := TX12) (N := 19) ⟨hx, hb, hml, hown, hts⟩ hw (by omega) (isM_0 hM) rfl (c_X12_layFewest l Γ n Gl23 mo R K kp rf ca3 rc hd fwL23 tl by0 an vl iv hM (by omega) hI hj jk S (by omega) (by omega) hcc hfl) (cwV 2 hts gX12_hush_X12_layFewest rfl rfl rfl (by decide +kernel) ⟨Nat.le_of_ble_eq_true rfl, Nat.le_of_ble_eq_true rfl⟩) rfl hl.1 rfl (Nat.le_of_ble_eq_true rfl) dX12_hush_84 ⟨Nat.zero_le _, Nat.zero_le _⟩) hw hA hS (fun G25 H locs hp hw hS => ?_)
              obtain ⟨fw25, hx25, hM, hfr25⟩ := hp
              have hfr := fr_tr hfr hfr25 (Nat.le_refl _) (Nat.le_refl _)
              have hff := hx25
              have hf0 := hff.2 0
              refine lv_aload_n hx hb dX12_hush_87 rfl (lv_at hl 1 rfl) ?_
              refine nr_get (own := RX12) (C := RX12) (T := TX12) (N := 19) (v := .ref (ad Γ (mo + 8))) hx hb hts hi_X12_hush_X12 hown hw (by omega) (isM_0 hM) rfl 9 (by decide) wl_X12_hush_2 rfl rfl dX12_hush_88 ?_
              refine lv_iconst (v := nI 0) hx hb dX12_hush_91 (by decide) ?_
              refine nr_iald (x := (fw25 0)) hx hb hw (by omega) (isM_8 hM) rfl (by omega) (by decide) dX12_hush_92 ?_
              refine nr_ldc (k := 1000000) hx hb hown (hts _ wl_X12_hush_3) (by decide) dX12_hush_93 ?_
              refine nr_icmp_lt (tgt := 102) hx hb (by omega) (by decide) dX12_hush_95 (by decide) (fun c26 => ?_) (fun c26 => ?_)
              · refine lv_iload_n hx hb dX12_hush_102 rfl (lv_at hl 3 rfl) ?_
                refine lv_istore_n (lv' := [(2, .int (nI b9)), (4, .int (nI 1)), (0, .ref (ad Γ (mo + 0))), (1, .int (nI jk)), (3, .int (nI S))]) hx hb dX12_hush_103 rfl hl (by decide) rfl (fun ls hl => ?_)
                refine nr_inc (d := 1) (k := 4) (lv' := [(3, .int (nI (S + 1))), (2, .int (nI b9)), (4, .int (nI 1)), (0, .ref (ad Γ (mo + 0))), (1, .int (nI jk))]) hx hb dX12_hush_104 hl rfl (by decide) (by decide) rfl (fun ls hl => ?_)
                refine lv_goto (tgt := 23) hx hb dX12_hush_107 (by decide) ?_
                exact ih23 (G25, S + 1, (nI b9), fw25) _ _ _ _ hw hS (lv_sub hl [3, 4, 1, 0] rfl) ⟨rfl, hM, hfr, by (try dsimp only); omega, by (try dsimp only); first | exact hush_s3 hhi (by omega) (by omega) | exact hush_s1 hhi (fun z => absurd z.1 (by first | assumption | (intro y; exact y (by assumption)))) | exact hush_s1 hhi (fun z => absurd z.2 (by assumption)) | exact hush_s1 hhi (fun _ => blk_n hcc hff.1 (by omega)) | exact hush_t hhi (by omega) ⟨by assumption, by assumption⟩ (blk_y hcc hff.1 (by omega)) (Or.inl (by assumption)) | exact hush_t hhi (by omega) ⟨by assumption, by assumption⟩ (blk_y hcc hff.1 (by omega)) (Or.inr ⟨b9, rfl, by omega, by omega⟩), by (try dsimp only); first | exact hfl | exact hff.2⟩ (by (try dsimp only); omega)
              · refine lv_iload_n hx hb dX12_hush_98 rfl (lv_at hl 4 rfl) ?_
                refine lv_goto (tgt := 103) hx hb dX12_hush_99 (by decide) ?_
                refine lv_istore_n (lv' := [(2, .int (nI S)), (4, .int (nI 1)), (0, .ref (ad Γ (mo + 0))), (1, .int (nI jk)), (3, .int (nI S))]) hx hb dX12_hush_103 rfl hl (by decide) rfl (fun ls hl => ?_)
                refine nr_inc (d := 1) (k := 4) (lv' := [(3, .int (nI (S + 1))), (2, .int (nI S)), (4, .int (nI 1)), (0, .ref (ad Γ (mo + 0))), (1, .int (nI jk))]) hx hb dX12_hush_104 hl rfl (by decide) (by decide) rfl (fun ls hl => ?_)
                refine lv_goto (tgt := 23) hx hb dX12_hush_107 (by decide) ?_
                exact ih23 (G25, S + 1, (nI S), fw25) _ _ _ _ hw hS (lv_sub hl [3, 4, 1, 0] rfl) ⟨rfl, hM, hfr, by (try dsimp only); omega, by (try dsimp only); first | exact hush_s3 hhi (by omega) (by omega) | exact hush_s1 hhi (fun z => absurd z.1 (by first | assumption | (intro y; exact y (by assumption)))) | exact hush_s1 hhi (fun z => absurd z.2 (by assumption)) | exact hush_s1 hhi (fun _ => blk_n hcc hff.1 (by omega)) | exact hush_t hhi (by omega) ⟨by assumption, by assumption⟩ (blk_y hcc hff.1 (by omega)) (Or.inl (by assumption)) | exact hush_t hhi (by omega) ⟨by assumption, by assumption⟩ (blk_y hcc hff.1 (by omega)) (Or.inr ⟨b9, rfl, by omega, by omega⟩), by (try dsimp only); first | exact hfl | exact hff.2⟩ (by (try dsimp only); omega)
  · refine nr_if_ne (tgt := 15) hx hb (by decide) dX12_hush_5 (by decide) (fun c27 => absurd c27 (by decide)) (fun c27 => ?_)
    refine lv_aload_n hx hb dX12_hush_8 rfl (lv_at hl 0 rfl) ?_
    refine lv_bipush (v := (-2)) hx hb dX12_hush_9 (by decide) ?_
    refine nr_goI (nr_runV (As := [.int (-2)]) (C := RX12) (T := TX12) (N := 19) ⟨hx, hb, hml, hown, hts⟩ hw (by omega) (isM_0 hM) rfl (c_X12_bad l Γ n G mo R K kp rf ca rc hd fw tl by0 an vl iv hM (by omega) hI hj (-2)) (cwV 1 hts gX12_hush_X12_bad rfl rfl rfl (by decide +kernel) ⟨Nat.le_of_ble_eq_true rfl, Nat.le_of_ble_eq_true rfl⟩) rfl hl.1 rfl (Nat.le_of_ble_eq_true rfl) dX12_hush_11 ⟨Nat.zero_le _, Nat.zero_le _⟩) hw hA hS (fun z28 G28 H locs hp hw hS => ?_)
    obtain ⟨ha28, hM, hfr28⟩ := hp
    have hfr := fr_tr hfr hfr28 (Nat.le_refl _) (Nat.le_refl _)
    subst ha28
    exact nr_retI hx hb hr hlocks hw hS (Or.inl ⟨by assumption, rfl, hM, hfr⟩) dX12_hush_14
