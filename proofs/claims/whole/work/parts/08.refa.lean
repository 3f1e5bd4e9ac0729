section SR
theorem wide_le (x y : Int32) : x.toInt64 ≤ y.toInt64 ↔ x ≤ y := by
  rw [Int64.le_iff_toInt_le, Int32.le_iff_toInt_le, Int32.toInt_toInt64, Int32.toInt_toInt64]
theorem in_nat {x : Int32} {N : Nat} (hN : N < 2147483648) : (lN 0 ≤ x.toInt64 ∧ x.toInt64 ≤ (nI N - nI 1).toInt64) ↔ ∃ j, j < N ∧ x = nI j := by
  rw [← nI_l (n := 0) (by decide), wide_le, wide_le]
  exact within_nat hN
theorem in_c {x : Int32} {a b : Nat} (hb : b < 2147483648) (hab : a ≤ b) : (lN a ≤ x.toInt64 ∧ x.toInt64 ≤ lN b) ↔ ∃ j, a ≤ j ∧ j ≤ b ∧ x = nI j := by
  rw [← nI_l (n := a) (by omega), ← nI_l (n := b) (by omega), wide_le, wide_le]
  constructor
  · rintro ⟨h1, h2⟩
    have h0 : ¬ x < 0 := fun q => by
      have h3 := Int32.le_iff_toInt_le.mp h1
      have h4 := Int32.lt_iff_toInt_lt.mp q
      rw [nI_toInt (n := a) (by omega)] at h3
      rw [Int32.toInt_zero] at h4
      omega
    obtain ⟨j, hj, rfl⟩ := nI_of h0
    exact ⟨j, (nI_leI (by omega) hj).mp h1, (nI_leI hj hb).mp h2, rfl⟩
  · rintro ⟨j, h1, h2, rfl⟩
    exact ⟨nI_le h1 (by omega), nI_le h2 hb⟩
theorem with_c {x : Int32} {a b : Nat} (hb : b < 2147483648) (hab : a ≤ b) : (nI a ≤ x ∧ x ≤ nI b) ↔ ∃ j, a ≤ j ∧ j ≤ b ∧ x = nI j := by
  rw [← in_c hb hab, ← nI_l (n := a) (by omega), ← nI_l (n := b) (by omega), wide_le, wide_le]
def pc8 (x : Nat) : Nat := cnt (bt x) 8
theorem pc8_le (x : Nat) : pc8 x ≤ 8 := cnt_le _ 8
theorem pc8_step : ∀ x, x < 256 → pc8 x = x % 2 + pc8 (x / 2) := by decide +kernel
theorem pc8_0 : pc8 0 = 0 := by decide +kernel
/-- an array of the reference that holds a valley's numbers -/
def aI (R : Nat → Nat) : Prop := (∀ j, R j ≤ 1999) ∧ R 0 ≤ 6 ∧ R 1 ≤ 8 ∧ (∀ j, j < 8 → R (36 + j) < 6) ∧ (∀ j, j < 8 → R (44 + j) < 6) ∧ R 20 < 256
def rW (R : Nat → Nat) (k : Nat) : Nat := sWeight (R (28 + k)) (R (52 + k)) (R (12 + k))
def rL (R : Nat → Nat) (i : Nat) : Nat := sMercy (R (22 + i)) (R (6 + i)) (R 21)
theorem rW_lt {R : Nat → Nat} (hB : ∀ j, R j ≤ 1999) (k : Nat) : rW R k < 2147483648 := by
  have h1 := sWeight_le (R (28 + k)) (R (52 + k)) (R (12 + k))
  have h2 := hB (52 + k)
  unfold rW
  omega
theorem rL_lt {R : Nat → Nat} (hB : ∀ j, R j ≤ 1999) (k : Nat) : rL R k < 2147483648 := by
  have h1 := sMercy_le (R (22 + k)) (R (6 + k)) (R 21)
  have h2 := hB (6 + k)
  unfold rL
  omega
abbrev canP (R : Nat → Nat) (k : Nat) : Prop := ¬ bt (R 20) k ∧ rW R k ≤ rL R (R (44 + k))
end SR
set_option maxHeartbeats 4000000 in
set_option maxRecDepth 100000 in
theorem c_X12_in (l : Launch) (Γ : Gam) (n : Nat) (G : Nat → va_E) (v y z : Int64)  : Met l yX12_in wsX12_in ({ frames := 0, cells := 0, slots := 0, locals := 0 }) (va_Pc [.long v, .long y, .long z] (fun U => hw Γ n G U U.heap)) (vp_Si (bp (y ≤ v ∧ v ≤ z))) 0 0 (fun _ => False) := by
  refine Met.ofW (cc := cX12_in) (maxL := 6) (ret := (some .boolean)) (by decide) rfl ?_
  intro p e s m args below meth c s₁ B hml hv
  obtain ⟨rfl, hw⟩ := hv
  have hx := B.exec
  have hb := B.bytes
  have hr := B.returns
  have hts := atoms_spec (ws := wsX12_in) B.pre
  have hown : s.vm.findClass RX12 = some m.cls := findClass_of_methodNamed B.named
  have hlocks := B.notSynchronized
  have hl := lv_entry ([.long v, .long y, .long z]) (n := 6) (Nat.le_of_ble_eq_true rfl)
  rw [lg_entry_eq]
  generalize (lg_sl ([.long v, .long y, .long z]) ++ List.replicate (6 - (lg_sl ([.long v, .long y, .long z])).length) Slot.unset).toArray = ls at hl ⊢
  have hl : lv_has ls 6 [(0, .long v), (2, .long y), (4, .long z)] := hl
  refine lv_lload_n hx hb dX12_in_0 rfl (lv_at hl 0 rfl) ?_
  refine lv_lload_n hx hb dX12_in_1 rfl (lv_at hl 1 rfl) ?_
  refine W.lcmp hx hb dX12_in_2 ?_
  refine lv_if_lt (tgt := 17) hx hb dX12_in_3 (by decide) (fun c1 => ?_) (fun c1 => ?_)
  · refine lv_iconst (v := nI 0) hx hb dX12_in_17 (by decide) ?_
    exact nr_retB hx hb hr hlocks (Or.inr ⟨by intro hh; first | exact absurd hh.1 (Int64.not_le.mpr ((lg_cmp_lt _ _).mp c1)) | exact absurd hh.2 (Int64.not_le.mpr ((lg_cmp_gt _ _).mp c2)), rfl⟩) rfl dX12_in_18
  · refine lv_lload_n hx hb dX12_in_6 rfl (lv_at hl 0 rfl) ?_
    refine lv_lload hx hb dX12_in_7 (lv_at hl 2 rfl) ?_
    refine W.lcmp hx hb dX12_in_9 ?_
    refine lv_if_gt (tgt := 17) hx hb dX12_in_10 (by decide) (fun c2 => ?_) (fun c2 => ?_)
    · refine lv_iconst (v := nI 0) hx hb dX12_in_17 (by decide) ?_
      exact nr_retB hx hb hr hlocks (Or.inr ⟨by intro hh; first | exact absurd hh.1 (Int64.not_le.mpr ((lg_cmp_lt _ _).mp c1)) | exact absurd hh.2 (Int64.not_le.mpr ((lg_cmp_gt _ _).mp c2)), rfl⟩) rfl dX12_in_18
    · refine lv_iconst (v := nI 1) hx hb dX12_in_13 (by decide) ?_
      refine lv_goto (tgt := 18) hx hb dX12_in_14 (by decide) ?_
      exact nr_retB hx hb hr hlocks (Or.inl ⟨⟨Int64.not_lt.mp (fun hh => c1 ((lg_cmp_lt _ _).mpr hh)), Int64.not_lt.mp (fun hh => c2 ((lg_cmp_gt _ _).mpr hh))⟩, rfl⟩) rfl dX12_in_18
set_option maxHeartbeats 4000000 in
set_option maxRecDepth 100000 in
theorem c_X12_has (l : Launch) (Γ : Gam) (n : Nat) (G : Nat → va_E) (q k : Nat) (hs : q < 2147483648) (hk : k < 32)  : Met l yX12_has wsX12_has ({ frames := 0, cells := 0, slots := 0, locals := 0 }) (va_Pc [.int (nI q), .int (nI k)] (fun U => hw Γ n G U U.heap)) (vp_Si (bp (bt q k))) 0 0 (fun _ => False) := by
  refine Met.ofW (cc := cX12_has) (maxL := 2) (ret := (some .boolean)) (by decide) rfl ?_
  intro p e s m args below meth c s₁ B hml hv
  obtain ⟨rfl, hw⟩ := hv
  have hx := B.exec
  have hb := B.bytes
  have hr := B.returns
  have hts := atoms_spec (ws := wsX12_has) B.pre
  have hown : s.vm.findClass RX12 = some m.cls := findClass_of_methodNamed B.named
  have hlocks := B.notSynchronized
  have hl := lv_entry ([.int (nI q), .int (nI k)]) (n := 2) (Nat.le_of_ble_eq_true rfl)
  rw [lg_entry_eq]
  generalize (lg_sl ([.int (nI q), .int (nI k)]) ++ List.replicate (2 - (lg_sl ([.int (nI q), .int (nI k)])).length) Slot.unset).toArray = ls at hl ⊢
  have hl : lv_has ls 2 [(0, .int (nI q)), (1, .int (nI k))] := hl
  refine lv_iload_n hx hb dX12_has_0 rfl (lv_at hl 0 rfl) ?_
  refine lv_iload_n hx hb dX12_has_1 rfl (lv_at hl 1 rfl) ?_
  refine nr_ishr hx hb (by omega) (by omega) dX12_has_2 ?_
  refine lv_iconst (v := nI 1) hx hb dX12_has_3 (by decide) ?_
  refine nr_iand1 hx hb dX12_has_4 ?_
  refine lv_iconst (v := nI 1) hx hb dX12_has_5 (by decide) ?_
  refine nr_icmp_ne (tgt := 13) hx hb (by omega) (by decide) dX12_has_6 (by decide) (fun c1 => ?_) (fun c1 => ?_)
  · refine lv_iconst (v := nI 0) hx hb dX12_has_13 (by decide) ?_
    exact nr_retB hx hb hr hlocks (Or.inr ⟨by omega, rfl⟩) rfl dX12_has_14
  · refine lv_iconst (v := nI 1) hx hb dX12_has_9 (by decide) ?_
    refine lv_goto (tgt := 14) hx hb dX12_has_10 (by decide) ?_
    exact nr_retB hx hb hr hlocks (Or.inl ⟨by omega, rfl⟩) rfl dX12_has_14
set_option maxHeartbeats 4000000 in
set_option maxRecDepth 100000 in
theorem c_X12_bits (l : Launch) (Γ : Gam) (n : Nat) (G : Nat → va_E) (q : Nat) (hq : q < 256)  : Met l yX12_bits wsX12_bits ({ frames := 0, cells := 0, slots := 0, locals := 0 }) (va_Pc [.int (nI q)] (fun U => hw Γ n G U U.heap)) (vp_Si (fun z => z = nI (pc8 q))) 0 0 (fun _ => False) := by
  refine Met.ofW (cc := cX12_bits) (maxL := 3) (ret := (some .int)) (by decide) rfl ?_
  intro p e s m args below meth c s₁ B hml hv
  obtain ⟨rfl, hw⟩ := hv
  have hx := B.exec
  have hb := B.bytes
  have hr := B.returns
  have hts := atoms_spec (ws := wsX12_bits) B.pre
  have hown : s.vm.findClass RX12 = some m.cls := findClass_of_methodNamed B.named
  have hlocks := B.notSynchronized
  have hl := lv_entry ([.int (nI q)]) (n := 3) (Nat.le_of_ble_eq_true rfl)
  rw [lg_entry_eq]
  generalize (lg_sl ([.int (nI q)]) ++ List.replicate (3 - (lg_sl ([.int (nI q)])).length) Slot.unset).toArray = ls at hl ⊢
  have hl : lv_has ls 3 [(0, .int (nI q))] := hl
  have hp8 := pc8_le q
  refine lv_iconst (v := nI 0) hx hb dX12_bits_0 (by decide) ?_
  refine lv_istore_n (lv' := [(1, .int (nI 0)), (0, .int (nI q))]) hx hb dX12_bits_1 rfl hl (by decide) rfl (fun ls hl => ?_)
  refine lv_iload_n hx hb dX12_bits_2 rfl (lv_at hl 1 rfl) ?_
  refine lv_istore_n (lv' := [(2, .int (nI q)), (1, .int (nI 0)), (0, .int (nI q))]) hx hb dX12_bits_3 rfl hl (by decide) rfl (fun ls hl => ?_)
  refine nr_lp (σ := Nat × Nat) (pc := 4) (fun x lv => lv = [(0, .int (nI q)), (1, .int (nI x.2)), (2, .int (nI x.1))] ∧ (x.1 < 256) ∧ (x.2 + pc8 x.1 = pc8 q)) (fun x => x.1) (q, 0) (lv_sub hl [2, 1, 0] rfl) ⟨rfl, hq, by (try dsimp only); omega⟩ ?_
  intro x lv ls hl hI ih4
  obtain ⟨x, t⟩ := x
  obtain ⟨rfl, hx1, ht⟩ := hI
  try dsimp only at hx1 ht hl ih4
  have hps := pc8_step x hx1
  refine lv_iload_n hx hb dX12_bits_4 rfl (lv_at hl 2 rfl) ?_
  refine nr_if_le (tgt := 21) hx hb (by omega) dX12_bits_5 (by decide) (fun c1 => ?_) (fun c1 => ?_)
  · obtain rfl : x = 0 := by omega
    rw [pc8_0, Nat.add_zero] at ht
    subst ht
    refine lv_iload_n hx hb dX12_bits_21 rfl (lv_at hl 1 rfl) ?_
    exact nr_retS hx hb hr hlocks (rfl) rfl dX12_bits_22
  · refine lv_iload_n hx hb dX12_bits_8 rfl (lv_at hl 1 rfl) ?_
    refine lv_iload_n hx hb dX12_bits_9 rfl (lv_at hl 2 rfl) ?_
    refine lv_iconst (v := nI 1) hx hb dX12_bits_10 (by decide) ?_
    refine nr_iand1 hx hb dX12_bits_11 ?_
    refine nr_iadd hx hb dX12_bits_12 ?_
    refine lv_istore_n (lv' := [(1, .int (nI (t + (x % 2)))), (0, .int (nI q)), (2, .int (nI x))]) hx hb dX12_bits_13 rfl hl (by decide) rfl (fun ls hl => ?_)
    refine lv_iload_n hx hb dX12_bits_14 rfl (lv_at hl 2 rfl) ?_
    refine lv_iconst (v := nI 1) hx hb dX12_bits_15 (by decide) ?_
    refine nr_ishr hx hb (by omega) (by omega) dX12_bits_16 ?_
    refine lv_istore_n (lv' := [(2, .int (nI (x / 2 ^ 1))), (1, .int (nI (t + (x % 2)))), (0, .int (nI q))]) hx hb dX12_bits_17 rfl hl (by decide) rfl (fun ls hl => ?_)
    refine lv_goto (tgt := 4) hx hb dX12_bits_18 (by decide) ?_
    exact ih4 (x / 2 ^ 1, t + (x % 2)) _ _ (lv_sub hl [2, 1, 0] rfl) ⟨rfl, by (try dsimp only); omega, by (try dsimp only); rw [show (2 : Nat) ^ 1 = 2 from rfl]; omega⟩ (by (try dsimp only); omega)
theorem wl_X12_isKind_1 : Cond.constantLong RX12 63 (5) ∈ wsX12_isKind := List.mem_of_getElem? (i := 1) rfl
set_option maxHeartbeats 4000000 in
set_option maxRecDepth 100000 in
theorem c_X12_isKind (l : Launch) (Γ : Gam) (n : Nat) (G : Nat → va_E) (k : Int32)  : Met l yX12_isKind wsX12_isKind ({ frames := 1, cells := 0, slots := 0, locals := 25 }) (va_Pc [.int k] (fun U => hw Γ n G U U.heap)) (vp_Si (bp (∃ j, 0 ≤ j ∧ j ≤ 5 ∧ k = nI j))) 0 0 (fun _ => False) := by
  refine Met.ofW (cc := cX12_isKind) (maxL := 1) (ret := (some .boolean)) (by decide) rfl ?_
  intro p e s m args below meth c s₁ B hml hv
  obtain ⟨rfl, hw⟩ := hv
  have hx := B.exec
  have hb := B.bytes
  have hr := B.returns
  have hts := atoms_spec (ws := wsX12_isKind) B.pre
  have hown : s.vm.findClass RX12 = some m.cls := findClass_of_methodNamed B.named
  have hlocks := B.notSynchronized
  have hl := lv_entry ([.int k]) (n := 1) (Nat.le_of_ble_eq_true rfl)
  rw [lg_entry_eq]
  generalize (lg_sl ([.int k]) ++ List.replicate (1 - (lg_sl ([.int k])).length) Slot.unset).toArray = ls at hl ⊢
  have hl : lv_has ls 1 [(0, .int k)] := hl
  refine lv_iload_n hx hb dX12_isKind_0 rfl (lv_at hl 0 rfl) ?_
  refine lv_i2l (v := (k).toInt64) hx hb dX12_isKind_1 rfl ?_
  refine lv_lconst (v := lN 0) hx hb dX12_isKind_2 rfl ?_
  refine nr_ldc2 (k := 5) hx hb hown (hts _ wl_X12_isKind_1) (by decide) dX12_isKind_3 ?_
  refine nr_goB (P := (lN 0) ≤ ((k).toInt64) ∧ ((k).toInt64) ≤ (lN 5)) (nr_runS (As := [.long ((k).toInt64), .long (lN 0), .long (lN 5)]) ⟨hx, hb, hml, hown, hts⟩ hw (c_X12_in l Γ n G ((k).toInt64) (lN 0) (lN 5)) (va_cwS 3 hts gX12_isKind_X12_in rfl rfl rfl (by decide +kernel) ⟨Nat.le_of_ble_eq_true rfl, Nat.le_of_ble_eq_true rfl⟩) rfl hl.1 rfl (Nat.le_of_ble_eq_true rfl) dX12_isKind_6 ⟨Nat.zero_le _, Nat.zero_le _⟩) (fun b1 => ?_) (fun b1 => ?_)
  · exact nr_retB hx hb hr hlocks (Or.inl ⟨(in_c (by decide) (by decide)).mp b1, rfl⟩) rfl dX12_isKind_9
  · exact nr_retB hx hb hr hlocks (Or.inr ⟨fun h => b1 ((in_c (by decide) (by decide)).mpr h), rfl⟩) rfl dX12_isKind_9
theorem wl_X12_isGravity_1 : Cond.constantLong RX12 65 (9) ∈ wsX12_isGravity := List.mem_of_getElem? (i := 1) rfl
set_option maxHeartbeats 4000000 in
set_option maxRecDepth 100000 in
theorem c_X12_isGravity (l : Launch) (Γ : Gam) (n : Nat) (G : Nat → va_E) (k : Int32)  : Met l yX12_isGravity wsX12_isGravity ({ frames := 1, cells := 0, slots := 0, locals := 25 }) (va_Pc [.int k] (fun U => hw Γ n G U U.heap)) (vp_Si (bp (∃ j, 1 ≤ j ∧ j ≤ 9 ∧ k = nI j))) 0 0 (fun _ => False) := by
  refine Met.ofW (cc := cX12_isGravity) (maxL := 1) (ret := (some .boolean)) (by decide) rfl ?_
  intro p e s m args below meth c s₁ B hml hv
  obtain ⟨rfl, hw⟩ := hv
  have hx := B.exec
  have hb := B.bytes
  have hr := B.returns
  have hts := atoms_spec (ws := wsX12_isGravity) B.pre
  have hown : s.vm.findClass RX12 = some m.cls := findClass_of_methodNamed B.named
  have hlocks := B.notSynchronized
  have hl := lv_entry ([.int k]) (n := 1) (Nat.le_of_ble_eq_true rfl)
  rw [lg_entry_eq]
  generalize (lg_sl ([.int k]) ++ List.replicate (1 - (lg_sl ([.int k])).length) Slot.unset).toArray = ls at hl ⊢
  have hl : lv_has ls 1 [(0, .int k)] := hl
  refine lv_iload_n hx hb dX12_isGravity_0 rfl (lv_at hl 0 rfl) ?_
  refine lv_i2l (v := (k).toInt64) hx hb dX12_isGravity_1 rfl ?_
  refine lv_lconst (v := lN 1) hx hb dX12_isGravity_2 rfl ?_
  refine nr_ldc2 (k := 9) hx hb hown (hts _ wl_X12_isGravity_1) (by decide) dX12_isGravity_3 ?_
  refine nr_goB (P := (lN 1) ≤ ((k).toInt64) ∧ ((k).toInt64) ≤ (lN 9)) (nr_runS (As := [.long ((k).toInt64), .long (lN 1), .long (lN 9)]) ⟨hx, hb, hml, hown, hts⟩ hw (c_X12_in l Γ n G ((k).toInt64) (lN 1) (lN 9)) (va_cwS 3 hts gX12_isGravity_X12_in rfl rfl rfl (by decide +kernel) ⟨Nat.le_of_ble_eq_true rfl, Nat.le_of_ble_eq_true rfl⟩) rfl hl.1 rfl (Nat.le_of_ble_eq_true rfl) dX12_isGravity_6 ⟨Nat.zero_le _, Nat.zero_le _⟩) (fun b1 => ?_) (fun b1 => ?_)
  · exact nr_retB hx hb hr hlocks (Or.inl ⟨(in_c (by decide) (by decide)).mp b1, rfl⟩) rfl dX12_isGravity_9
  · exact nr_retB hx hb hr hlocks (Or.inr ⟨fun h => b1 ((in_c (by decide) (by decide)).mpr h), rfl⟩) rfl dX12_isGravity_9
set_option maxHeartbeats 4000000 in
set_option maxRecDepth 100000 in
theorem c_X12_weighsAs (l : Launch) (Γ : Gam) (n : Nat) (G : Nat → va_E) (kind g d : Nat) (hk : kind < 2147483648) (hg : g < 1073741824) (hd : d < 1073741824)  : Met l yX12_weighsAs wsX12_weighsAs ({ frames := 0, cells := 0, slots := 0, locals := 0 }) (va_Pc [.int (nI kind), .int (nI g), .int (nI d)] (fun U => hw Γ n G U U.heap)) (vp_Si (fun z => z = nI (sWeight kind g d))) 0 0 (fun _ => False) := by
  refine Met.ofW (cc := cX12_weighsAs) (maxL := 5) (ret := (some .int)) (by decide) rfl ?_
  intro p e s m args below meth c s₁ B hml hv
  obtain ⟨rfl, hw⟩ := hv
  have hx := B.exec
  have hb := B.bytes
  have hr := B.returns
  have hts := atoms_spec (ws := wsX12_weighsAs) B.pre
  have hown : s.vm.findClass RX12 = some m.cls := findClass_of_methodNamed B.named
  have hlocks := B.notSynchronized
  have hl := lv_entry ([.int (nI kind), .int (nI g), .int (nI d)]) (n := 5) (Nat.le_of_ble_eq_true rfl)
  rw [lg_entry_eq]
  generalize (lg_sl ([.int (nI kind), .int (nI g), .int (nI d)]) ++ List.replicate (5 - (lg_sl ([.int (nI kind), .int (nI g), .int (nI d)])).length) Slot.unset).toArray = ls at hl ⊢
  have hl : lv_has ls 5 [(0, .int (nI kind)), (1, .int (nI g)), (2, .int (nI d))] := hl
  refine lv_iload_n hx hb dX12_weighsAs_0 rfl (lv_at hl 1 rfl) ?_
  refine lv_iload_n hx hb dX12_weighsAs_1 rfl (lv_at hl 2 rfl) ?_
  refine lv_iconst (v := nI 3) hx hb dX12_weighsAs_2 (by decide) ?_
  refine nr_idiv hx hb (by omega) (by decide) (by decide) dX12_weighsAs_3 ?_
  refine nr_icmp_le (tgt := 15) hx hb (by omega) (by omega) dX12_weighsAs_4 (by decide) (fun c1 => ?_) (fun c1 => ?_)
  · refine lv_iconst (v := nI 0) hx hb dX12_weighsAs_15 (by decide) ?_
    refine lv_istore_n (lv' := [(3, .int (nI 0)), (0, .int (nI kind)), (1, .int (nI g)), (2, .int (nI d))]) hx hb dX12_weighsAs_16 rfl hl (by decide) rfl (fun ls hl => ?_)
    refine lv_iload_n hx hb dX12_weighsAs_17 rfl (lv_at hl 2 rfl) ?_
    refine lv_iload_n hx hb dX12_weighsAs_18 rfl (lv_at hl 3 rfl) ?_
    refine lv_iconst (v := nI 5) hx hb dX12_weighsAs_19 (by decide) ?_
    refine nr_idiv hx hb (by omega) (by decide) (by decide) dX12_weighsAs_20 ?_
    refine lv_iconst (v := nI 5) hx hb dX12_weighsAs_21 (by decide) ?_
    refine nr_icmp_le (tgt := 29) hx hb (by omega) (by decide) dX12_weighsAs_22 (by decide) (fun c2 => ?_) (fun c2 => ?_)
    · refine lv_iload_n hx hb dX12_weighsAs_29 rfl (lv_at hl 3 rfl) ?_
      refine lv_iconst (v := nI 5) hx hb dX12_weighsAs_30 (by decide) ?_
      refine nr_idiv hx hb (by omega) (by decide) (by decide) dX12_weighsAs_31 ?_
      refine nr_iadd hx hb dX12_weighsAs_32 ?_
      refine lv_istore (lv' := [(4, .int (nI (g + (d / 5)))), (3, .int (nI 0)), (0, .int (nI kind)), (1, .int (nI g)), (2, .int (nI d))]) hx hb dX12_weighsAs_33 hl (by decide) rfl (fun ls hl => ?_)
      refine lv_iload_n hx hb dX12_weighsAs_35 rfl (lv_at hl 2 rfl) ?_
      rcases (show kind = 1 ∨ kind = 2 ∨ kind = 3 ∨ kind = 4 ∨ kind = 5 ∨ (kind < 1 ∨ 5 < kind) by omega) with c3 | c3 | c3 | c3 | c3 | c3
      · refine nr_tabIn (j := 1) (tgt := 72) hx hb (by omega) c3 dX12_weighsAs_36 (by decide) (by decide) rfl (by decide) ?_
        refine lv_iload_n hx hb dX12_weighsAs_72 rfl (lv_at hl 1 rfl) ?_
        exact nr_retS hx hb hr hlocks (by refine congrArg nI ?_; unfold sWeight; (repeat' split) <;> omega) rfl dX12_weighsAs_73
      · refine nr_tabIn (j := 2) (tgt := 74) hx hb (by omega) c3 dX12_weighsAs_36 (by decide) (by decide) rfl (by decide) ?_
        refine lv_iload hx hb dX12_weighsAs_74 (lv_at hl 0 rfl) ?_
        exact nr_retS hx hb hr hlocks (by refine congrArg nI ?_; unfold sWeight; (repeat' split) <;> omega) rfl dX12_weighsAs_76
      · refine nr_tabIn (j := 3) (tgt := 77) hx hb (by omega) c3 dX12_weighsAs_36 (by decide) (by decide) rfl (by decide) ?_
        refine lv_iload_n hx hb dX12_weighsAs_77 rfl (lv_at hl 1 rfl) ?_
        refine lv_iconst (v := nI 2) hx hb dX12_weighsAs_78 (by decide) ?_
        refine nr_icmp_ge (tgt := 86) hx hb (by decide) (by decide) dX12_weighsAs_79 (by decide) (fun c4 => absurd c4 (by decide)) (fun c4 => ?_)
        refine lv_iconst (v := nI 2) hx hb dX12_weighsAs_82 (by decide) ?_
        refine lv_goto (tgt := 87) hx hb dX12_weighsAs_83 (by decide) ?_
        exact nr_retS hx hb hr hlocks (by refine congrArg nI ?_; unfold sWeight; (repeat' split) <;> omega) rfl dX12_weighsAs_87
      · refine nr_tabIn (j := 4) (tgt := 88) hx hb (by omega) c3 dX12_weighsAs_36 (by decide) (by decide) rfl (by decide) ?_
        refine lv_iconst (v := nI 2) hx hb dX12_weighsAs_88 (by decide) ?_
        refine lv_iload hx hb dX12_weighsAs_89 (lv_at hl 0 rfl) ?_
        refine nr_imul hx hb dX12_weighsAs_91 ?_
        exact nr_retS hx hb hr hlocks (by refine congrArg nI ?_; unfold sWeight; (repeat' split) <;> omega) rfl dX12_weighsAs_92
      · refine nr_tabIn (j := 5) (tgt := 93) hx hb (by omega) c3 dX12_weighsAs_36 (by decide) (by decide) rfl (by decide) ?_
        refine lv_iload_n hx hb dX12_weighsAs_93 rfl (lv_at hl 4 rfl) ?_
        refine lv_iconst (v := nI 1) hx hb dX12_weighsAs_94 (by decide) ?_
        refine nr_icmp_lt (tgt := 109) hx hb (by omega) (by decide) dX12_weighsAs_95 (by decide) (fun c5 => ?_) (fun c5 => ?_)
        · refine lv_iload_n hx hb dX12_weighsAs_109 rfl (lv_at hl 1 rfl) ?_
          exact nr_retS hx hb hr hlocks (by refine congrArg nI ?_; unfold sWeight; (repeat' split) <;> omega) rfl dX12_weighsAs_110
        · refine lv_iload_n hx hb dX12_weighsAs_98 rfl (lv_at hl 4 rfl) ?_
          refine lv_bipush (v := nI 7) hx hb dX12_weighsAs_99 (by decide) ?_
          refine nr_irem hx hb (by omega) (by decide) (by decide) dX12_weighsAs_101 ?_
          refine nr_if_ne (tgt := 109) hx hb (by omega) dX12_weighsAs_102 (by decide) (fun c6 => ?_) (fun c6 => ?_)
          · refine lv_iload_n hx hb dX12_weighsAs_109 rfl (lv_at hl 1 rfl) ?_
            exact nr_retS hx hb hr hlocks (by refine congrArg nI ?_; unfold sWeight; (repeat' split) <;> omega) rfl dX12_weighsAs_110
          · refine lv_iconst (v := nI 0) hx hb dX12_weighsAs_105 (by decide) ?_
            refine lv_goto (tgt := 110) hx hb dX12_weighsAs_106 (by decide) ?_
            exact nr_retS hx hb hr hlocks (by refine congrArg nI ?_; unfold sWeight; (repeat' split) <;> omega) rfl dX12_weighsAs_110
      · refine nr_tabOut (tgt := 111) hx hb (by omega) dX12_weighsAs_36 (by omega) (by decide) ?_
        refine lv_iload_n hx hb dX12_weighsAs_111 rfl (lv_at hl 3 rfl) ?_
        exact nr_retS hx hb hr hlocks (by refine congrArg nI ?_; unfold sWeight; (repeat' split) <;> omega) rfl dX12_weighsAs_112
    · refine lv_iconst (v := nI 5) hx hb dX12_weighsAs_25 (by decide) ?_
      refine lv_goto (tgt := 32) hx hb dX12_weighsAs_26 (by decide) ?_
      refine nr_iadd hx hb dX12_weighsAs_32 ?_
      refine lv_istore (lv' := [(4, .int (nI (g + 5))), (3, .int (nI 0)), (0, .int (nI kind)), (1, .int (nI g)), (2, .int (nI d))]) hx hb dX12_weighsAs_33 hl (by decide) rfl (fun ls hl => ?_)
      refine lv_iload_n hx hb dX12_weighsAs_35 rfl (lv_at hl 2 rfl) ?_
      rcases (show kind = 1 ∨ kind = 2 ∨ kind = 3 ∨ kind = 4 ∨ kind = 5 ∨ (kind < 1 ∨ 5 < kind) by omega) with c7 | c7 | c7 | c7 | c7 | c7
      · refine nr_tabIn (j := 1) (tgt := 72) hx hb (by omega) c7 dX12_weighsAs_36 (by decide) (by decide) rfl (by decide) ?_
        refine lv_iload_n hx hb dX12_weighsAs_72 rfl (lv_at hl 1 rfl) ?_
        exact nr_retS hx hb hr hlocks (by refine congrArg nI ?_; unfold sWeight; (repeat' split) <;> omega) rfl dX12_weighsAs_73
      · refine nr_tabIn (j := 2) (tgt := 74) hx hb (by omega) c7 dX12_weighsAs_36 (by decide) (by decide) rfl (by decide) ?_
        refine lv_iload hx hb dX12_weighsAs_74 (lv_at hl 0 rfl) ?_
        exact nr_retS hx hb hr hlocks (by refine congrArg nI ?_; unfold sWeight; (repeat' split) <;> omega) rfl dX12_weighsAs_76
      · refine nr_tabIn (j := 3) (tgt := 77) hx hb (by omega) c7 dX12_weighsAs_36 (by decide) (by decide) rfl (by decide) ?_
        refine lv_iload_n hx hb dX12_weighsAs_77 rfl (lv_at hl 1 rfl) ?_
        refine lv_iconst (v := nI 2) hx hb dX12_weighsAs_78 (by decide) ?_
        refine nr_icmp_ge (tgt := 86) hx hb (by decide) (by decide) dX12_weighsAs_79 (by decide) (fun c8 => absurd c8 (by decide)) (fun c8 => ?_)
        refine lv_iconst (v := nI 2) hx hb dX12_weighsAs_82 (by decide) ?_
        refine lv_goto (tgt := 87) hx hb dX12_weighsAs_83 (by decide) ?_
        exact nr_retS hx hb hr hlocks (by refine congrArg nI ?_; unfold sWeight; (repeat' split) <;> omega) rfl dX12_weighsAs_87
      · refine nr_tabIn (j := 4) (tgt := 88) hx hb (by omega) c7 dX12_weighsAs_36 (by decide) (by decide) rfl (by decide) ?_
        refine lv_iconst (v := nI 2) hx hb dX12_weighsAs_88 (by decide) ?_
        refine lv_iload hx hb dX12_weighsAs_89 (lv_at hl 0 rfl) ?_
        refine nr_imul hx hb dX12_weighsAs_91 ?_
        exact nr_retS hx hb hr hlocks (by refine congrArg nI ?_; unfold sWeight; (repeat' split) <;> omega) rfl dX12_weighsAs_92
      · refine nr_tabIn (j := 5) (tgt := 93) hx hb (by omega) c7 dX12_weighsAs_36 (by decide) (by decide) rfl (by decide) ?_
        refine lv_iload_n hx hb dX12_weighsAs_93 rfl (lv_at hl 4 rfl) ?_
        refine lv_iconst (v := nI 1) hx hb dX12_weighsAs_94 (by decide) ?_
        refine nr_icmp_lt (tgt := 109) hx hb (by omega) (by decide) dX12_weighsAs_95 (by decide) (fun c9 => ?_) (fun c9 => ?_)
        · refine lv_iload_n hx hb dX12_weighsAs_109 rfl (lv_at hl 1 rfl) ?_
          exact nr_retS hx hb hr hlocks (by refine congrArg nI ?_; unfold sWeight; (repeat' split) <;> omega) rfl dX12_weighsAs_110
        · refine lv_iload_n hx hb dX12_weighsAs_98 rfl (lv_at hl 4 rfl) ?_
          refine lv_bipush (v := nI 7) hx hb dX12_weighsAs_99 (by decide) ?_
          refine nr_irem hx hb (by omega) (by decide) (by decide) dX12_weighsAs_101 ?_
          refine nr_if_ne (tgt := 109) hx hb (by omega) dX12_weighsAs_102 (by decide) (fun c10 => ?_) (fun c10 => ?_)
          · refine lv_iload_n hx hb dX12_weighsAs_109 rfl (lv_at hl 1 rfl) ?_
            exact nr_retS hx hb hr hlocks (by refine congrArg nI ?_; unfold sWeight; (repeat' split) <;> omega) rfl dX12_weighsAs_110
          · refine lv_iconst (v := nI 0) hx hb dX12_weighsAs_105 (by decide) ?_
            refine lv_goto (tgt := 110) hx hb dX12_weighsAs_106 (by decide) ?_
            exact nr_retS hx hb hr hlocks (by refine congrArg nI ?_; unfold sWeight; (repeat' split) <;> omega) rfl dX12_weighsAs_110
      · refine nr_tabOut (tgt := 111) hx hb (by omega) dX12_weighsAs_36 (by omega) (by decide) ?_
        refine lv_iload_n hx hb dX12_weighsAs_111 rfl (lv_at hl 3 rfl) ?_
        exact nr_retS hx hb hr hlocks (by refine congrArg nI ?_; unfold sWeight; (repeat' split) <;> omega) rfl dX12_weighsAs_112
  · refine lv_iload_n hx hb dX12_weighsAs_7 rfl (lv_at hl 1 rfl) ?_
    refine lv_iload_n hx hb dX12_weighsAs_8 rfl (lv_at hl 2 rfl) ?_
    refine lv_iconst (v := nI 3) hx hb dX12_weighsAs_9 (by decide) ?_
    refine nr_idiv hx hb (by omega) (by decide) (by decide) dX12_weighsAs_10 ?_
    refine nr_isub hx hb (by omega) dX12_weighsAs_11 ?_
    refine lv_goto (tgt := 16) hx hb dX12_weighsAs_12 (by decide) ?_
    refine lv_istore_n (lv' := [(3, .int (nI (g - (d / 3)))), (0, .int (nI kind)), (1, .int (nI g)), (2, .int (nI d))]) hx hb dX12_weighsAs_16 rfl hl (by decide) rfl (fun ls hl => ?_)
    refine lv_iload_n hx hb dX12_weighsAs_17 rfl (lv_at hl 2 rfl) ?_
    refine lv_iload_n hx hb dX12_weighsAs_18 rfl (lv_at hl 3 rfl) ?_
    refine lv_iconst (v := nI 5) hx hb dX12_weighsAs_19 (by decide) ?_
    refine nr_idiv hx hb (by omega) (by decide) (by decide) dX12_weighsAs_20 ?_
    refine lv_iconst (v := nI 5) hx hb dX12_weighsAs_21 (by decide) ?_
    refine nr_icmp_le (tgt := 29) hx hb (by omega) (by decide) dX12_weighsAs_22 (by decide) (fun c11 => ?_) (fun c11 => ?_)
    · refine lv_iload_n hx hb dX12_weighsAs_29 rfl (lv_at hl 3 rfl) ?_
      refine lv_iconst (v := nI 5) hx hb dX12_weighsAs_30 (by decide) ?_
      refine nr_idiv hx hb (by omega) (by decide) (by decide) dX12_weighsAs_31 ?_
      refine nr_iadd hx hb dX12_weighsAs_32 ?_
      refine lv_istore (lv' := [(4, .int (nI (g + (d / 5)))), (3, .int (nI (g - (d / 3)))), (0, .int (nI kind)), (1, .int (nI g)), (2, .int (nI d))]) hx hb dX12_weighsAs_33 hl (by decide) rfl (fun ls hl => ?_)
      refine lv_iload_n hx hb dX12_weighsAs_35 rfl (lv_at hl 2 rfl) ?_
      rcases (show kind = 1 ∨ kind = 2 ∨ kind = 3 ∨ kind = 4 ∨ kind = 5 ∨ (kind < 1 ∨ 5 < kind) by omega) with c12 | c12 | c12 | c12 | c12 | c12
      · refine nr_tabIn (j := 1) (tgt := 72) hx hb (by omega) c12 dX12_weighsAs_36 (by decide) (by decide) rfl (by decide) ?_
        refine lv_iload_n hx hb dX12_weighsAs_72 rfl (lv_at hl 1 rfl) ?_
        exact nr_retS hx hb hr hlocks (by refine congrArg nI ?_; unfold sWeight; (repeat' split) <;> omega) rfl dX12_weighsAs_73
      · refine nr_tabIn (j := 2) (tgt := 74) hx hb (by omega) c12 dX12_weighsAs_36 (by decide) (by decide) rfl (by decide) ?_
        refine lv_iload hx hb dX12_weighsAs_74 (lv_at hl 0 rfl) ?_
        exact nr_retS hx hb hr hlocks (by refine congrArg nI ?_; unfold sWeight; (repeat' split) <;> omega) rfl dX12_weighsAs_76
      · refine nr_tabIn (j := 3) (tgt := 77) hx hb (by omega) c12 dX12_weighsAs_36 (by decide) (by decide) rfl (by decide) ?_
        refine lv_iload_n hx hb dX12_weighsAs_77 rfl (lv_at hl 1 rfl) ?_
        refine lv_iconst (v := nI 2) hx hb dX12_weighsAs_78 (by decide) ?_
        refine nr_icmp_ge (tgt := 86) hx hb (by omega) (by decide) dX12_weighsAs_79 (by decide) (fun c13 => ?_) (fun c13 => ?_)
        · refine lv_iload_n hx hb dX12_weighsAs_86 rfl (lv_at hl 1 rfl) ?_
          exact nr_retS hx hb hr hlocks (by refine congrArg nI ?_; unfold sWeight; (repeat' split) <;> omega) rfl dX12_weighsAs_87
        · refine lv_iconst (v := nI 2) hx hb dX12_weighsAs_82 (by decide) ?_
          refine lv_goto (tgt := 87) hx hb dX12_weighsAs_83 (by decide) ?_
          exact nr_retS hx hb hr hlocks (by refine congrArg nI ?_; unfold sWeight; (repeat' split) <;> omega) rfl dX12_weighsAs_87
      · refine nr_tabIn (j := 4) (tgt := 88) hx hb (by omega) c12 dX12_weighsAs_36 (by decide) (by decide) rfl (by decide) ?_
        refine lv_iconst (v := nI 2) hx hb dX12_weighsAs_88 (by decide) ?_
        refine lv_iload hx hb dX12_weighsAs_89 (lv_at hl 0 rfl) ?_
        refine nr_imul hx hb dX12_weighsAs_91 ?_
        exact nr_retS hx hb hr hlocks (by refine congrArg nI ?_; unfold sWeight; (repeat' split) <;> omega) rfl dX12_weighsAs_92
      · refine nr_tabIn (j := 5) (tgt := 93) hx hb (by omega) c12 dX12_weighsAs_36 (by decide) (by decide) rfl (by decide) ?_
        refine lv_iload_n hx hb dX12_weighsAs_93 rfl (lv_at hl 4 rfl) ?_
        refine lv_iconst (v := nI 1) hx hb dX12_weighsAs_94 (by decide) ?_
        refine nr_icmp_lt (tgt := 109) hx hb (by omega) (by decide) dX12_weighsAs_95 (by decide) (fun c14 => ?_) (fun c14 => ?_)
        · refine lv_iload_n hx hb dX12_weighsAs_109 rfl (lv_at hl 1 rfl) ?_
          exact nr_retS hx hb hr hlocks (by refine congrArg nI ?_; unfold sWeight; (repeat' split) <;> omega) rfl dX12_weighsAs_110
        · refine lv_iload_n hx hb dX12_weighsAs_98 rfl (lv_at hl 4 rfl) ?_
          refine lv_bipush (v := nI 7) hx hb dX12_weighsAs_99 (by decide) ?_
          refine nr_irem hx hb (by omega) (by decide) (by decide) dX12_weighsAs_101 ?_
          refine nr_if_ne (tgt := 109) hx hb (by omega) dX12_weighsAs_102 (by decide) (fun c15 => ?_) (fun c15 => ?_)
          · refine lv_iload_n hx hb dX12_weighsAs_109 rfl (lv_at hl 1 rfl) ?_
            exact nr_retS hx hb hr hlocks (by refine congrArg nI ?_; unfold sWeight; (repeat' split) <;> omega) rfl dX12_weighsAs_110
          · refine lv_iconst (v := nI 0) hx hb dX12_weighsAs_105 (by decide) ?_
            refine lv_goto (tgt := 110) hx hb dX12_weighsAs_106 (by decide) ?_
            exact nr_retS hx hb hr hlocks (by refine congrArg nI ?_; unfold sWeight; (repeat' split) <;> omega) rfl dX12_weighsAs_110
      · refine nr_tabOut (tgt := 111) hx hb (by omega) dX12_weighsAs_36 (by omega) (by decide) ?_
        refine lv_iload_n hx hb dX12_weighsAs_111 rfl (lv_at hl 3 rfl) ?_
        exact nr_retS hx hb hr hlocks (by refine congrArg nI ?_; unfold sWeight; (repeat' split) <;> omega) rfl dX12_weighsAs_112
    · refine lv_iconst (v := nI 5) hx hb dX12_weighsAs_25 (by decide) ?_
      refine lv_goto (tgt := 32) hx hb dX12_weighsAs_26 (by decide) ?_
      refine nr_iadd hx hb dX12_weighsAs_32 ?_
      refine lv_istore (lv' := [(4, .int (nI (g + 5))), (3, .int (nI (g - (d / 3)))), (0, .int (nI kind)), (1, .int (nI g)), (2, .int (nI d))]) hx hb dX12_weighsAs_33 hl (by decide) rfl (fun ls hl => ?_)
      refine lv_iload_n hx hb dX12_weighsAs_35 rfl (lv_at hl 2 rfl) ?_
      rcases (show kind = 1 ∨ kind = 2 ∨ kind = 3 ∨ kind = 4 ∨ kind = 5 ∨ (kind < 1 ∨ 5 < kind) by omega) with c16 | c16 | c16 | c16 | c16 | c16
      · refine nr_tabIn (j := 1) (tgt := 72) hx hb (by omega) c16 dX12_weighsAs_36 (by decide) (by decide) rfl (by decide) ?_
        refine lv_iload_n hx hb dX12_weighsAs_72 rfl (lv_at hl 1 rfl) ?_
        exact nr_retS hx hb hr hlocks (by refine congrArg nI ?_; unfold sWeight; (repeat' split) <;> omega) rfl dX12_weighsAs_73
      · refine nr_tabIn (j := 2) (tgt := 74) hx hb (by omega) c16 dX12_weighsAs_36 (by decide) (by decide) rfl (by decide) ?_
        refine lv_iload hx hb dX12_weighsAs_74 (lv_at hl 0 rfl) ?_
        exact nr_retS hx hb hr hlocks (by refine congrArg nI ?_; unfold sWeight; (repeat' split) <;> omega) rfl dX12_weighsAs_76
      · refine nr_tabIn (j := 3) (tgt := 77) hx hb (by omega) c16 dX12_weighsAs_36 (by decide) (by decide) rfl (by decide) ?_
        refine lv_iload_n hx hb dX12_weighsAs_77 rfl (lv_at hl 1 rfl) ?_
        refine lv_iconst (v := nI 2) hx hb dX12_weighsAs_78 (by decide) ?_
        refine nr_icmp_ge (tgt := 86) hx hb (by omega) (by decide) dX12_weighsAs_79 (by decide) (fun c17 => ?_) (fun c17 => ?_)
        · refine lv_iload_n hx hb dX12_weighsAs_86 rfl (lv_at hl 1 rfl) ?_
          exact nr_retS hx hb hr hlocks (by refine congrArg nI ?_; unfold sWeight; (repeat' split) <;> omega) rfl dX12_weighsAs_87
        · refine lv_iconst (v := nI 2) hx hb dX12_weighsAs_82 (by decide) ?_
          refine lv_goto (tgt := 87) hx hb dX12_weighsAs_83 (by decide) ?_
          exact nr_retS hx hb hr hlocks (by refine congrArg nI ?_; unfold sWeight; (repeat' split) <;> omega) rfl dX12_weighsAs_87
      · refine nr_tabIn (j := 4) (tgt := 88) hx hb (by omega) c16 dX12_weighsAs_36 (by decide) (by decide) rfl (by decide) ?_
        refine lv_iconst (v := nI 2) hx hb dX12_weighsAs_88 (by decide) ?_
        refine lv_iload hx hb dX12_weighsAs_89 (lv_at hl 0 rfl) ?_
        refine nr_imul hx hb dX12_weighsAs_91 ?_
        exact nr_retS hx hb hr hlocks (by refine congrArg nI ?_; unfold sWeight; (repeat' split) <;> omega) rfl dX12_weighsAs_92
      · refine nr_tabIn (j := 5) (tgt := 93) hx hb (by omega) c16 dX12_weighsAs_36 (by decide) (by decide) rfl (by decide) ?_
        refine lv_iload_n hx hb dX12_weighsAs_93 rfl (lv_at hl 4 rfl) ?_
        refine lv_iconst (v := nI 1) hx hb dX12_weighsAs_94 (by decide) ?_
        refine nr_icmp_lt (tgt := 109) hx hb (by omega) (by decide) dX12_weighsAs_95 (by decide) (fun c18 => ?_) (fun c18 => ?_)
        · refine lv_iload_n hx hb dX12_weighsAs_109 rfl (lv_at hl 1 rfl) ?_
          exact nr_retS hx hb hr hlocks (by refine congrArg nI ?_; unfold sWeight; (repeat' split) <;> omega) rfl dX12_weighsAs_110
        · refine lv_iload_n hx hb dX12_weighsAs_98 rfl (lv_at hl 4 rfl) ?_
          refine lv_bipush (v := nI 7) hx hb dX12_weighsAs_99 (by decide) ?_
          refine nr_irem hx hb (by omega) (by decide) (by decide) dX12_weighsAs_101 ?_
          refine nr_if_ne (tgt := 109) hx hb (by omega) dX12_weighsAs_102 (by decide) (fun c19 => ?_) (fun c19 => ?_)
          · refine lv_iload_n hx hb dX12_weighsAs_109 rfl (lv_at hl 1 rfl) ?_
            exact nr_retS hx hb hr hlocks (by refine congrArg nI ?_; unfold sWeight; (repeat' split) <;> omega) rfl dX12_weighsAs_110
          · refine lv_iconst (v := nI 0) hx hb dX12_weighsAs_105 (by decide) ?_
            refine lv_goto (tgt := 110) hx hb dX12_weighsAs_106 (by decide) ?_
            exact nr_retS hx hb hr hlocks (by refine congrArg nI ?_; unfold sWeight; (repeat' split) <;> omega) rfl dX12_weighsAs_110
      · refine nr_tabOut (tgt := 111) hx hb (by omega) dX12_weighsAs_36 (by omega) (by decide) ?_
        refine lv_iload_n hx hb dX12_weighsAs_111 rfl (lv_at hl 3 rfl) ?_
        exact nr_retS hx hb hr hlocks (by refine congrArg nI ?_; unfold sWeight; (repeat' split) <;> omega) rfl dX12_weighsAs_112
set_option maxHeartbeats 4000000 in
set_option maxRecDepth 100000 in
theorem c_X12_letsAs (l : Launch) (Γ : Gam) (n : Nat) (G : Nat → va_E) (kind r t : Nat) (hk : kind < 2147483648) (hr : r < 1073741824) (ht : t < 1073741824)  : Met l yX12_letsAs wsX12_letsAs ({ frames := 0, cells := 0, slots := 0, locals := 0 }) (va_Pc [.int (nI kind), .int (nI r), .int (nI t)] (fun U => hw Γ n G U U.heap)) (vp_Si (fun z => z = nI (sMercy kind r t))) 0 0 (fun _ => False) := by
  refine Met.ofW (cc := cX12_letsAs) (maxL := 5) (ret := (some .int)) (by decide) rfl ?_
  intro p e s m args below meth c s₁ B hml hv
  obtain ⟨rfl, hw⟩ := hv
  have hx := B.exec
  have hb := B.bytes
  have hr := B.returns
  have hts := atoms_spec (ws := wsX12_letsAs) B.pre
  have hown : s.vm.findClass RX12 = some m.cls := findClass_of_methodNamed B.named
  have hlocks := B.notSynchronized
  have hl := lv_entry ([.int (nI kind), .int (nI r), .int (nI t)]) (n := 5) (Nat.le_of_ble_eq_true rfl)
  rw [lg_entry_eq]
  generalize (lg_sl ([.int (nI kind), .int (nI r), .int (nI t)]) ++ List.replicate (5 - (lg_sl ([.int (nI kind), .int (nI r), .int (nI t)])).length) Slot.unset).toArray = ls at hl ⊢
  have hl : lv_has ls 5 [(0, .int (nI kind)), (1, .int (nI r)), (2, .int (nI t))] := hl
  refine lv_iconst (v := nI 2) hx hb dX12_letsAs_0 (by decide) ?_
  refine lv_iload_n hx hb dX12_letsAs_1 rfl (lv_at hl 1 rfl) ?_
  refine nr_iadd hx hb dX12_letsAs_2 ?_
  refine lv_istore_n (lv' := [(3, .int (nI (2 + r))), (0, .int (nI kind)), (1, .int (nI r)), (2, .int (nI t))]) hx hb dX12_letsAs_3 rfl hl (by decide) rfl (fun ls hl => ?_)
  refine lv_iload_n hx hb dX12_letsAs_4 rfl (lv_at hl 0 rfl) ?_
  refine lv_iconst (v := nI 2) hx hb dX12_letsAs_5 (by decide) ?_
  refine nr_idiv hx hb (by omega) (by decide) (by decide) dX12_letsAs_6 ?_
  refine lv_istore (lv' := [(4, .int (nI ((2 + r) / 2))), (3, .int (nI (2 + r))), (0, .int (nI kind)), (1, .int (nI r)), (2, .int (nI t))]) hx hb dX12_letsAs_7 hl (by decide) rfl (fun ls hl => ?_)
  refine lv_iload_n hx hb dX12_letsAs_9 rfl (lv_at hl 2 rfl) ?_
  rcases (show kind = 1 ∨ kind = 2 ∨ kind = 3 ∨ kind = 4 ∨ kind = 5 ∨ (kind < 1 ∨ 5 < kind) by omega) with c1 | c1 | c1 | c1 | c1 | c1
  · refine nr_tabIn (j := 1) (tgt := 44) hx hb (by omega) c1 dX12_letsAs_10 (by decide) (by decide) rfl (by decide) ?_
    refine lv_iload_n hx hb dX12_letsAs_44 rfl (lv_at hl 1 rfl) ?_
    refine lv_iconst (v := nI 3) hx hb dX12_letsAs_45 (by decide) ?_
    refine nr_iadd hx hb dX12_letsAs_46 ?_
    exact nr_retS hx hb hr hlocks (by refine congrArg nI ?_; unfold sMercy; (repeat' split) <;> omega) rfl dX12_letsAs_47
  · refine nr_tabIn (j := 2) (tgt := 48) hx hb (by omega) c1 dX12_letsAs_10 (by decide) (by decide) rfl (by decide) ?_
    refine lv_iload hx hb dX12_letsAs_48 (lv_at hl 0 rfl) ?_
    exact nr_retS hx hb hr hlocks (by refine congrArg nI ?_; unfold sMercy; (repeat' split) <;> omega) rfl dX12_letsAs_50
  · refine nr_tabIn (j := 3) (tgt := 51) hx hb (by omega) c1 dX12_letsAs_10 (by decide) (by decide) rfl (by decide) ?_
    refine lv_iload_n hx hb dX12_letsAs_51 rfl (lv_at hl 4 rfl) ?_
    refine lv_bipush (v := nI 30) hx hb dX12_letsAs_52 (by decide) ?_
    refine nr_irem hx hb (by omega) (by decide) (by decide) dX12_letsAs_54 ?_
    refine nr_if_ne (tgt := 63) hx hb (by omega) dX12_letsAs_55 (by decide) (fun c2 => ?_) (fun c2 => ?_)
    · refine lv_iload hx hb dX12_letsAs_63 (lv_at hl 0 rfl) ?_
      exact nr_retS hx hb hr hlocks (by refine congrArg nI ?_; unfold sMercy; (repeat' split) <;> omega) rfl dX12_letsAs_65
    · refine lv_bipush (v := nI 30) hx hb dX12_letsAs_58 (by decide) ?_
      refine lv_goto (tgt := 65) hx hb dX12_letsAs_60 (by decide) ?_
      exact nr_retS hx hb hr hlocks (by refine congrArg nI ?_; unfold sMercy; (repeat' split) <;> omega) rfl dX12_letsAs_65
  · refine nr_tabIn (j := 4) (tgt := 66) hx hb (by omega) c1 dX12_letsAs_10 (by decide) (by decide) rfl (by decide) ?_
    refine lv_iload_n hx hb dX12_letsAs_66 rfl (lv_at hl 3 rfl) ?_
    refine lv_iconst (v := nI 2) hx hb dX12_letsAs_67 (by decide) ?_
    refine nr_icmp_lt (tgt := 78) hx hb (by omega) (by decide) dX12_letsAs_68 (by decide) (fun c3 => ?_) (fun c3 => ?_)
    · refine lv_iload hx hb dX12_letsAs_78 (lv_at hl 0 rfl) ?_
      exact nr_retS hx hb hr hlocks (by refine congrArg nI ?_; unfold sMercy; (repeat' split) <;> omega) rfl dX12_letsAs_80
    · refine lv_iload hx hb dX12_letsAs_71 (lv_at hl 0 rfl) ?_
      refine lv_iconst (v := nI 1) hx hb dX12_letsAs_73 (by decide) ?_
      refine nr_iadd hx hb dX12_letsAs_74 ?_
      refine lv_goto (tgt := 80) hx hb dX12_letsAs_75 (by decide) ?_
      exact nr_retS hx hb hr hlocks (by refine congrArg nI ?_; unfold sMercy; (repeat' split) <;> omega) rfl dX12_letsAs_80
  · refine nr_tabIn (j := 5) (tgt := 81) hx hb (by omega) c1 dX12_letsAs_10 (by decide) (by decide) rfl (by decide) ?_
    refine lv_iload_n hx hb dX12_letsAs_81 rfl (lv_at hl 1 rfl) ?_
    refine lv_iconst (v := nI 3) hx hb dX12_letsAs_82 (by decide) ?_
    refine nr_iadd hx hb dX12_letsAs_83 ?_
    refine lv_iload_n hx hb dX12_letsAs_84 rfl (lv_at hl 4 rfl) ?_
    refine lv_bipush (v := nI 10) hx hb dX12_letsAs_85 (by decide) ?_
    refine nr_idiv hx hb (by omega) (by decide) (by decide) dX12_letsAs_87 ?_
    refine lv_bipush (v := nI 9) hx hb dX12_letsAs_88 (by decide) ?_
    refine nr_icmp_le (tgt := 98) hx hb (by omega) (by decide) dX12_letsAs_90 (by decide) (fun c4 => ?_) (fun c4 => ?_)
    · refine lv_iload_n hx hb dX12_letsAs_98 rfl (lv_at hl 4 rfl) ?_
      refine lv_bipush (v := nI 10) hx hb dX12_letsAs_99 (by decide) ?_
      refine nr_idiv hx hb (by omega) (by decide) (by decide) dX12_letsAs_101 ?_
      refine nr_iadd hx hb dX12_letsAs_102 ?_
      exact nr_retS hx hb hr hlocks (by refine congrArg nI ?_; unfold sMercy; (repeat' split) <;> omega) rfl dX12_letsAs_103
    · refine lv_bipush (v := nI 9) hx hb dX12_letsAs_93 (by decide) ?_
      refine lv_goto (tgt := 102) hx hb dX12_letsAs_95 (by decide) ?_
      refine nr_iadd hx hb dX12_letsAs_102 ?_
      exact nr_retS hx hb hr hlocks (by refine congrArg nI ?_; unfold sMercy; (repeat' split) <;> omega) rfl dX12_letsAs_103
  · refine nr_tabOut (tgt := 104) hx hb (by omega) dX12_letsAs_10 (by omega) (by decide) ?_
    refine lv_iload_n hx hb dX12_letsAs_104 rfl (lv_at hl 1 rfl) ?_
    exact nr_retS hx hb hr hlocks (by refine congrArg nI ?_; unfold sMercy; (repeat' split) <;> omega) rfl dX12_letsAs_105
set_option maxHeartbeats 4000000 in
set_option maxRecDepth 100000 in
theorem c_X12_weighsOf (l : Launch) (Γ : Gam) (n : Nat) (G : Nat → va_E) (ra len : Nat) (R : Nat → Nat) (hC : G ra = na Γ len R) (hra : ra < n) (hlen : 60 ≤ len) (hlen2 : len < 2147483648) (hI : aI R) (k : Nat) (hk : k < 8)  : Met l yX12_weighsOf wsX12_weighsOf ({ frames := 1, cells := 0, slots := 0, locals := 24 }) (va_Pc [.ref (ad Γ ra), .int (nI k)] (fun U => hw Γ n G U U.heap)) (vp_Si (fun z => z = nI (rW R k))) 0 0 (fun _ => False) := by
  refine Met.ofW (cc := cX12_weighsOf) (maxL := 2) (ret := (some .int)) (by decide) rfl ?_
  intro p e s m args below meth c s₁ B hml hv
  obtain ⟨rfl, hw⟩ := hv
  have hx := B.exec
  have hb := B.bytes
  have hr := B.returns
  have hts := atoms_spec (ws := wsX12_weighsOf) B.pre
  have hown : s.vm.findClass RX12 = some m.cls := findClass_of_methodNamed B.named
  have hlocks := B.notSynchronized
  have hl := lv_entry ([.ref (ad Γ ra), .int (nI k)]) (n := 2) (Nat.le_of_ble_eq_true rfl)
  rw [lg_entry_eq]
  generalize (lg_sl ([.ref (ad Γ ra), .int (nI k)]) ++ List.replicate (2 - (lg_sl ([.ref (ad Γ ra), .int (nI k)])).length) Slot.unset).toArray = ls at hl ⊢
  have hl : lv_has ls 2 [(0, .ref (ad Γ ra)), (1, .int (nI k))] := hl
  have hB := hI.1
  have hB0 := hI.2.1
  have hB1 := hI.2.2.1
  have hby := hI.2.2.2.1
  have hto := hI.2.2.2.2.1
  have hB20 := hI.2.2.2.2.2
  refine lv_aload_n hx hb dX12_weighsOf_0 rfl (lv_at hl 0 rfl) ?_
  refine lv_bipush (v := nI 28) hx hb dX12_weighsOf_1 (by decide) ?_
  refine lv_iload_n hx hb dX12_weighsOf_3 rfl (lv_at hl 1 rfl) ?_
  refine nr_iadd hx hb dX12_weighsOf_4 ?_
  refine nr_iald (x := (R (28 + k))) hx hb hw (by omega) hC rfl (by omega) (by omega) dX12_weighsOf_5 ?_
  have hL1 := hB (28 + k)
  refine lv_aload_n hx hb dX12_weighsOf_6 rfl (lv_at hl 0 rfl) ?_
  refine lv_bipush (v := nI 52) hx hb dX12_weighsOf_7 (by decide) ?_
  refine lv_iload_n hx hb dX12_weighsOf_9 rfl (lv_at hl 1 rfl) ?_
  refine nr_iadd hx hb dX12_weighsOf_10 ?_
  refine nr_iald (x := (R (52 + k))) hx hb hw (by omega) hC rfl (by omega) (by omega) dX12_weighsOf_11 ?_
  have hL2 := hB (52 + k)
  refine lv_aload_n hx hb dX12_weighsOf_12 rfl (lv_at hl 0 rfl) ?_
  refine lv_bipush (v := nI 12) hx hb dX12_weighsOf_13 (by decide) ?_
  refine lv_iload_n hx hb dX12_weighsOf_15 rfl (lv_at hl 1 rfl) ?_
  refine nr_iadd hx hb dX12_weighsOf_16 ?_
  refine nr_iald (x := (R (12 + k))) hx hb hw (by omega) hC rfl (by omega) (by omega) dX12_weighsOf_17 ?_
  have hL3 := hB (12 + k)
  refine nr_goS (nr_runS (As := [.int (nI (R (28 + k))), .int (nI (R (52 + k))), .int (nI (R (12 + k)))]) ⟨hx, hb, hml, hown, hts⟩ hw (c_X12_weighsAs l Γ n G (R (28 + k)) (R (52 + k)) (R (12 + k)) (by omega) (by omega) (by omega)) (va_cwS 3 hts gX12_weighsOf_X12_weighsAs rfl rfl rfl (by decide +kernel) ⟨Nat.le_of_ble_eq_true rfl, Nat.le_of_ble_eq_true rfl⟩) rfl hl.1 rfl (Nat.le_of_ble_eq_true rfl) dX12_weighsOf_18 ⟨Nat.zero_le _, Nat.zero_le _⟩) (fun r4 hr4 => ?_)
  obtain rfl : r4 = (nI (sWeight (R (28 + k)) (R (52 + k)) (R (12 + k)))) := hr4
  exact nr_retS hx hb hr hlocks (rfl) rfl dX12_weighsOf_21
set_option maxHeartbeats 4000000 in
set_option maxRecDepth 100000 in
theorem c_X12_letsOf (l : Launch) (Γ : Gam) (n : Nat) (G : Nat → va_E) (ra len : Nat) (R : Nat → Nat) (hC : G ra = na Γ len R) (hra : ra < n) (hlen : 60 ≤ len) (hlen2 : len < 2147483648) (hI : aI R) (i : Nat) (hi : i < 6)  : Met l yX12_letsOf wsX12_letsOf ({ frames := 1, cells := 0, slots := 0, locals := 24 }) (va_Pc [.ref (ad Γ ra), .int (nI i)] (fun U => hw Γ n G U U.heap)) (vp_Si (fun z => z = nI (rL R i))) 0 0 (fun _ => False) := by
  refine Met.ofW (cc := cX12_letsOf) (maxL := 2) (ret := (some .int)) (by decide) rfl ?_
  intro p e s m args below meth c s₁ B hml hv
  obtain ⟨rfl, hw⟩ := hv
  have hx := B.exec
  have hb := B.bytes
  have hr := B.returns
  have hts := atoms_spec (ws := wsX12_letsOf) B.pre
  have hown : s.vm.findClass RX12 = some m.cls := findClass_of_methodNamed B.named
  have hlocks := B.notSynchronized
  have hl := lv_entry ([.ref (ad Γ ra), .int (nI i)]) (n := 2) (Nat.le_of_ble_eq_true rfl)
  rw [lg_entry_eq]
  generalize (lg_sl ([.ref (ad Γ ra), .int (nI i)]) ++ List.replicate (2 - (lg_sl ([.ref (ad Γ ra), .int (nI i)])).length) Slot.unset).toArray = ls at hl ⊢
  have hl : lv_has ls 2 [(0, .ref (ad Γ ra)), (1, .int (nI i))] := hl
  have hB := hI.1
  have hB0 := hI.2.1
  have hB1 := hI.2.2.1
  have hby := hI.2.2.2.1
  have hto := hI.2.2.2.2.1
  have hB20 := hI.2.2.2.2.2
  refine lv_aload_n hx hb dX12_letsOf_0 rfl (lv_at hl 0 rfl) ?_
  refine lv_bipush (v := nI 22) hx hb dX12_letsOf_1 (by decide) ?_
  refine lv_iload_n hx hb dX12_letsOf_3 rfl (lv_at hl 1 rfl) ?_
  refine nr_iadd hx hb dX12_letsOf_4 ?_
  refine nr_iald (x := (R (22 + i))) hx hb hw (by omega) hC rfl (by omega) (by omega) dX12_letsOf_5 ?_
  have hL1 := hB (22 + i)
  refine lv_aload_n hx hb dX12_letsOf_6 rfl (lv_at hl 0 rfl) ?_
  refine lv_bipush (v := nI 6) hx hb dX12_letsOf_7 (by decide) ?_
  refine lv_iload_n hx hb dX12_letsOf_9 rfl (lv_at hl 1 rfl) ?_
  refine nr_iadd hx hb dX12_letsOf_10 ?_
  refine nr_iald (x := (R (6 + i))) hx hb hw (by omega) hC rfl (by omega) (by omega) dX12_letsOf_11 ?_
  have hL2 := hB (6 + i)
  refine lv_aload_n hx hb dX12_letsOf_12 rfl (lv_at hl 0 rfl) ?_
  refine lv_bipush (v := nI 21) hx hb dX12_letsOf_13 (by decide) ?_
  refine nr_iald (x := (R 21)) hx hb hw (by omega) hC rfl (by omega) (by omega) dX12_letsOf_15 ?_
  have hL3 := hB (21)
  refine nr_goS (nr_runS (As := [.int (nI (R (22 + i))), .int (nI (R (6 + i))), .int (nI (R 21))]) ⟨hx, hb, hml, hown, hts⟩ hw (c_X12_letsAs l Γ n G (R (22 + i)) (R (6 + i)) (R 21) (by omega) (by omega) (by omega)) (va_cwS 3 hts gX12_letsOf_X12_letsAs rfl rfl rfl (by decide +kernel) ⟨Nat.le_of_ble_eq_true rfl, Nat.le_of_ble_eq_true rfl⟩) rfl hl.1 rfl (Nat.le_of_ble_eq_true rfl) dX12_letsOf_16 ⟨Nat.zero_le _, Nat.zero_le _⟩) (fun r4 hr4 => ?_)
  obtain rfl : r4 = (nI (sMercy (R (22 + i)) (R (6 + i)) (R 21))) := hr4
  exact nr_retS hx hb hr hlocks (rfl) rfl dX12_letsOf_19
set_option maxHeartbeats 4000000 in
set_option maxRecDepth 100000 in
theorem c_X12_canOff (l : Launch) (Γ : Gam) (n : Nat) (G : Nat → va_E) (ra len : Nat) (R : Nat → Nat) (hC : G ra = na Γ len R) (hra : ra < n) (hlen : 60 ≤ len) (hlen2 : len < 2147483648) (hI : aI R) (k : Nat) (hk : k < 8)  : Met l yX12_canOff wsX12_canOff ({ frames := 2, cells := 0, slots := 0, locals := 45 }) (va_Pc [.ref (ad Γ ra), .int (nI k)] (fun U => hw Γ n G U U.heap)) (vp_Si (bp (canP R k))) 0 0 (fun _ => False) := by
  refine Met.ofW (cc := cX12_canOff) (maxL := 2) (ret := (some .boolean)) (by decide) rfl ?_
  intro p e s m args below meth c s₁ B hml hv
  obtain ⟨rfl, hw⟩ := hv
  have hx := B.exec
  have hb := B.bytes
  have hr := B.returns
  have hts := atoms_spec (ws := wsX12_canOff) B.pre
  have hown : s.vm.findClass RX12 = some m.cls := findClass_of_methodNamed B.named
  have hlocks := B.notSynchronized
  have hl := lv_entry ([.ref (ad Γ ra), .int (nI k)]) (n := 2) (Nat.le_of_ble_eq_true rfl)
  rw [lg_entry_eq]
  generalize (lg_sl ([.ref (ad Γ ra), .int (nI k)]) ++ List.replicate (2 - (lg_sl ([.ref (ad Γ ra), .int (nI k)])).length) Slot.unset).toArray = ls at hl ⊢
  have hl : lv_has ls 2 [(0, .ref (ad Γ ra)), (1, .int (nI k))] := hl
  have hB := hI.1
  have hB0 := hI.2.1
  have hB1 := hI.2.2.1
  have hby := hI.2.2.2.1
  have hto := hI.2.2.2.2.1
  have hB20 := hI.2.2.2.2.2
  have hto1 := hto k hk
  have hw1 := rW_lt hB k
  have hl1 := rL_lt hB (R (44 + k))
  refine lv_aload_n hx hb dX12_canOff_0 rfl (lv_at hl 0 rfl) ?_
  refine lv_bipush (v := nI 20) hx hb dX12_canOff_1 (by decide) ?_
  refine nr_iald (x := (R 20)) hx hb hw (by omega) hC rfl (by omega) (by omega) dX12_canOff_3 ?_
  have hL1 := hB (20)
  refine lv_iload_n hx hb dX12_canOff_4 rfl (lv_at hl 1 rfl) ?_
  refine nr_goB (P := bt (R 20) k) (nr_runS (As := [.int (nI (R 20)), .int (nI k)]) ⟨hx, hb, hml, hown, hts⟩ hw (c_X12_has l Γ n G (R 20) k (by omega) (by omega)) (va_cwS 2 hts gX12_canOff_X12_has rfl rfl rfl (by decide +kernel) ⟨Nat.le_of_ble_eq_true rfl, Nat.le_of_ble_eq_true rfl⟩) rfl hl.1 rfl (Nat.le_of_ble_eq_true rfl) dX12_canOff_5 ⟨Nat.zero_le _, Nat.zero_le _⟩) (fun b2 => ?_) (fun b2 => ?_)
  · refine nr_if_ne (tgt := 33) hx hb (by decide) dX12_canOff_8 (by decide) (fun c3 => ?_) (fun c3 => absurd c3 (by decide))
    refine lv_iconst (v := nI 0) hx hb dX12_canOff_33 (by decide) ?_
    exact nr_retB hx hb hr hlocks (Or.inr ⟨by intro hh; first | exact hh.1 (by assumption) | (have := hh.2; omega), rfl⟩) rfl dX12_canOff_34
  · refine nr_if_ne (tgt := 33) hx hb (by decide) dX12_canOff_8 (by decide) (fun c4 => absurd c4 (by decide)) (fun c4 => ?_)
    refine lv_aload_n hx hb dX12_canOff_11 rfl (lv_at hl 0 rfl) ?_
    refine lv_iload_n hx hb dX12_canOff_12 rfl (lv_at hl 1 rfl) ?_
    refine nr_goS (nr_runS (As := [.ref (ad Γ ra), .int (nI k)]) ⟨hx, hb, hml, hown, hts⟩ hw (c_X12_weighsOf l Γ n G ra len R hC hra hlen hlen2 hI k (by omega)) (va_cwS 2 hts gX12_canOff_X12_weighsOf rfl rfl rfl (by decide +kernel) ⟨Nat.le_of_ble_eq_true rfl, Nat.le_of_ble_eq_true rfl⟩) rfl hl.1 rfl (Nat.le_of_ble_eq_true rfl) dX12_canOff_13 ⟨Nat.zero_le _, Nat.zero_le _⟩) (fun r5 hr5 => ?_)
    obtain rfl : r5 = (nI (rW R k)) := hr5
    refine lv_aload_n hx hb dX12_canOff_16 rfl (lv_at hl 0 rfl) ?_
    refine lv_aload_n hx hb dX12_canOff_17 rfl (lv_at hl 0 rfl) ?_
    refine lv_bipush (v := nI 44) hx hb dX12_canOff_18 (by decide) ?_
    refine lv_iload_n hx hb dX12_canOff_20 rfl (lv_at hl 1 rfl) ?_
    refine nr_iadd hx hb dX12_canOff_21 ?_
    refine nr_iald (x := (R (44 + k))) hx hb hw (by omega) hC rfl (by omega) (by omega) dX12_canOff_22 ?_
    have hL6 := hB (44 + k)
    refine nr_goS (nr_runS (As := [.ref (ad Γ ra), .int (nI (R (44 + k)))]) ⟨hx, hb, hml, hown, hts⟩ hw (c_X12_letsOf l Γ n G ra len R hC hra hlen hlen2 hI (R (44 + k)) (by omega)) (va_cwS 2 hts gX12_canOff_X12_letsOf rfl rfl rfl (by decide +kernel) ⟨Nat.le_of_ble_eq_true rfl, Nat.le_of_ble_eq_true rfl⟩) rfl hl.1 rfl (Nat.le_of_ble_eq_true rfl) dX12_canOff_23 ⟨Nat.zero_le _, Nat.zero_le _⟩) (fun r7 hr7 => ?_)
    obtain rfl : r7 = (nI (rL R (R (44 + k)))) := hr7
    refine nr_icmp_gt (tgt := 33) hx hb (by omega) (by omega) dX12_canOff_26 (by decide) (fun c8 => ?_) (fun c8 => ?_)
    · refine lv_iconst (v := nI 0) hx hb dX12_canOff_33 (by decide) ?_
      exact nr_retB hx hb hr hlocks (Or.inr ⟨by intro hh; first | exact hh.1 (by assumption) | (have := hh.2; omega), rfl⟩) rfl dX12_canOff_34
    · refine lv_iconst (v := nI 1) hx hb dX12_canOff_29 (by decide) ?_
      refine lv_goto (tgt := 34) hx hb dX12_canOff_30 (by decide) ?_
      exact nr_retB hx hb hr hlocks (Or.inl ⟨⟨by assumption, by omega⟩, rfl⟩) rfl dX12_canOff_34
set_option maxHeartbeats 4000000 in
set_option maxRecDepth 100000 in
theorem c_X12_isGuilty (l : Launch) (Γ : Gam) (n : Nat) (G : Nat → va_E) (ra len : Nat) (R : Nat → Nat) (hC : G ra = na Γ len R) (hra : ra < n) (hlen : 60 ≤ len) (hlen2 : len < 2147483648) (hI : aI R) (i : Nat) (hi : i < 2147483648)  : Met l yX12_isGuilty wsX12_isGuilty ({ frames := 1, cells := 0, slots := 0, locals := 21 }) (va_Pc [.ref (ad Γ ra), .int (nI i)] (fun U => hw Γ n G U U.heap)) (vp_Si (bp (guiltyP R i))) 0 0 (fun _ => False) := by
  refine Met.ofW (cc := cX12_isGuilty) (maxL := 4) (ret := (some .boolean)) (by decide) rfl ?_
  intro p e s m args below meth c s₁ B hml hv
  obtain ⟨rfl, hw⟩ := hv
  have hx := B.exec
  have hb := B.bytes
  have hr := B.returns
  have hts := atoms_spec (ws := wsX12_isGuilty) B.pre
  have hown : s.vm.findClass RX12 = some m.cls := findClass_of_methodNamed B.named
  have hlocks := B.notSynchronized
  have hl := lv_entry ([.ref (ad Γ ra), .int (nI i)]) (n := 4) (Nat.le_of_ble_eq_true rfl)
  rw [lg_entry_eq]
  generalize (lg_sl ([.ref (ad Γ ra), .int (nI i)]) ++ List.replicate (4 - (lg_sl ([.ref (ad Γ ra), .int (nI i)])).length) Slot.unset).toArray = ls at hl ⊢
  have hl : lv_has ls 4 [(0, .ref (ad Γ ra)), (1, .int (nI i))] := hl
  have hB := hI.1
  have hB0 := hI.2.1
  have hB1 := hI.2.2.1
  have hby := hI.2.2.2.1
  have hto := hI.2.2.2.2.1
  have hB20 := hI.2.2.2.2.2
  refine lv_iconst (v := nI 0) hx hb dX12_isGuilty_0 (by decide) ?_
  refine lv_istore_n (lv' := [(2, .int (nI 0)), (0, .ref (ad Γ ra)), (1, .int (nI i))]) hx hb dX12_isGuilty_1 rfl hl (by decide) rfl (fun ls hl => ?_)
  refine lv_iconst (v := nI 0) hx hb dX12_isGuilty_2 (by decide) ?_
  refine lv_istore_n (lv' := [(3, .int (nI 0)), (2, .int (nI 0)), (0, .ref (ad Γ ra)), (1, .int (nI i))]) hx hb dX12_isGuilty_3 rfl hl (by decide) rfl (fun ls hl => ?_)
  refine nr_lp (σ := Nat × Nat) (pc := 4) (fun x lv => lv = [(0, .ref (ad Γ ra)), (1, .int (nI i)), (2, .int (nI x.2)), (3, .int (nI x.1))] ∧ (x.1 ≤ R 1) ∧ ((x.2 = 1 ∧ ∃ j, j < x.1 ∧ R (36 + j) = i ∧ ¬ bt (R 20) j) ∨ (x.2 = 0 ∧ ∀ j, j < x.1 → ¬ (R (36 + j) = i ∧ ¬ bt (R 20) j)))) (fun x => R 1 - x.1) (0, 0) (lv_sub hl [2, 3, 1, 0] rfl) ⟨rfl, by (try dsimp only); omega, Or.inr ⟨rfl, fun j hj => absurd hj (Nat.not_lt_zero j)⟩⟩ ?_
  intro x lv ls hl hI ih4
  obtain ⟨k, t⟩ := x
  obtain ⟨rfl, hk, ht⟩ := hI
  try dsimp only at hk ht hl ih4
  refine lv_iload_n hx hb dX12_isGuilty_4 rfl (lv_at hl 3 rfl) ?_
  refine lv_aload_n hx hb dX12_isGuilty_5 rfl (lv_at hl 0 rfl) ?_
  refine lv_iconst (v := nI 1) hx hb dX12_isGuilty_6 (by decide) ?_
  refine nr_iald (x := (R 1)) hx hb hw (by omega) hC rfl (by omega) (by omega) dX12_isGuilty_7 ?_
  have hL1 := hB (1)
  refine nr_icmp_ge (tgt := 48) hx hb (by omega) (by omega) dX12_isGuilty_8 (by decide) (fun c2 => ?_) (fun c2 => ?_)
  · refine lv_iload_n hx hb dX12_isGuilty_48 rfl (lv_at hl 2 rfl) ?_
    exact nr_retB hx hb hr hlocks (by
      rcases ht with ⟨t1, j, j1, j2, j3⟩ | ⟨t1, hn⟩
      · exact Or.inl ⟨⟨j, by omega, j2, j3⟩, by rw [t1]⟩
      · exact Or.inr ⟨fun ⟨j, j1, j2, j3⟩ => hn j (by omega) ⟨j2, j3⟩, by rw [t1]⟩) rfl dX12_isGuilty_49
  · refine lv_iload_n hx hb dX12_isGuilty_11 rfl (lv_at hl 2 rfl) ?_
    refine nr_if_ne (tgt := 36) hx hb (by omega) dX12_isGuilty_12 (by decide) (fun c3 => ?_) (fun c3 => ?_)
    · refine lv_iconst (v := nI 1) hx hb dX12_isGuilty_36 (by decide) ?_
      refine lv_goto (tgt := 41) hx hb dX12_isGuilty_37 (by decide) ?_
      refine lv_istore_n (lv' := [(2, .int (nI 1)), (0, .ref (ad Γ ra)), (1, .int (nI i)), (3, .int (nI k))]) hx hb dX12_isGuilty_41 rfl hl (by decide) rfl (fun ls hl => ?_)
      refine nr_inc (d := 1) (k := 3) (lv' := [(3, .int (nI (k + 1))), (2, .int (nI 1)), (0, .ref (ad Γ ra)), (1, .int (nI i))]) hx hb dX12_isGuilty_42 hl rfl (by decide) (by decide) rfl (fun ls hl => ?_)
      refine lv_goto (tgt := 4) hx hb dX12_isGuilty_45 (by decide) ?_
      exact ih4 (k + 1, 1) _ _ (lv_sub hl [2, 3, 1, 0] rfl) ⟨rfl, by (try dsimp only); omega, by
            rcases ht with ⟨t1, j, j1, j2⟩ | ⟨t1, hn⟩
            · first | exact Or.inl ⟨rfl, j, by omega, j2⟩ | omega
            · first
              | exact Or.inl ⟨rfl, k, by omega, by assumption, by assumption⟩
              | (refine Or.inr ⟨rfl, fun j hj => ?_⟩
                 rcases Nat.lt_or_eq_of_le (Nat.le_of_lt_succ hj) with q | q
                 · exact hn j q
                 · subst q; intro hh; first | exact absurd hh.1 (by assumption) | exact hh.2 (by assumption))
              | omega⟩ (by (try dsimp only); omega)
    · refine lv_aload_n hx hb dX12_isGuilty_15 rfl (lv_at hl 0 rfl) ?_
      refine lv_bipush (v := nI 36) hx hb dX12_isGuilty_16 (by decide) ?_
      refine lv_iload_n hx hb dX12_isGuilty_18 rfl (lv_at hl 3 rfl) ?_
      refine nr_iadd hx hb dX12_isGuilty_19 ?_
      refine nr_iald (x := (R (36 + k))) hx hb hw (by omega) hC rfl (by omega) (by omega) dX12_isGuilty_20 ?_
      have hL4 := hB (36 + k)
      refine lv_iload_n hx hb dX12_isGuilty_21 rfl (lv_at hl 1 rfl) ?_
      refine nr_icmp_ne (tgt := 40) hx hb (by omega) (by omega) dX12_isGuilty_22 (by decide) (fun c5 => ?_) (fun c5 => ?_)
      · refine lv_iconst (v := nI 0) hx hb dX12_isGuilty_40 (by decide) ?_
        refine lv_istore_n (lv' := [(2, .int (nI 0)), (0, .ref (ad Γ ra)), (1, .int (nI i)), (3, .int (nI k))]) hx hb dX12_isGuilty_41 rfl hl (by decide) rfl (fun ls hl => ?_)
        refine nr_inc (d := 1) (k := 3) (lv' := [(3, .int (nI (k + 1))), (2, .int (nI 0)), (0, .ref (ad Γ ra)), (1, .int (nI i))]) hx hb dX12_isGuilty_42 hl rfl (by decide) (by decide) rfl (fun ls hl => ?_)
        refine lv_goto (tgt := 4) hx hb dX12_isGuilty_45 (by decide) ?_
        exact ih4 (k + 1, 0) _ _ (lv_sub hl [2, 3, 1, 0] rfl) ⟨rfl, by (try dsimp only); omega, by
            rcases ht with ⟨t1, j, j1, j2⟩ | ⟨t1, hn⟩
            · first | exact Or.inl ⟨rfl, j, by omega, j2⟩ | omega
            · first
              | exact Or.inl ⟨rfl, k, by omega, by assumption, by assumption⟩
              | (refine Or.inr ⟨rfl, fun j hj => ?_⟩
                 rcases Nat.lt_or_eq_of_le (Nat.le_of_lt_succ hj) with q | q
                 · exact hn j q
                 · subst q; intro hh; first | exact absurd hh.1 (by assumption) | exact hh.2 (by assumption))
              | omega⟩ (by (try dsimp only); omega)
      · refine lv_aload_n hx hb dX12_isGuilty_25 rfl (lv_at hl 0 rfl) ?_
        refine lv_bipush (v := nI 20) hx hb dX12_isGuilty_26 (by decide) ?_
        refine nr_iald (x := (R 20)) hx hb hw (by omega) hC rfl (by omega) (by omega) dX12_isGuilty_28 ?_
        have hL6 := hB (20)
        refine lv_iload_n hx hb dX12_isGuilty_29 rfl (lv_at hl 3 rfl) ?_
        refine nr_goB (P := bt (R 20) k) (nr_runS (As := [.int (nI (R 20)), .int (nI k)]) ⟨hx, hb, hml, hown, hts⟩ hw (c_X12_has l Γ n G (R 20) k (by omega) (by omega)) (va_cwS 2 hts gX12_isGuilty_X12_has rfl rfl rfl (by decide +kernel) ⟨Nat.le_of_ble_eq_true rfl, Nat.le_of_ble_eq_true rfl⟩) rfl hl.1 rfl (Nat.le_of_ble_eq_true rfl) dX12_isGuilty_30 ⟨Nat.zero_le _, Nat.zero_le _⟩) (fun b7 => ?_) (fun b7 => ?_)
        · refine nr_if_ne (tgt := 40) hx hb (by decide) dX12_isGuilty_33 (by decide) (fun c8 => ?_) (fun c8 => absurd c8 (by decide))
          refine lv_iconst (v := nI 0) hx hb dX12_isGuilty_40 (by decide) ?_
          refine lv_istore_n (lv' := [(2, .int (nI 0)), (0, .ref (ad Γ ra)), (1, .int (nI i)), (3, .int (nI k))]) hx hb dX12_isGuilty_41 rfl hl (by decide) rfl (fun ls hl => ?_)
          refine nr_inc (d := 1) (k := 3) (lv' := [(3, .int (nI (k + 1))), (2, .int (nI 0)), (0, .ref (ad Γ ra)), (1, .int (nI i))]) hx hb dX12_isGuilty_42 hl rfl (by decide) (by decide) rfl (fun ls hl => ?_)
          refine lv_goto (tgt := 4) hx hb dX12_isGuilty_45 (by decide) ?_
          exact ih4 (k + 1, 0) _ _ (lv_sub hl [2, 3, 1, 0] rfl) ⟨rfl, by (try dsimp only); omega, by
            rcases ht with ⟨t1, j, j1, j2⟩ | ⟨t1, hn⟩
            · first | exact Or.inl ⟨rfl, j, by omega, j2⟩ | omega
            · first
              | exact Or.inl ⟨rfl, k, by omega, by assumption, by assumption⟩
              | (refine Or.inr ⟨rfl, fun j hj => ?_⟩
                 rcases Nat.lt_or_eq_of_le (Nat.le_of_lt_succ hj) with q | q
                 · exact hn j q
                 · subst q; intro hh; first | exact absurd hh.1 (by assumption) | exact hh.2 (by assumption))
              | omega⟩ (by (try dsimp only); omega)
        · refine nr_if_ne (tgt := 40) hx hb (by decide) dX12_isGuilty_33 (by decide) (fun c9 => absurd c9 (by decide)) (fun c9 => ?_)
          refine lv_iconst (v := nI 1) hx hb dX12_isGuilty_36 (by decide) ?_
          refine lv_goto (tgt := 41) hx hb dX12_isGuilty_37 (by decide) ?_
          refine lv_istore_n (lv' := [(2, .int (nI 1)), (0, .ref (ad Γ ra)), (1, .int (nI i)), (3, .int (nI k))]) hx hb dX12_isGuilty_41 rfl hl (by decide) rfl (fun ls hl => ?_)
          refine nr_inc (d := 1) (k := 3) (lv' := [(3, .int (nI (k + 1))), (2, .int (nI 1)), (0, .ref (ad Γ ra)), (1, .int (nI i))]) hx hb dX12_isGuilty_42 hl rfl (by decide) (by decide) rfl (fun ls hl => ?_)
          refine lv_goto (tgt := 4) hx hb dX12_isGuilty_45 (by decide) ?_
          exact ih4 (k + 1, 1) _ _ (lv_sub hl [2, 3, 1, 0] rfl) ⟨rfl, by (try dsimp only); omega, by
            rcases ht with ⟨t1, j, j1, j2⟩ | ⟨t1, hn⟩
            · first | exact Or.inl ⟨rfl, j, by omega, j2⟩ | omega
            · first
              | exact Or.inl ⟨rfl, k, by omega, by assumption, by assumption⟩
              | (refine Or.inr ⟨rfl, fun j hj => ?_⟩
                 rcases Nat.lt_or_eq_of_le (Nat.le_of_lt_succ hj) with q | q
                 · exact hn j q
                 · subst q; intro hh; first | exact absurd hh.1 (by assumption) | exact hh.2 (by assumption))
              | omega⟩ (by (try dsimp only); omega)
