section SQ
theorem kb_w (R : Nat → Nat) (k : Nat) : kbits R k 80 (R 3) 1 = wkinds R k :=
  bits_ext 6 (bitsOf_lt _ _) (bitsOf_lt _ _) (fun j _ => by
    unfold kbits wkinds
    rw [bt_bitsOf, bt_bitsOf]
    constructor <;> (rintro ⟨h1, h2⟩; refine ⟨h1, fun r hr he => ?_⟩; have h3 := h2 r hr he; simpa using h3))
theorem kb_p (R : Nat → Nat) (k : Nat) : kbits R k 104 (R 4) 0 = pkinds R k :=
  bits_ext 6 (bitsOf_lt _ _) (bitsOf_lt _ _) (fun j _ => by
    unfold kbits pkinds
    rw [bt_bitsOf, bt_bitsOf]
    constructor <;> (rintro ⟨h1, h2⟩; refine ⟨h1, fun r hr he => ?_⟩; have h3 := h2 r hr he; simpa using h3))
def rOf (R : Nat → Nat) (i w : Nat) : Nat := if w = 0 then R (22 + i) else if w = 1 then R (6 + i) else if w = 2 then rL R i else (if guiltyP R i then 1 else 0)
def imgK (K R : Nat → Nat) (i q : Nat) : Nat → Nat := fun j => if 256 * i ≤ j ∧ j < 256 * i + q then R (j - 256 * i) else K j
theorem imgK_0 (K R : Nat → Nat) (i : Nat) : K = imgK K R i 0 := by
  funext j; unfold imgK; rw [if_neg (by omega)]
theorem imgK_s (K R : Nat → Nat) (i q : Nat) : va_up (imgK K R i q) (256 * i + q) (R q) = imgK K R i (q + 1) := by
  funext j
  by_cases h : j = 256 * i + q
  · subst h; rw [va_up_self]; unfold imgK; rw [if_pos (by omega), Nat.add_sub_cancel_left]
  · rw [va_up_ne _ _ h]; unfold imgK
    by_cases h2 : 256 * i ≤ j ∧ j < 256 * i + q
    · rw [if_pos h2, if_pos (by omega)]
    · rw [if_neg h2, if_neg (by omega)]
/-- q cells from a on out of those from b on -/
def movR (R : Nat → Nat) (a b q : Nat) : Nat → Nat := fun j => if a ≤ j ∧ j < a + q then R (b + (j - a)) else R j
theorem movR_0 (R : Nat → Nat) (a b : Nat) : R = movR R a b 0 := by
  funext j; unfold movR; rw [if_neg (by omega)]
theorem movR_s (R : Nat → Nat) (a b q : Nat) : va_up (movR R a b q) (a + q) (R (b + q)) = movR R a b (q + 1) := by
  funext j
  by_cases h : j = a + q
  · subst h; rw [va_up_self]; unfold movR; rw [if_pos (by omega), Nat.add_sub_cancel_left]
  · rw [va_up_ne _ _ h]; unfold movR
    by_cases h2 : a ≤ j ∧ j < a + q
    · rw [if_pos h2, if_pos (by omega)]
    · rw [if_neg h2, if_neg (by omega)]
theorem movR_out {R : Nat → Nat} {a b q j : Nat} (h : j < a ∨ a + q ≤ j) : movR R a b q j = R j := by
  unfold movR; rw [if_neg (by omega)]
def fullR (R : Nat → Nat) : Nat → Nat := if R 5 = 8 then va_up (movR R 128 144 112) 5 7 else R
def saveR (R : Nat → Nat) : Nat → Nat := va_up (movR (fullR R) (128 + 16 * fullR R 5) 6 16) 5 (fullR R 5 + 1)
def popR (R : Nat → Nat) : Nat → Nat := movR (va_up R 5 (R 5 - 1)) 6 (128 + 16 * (R 5 - 1)) 16
theorem movR_le {R : Nat → Nat} {c : Nat} (h : ∀ j, R j ≤ c) (a b q j : Nat) : movR R a b q j ≤ c := by
  unfold movR; split <;> exact h _
theorem fullR_5 {R : Nat → Nat} (h : R 5 ≤ 8) : fullR R 5 ≤ 7 := by
  unfold fullR; split
  · rw [va_up_self]; exact Nat.le_refl _
  · omega
theorem fullR_o {R : Nat → Nat} {j : Nat} (h : j < 128) (h5 : j ≠ 5) : fullR R j = R j := by
  unfold fullR; split
  · rw [va_up_ne _ _ h5, movR_out (by omega)]
  · rfl
theorem saveR_o {R : Nat → Nat} {j : Nat} (h : j < 128) (h5 : j ≠ 5) : saveR R j = R j := by
  unfold saveR; rw [va_up_ne _ _ h5, movR_out (by omega), fullR_o h h5]
theorem vI_of {R R2 : Nat → Nat} (h : vI R) (hB : ∀ j, R2 j ≤ 1999) (h5 : R2 5 ≤ 8) (ho : ∀ j, j < 60 → j ≠ 5 → (j < 6 ∨ 20 ≤ j) → j ≠ 21 → R2 j = R j) : vI R2 := by
  obtain ⟨h1, h2, h3, h4, h6, h7, h8, h9, h10, h11⟩ := h
  exact ⟨hB, by rw [ho 0 (by omega) (by omega) (by omega) (by omega)]; exact h2, by rw [ho 1 (by omega) (by omega) (by omega) (by omega)]; exact h3, by rw [ho 2 (by omega) (by omega) (by omega) (by omega)]; exact h4, by rw [ho 3 (by omega) (by omega) (by omega) (by omega)]; exact h6, by rw [ho 4 (by omega) (by omega) (by omega) (by omega)]; exact h7, h5, fun j hj => by rw [ho (36 + j) (by omega) (by omega) (by omega) (by omega)]; exact h9 j hj, fun j hj => by rw [ho (44 + j) (by omega) (by omega) (by omega) (by omega)]; exact h10 j hj, by rw [ho 20 (by omega) (by omega) (by omega) (by omega)]; exact h11⟩
theorem vI_save {R : Nat → Nat} (h : vI R) : vI (saveR R) := by
  have h5 := h.2.2.2.2.2.2.1
  have h7 := fullR_5 h5
  have hf : ∀ j, fullR R j ≤ 1999 := fun j => by
    unfold fullR; split
    · by_cases q : j = 5
      · subst q; rw [va_up_self]; decide
      · rw [va_up_ne _ _ q]; exact movR_le h.1 _ _ _ _
    · exact h.1 j
  refine vI_of h (fun j => ?_) ?_ (fun j hj h5 _ _ => saveR_o (by omega) h5)
  · unfold saveR
    by_cases q : j = 5
    · subst q; rw [va_up_self]; omega
    · rw [va_up_ne _ _ q]; exact movR_le hf _ _ _ _
  · unfold saveR; rw [va_up_self]; omega
end SQ
section SQ2
theorem offR_o {R : Nat → Nat} {k sn j : Nat} (hb : R (36 + k) < 6) (h : 12 ≤ j) (h2 : j ≠ 20) : offR R k sn j = R j := by
  unfold offR; rw [va_up_ne _ _ (by omega), va_up_ne _ _ h2]
theorem offR_le {R : Nat → Nat} {k sn : Nat} (hB : ∀ j, R j ≤ 1998) (h20 : R 20 < 256) (hk : k < 8) (j : Nat) : offR R k sn j ≤ 1999 := by
  have h1 := or_lt256 h20 hk
  have h2 := hB j
  have h3 := hB (6 + R (36 + k))
  unfold offR
  by_cases q : j = 6 + R (36 + k)
  · rw [q, va_up_self]; split <;> omega
  · rw [va_up_ne _ _ q]
    by_cases q2 : j = 20
    · rw [q2, va_up_self]; omega
    · rw [va_up_ne _ _ q2]; omega
end SQ2
theorem wl_X12_kindsBy_1 : Cond.fieldLink RX12 7 "BellForgivenModel" "all" "[I" ∈ wsX12_kindsBy := List.mem_of_getElem? (i := 1) rfl
theorem hi_X12_kindsBy_X12 : ∀ w ∈ u_ws RX12 TX12 19, w ∈ wsX12_kindsBy := fun w h => (List.mem_cons_of_mem _ (List.mem_append_right _ h))
set_option maxHeartbeats 4000000 in
set_option maxRecDepth 100000 in
theorem c_X12_kindsBy (l : Launch) (Γ : Gam) (n : Nat) (G : Nat → va_E) (mo : Nat) (R K kp rf ca rc hd fw tl by0 an vl iv : Nat → Nat) (hM : isM Γ G mo R K kp rf ca rc hd fw tl by0 an vl iv) (hmo : mo + 13 ≤ n) (hI : vI R) (o0 fo q nt : Nat) (ho0 : o0 < 2147483648) (hfo : fo + 4 * q ≤ 256) (hnt : nt < 2)  : Met l yX12_kindsBy wsX12_kindsBy ({ frames := 1, cells := 0, slots := 0, locals := 24 }) (va_Pc [.ref (ad Γ (mo + 0)), .int (nI o0), .int (nI fo), .int (nI q), .int (nI nt)] (fun U => hw Γ n G U U.heap)) (vp_Si (fun z => z = nI (kbits R o0 fo q nt))) 0 0 (fun _ => False) := by
  refine Met.ofW (cc := cX12_kindsBy) (maxL := 11) (ret := (some .int)) (by decide) rfl ?_
  intro p e s m args below meth c s₁ B hml hv
  obtain ⟨rfl, hw⟩ := hv
  have hx := B.exec
  have hb := B.bytes
  have hr := B.returns
  have hts := atoms_spec (ws := wsX12_kindsBy) B.pre
  have hown : s.vm.findClass RX12 = some m.cls := findClass_of_methodNamed B.named
  have hlocks := B.notSynchronized
  have hl := lv_entry ([.ref (ad Γ (mo + 0)), .int (nI o0), .int (nI fo), .int (nI q), .int (nI nt)]) (n := 11) (Nat.le_of_ble_eq_true rfl)
  rw [lg_entry_eq]
  generalize (lg_sl ([.ref (ad Γ (mo + 0)), .int (nI o0), .int (nI fo), .int (nI q), .int (nI nt)]) ++ List.replicate (11 - (lg_sl ([.ref (ad Γ (mo + 0)), .int (nI o0), .int (nI fo), .int (nI q), .int (nI nt)])).length) Slot.unset).toArray = ls at hl ⊢
  have hl : lv_has ls 11 [(0, .ref (ad Γ (mo + 0))), (1, .int (nI o0)), (2, .int (nI fo)), (3, .int (nI q)), (4, .int (nI nt))] := hl
  have hB := hI.1
  have hB0 := hI.2.1
  have hB1 := hI.2.2.1
  have hB20 := hI.2.2.2.2.2.2.2.2.2
  have hBz2 := hI.2.2.2.1
  have hBz3 := hI.2.2.2.2.1
  have hBz4 := hI.2.2.2.2.2.1
  have hBz5 := hI.2.2.2.2.2.2.1
  have hby := hI.2.2.2.2.2.2.2.1
  have hto := hI.2.2.2.2.2.2.2.2.1
  have hWl := fun kd r => sWeight_le kd (R (fo + (r * 4 + 1))) (R (fo + (r * 4 + 2)))
  have hWm := fun kd r => sMercy_le kd (R (fo + (r * 4 + 1))) (R (fo + (r * 4 + 2)))
  refine lv_iconst (v := nI 0) hx hb dX12_kindsBy_0 (by decide) ?_
  refine lv_istore (lv' := [(5, .int (nI 0)), (0, .ref (ad Γ (mo + 0))), (1, .int (nI o0)), (2, .int (nI fo)), (3, .int (nI q)), (4, .int (nI nt))]) hx hb dX12_kindsBy_1 hl (by decide) rfl (fun ls hl => ?_)
  refine lv_iconst (v := nI 0) hx hb dX12_kindsBy_3 (by decide) ?_
  refine lv_istore (lv' := [(6, .int (nI 0)), (5, .int (nI 0)), (0, .ref (ad Γ (mo + 0))), (1, .int (nI o0)), (2, .int (nI fo)), (3, .int (nI q)), (4, .int (nI nt))]) hx hb dX12_kindsBy_4 hl (by decide) rfl (fun ls hl => ?_)
  refine nr_lp (σ := Nat × Nat) (pc := 6) (fun x lv => lv = [(0, .ref (ad Γ (mo + 0))), (1, .int (nI o0)), (2, .int (nI fo)), (3, .int (nI q)), (4, .int (nI nt)), (5, .int (nI x.2)), (6, .int (nI x.1))] ∧ (x.1 ≤ 6) ∧ (x.2 = bitsOf (fun y => ∀ r, r < q → kbQ R o0 fo nt y r) x.1)) (fun x => 6 - x.1) (0, 0) (lv_sub hl [2, 3, 4, 5, 6, 1, 0] rfl) ⟨rfl, by (try dsimp only); omega, rfl⟩ ?_
  intro x lv ls hl hI ih6
  obtain ⟨kd, f⟩ := x
  obtain ⟨rfl, hkd, hf⟩ := hI
  try dsimp only at hkd hf hl ih6
  refine lv_iload hx hb dX12_kindsBy_6 (lv_at hl 6 rfl) ?_
  refine lv_bipush (v := nI 6) hx hb dX12_kindsBy_8 (by decide) ?_
  refine nr_icmp_ge (tgt := 156) hx hb (by omega) (by decide) dX12_kindsBy_10 (by decide) (fun c1 => ?_) (fun c1 => ?_)
  · refine lv_iload hx hb dX12_kindsBy_156 (lv_at hl 5 rfl) ?_
    exact nr_retS hx hb hr hlocks (by rw [hf, show kd = 6 by omega]; rfl) rfl dX12_kindsBy_158
  · refine lv_iconst (v := nI 1) hx hb dX12_kindsBy_13 (by decide) ?_
    refine lv_istore (lv' := [(7, .int (nI 1)), (0, .ref (ad Γ (mo + 0))), (1, .int (nI o0)), (2, .int (nI fo)), (3, .int (nI q)), (4, .int (nI nt)), (5, .int (nI f)), (6, .int (nI kd))]) hx hb dX12_kindsBy_14 hl (by decide) rfl (fun ls hl => ?_)
    refine lv_iconst (v := nI 0) hx hb dX12_kindsBy_16 (by decide) ?_
    refine lv_istore (lv' := [(8, .int (nI 0)), (7, .int (nI 1)), (0, .ref (ad Γ (mo + 0))), (1, .int (nI o0)), (2, .int (nI fo)), (3, .int (nI q)), (4, .int (nI nt)), (5, .int (nI f)), (6, .int (nI kd))]) hx hb dX12_kindsBy_17 hl (by decide) rfl (fun ls hl => ?_)
    refine nr_lp (σ := Nat × Nat) (pc := 19) (fun x lv => lv = [(0, .ref (ad Γ (mo + 0))), (1, .int (nI o0)), (2, .int (nI fo)), (3, .int (nI q)), (4, .int (nI nt)), (5, .int (nI f)), (6, .int (nI kd)), (7, .int (nI x.2)), (8, .int (nI x.1))] ∧ (x.1 ≤ q) ∧ ((x.2 = 1 ∧ ∀ j, j < x.1 → kbQ R o0 fo nt kd j) ∨ (x.2 = 0 ∧ ¬ ∀ j, j < q → kbQ R o0 fo nt kd j))) (fun x => q - x.1) (0, 1) (lv_sub hl [2, 3, 4, 5, 6, 7, 8, 1, 0] rfl) ⟨rfl, by (try dsimp only); omega, by (try dsimp only); exact (Or.inl ⟨rfl, fun j hj => absurd hj (Nat.not_lt_zero j)⟩)⟩ ?_
    intro x lv ls hl hI ih19
    obtain ⟨k, t⟩ := x
    obtain ⟨rfl, hk, ht⟩ := hI
    try dsimp only at hk ht hl ih19
    have hWl1 := hWl kd k
    have hWm1 := hWm kd k
    have hb0 := hB (fo + (k * 4 + 0))
    have hb1 := hB (fo + (k * 4 + 1))
    have hb2 := hB (fo + (k * 4 + 2))
    have hb3 := hB (fo + (k * 4 + 3))
    refine lv_iload hx hb dX12_kindsBy_19 (lv_at hl 8 rfl) ?_
    refine lv_iload_n hx hb dX12_kindsBy_21 rfl (lv_at hl 3 rfl) ?_
    refine nr_icmp_ge (tgt := 132) hx hb (by omega) (by omega) dX12_kindsBy_22 (by decide) (fun c2 => ?_) (fun c2 => ?_)
    · refine lv_iload hx hb dX12_kindsBy_132 (lv_at hl 5 rfl) ?_
      refine lv_iload hx hb dX12_kindsBy_134 (lv_at hl 7 rfl) ?_
      refine nr_if_eq (tgt := 146) hx hb (by omega) dX12_kindsBy_136 (by decide) (fun c3 => ?_) (fun c3 => ?_)
      · refine lv_iconst (v := nI 0) hx hb dX12_kindsBy_146 (by decide) ?_
        refine nr_ior hx hb dX12_kindsBy_147 ?_
        refine lv_istore (lv' := [(5, .int (nI (f ||| 0))), (0, .ref (ad Γ (mo + 0))), (1, .int (nI o0)), (2, .int (nI fo)), (3, .int (nI q)), (4, .int (nI nt)), (6, .int (nI kd)), (7, .int (nI t)), (8, .int (nI k))]) hx hb dX12_kindsBy_148 hl (by decide) rfl (fun ls hl => ?_)
        refine nr_inc (d := 1) (k := 6) (lv' := [(6, .int (nI (kd + 1))), (5, .int (nI (f ||| 0))), (0, .ref (ad Γ (mo + 0))), (1, .int (nI o0)), (2, .int (nI fo)), (3, .int (nI q)), (4, .int (nI nt)), (7, .int (nI t)), (8, .int (nI k))]) hx hb dX12_kindsBy_150 hl rfl (by decide) (by decide) rfl (fun ls hl => ?_)
        refine lv_goto (tgt := 6) hx hb dX12_kindsBy_153 (by decide) ?_
        exact ih6 (kd + 1, f ||| 0) _ _ (lv_sub hl [2, 3, 4, 5, 6, 1, 0] rfl) ⟨rfl, by (try dsimp only); omega, by (try dsimp only); rcases ht with ⟨t1, hn⟩ | ⟨t1, hn⟩ <;> first | omega | (rw [hf]; simp only [bitsOf]; rw [if_pos (fun r hr => hn r (by omega))]) | (rw [hf]; simp only [bitsOf]; rw [if_neg hn, Nat.or_zero])⟩ (by (try dsimp only); omega)
      · refine lv_iconst (v := nI 1) hx hb dX12_kindsBy_139 (by decide) ?_
        refine lv_iload hx hb dX12_kindsBy_140 (lv_at hl 6 rfl) ?_
        refine nr_ishl1 hx hb (by omega) dX12_kindsBy_142 ?_
        refine lv_goto (tgt := 147) hx hb dX12_kindsBy_143 (by decide) ?_
        refine nr_ior hx hb dX12_kindsBy_147 ?_
        refine lv_istore (lv' := [(5, .int (nI (f ||| (2 ^ kd)))), (0, .ref (ad Γ (mo + 0))), (1, .int (nI o0)), (2, .int (nI fo)), (3, .int (nI q)), (4, .int (nI nt)), (6, .int (nI kd)), (7, .int (nI t)), (8, .int (nI k))]) hx hb dX12_kindsBy_148 hl (by decide) rfl (fun ls hl => ?_)
        refine nr_inc (d := 1) (k := 6) (lv' := [(6, .int (nI (kd + 1))), (5, .int (nI (f ||| (2 ^ kd)))), (0, .ref (ad Γ (mo + 0))), (1, .int (nI o0)), (2, .int (nI fo)), (3, .int (nI q)), (4, .int (nI nt)), (7, .int (nI t)), (8, .int (nI k))]) hx hb dX12_kindsBy_150 hl rfl (by decide) (by decide) rfl (fun ls hl => ?_)
        refine lv_goto (tgt := 6) hx hb dX12_kindsBy_153 (by decide) ?_
        exact ih6 (kd + 1, f ||| (2 ^ kd)) _ _ (lv_sub hl [2, 3, 4, 5, 6, 1, 0] rfl) ⟨rfl, by (try dsimp only); omega, by (try dsimp only); rcases ht with ⟨t1, hn⟩ | ⟨t1, hn⟩ <;> first | omega | (rw [hf]; simp only [bitsOf]; rw [if_pos (fun r hr => hn r (by omega))]) | (rw [hf]; simp only [bitsOf]; rw [if_neg hn, Nat.or_zero])⟩ (by (try dsimp only); omega)
    · refine lv_iload_n hx hb dX12_kindsBy_25 rfl (lv_at hl 2 rfl) ?_
      refine lv_iconst (v := nI 4) hx hb dX12_kindsBy_26 (by decide) ?_
      refine lv_iload hx hb dX12_kindsBy_27 (lv_at hl 8 rfl) ?_
      refine nr_imul hx hb dX12_kindsBy_29 ?_
      refine nr_iadd hx hb dX12_kindsBy_30 ?_
      refine lv_istore (lv' := [(9, .int (nI (fo + (4 * k)))), (0, .ref (ad Γ (mo + 0))), (1, .int (nI o0)), (2, .int (nI fo)), (3, .int (nI q)), (4, .int (nI nt)), (5, .int (nI f)), (6, .int (nI kd)), (7, .int (nI t)), (8, .int (nI k))]) hx hb dX12_kindsBy_31 hl (by decide) rfl (fun ls hl => ?_)
      refine lv_iload hx hb dX12_kindsBy_33 (lv_at hl 5 rfl) ?_
      refine nr_if_eq (tgt := 64) hx hb (by omega) dX12_kindsBy_35 (by decide) (fun c4 => ?_) (fun c4 => ?_)
      · refine lv_iload hx hb dX12_kindsBy_64 (lv_at hl 7 rfl) ?_
        refine lv_aload_n hx hb dX12_kindsBy_66 rfl (lv_at hl 1 rfl) ?_
        refine nr_get (own := RX12) (C := RX12) (T := TX12) (N := 19) (v := .ref (ad Γ (mo + 1))) hx hb hts hi_X12_kindsBy_X12 hown hw (by omega) (isM_0 hM) rfl 0 (by decide) wl_X12_kindsBy_1 rfl rfl dX12_kindsBy_67 ?_
        refine lv_iload hx hb dX12_kindsBy_70 (lv_at hl 0 rfl) ?_
        refine lv_iconst (v := nI 1) hx hb dX12_kindsBy_72 (by decide) ?_
        refine nr_iadd hx hb dX12_kindsBy_73 ?_
        refine nr_iald (x := (R (fo + (k * 4 + 1)))) hx hb hw (by omega) (isM_1 hM) (congrArg R (by omega)) (by omega) (by decide) dX12_kindsBy_74 ?_
        have hL5 := hB (fo + (4 * k) + 1)
        refine lv_aload_n hx hb dX12_kindsBy_75 rfl (lv_at hl 1 rfl) ?_
        refine nr_get (own := RX12) (C := RX12) (T := TX12) (N := 19) (v := .ref (ad Γ (mo + 1))) hx hb hts hi_X12_kindsBy_X12 hown hw (by omega) (isM_0 hM) rfl 0 (by decide) wl_X12_kindsBy_1 rfl rfl dX12_kindsBy_76 ?_
        refine lv_iload hx hb dX12_kindsBy_79 (lv_at hl 0 rfl) ?_
        refine lv_iconst (v := nI 2) hx hb dX12_kindsBy_81 (by decide) ?_
        refine nr_iadd hx hb dX12_kindsBy_82 ?_
        refine nr_iald (x := (R (fo + (k * 4 + 2)))) hx hb hw (by omega) (isM_1 hM) (congrArg R (by omega)) (by omega) (by decide) dX12_kindsBy_83 ?_
        have hL6 := hB (fo + (4 * k) + 2)
        refine nr_goS (nr_runS (As := [.int (nI kd), .int (nI (R (fo + (k * 4 + 1)))), .int (nI (R (fo + (k * 4 + 2))))]) ⟨hx, hb, hml, hown, hts⟩ hw (c_X12_letsAs l Γ n G kd (R (fo + (k * 4 + 1))) (R (fo + (k * 4 + 2))) (by omega) (by omega) (by omega)) (va_cwS 3 hts gX12_kindsBy_X12_letsAs rfl rfl rfl (by decide +kernel) ⟨Nat.le_of_ble_eq_true rfl, Nat.le_of_ble_eq_true rfl⟩) rfl hl.1 rfl (Nat.le_of_ble_eq_true rfl) dX12_kindsBy_84 ⟨Nat.zero_le _, Nat.zero_le _⟩) (fun r7 hr7 => ?_)
        obtain rfl : r7 = (nI (sMercy kd (R (fo + (k * 4 + 1))) (R (fo + (k * 4 + 2))))) := hr7
        refine lv_istore (lv' := [(10, .int (nI (sMercy kd (R (fo + (k * 4 + 1))) (R (fo + (k * 4 + 2)))))), (9, .int (nI (fo + (4 * k)))), (0, .ref (ad Γ (mo + 0))), (1, .int (nI o0)), (2, .int (nI fo)), (3, .int (nI q)), (4, .int (nI nt)), (5, .int (nI f)), (6, .int (nI kd)), (7, .int (nI t)), (8, .int (nI k))]) hx hb dX12_kindsBy_87 hl (by decide) rfl (fun ls hl => ?_)
        refine lv_iload hx hb dX12_kindsBy_89 (lv_at hl 9 rfl) ?_
        refine nr_if_eq (tgt := 123) hx hb (by omega) dX12_kindsBy_91 (by decide) (fun c8 => ?_) (fun c8 => ?_)
        · refine lv_iconst (v := nI 0) hx hb dX12_kindsBy_123 (by decide) ?_
          refine lv_istore (lv' := [(7, .int (nI 0)), (10, .int (nI (sMercy kd (R (fo + (k * 4 + 1))) (R (fo + (k * 4 + 2)))))), (9, .int (nI (fo + (4 * k)))), (0, .ref (ad Γ (mo + 0))), (1, .int (nI o0)), (2, .int (nI fo)), (3, .int (nI q)), (4, .int (nI nt)), (5, .int (nI f)), (6, .int (nI kd)), (8, .int (nI k))]) hx hb dX12_kindsBy_124 hl (by decide) rfl (fun ls hl => ?_)
          refine nr_inc (d := 1) (k := 10) (lv' := [(8, .int (nI (k + 1))), (7, .int (nI 0)), (10, .int (nI (sMercy kd (R (fo + (k * 4 + 1))) (R (fo + (k * 4 + 2)))))), (9, .int (nI (fo + (4 * k)))), (0, .ref (ad Γ (mo + 0))), (1, .int (nI o0)), (2, .int (nI fo)), (3, .int (nI q)), (4, .int (nI nt)), (5, .int (nI f)), (6, .int (nI kd))]) hx hb dX12_kindsBy_126 hl rfl (by decide) (by decide) rfl (fun ls hl => ?_)
          refine lv_goto (tgt := 19) hx hb dX12_kindsBy_129 (by decide) ?_
          exact ih19 (k + 1, 0) _ _ (lv_sub hl [4, 5, 6, 7, 8, 9, 10, 1, 0] rfl) ⟨rfl, by (try dsimp only); omega, by
            (try dsimp only)
            rcases ht with ⟨t1, hn⟩ | ⟨t1, hn⟩
            · first
              | omega
              | (refine Or.inr ⟨rfl, fun hh => ?_⟩; have h9 := hh k (by omega) (by assumption); first | (rw [if_pos (show nt = 1 by omega)] at h9; omega) | (rw [if_neg (show ¬ nt = 1 by omega)] at h9; omega))
              | (refine Or.inl ⟨rfl, fun j hj => ?_⟩
                 rcases Nat.lt_or_eq_of_le (Nat.le_of_lt_succ hj) with z | z
                 · exact hn j z
                 · subst z; intro hjk; first | exact absurd hjk (by assumption) | (rw [if_pos (show nt = 1 by omega)]; omega) | (rw [if_neg (show ¬ nt = 1 by omega)]; omega))
            · first
              | exact Or.inr ⟨rfl, hn⟩
              | omega⟩ (by (try dsimp only); omega)
        · refine lv_aload_n hx hb dX12_kindsBy_94 rfl (lv_at hl 2 rfl) ?_
          refine nr_get (own := RX12) (C := RX12) (T := TX12) (N := 19) (v := .ref (ad Γ (mo + 1))) hx hb hts hi_X12_kindsBy_X12 hown hw (by omega) (isM_0 hM) rfl 0 (by decide) wl_X12_kindsBy_1 rfl rfl dX12_kindsBy_95 ?_
          refine lv_iload hx hb dX12_kindsBy_98 (lv_at hl 1 rfl) ?_
          refine nr_iald (x := (R (fo + (k * 4 + 0)))) hx hb hw (by omega) (isM_1 hM) (congrArg R (by omega)) (by omega) (by decide) dX12_kindsBy_100 ?_
          have hL9 := hB (fo + (4 * k))
          refine lv_iload_n hx hb dX12_kindsBy_101 rfl (lv_at hl 3 rfl) ?_
          refine nr_icmp_ne (tgt := 119) hx hb (by omega) (by omega) dX12_kindsBy_102 (by decide) (fun c10 => ?_) (fun c10 => ?_)
          · refine lv_iconst (v := nI 1) hx hb dX12_kindsBy_119 (by decide) ?_
            refine lv_goto (tgt := 124) hx hb dX12_kindsBy_120 (by decide) ?_
            refine lv_istore (lv' := [(7, .int (nI 1)), (10, .int (nI (sMercy kd (R (fo + (k * 4 + 1))) (R (fo + (k * 4 + 2)))))), (9, .int (nI (fo + (4 * k)))), (0, .ref (ad Γ (mo + 0))), (1, .int (nI o0)), (2, .int (nI fo)), (3, .int (nI q)), (4, .int (nI nt)), (5, .int (nI f)), (6, .int (nI kd)), (8, .int (nI k))]) hx hb dX12_kindsBy_124 hl (by decide) rfl (fun ls hl => ?_)
            refine nr_inc (d := 1) (k := 10) (lv' := [(8, .int (nI (k + 1))), (7, .int (nI 1)), (10, .int (nI (sMercy kd (R (fo + (k * 4 + 1))) (R (fo + (k * 4 + 2)))))), (9, .int (nI (fo + (4 * k)))), (0, .ref (ad Γ (mo + 0))), (1, .int (nI o0)), (2, .int (nI fo)), (3, .int (nI q)), (4, .int (nI nt)), (5, .int (nI f)), (6, .int (nI kd))]) hx hb dX12_kindsBy_126 hl rfl (by decide) (by decide) rfl (fun ls hl => ?_)
            refine lv_goto (tgt := 19) hx hb dX12_kindsBy_129 (by decide) ?_
            exact ih19 (k + 1, 1) _ _ (lv_sub hl [4, 5, 6, 7, 8, 9, 10, 1, 0] rfl) ⟨rfl, by (try dsimp only); omega, by
            (try dsimp only)
            rcases ht with ⟨t1, hn⟩ | ⟨t1, hn⟩
            · first
              | omega
              | (refine Or.inr ⟨rfl, fun hh => ?_⟩; have h9 := hh k (by omega) (by assumption); first | (rw [if_pos (show nt = 1 by omega)] at h9; omega) | (rw [if_neg (show ¬ nt = 1 by omega)] at h9; omega))
              | (refine Or.inl ⟨rfl, fun j hj => ?_⟩
                 rcases Nat.lt_or_eq_of_le (Nat.le_of_lt_succ hj) with z | z
                 · exact hn j z
                 · subst z; intro hjk; first | exact absurd hjk (by assumption) | (rw [if_pos (show nt = 1 by omega)]; omega) | (rw [if_neg (show ¬ nt = 1 by omega)]; omega))
            · first
              | exact Or.inr ⟨rfl, hn⟩
              | omega⟩ (by (try dsimp only); omega)
          · refine lv_iload hx hb dX12_kindsBy_105 (lv_at hl 0 rfl) ?_
            refine lv_aload_n hx hb dX12_kindsBy_107 rfl (lv_at hl 2 rfl) ?_
            refine nr_get (own := RX12) (C := RX12) (T := TX12) (N := 19) (v := .ref (ad Γ (mo + 1))) hx hb hts hi_X12_kindsBy_X12 hown hw (by omega) (isM_0 hM) rfl 0 (by decide) wl_X12_kindsBy_1 rfl rfl dX12_kindsBy_108 ?_
            refine lv_iload hx hb dX12_kindsBy_111 (lv_at hl 1 rfl) ?_
            refine lv_iconst (v := nI 3) hx hb dX12_kindsBy_113 (by decide) ?_
            refine nr_iadd hx hb dX12_kindsBy_114 ?_
            refine nr_iald (x := (R (fo + (k * 4 + 3)))) hx hb hw (by omega) (isM_1 hM) (congrArg R (by omega)) (by omega) (by decide) dX12_kindsBy_115 ?_
            have hL11 := hB (fo + (4 * k) + 3)
            refine nr_icmp_ne (tgt := 123) hx hb (by omega) (by omega) dX12_kindsBy_116 (by decide) (fun c12 => ?_) (fun c12 => ?_)
            · refine lv_iconst (v := nI 0) hx hb dX12_kindsBy_123 (by decide) ?_
              refine lv_istore (lv' := [(7, .int (nI 0)), (10, .int (nI (sMercy kd (R (fo + (k * 4 + 1))) (R (fo + (k * 4 + 2)))))), (9, .int (nI (fo + (4 * k)))), (0, .ref (ad Γ (mo + 0))), (1, .int (nI o0)), (2, .int (nI fo)), (3, .int (nI q)), (4, .int (nI nt)), (5, .int (nI f)), (6, .int (nI kd)), (8, .int (nI k))]) hx hb dX12_kindsBy_124 hl (by decide) rfl (fun ls hl => ?_)
              refine nr_inc (d := 1) (k := 10) (lv' := [(8, .int (nI (k + 1))), (7, .int (nI 0)), (10, .int (nI (sMercy kd (R (fo + (k * 4 + 1))) (R (fo + (k * 4 + 2)))))), (9, .int (nI (fo + (4 * k)))), (0, .ref (ad Γ (mo + 0))), (1, .int (nI o0)), (2, .int (nI fo)), (3, .int (nI q)), (4, .int (nI nt)), (5, .int (nI f)), (6, .int (nI kd))]) hx hb dX12_kindsBy_126 hl rfl (by decide) (by decide) rfl (fun ls hl => ?_)
              refine lv_goto (tgt := 19) hx hb dX12_kindsBy_129 (by decide) ?_
              exact ih19 (k + 1, 0) _ _ (lv_sub hl [4, 5, 6, 7, 8, 9, 10, 1, 0] rfl) ⟨rfl, by (try dsimp only); omega, by
            (try dsimp only)
            rcases ht with ⟨t1, hn⟩ | ⟨t1, hn⟩
            · first
              | omega
              | (refine Or.inr ⟨rfl, fun hh => ?_⟩; have h9 := hh k (by omega) (by assumption); first | (rw [if_pos (show nt = 1 by omega)] at h9; omega) | (rw [if_neg (show ¬ nt = 1 by omega)] at h9; omega))
              | (refine Or.inl ⟨rfl, fun j hj => ?_⟩
                 rcases Nat.lt_or_eq_of_le (Nat.le_of_lt_succ hj) with z | z
                 · exact hn j z
                 · subst z; intro hjk; first | exact absurd hjk (by assumption) | (rw [if_pos (show nt = 1 by omega)]; omega) | (rw [if_neg (show ¬ nt = 1 by omega)]; omega))
            · first
              | exact Or.inr ⟨rfl, hn⟩
              | omega⟩ (by (try dsimp only); omega)
            · refine lv_iconst (v := nI 1) hx hb dX12_kindsBy_119 (by decide) ?_
              refine lv_goto (tgt := 124) hx hb dX12_kindsBy_120 (by decide) ?_
              refine lv_istore (lv' := [(7, .int (nI 1)), (10, .int (nI (sMercy kd (R (fo + (k * 4 + 1))) (R (fo + (k * 4 + 2)))))), (9, .int (nI (fo + (4 * k)))), (0, .ref (ad Γ (mo + 0))), (1, .int (nI o0)), (2, .int (nI fo)), (3, .int (nI q)), (4, .int (nI nt)), (5, .int (nI f)), (6, .int (nI kd)), (8, .int (nI k))]) hx hb dX12_kindsBy_124 hl (by decide) rfl (fun ls hl => ?_)
              refine nr_inc (d := 1) (k := 10) (lv' := [(8, .int (nI (k + 1))), (7, .int (nI 1)), (10, .int (nI (sMercy kd (R (fo + (k * 4 + 1))) (R (fo + (k * 4 + 2)))))), (9, .int (nI (fo + (4 * k)))), (0, .ref (ad Γ (mo + 0))), (1, .int (nI o0)), (2, .int (nI fo)), (3, .int (nI q)), (4, .int (nI nt)), (5, .int (nI f)), (6, .int (nI kd))]) hx hb dX12_kindsBy_126 hl rfl (by decide) (by decide) rfl (fun ls hl => ?_)
              refine lv_goto (tgt := 19) hx hb dX12_kindsBy_129 (by decide) ?_
              exact ih19 (k + 1, 1) _ _ (lv_sub hl [4, 5, 6, 7, 8, 9, 10, 1, 0] rfl) ⟨rfl, by (try dsimp only); omega, by
            (try dsimp only)
            rcases ht with ⟨t1, hn⟩ | ⟨t1, hn⟩
            · first
              | omega
              | (refine Or.inr ⟨rfl, fun hh => ?_⟩; have h9 := hh k (by omega) (by assumption); first | (rw [if_pos (show nt = 1 by omega)] at h9; omega) | (rw [if_neg (show ¬ nt = 1 by omega)] at h9; omega))
              | (refine Or.inl ⟨rfl, fun j hj => ?_⟩
                 rcases Nat.lt_or_eq_of_le (Nat.le_of_lt_succ hj) with z | z
                 · exact hn j z
                 · subst z; intro hjk; first | exact absurd hjk (by assumption) | (rw [if_pos (show nt = 1 by omega)]; omega) | (rw [if_neg (show ¬ nt = 1 by omega)]; omega))
            · first
              | exact Or.inr ⟨rfl, hn⟩
              | omega⟩ (by (try dsimp only); omega)
      · refine lv_iload hx hb dX12_kindsBy_38 (lv_at hl 7 rfl) ?_
        refine lv_aload_n hx hb dX12_kindsBy_40 rfl (lv_at hl 1 rfl) ?_
        refine nr_get (own := RX12) (C := RX12) (T := TX12) (N := 19) (v := .ref (ad Γ (mo + 1))) hx hb hts hi_X12_kindsBy_X12 hown hw (by omega) (isM_0 hM) rfl 0 (by decide) wl_X12_kindsBy_1 rfl rfl dX12_kindsBy_41 ?_
        refine lv_iload hx hb dX12_kindsBy_44 (lv_at hl 0 rfl) ?_
        refine lv_iconst (v := nI 1) hx hb dX12_kindsBy_46 (by decide) ?_
        refine nr_iadd hx hb dX12_kindsBy_47 ?_
        refine nr_iald (x := (R (fo + (k * 4 + 1)))) hx hb hw (by omega) (isM_1 hM) (congrArg R (by omega)) (by omega) (by decide) dX12_kindsBy_48 ?_
        have hL13 := hB (fo + (4 * k) + 1)
        refine lv_aload_n hx hb dX12_kindsBy_49 rfl (lv_at hl 1 rfl) ?_
        refine nr_get (own := RX12) (C := RX12) (T := TX12) (N := 19) (v := .ref (ad Γ (mo + 1))) hx hb hts hi_X12_kindsBy_X12 hown hw (by omega) (isM_0 hM) rfl 0 (by decide) wl_X12_kindsBy_1 rfl rfl dX12_kindsBy_50 ?_
        refine lv_iload hx hb dX12_kindsBy_53 (lv_at hl 0 rfl) ?_
        refine lv_iconst (v := nI 2) hx hb dX12_kindsBy_55 (by decide) ?_
        refine nr_iadd hx hb dX12_kindsBy_56 ?_
        refine nr_iald (x := (R (fo + (k * 4 + 2)))) hx hb hw (by omega) (isM_1 hM) (congrArg R (by omega)) (by omega) (by decide) dX12_kindsBy_57 ?_
        have hL14 := hB (fo + (4 * k) + 2)
        refine nr_goS (nr_runS (As := [.int (nI kd), .int (nI (R (fo + (k * 4 + 1)))), .int (nI (R (fo + (k * 4 + 2))))]) ⟨hx, hb, hml, hown, hts⟩ hw (c_X12_weighsAs l Γ n G kd (R (fo + (k * 4 + 1))) (R (fo + (k * 4 + 2))) (by omega) (by omega) (by omega)) (va_cwS 3 hts gX12_kindsBy_X12_weighsAs rfl rfl rfl (by decide +kernel) ⟨Nat.le_of_ble_eq_true rfl, Nat.le_of_ble_eq_true rfl⟩) rfl hl.1 rfl (Nat.le_of_ble_eq_true rfl) dX12_kindsBy_58 ⟨Nat.zero_le _, Nat.zero_le _⟩) (fun r15 hr15 => ?_)
        obtain rfl : r15 = (nI (sWeight kd (R (fo + (k * 4 + 1))) (R (fo + (k * 4 + 2))))) := hr15
        refine lv_goto (tgt := 87) hx hb dX12_kindsBy_61 (by decide) ?_
        refine lv_istore (lv' := [(10, .int (nI (sWeight kd (R (fo + (k * 4 + 1))) (R (fo + (k * 4 + 2)))))), (9, .int (nI (fo + (4 * k)))), (0, .ref (ad Γ (mo + 0))), (1, .int (nI o0)), (2, .int (nI fo)), (3, .int (nI q)), (4, .int (nI nt)), (5, .int (nI f)), (6, .int (nI kd)), (7, .int (nI t)), (8, .int (nI k))]) hx hb dX12_kindsBy_87 hl (by decide) rfl (fun ls hl => ?_)
        refine lv_iload hx hb dX12_kindsBy_89 (lv_at hl 9 rfl) ?_
        refine nr_if_eq (tgt := 123) hx hb (by omega) dX12_kindsBy_91 (by decide) (fun c16 => ?_) (fun c16 => ?_)
        · refine lv_iconst (v := nI 0) hx hb dX12_kindsBy_123 (by decide) ?_
          refine lv_istore (lv' := [(7, .int (nI 0)), (10, .int (nI (sWeight kd (R (fo + (k * 4 + 1))) (R (fo + (k * 4 + 2)))))), (9, .int (nI (fo + (4 * k)))), (0, .ref (ad Γ (mo + 0))), (1, .int (nI o0)), (2, .int (nI fo)), (3, .int (nI q)), (4, .int (nI nt)), (5, .int (nI f)), (6, .int (nI kd)), (8, .int (nI k))]) hx hb dX12_kindsBy_124 hl (by decide) rfl (fun ls hl => ?_)
          refine nr_inc (d := 1) (k := 10) (lv' := [(8, .int (nI (k + 1))), (7, .int (nI 0)), (10, .int (nI (sWeight kd (R (fo + (k * 4 + 1))) (R (fo + (k * 4 + 2)))))), (9, .int (nI (fo + (4 * k)))), (0, .ref (ad Γ (mo + 0))), (1, .int (nI o0)), (2, .int (nI fo)), (3, .int (nI q)), (4, .int (nI nt)), (5, .int (nI f)), (6, .int (nI kd))]) hx hb dX12_kindsBy_126 hl rfl (by decide) (by decide) rfl (fun ls hl => ?_)
          refine lv_goto (tgt := 19) hx hb dX12_kindsBy_129 (by decide) ?_
          exact ih19 (k + 1, 0) _ _ (lv_sub hl [4, 5, 6, 7, 8, 9, 10, 1, 0] rfl) ⟨rfl, by (try dsimp only); omega, by
            (try dsimp only)
            rcases ht with ⟨t1, hn⟩ | ⟨t1, hn⟩
            · first
              | omega
              | (refine Or.inr ⟨rfl, fun hh => ?_⟩; have h9 := hh k (by omega) (by assumption); first | (rw [if_pos (show nt = 1 by omega)] at h9; omega) | (rw [if_neg (show ¬ nt = 1 by omega)] at h9; omega))
              | (refine Or.inl ⟨rfl, fun j hj => ?_⟩
                 rcases Nat.lt_or_eq_of_le (Nat.le_of_lt_succ hj) with z | z
                 · exact hn j z
                 · subst z; intro hjk; first | exact absurd hjk (by assumption) | (rw [if_pos (show nt = 1 by omega)]; omega) | (rw [if_neg (show ¬ nt = 1 by omega)]; omega))
            · first
              | exact Or.inr ⟨rfl, hn⟩
              | omega⟩ (by (try dsimp only); omega)
        · refine lv_aload_n hx hb dX12_kindsBy_94 rfl (lv_at hl 2 rfl) ?_
          refine nr_get (own := RX12) (C := RX12) (T := TX12) (N := 19) (v := .ref (ad Γ (mo + 1))) hx hb hts hi_X12_kindsBy_X12 hown hw (by omega) (isM_0 hM) rfl 0 (by decide) wl_X12_kindsBy_1 rfl rfl dX12_kindsBy_95 ?_
          refine lv_iload hx hb dX12_kindsBy_98 (lv_at hl 1 rfl) ?_
          refine nr_iald (x := (R (fo + (k * 4 + 0)))) hx hb hw (by omega) (isM_1 hM) (congrArg R (by omega)) (by omega) (by decide) dX12_kindsBy_100 ?_
          have hL17 := hB (fo + (4 * k))
          refine lv_iload_n hx hb dX12_kindsBy_101 rfl (lv_at hl 3 rfl) ?_
          refine nr_icmp_ne (tgt := 119) hx hb (by omega) (by omega) dX12_kindsBy_102 (by decide) (fun c18 => ?_) (fun c18 => ?_)
          · refine lv_iconst (v := nI 1) hx hb dX12_kindsBy_119 (by decide) ?_
            refine lv_goto (tgt := 124) hx hb dX12_kindsBy_120 (by decide) ?_
            refine lv_istore (lv' := [(7, .int (nI 1)), (10, .int (nI (sWeight kd (R (fo + (k * 4 + 1))) (R (fo + (k * 4 + 2)))))), (9, .int (nI (fo + (4 * k)))), (0, .ref (ad Γ (mo + 0))), (1, .int (nI o0)), (2, .int (nI fo)), (3, .int (nI q)), (4, .int (nI nt)), (5, .int (nI f)), (6, .int (nI kd)), (8, .int (nI k))]) hx hb dX12_kindsBy_124 hl (by decide) rfl (fun ls hl => ?_)
            refine nr_inc (d := 1) (k := 10) (lv' := [(8, .int (nI (k + 1))), (7, .int (nI 1)), (10, .int (nI (sWeight kd (R (fo + (k * 4 + 1))) (R (fo + (k * 4 + 2)))))), (9, .int (nI (fo + (4 * k)))), (0, .ref (ad Γ (mo + 0))), (1, .int (nI o0)), (2, .int (nI fo)), (3, .int (nI q)), (4, .int (nI nt)), (5, .int (nI f)), (6, .int (nI kd))]) hx hb dX12_kindsBy_126 hl rfl (by decide) (by decide) rfl (fun ls hl => ?_)
            refine lv_goto (tgt := 19) hx hb dX12_kindsBy_129 (by decide) ?_
            exact ih19 (k + 1, 1) _ _ (lv_sub hl [4, 5, 6, 7, 8, 9, 10, 1, 0] rfl) ⟨rfl, by (try dsimp only); omega, by
            (try dsimp only)
            rcases ht with ⟨t1, hn⟩ | ⟨t1, hn⟩
            · first
              | omega
              | (refine Or.inr ⟨rfl, fun hh => ?_⟩; have h9 := hh k (by omega) (by assumption); first | (rw [if_pos (show nt = 1 by omega)] at h9; omega) | (rw [if_neg (show ¬ nt = 1 by omega)] at h9; omega))
              | (refine Or.inl ⟨rfl, fun j hj => ?_⟩
                 rcases Nat.lt_or_eq_of_le (Nat.le_of_lt_succ hj) with z | z
                 · exact hn j z
                 · subst z; intro hjk; first | exact absurd hjk (by assumption) | (rw [if_pos (show nt = 1 by omega)]; omega) | (rw [if_neg (show ¬ nt = 1 by omega)]; omega))
            · first
              | exact Or.inr ⟨rfl, hn⟩
              | omega⟩ (by (try dsimp only); omega)
          · refine lv_iload hx hb dX12_kindsBy_105 (lv_at hl 0 rfl) ?_
            refine lv_aload_n hx hb dX12_kindsBy_107 rfl (lv_at hl 2 rfl) ?_
            refine nr_get (own := RX12) (C := RX12) (T := TX12) (N := 19) (v := .ref (ad Γ (mo + 1))) hx hb hts hi_X12_kindsBy_X12 hown hw (by omega) (isM_0 hM) rfl 0 (by decide) wl_X12_kindsBy_1 rfl rfl dX12_kindsBy_108 ?_
            refine lv_iload hx hb dX12_kindsBy_111 (lv_at hl 1 rfl) ?_
            refine lv_iconst (v := nI 3) hx hb dX12_kindsBy_113 (by decide) ?_
            refine nr_iadd hx hb dX12_kindsBy_114 ?_
            refine nr_iald (x := (R (fo + (k * 4 + 3)))) hx hb hw (by omega) (isM_1 hM) (congrArg R (by omega)) (by omega) (by decide) dX12_kindsBy_115 ?_
            have hL19 := hB (fo + (4 * k) + 3)
            refine nr_icmp_ne (tgt := 123) hx hb (by omega) (by omega) dX12_kindsBy_116 (by decide) (fun c20 => ?_) (fun c20 => ?_)
            · refine lv_iconst (v := nI 0) hx hb dX12_kindsBy_123 (by decide) ?_
              refine lv_istore (lv' := [(7, .int (nI 0)), (10, .int (nI (sWeight kd (R (fo + (k * 4 + 1))) (R (fo + (k * 4 + 2)))))), (9, .int (nI (fo + (4 * k)))), (0, .ref (ad Γ (mo + 0))), (1, .int (nI o0)), (2, .int (nI fo)), (3, .int (nI q)), (4, .int (nI nt)), (5, .int (nI f)), (6, .int (nI kd)), (8, .int (nI k))]) hx hb dX12_kindsBy_124 hl (by decide) rfl (fun ls hl => ?_)
              refine nr_inc (d := 1) (k := 10) (lv' := [(8, .int (nI (k + 1))), (7, .int (nI 0)), (10, .int (nI (sWeight kd (R (fo + (k * 4 + 1))) (R (fo + (k * 4 + 2)))))), (9, .int (nI (fo + (4 * k)))), (0, .ref (ad Γ (mo + 0))), (1, .int (nI o0)), (2, .int (nI fo)), (3, .int (nI q)), (4, .int (nI nt)), (5, .int (nI f)), (6, .int (nI kd))]) hx hb dX12_kindsBy_126 hl rfl (by decide) (by decide) rfl (fun ls hl => ?_)
              refine lv_goto (tgt := 19) hx hb dX12_kindsBy_129 (by decide) ?_
              exact ih19 (k + 1, 0) _ _ (lv_sub hl [4, 5, 6, 7, 8, 9, 10, 1, 0] rfl) ⟨rfl, by (try dsimp only); omega, by
            (try dsimp only)
            rcases ht with ⟨t1, hn⟩ | ⟨t1, hn⟩
            · first
              | omega
              | (refine Or.inr ⟨rfl, fun hh => ?_⟩; have h9 := hh k (by omega) (by assumption); first | (rw [if_pos (show nt = 1 by omega)] at h9; omega) | (rw [if_neg (show ¬ nt = 1 by omega)] at h9; omega))
              | (refine Or.inl ⟨rfl, fun j hj => ?_⟩
                 rcases Nat.lt_or_eq_of_le (Nat.le_of_lt_succ hj) with z | z
                 · exact hn j z
                 · subst z; intro hjk; first | exact absurd hjk (by assumption) | (rw [if_pos (show nt = 1 by omega)]; omega) | (rw [if_neg (show ¬ nt = 1 by omega)]; omega))
            · first
              | exact Or.inr ⟨rfl, hn⟩
              | omega⟩ (by (try dsimp only); omega)
            · refine lv_iconst (v := nI 1) hx hb dX12_kindsBy_119 (by decide) ?_
              refine lv_goto (tgt := 124) hx hb dX12_kindsBy_120 (by decide) ?_
              refine lv_istore (lv' := [(7, .int (nI 1)), (10, .int (nI (sWeight kd (R (fo + (k * 4 + 1))) (R (fo + (k * 4 + 2)))))), (9, .int (nI (fo + (4 * k)))), (0, .ref (ad Γ (mo + 0))), (1, .int (nI o0)), (2, .int (nI fo)), (3, .int (nI q)), (4, .int (nI nt)), (5, .int (nI f)), (6, .int (nI kd)), (8, .int (nI k))]) hx hb dX12_kindsBy_124 hl (by decide) rfl (fun ls hl => ?_)
              refine nr_inc (d := 1) (k := 10) (lv' := [(8, .int (nI (k + 1))), (7, .int (nI 1)), (10, .int (nI (sWeight kd (R (fo + (k * 4 + 1))) (R (fo + (k * 4 + 2)))))), (9, .int (nI (fo + (4 * k)))), (0, .ref (ad Γ (mo + 0))), (1, .int (nI o0)), (2, .int (nI fo)), (3, .int (nI q)), (4, .int (nI nt)), (5, .int (nI f)), (6, .int (nI kd))]) hx hb dX12_kindsBy_126 hl rfl (by decide) (by decide) rfl (fun ls hl => ?_)
              refine lv_goto (tgt := 19) hx hb dX12_kindsBy_129 (by decide) ?_
              exact ih19 (k + 1, 1) _ _ (lv_sub hl [4, 5, 6, 7, 8, 9, 10, 1, 0] rfl) ⟨rfl, by (try dsimp only); omega, by
            (try dsimp only)
            rcases ht with ⟨t1, hn⟩ | ⟨t1, hn⟩
            · first
              | omega
              | (refine Or.inr ⟨rfl, fun hh => ?_⟩; have h9 := hh k (by omega) (by assumption); first | (rw [if_pos (show nt = 1 by omega)] at h9; omega) | (rw [if_neg (show ¬ nt = 1 by omega)] at h9; omega))
              | (refine Or.inl ⟨rfl, fun j hj => ?_⟩
                 rcases Nat.lt_or_eq_of_le (Nat.le_of_lt_succ hj) with z | z
                 · exact hn j z
                 · subst z; intro hjk; first | exact absurd hjk (by assumption) | (rw [if_pos (show nt = 1 by omega)]; omega) | (rw [if_neg (show ¬ nt = 1 by omega)]; omega))
            · first
              | exact Or.inr ⟨rfl, hn⟩
              | omega⟩ (by (try dsimp only); omega)
theorem wl_X12_kindsOfWrong_1 : Cond.fieldLink RX12 7 "BellForgivenModel" "all" "[I" ∈ wsX12_kindsOfWrong := List.mem_of_getElem? (i := 1) rfl
theorem hi_X12_kindsOfWrong_X12 : ∀ w ∈ u_ws RX12 TX12 19, w ∈ wsX12_kindsOfWrong := fun w h => (List.mem_cons_of_mem _ (List.mem_append_right _ h))
set_option maxHeartbeats 4000000 in
set_option maxRecDepth 100000 in
theorem c_X12_kindsOfWrong (l : Launch) (Γ : Gam) (n : Nat) (G : Nat → va_E) (mo : Nat) (R K kp rf ca rc hd fw tl by0 an vl iv : Nat → Nat) (hM : isM Γ G mo R K kp rf ca rc hd fw tl by0 an vl iv) (hmo : mo + 13 ≤ n) (hI : vI R) (k : Nat) (hk : k < 2147483648)  : Met l yX12_kindsOfWrong wsX12_kindsOfWrong ({ frames := 2, cells := 0, slots := 0, locals := 54 }) (va_Pc [.ref (ad Γ (mo + 0)), .int (nI k)] (fun U => hw Γ n G U U.heap)) (vp_Si (fun z => z = nI (wkinds R k))) 0 0 (fun _ => False) := by
  refine Met.ofW (cc := cX12_kindsOfWrong) (maxL := 2) (ret := (some .int)) (by decide) rfl ?_
  intro p e s m args below meth c s₁ B hml hv
  obtain ⟨rfl, hw⟩ := hv
  have hx := B.exec
  have hb := B.bytes
  have hr := B.returns
  have hts := atoms_spec (ws := wsX12_kindsOfWrong) B.pre
  have hown : s.vm.findClass RX12 = some m.cls := findClass_of_methodNamed B.named
  have hlocks := B.notSynchronized
  have hl := lv_entry ([.ref (ad Γ (mo + 0)), .int (nI k)]) (n := 2) (Nat.le_of_ble_eq_true rfl)
  rw [lg_entry_eq]
  generalize (lg_sl ([.ref (ad Γ (mo + 0)), .int (nI k)]) ++ List.replicate (2 - (lg_sl ([.ref (ad Γ (mo + 0)), .int (nI k)])).length) Slot.unset).toArray = ls at hl ⊢
  have hl : lv_has ls 2 [(0, .ref (ad Γ (mo + 0))), (1, .int (nI k))] := hl
  have hB := hI.1
  have hB0 := hI.2.1
  have hB1 := hI.2.2.1
  have hB20 := hI.2.2.2.2.2.2.2.2.2
  have hBz2 := hI.2.2.2.1
  have hBz3 := hI.2.2.2.2.1
  have hBz4 := hI.2.2.2.2.2.1
  have hBz5 := hI.2.2.2.2.2.2.1
  have hby := hI.2.2.2.2.2.2.2.1
  have hto := hI.2.2.2.2.2.2.2.2.1
  refine lv_aload_n hx hb dX12_kindsOfWrong_0 rfl (lv_at hl 0 rfl) ?_
  refine lv_iload_n hx hb dX12_kindsOfWrong_1 rfl (lv_at hl 1 rfl) ?_
  refine lv_bipush (v := nI 80) hx hb dX12_kindsOfWrong_2 (by decide) ?_
  refine lv_aload_n hx hb dX12_kindsOfWrong_4 rfl (lv_at hl 0 rfl) ?_
  refine nr_get (own := RX12) (C := RX12) (T := TX12) (N := 19) (v := .ref (ad Γ (mo + 1))) hx hb hts hi_X12_kindsOfWrong_X12 hown hw (by omega) (isM_0 hM) rfl 0 (by decide) wl_X12_kindsOfWrong_1 rfl rfl dX12_kindsOfWrong_5 ?_
  refine lv_iconst (v := nI 3) hx hb dX12_kindsOfWrong_8 (by decide) ?_
  refine nr_iald (x := (R 3)) hx hb hw (by omega) (isM_1 hM) rfl (by omega) (by decide) dX12_kindsOfWrong_9 ?_
  have hL1 := hB (3)
  refine lv_iconst (v := nI 1) hx hb dX12_kindsOfWrong_10 (by decide) ?_
  refine nr_goS (nr_runV (As := [.int (nI k), .int (nI 80), .int (nI (R 3)), .int (nI 1)]) (C := RX12) (T := TX12) (N := 19) ⟨hx, hb, hml, hown, hts⟩ hw (by omega) (isM_0 hM) rfl (c_X12_kindsBy l Γ n G mo R K kp rf ca rc hd fw tl by0 an vl iv hM (by omega) hI k 80 (R 3) 1 (by omega) (by omega) (by omega)) (cwV 4 hts gX12_kindsOfWrong_X12_kindsBy rfl rfl rfl (by decide +kernel) ⟨Nat.le_of_ble_eq_true rfl, Nat.le_of_ble_eq_true rfl⟩) rfl hl.1 rfl (Nat.le_of_ble_eq_true rfl) dX12_kindsOfWrong_11 ⟨Nat.zero_le _, Nat.zero_le _⟩) (fun r2 hr2 => ?_)
  obtain rfl : r2 = (nI (kbits R k 80 (R 3) 1)) := hr2
  exact nr_retS hx hb hr hlocks (by rw [kb_w]) rfl dX12_kindsOfWrong_14
theorem wl_X12_kindsOfOne_1 : Cond.fieldLink RX12 7 "BellForgivenModel" "all" "[I" ∈ wsX12_kindsOfOne := List.mem_of_getElem? (i := 1) rfl
theorem hi_X12_kindsOfOne_X12 : ∀ w ∈ u_ws RX12 TX12 19, w ∈ wsX12_kindsOfOne := fun w h => (List.mem_cons_of_mem _ (List.mem_append_right _ h))
set_option maxHeartbeats 4000000 in
set_option maxRecDepth 100000 in
theorem c_X12_kindsOfOne (l : Launch) (Γ : Gam) (n : Nat) (G : Nat → va_E) (mo : Nat) (R K kp rf ca rc hd fw tl by0 an vl iv : Nat → Nat) (hM : isM Γ G mo R K kp rf ca rc hd fw tl by0 an vl iv) (hmo : mo + 13 ≤ n) (hI : vI R) (k : Nat) (hk : k < 2147483648)  : Met l yX12_kindsOfOne wsX12_kindsOfOne ({ frames := 2, cells := 0, slots := 0, locals := 54 }) (va_Pc [.ref (ad Γ (mo + 0)), .int (nI k)] (fun U => hw Γ n G U U.heap)) (vp_Si (fun z => z = nI (pkinds R k))) 0 0 (fun _ => False) := by
  refine Met.ofW (cc := cX12_kindsOfOne) (maxL := 2) (ret := (some .int)) (by decide) rfl ?_
  intro p e s m args below meth c s₁ B hml hv
  obtain ⟨rfl, hw⟩ := hv
  have hx := B.exec
  have hb := B.bytes
  have hr := B.returns
  have hts := atoms_spec (ws := wsX12_kindsOfOne) B.pre
  have hown : s.vm.findClass RX12 = some m.cls := findClass_of_methodNamed B.named
  have hlocks := B.notSynchronized
  have hl := lv_entry ([.ref (ad Γ (mo + 0)), .int (nI k)]) (n := 2) (Nat.le_of_ble_eq_true rfl)
  rw [lg_entry_eq]
  generalize (lg_sl ([.ref (ad Γ (mo + 0)), .int (nI k)]) ++ List.replicate (2 - (lg_sl ([.ref (ad Γ (mo + 0)), .int (nI k)])).length) Slot.unset).toArray = ls at hl ⊢
  have hl : lv_has ls 2 [(0, .ref (ad Γ (mo + 0))), (1, .int (nI k))] := hl
  have hB := hI.1
  have hB0 := hI.2.1
  have hB1 := hI.2.2.1
  have hB20 := hI.2.2.2.2.2.2.2.2.2
  have hBz2 := hI.2.2.2.1
  have hBz3 := hI.2.2.2.2.1
  have hBz4 := hI.2.2.2.2.2.1
  have hBz5 := hI.2.2.2.2.2.2.1
  have hby := hI.2.2.2.2.2.2.2.1
  have hto := hI.2.2.2.2.2.2.2.2.1
  refine lv_aload_n hx hb dX12_kindsOfOne_0 rfl (lv_at hl 0 rfl) ?_
  refine lv_iload_n hx hb dX12_kindsOfOne_1 rfl (lv_at hl 1 rfl) ?_
  refine lv_bipush (v := nI 104) hx hb dX12_kindsOfOne_2 (by decide) ?_
  refine lv_aload_n hx hb dX12_kindsOfOne_4 rfl (lv_at hl 0 rfl) ?_
  refine nr_get (own := RX12) (C := RX12) (T := TX12) (N := 19) (v := .ref (ad Γ (mo + 1))) hx hb hts hi_X12_kindsOfOne_X12 hown hw (by omega) (isM_0 hM) rfl 0 (by decide) wl_X12_kindsOfOne_1 rfl rfl dX12_kindsOfOne_5 ?_
  refine lv_iconst (v := nI 4) hx hb dX12_kindsOfOne_8 (by decide) ?_
  refine nr_iald (x := (R 4)) hx hb hw (by omega) (isM_1 hM) rfl (by omega) (by decide) dX12_kindsOfOne_9 ?_
  have hL1 := hB (4)
  refine lv_iconst (v := nI 0) hx hb dX12_kindsOfOne_10 (by decide) ?_
  refine nr_goS (nr_runV (As := [.int (nI k), .int (nI 104), .int (nI (R 4)), .int (nI 0)]) (C := RX12) (T := TX12) (N := 19) ⟨hx, hb, hml, hown, hts⟩ hw (by omega) (isM_0 hM) rfl (c_X12_kindsBy l Γ n G mo R K kp rf ca rc hd fw tl by0 an vl iv hM (by omega) hI k 104 (R 4) 0 (by omega) (by omega) (by omega)) (cwV 4 hts gX12_kindsOfOne_X12_kindsBy rfl rfl rfl (by decide +kernel) ⟨Nat.le_of_ble_eq_true rfl, Nat.le_of_ble_eq_true rfl⟩) rfl hl.1 rfl (Nat.le_of_ble_eq_true rfl) dX12_kindsOfOne_11 ⟨Nat.zero_le _, Nat.zero_le _⟩) (fun r2 hr2 => ?_)
  obtain rfl : r2 = (nI (kbits R k 104 (R 4) 0)) := hr2
  exact nr_retS hx hb hr hlocks (by rw [kb_p]) rfl dX12_kindsOfOne_14
set_option maxHeartbeats 4000000 in
set_option maxRecDepth 100000 in
theorem c_X12_getsBy (l : Launch) (Γ : Gam) (n : Nat) (G : Nat → va_E) (se ot co : Nat) (h1 : se < 2) (h2 : ot < 2) (h3 : co = 2 ∨ co = 11)  : Met l yX12_getsBy wsX12_getsBy ({ frames := 0, cells := 0, slots := 0, locals := 0 }) (va_Pc [.int (nI se), .int (nI ot), .int (nI co)] (fun U => hw Γ n G U U.heap)) (vp_Si (fun z => z = gainV se ot (if co = 11 then 1 else 0))) 0 0 (fun _ => False) := by
  refine Met.ofW (cc := cX12_getsBy) (maxL := 4) (ret := (some .int)) (by decide) rfl ?_
  intro p e s m args below meth c s₁ B hml hv
  obtain ⟨rfl, hw⟩ := hv
  have hx := B.exec
  have hb := B.bytes
  have hr := B.returns
  have hts := atoms_spec (ws := wsX12_getsBy) B.pre
  have hown : s.vm.findClass RX12 = some m.cls := findClass_of_methodNamed B.named
  have hlocks := B.notSynchronized
  have hl := lv_entry ([.int (nI se), .int (nI ot), .int (nI co)]) (n := 4) (Nat.le_of_ble_eq_true rfl)
  rw [lg_entry_eq]
  generalize (lg_sl ([.int (nI se), .int (nI ot), .int (nI co)]) ++ List.replicate (4 - (lg_sl ([.int (nI se), .int (nI ot), .int (nI co)])).length) Slot.unset).toArray = ls at hl ⊢
  have hl : lv_has ls 4 [(0, .int (nI se)), (1, .int (nI ot)), (2, .int (nI co))] := hl
  refine lv_bipush (v := nI 6) hx hb dX12_getsBy_0 (by decide) ?_
  refine lv_iload_n hx hb dX12_getsBy_2 rfl (lv_at hl 1 rfl) ?_
  refine nr_imul hx hb dX12_getsBy_3 ?_
  refine lv_iload_n hx hb dX12_getsBy_4 rfl (lv_at hl 2 rfl) ?_
  refine lv_iload_n hx hb dX12_getsBy_5 rfl (lv_at hl 0 rfl) ?_
  refine nr_imul hx hb dX12_getsBy_6 ?_
  refine lv_isub hx hb dX12_getsBy_7 ?_
  refine lv_istore_n (lv' := [(3, .int ((nI (6 * ot)) - (nI (co * se)))), (0, .int (nI se)), (1, .int (nI ot)), (2, .int (nI co))]) hx hb dX12_getsBy_8 rfl hl (by decide) rfl (fun ls hl => ?_)
  refine lv_iload_n hx hb dX12_getsBy_9 rfl (lv_at hl 1 rfl) ?_
  refine lv_iconst (v := nI 1) hx hb dX12_getsBy_10 (by decide) ?_
  refine nr_icmp_ne (tgt := 25) hx hb (by omega) (by decide) dX12_getsBy_11 (by decide) (fun c1 => ?_) (fun c1 => ?_)
  · refine lv_iload_n hx hb dX12_getsBy_25 rfl (lv_at hl 1 rfl) ?_
    refine nr_if_ne (tgt := 39) hx hb (by omega) dX12_getsBy_26 (by decide) (fun c2 => ?_) (fun c2 => ?_)
    · refine lv_iload_n hx hb dX12_getsBy_39 rfl (lv_at hl 0 rfl) ?_
      exact nr_retS hx hb hr hlocks (by rcases (show se = 0 ∨ se = 1 by omega) with rfl | rfl <;> rcases (show ot = 0 ∨ ot = 1 by omega) with rfl | rfl <;> rcases h3 with rfl | rfl <;> first | decide | (exfalso; omega)) rfl dX12_getsBy_40
    · refine lv_iload_n hx hb dX12_getsBy_29 rfl (lv_at hl 2 rfl) ?_
      refine nr_if_ne (tgt := 39) hx hb (by omega) dX12_getsBy_30 (by decide) (fun c3 => ?_) (fun c3 => ?_)
      · refine lv_iload_n hx hb dX12_getsBy_39 rfl (lv_at hl 0 rfl) ?_
        exact nr_retS hx hb hr hlocks (by rcases (show se = 0 ∨ se = 1 by omega) with rfl | rfl <;> rcases (show ot = 0 ∨ ot = 1 by omega) with rfl | rfl <;> rcases h3 with rfl | rfl <;> first | decide | (exfalso; omega)) rfl dX12_getsBy_40
      · refine lv_iload_n hx hb dX12_getsBy_33 rfl (lv_at hl 0 rfl) ?_
        refine lv_iconst (v := nI 4) hx hb dX12_getsBy_34 (by decide) ?_
        refine lv_isub hx hb dX12_getsBy_35 ?_
        refine lv_goto (tgt := 40) hx hb dX12_getsBy_36 (by decide) ?_
        exact nr_retS hx hb hr hlocks (by rcases (show se = 0 ∨ se = 1 by omega) with rfl | rfl <;> rcases (show ot = 0 ∨ ot = 1 by omega) with rfl | rfl <;> rcases h3 with rfl | rfl <;> first | decide | (exfalso; omega)) rfl dX12_getsBy_40
  · refine lv_iload_n hx hb dX12_getsBy_14 rfl (lv_at hl 2 rfl) ?_
    refine lv_iconst (v := nI 1) hx hb dX12_getsBy_15 (by decide) ?_
    refine nr_icmp_ne (tgt := 25) hx hb (by omega) (by decide) dX12_getsBy_16 (by decide) (fun c4 => ?_) (fun c4 => ?_)
    · refine lv_iload_n hx hb dX12_getsBy_25 rfl (lv_at hl 1 rfl) ?_
      refine nr_if_ne (tgt := 39) hx hb (by omega) dX12_getsBy_26 (by decide) (fun c5 => ?_) (fun c5 => ?_)
      · refine lv_iload_n hx hb dX12_getsBy_39 rfl (lv_at hl 0 rfl) ?_
        exact nr_retS hx hb hr hlocks (by rcases (show se = 0 ∨ se = 1 by omega) with rfl | rfl <;> rcases (show ot = 0 ∨ ot = 1 by omega) with rfl | rfl <;> rcases h3 with rfl | rfl <;> first | decide | (exfalso; omega)) rfl dX12_getsBy_40
      · refine lv_iload_n hx hb dX12_getsBy_29 rfl (lv_at hl 2 rfl) ?_
        refine nr_if_ne (tgt := 39) hx hb (by omega) dX12_getsBy_30 (by decide) (fun c6 => ?_) (fun c6 => ?_)
        · refine lv_iload_n hx hb dX12_getsBy_39 rfl (lv_at hl 0 rfl) ?_
          exact nr_retS hx hb hr hlocks (by rcases (show se = 0 ∨ se = 1 by omega) with rfl | rfl <;> rcases (show ot = 0 ∨ ot = 1 by omega) with rfl | rfl <;> rcases h3 with rfl | rfl <;> first | decide | (exfalso; omega)) rfl dX12_getsBy_40
        · refine lv_iload_n hx hb dX12_getsBy_33 rfl (lv_at hl 0 rfl) ?_
          refine lv_iconst (v := nI 4) hx hb dX12_getsBy_34 (by decide) ?_
          refine lv_isub hx hb dX12_getsBy_35 ?_
          refine lv_goto (tgt := 40) hx hb dX12_getsBy_36 (by decide) ?_
          exact nr_retS hx hb hr hlocks (by rcases (show se = 0 ∨ se = 1 by omega) with rfl | rfl <;> rcases (show ot = 0 ∨ ot = 1 by omega) with rfl | rfl <;> rcases h3 with rfl | rfl <;> first | decide | (exfalso; omega)) rfl dX12_getsBy_40
    · refine lv_iload_n hx hb dX12_getsBy_19 rfl (lv_at hl 0 rfl) ?_
      refine lv_iconst (v := nI 3) hx hb dX12_getsBy_20 (by decide) ?_
      refine lv_iadd hx hb dX12_getsBy_21 ?_
      refine lv_goto (tgt := 40) hx hb dX12_getsBy_22 (by decide) ?_
      exact nr_retS hx hb hr hlocks (by rcases (show se = 0 ∨ se = 1 by omega) with rfl | rfl <;> rcases (show ot = 0 ∨ ot = 1 by omega) with rfl | rfl <;> rcases h3 with rfl | rfl <;> first | decide | (exfalso; omega)) rfl dX12_getsBy_40
theorem wl_X12_of_1 : Cond.constantLong RX12 132 (3) ∈ wsX12_of := List.mem_of_getElem? (i := 1) rfl
theorem wl_X12_of_2 : Cond.fieldLink RX12 7 "BellForgivenModel" "all" "[I" ∈ wsX12_of := List.mem_of_getElem? (i := 2) rfl
theorem hi_X12_of_X12 : ∀ w ∈ u_ws RX12 TX12 19, w ∈ wsX12_of := fun w h => (List.mem_cons_of_mem _ (List.mem_append_right _ h))
set_option maxHeartbeats 4000000 in
set_option maxRecDepth 100000 in
theorem c_X12_of (l : Launch) (Γ : Gam) (n : Nat) (G : Nat → va_E) (mo : Nat) (R K kp rf ca rc hd fw tl by0 an vl iv : Nat → Nat) (hM : isM Γ G mo R K kp rf ca rc hd fw tl by0 an vl iv) (hmo : mo + 13 ≤ n) (hI : vI R) (hj : winj Γ n) (i what : Int32)  : Met l yX12_of wsX12_of ({ frames := 2, cells := 0, slots := 0, locals := 46 }) (va_Pc [.ref (ad Γ (mo + 0)), .int i, .int what] (fun U => hw Γ n G U U.heap)) (wQi Γ n (fun z G2 => ((¬ (vBel (R 0) i ∧ vRng 0 3 what)) ∧ (z = -2) ∧ isM Γ G2 mo R K kp (bmp rf 0) ca rc hd fw tl by0 an vl iv ∧ fr G G2 mo (mo + 13)) ∨ (∃ ji jw : Nat, (ji < R 0) ∧ (i = nI ji) ∧ (jw ≤ 3) ∧ (what = nI jw) ∧ (z = nI (rOf R ji jw)) ∧ isM Γ G2 mo R K kp rf ca rc hd fw tl by0 an vl iv ∧ fr G G2 mo (mo + 13)))) 0 0 (wA Γ n) := by
  refine Met.ofW (cc := cX12_of) (maxL := 3) (ret := (some .int)) (by decide) rfl ?_
  intro p e s m args below meth c s₁ B hml hv
  obtain ⟨rfl, hw⟩ := hv
  have hx := B.exec
  have hb := B.bytes
  have hr := B.returns
  have hts := atoms_spec (ws := wsX12_of) B.pre
  have hown : s.vm.findClass RX12 = some m.cls := findClass_of_methodNamed B.named
  have hlocks := B.notSynchronized
  have hS : va_S (wA Γ n) s.heap s.heap [] := va_S.rf
  have hA : ∀ q, wA Γ n q → wA Γ n q := fun _ h => h
  have hl := lv_entry ([.ref (ad Γ (mo + 0)), .int i, .int what]) (n := 3) (Nat.le_of_ble_eq_true rfl)
  rw [lg_entry_eq]
  generalize (lg_sl ([.ref (ad Γ (mo + 0)), .int i, .int what]) ++ List.replicate (3 - (lg_sl ([.ref (ad Γ (mo + 0)), .int i, .int what])).length) Slot.unset).toArray = ls at hl ⊢
  have hl : lv_has ls 3 [(0, .ref (ad Γ (mo + 0))), (1, .int i), (2, .int what)] := hl
  have hfr := fr_rf G mo (mo + 13)
  have hB := hI.1
  have hB0 := hI.2.1
  have hB1 := hI.2.2.1
  have hB20 := hI.2.2.2.2.2.2.2.2.2
  have hBz2 := hI.2.2.2.1
  have hBz3 := hI.2.2.2.2.1
  have hBz4 := hI.2.2.2.2.2.1
  have hBz5 := hI.2.2.2.2.2.2.1
  have hby := hI.2.2.2.2.2.2.2.1
  have hto := hI.2.2.2.2.2.2.2.2.1
  refine lv_aload_n hx hb dX12_of_0 rfl (lv_at hl 0 rfl) ?_
  refine lv_iload_n hx hb dX12_of_1 rfl (lv_at hl 1 rfl) ?_
  refine nr_goB (P := ∃ j, j < R 0 ∧ i = nI j) (nr_runV (As := [.int i]) (C := RX12) (T := TX12) (N := 19) ⟨hx, hb, hml, hown, hts⟩ hw (by omega) (isM_0 hM) rfl (c_X12_isOne l Γ n G mo R K kp rf ca rc hd fw tl by0 an vl iv hM (by omega) hI i) (cwV 1 hts gX12_of_X12_isOne rfl rfl rfl (by decide +kernel) ⟨Nat.le_of_ble_eq_true rfl, Nat.le_of_ble_eq_true rfl⟩) rfl hl.1 rfl (Nat.le_of_ble_eq_true rfl) dX12_of_2 ⟨Nat.zero_le _, Nat.zero_le _⟩) (fun b1 => ?_) (fun b1 => ?_)
  · obtain ⟨ji, hji, rfl⟩ := b1
    refine nr_if_eq (tgt := 20) hx hb (by decide) dX12_of_5 (by decide) (fun c2 => absurd c2 (by decide)) (fun c2 => ?_)
    refine lv_iload_n hx hb dX12_of_8 rfl (lv_at hl 2 rfl) ?_
    refine lv_i2l (v := (what).toInt64) hx hb dX12_of_9 rfl ?_
    refine lv_lconst (v := lN 0) hx hb dX12_of_10 rfl ?_
    refine nr_ldc2 (k := 3) hx hb hown (hts _ wl_X12_of_1) (by decide) dX12_of_11 ?_
    refine nr_goB (P := (lN 0) ≤ ((what).toInt64) ∧ ((what).toInt64) ≤ (lN 3)) (nr_runS (As := [.long ((what).toInt64), .long (lN 0), .long (lN 3)]) ⟨hx, hb, hml, hown, hts⟩ hw (c_X12_in l Γ n G ((what).toInt64) (lN 0) (lN 3)) (va_cwS 3 hts gX12_of_X12_in rfl rfl rfl (by decide +kernel) ⟨Nat.le_of_ble_eq_true rfl, Nat.le_of_ble_eq_true rfl⟩) rfl hl.1 rfl (Nat.le_of_ble_eq_true rfl) dX12_of_14 ⟨Nat.zero_le _, Nat.zero_le _⟩) (fun b3 => ?_) (fun b3 => ?_)
    · obtain ⟨jw, hjwa, hjwb, rfl⟩ := (in_c (a := 0) (b := 3) (by decide) (by decide)).mp b3
      refine nr_if_ne (tgt := 27) hx hb (by decide) dX12_of_17 (by decide) (fun c4 => ?_) (fun c4 => absurd c4 (by decide))
      refine lv_iload_n hx hb dX12_of_27 rfl (lv_at hl 2 rfl) ?_
      rcases (show jw = 0 ∨ jw = 1 ∨ jw = 2 ∨ 2 < jw by omega) with c5 | c5 | c5 | c5
      · refine nr_tabIn (j := 0) (tgt := 56) hx hb (by omega) c5 dX12_of_28 (by decide) (by decide) rfl (by decide) ?_
        refine lv_aload_n hx hb dX12_of_56 rfl (lv_at hl 0 rfl) ?_
        refine nr_get (own := RX12) (C := RX12) (T := TX12) (N := 19) (v := .ref (ad Γ (mo + 1))) hx hb hts hi_X12_of_X12 hown hw (by omega) (isM_0 hM) rfl 0 (by decide) wl_X12_of_2 rfl rfl dX12_of_57 ?_
        refine lv_bipush (v := nI 22) hx hb dX12_of_60 (by decide) ?_
        refine lv_iload_n hx hb dX12_of_62 rfl (lv_at hl 1 rfl) ?_
        refine nr_iadd hx hb dX12_of_63 ?_
        refine nr_iald (x := (R (22 + ji))) hx hb hw (by omega) (isM_1 hM) rfl (by omega) (by decide) dX12_of_64 ?_
        have hL6 := hB (22 + ji)
        exact nr_retI hx hb hr hlocks hw hS (Or.inr (⟨ji, jw, hji, rfl, hjwb, rfl, by refine congrArg nI ?_; unfold rOf; (repeat' split) <;> first | rfl | omega | contradiction, hM, hfr⟩)) dX12_of_65
      · refine nr_tabIn (j := 1) (tgt := 66) hx hb (by omega) c5 dX12_of_28 (by decide) (by decide) rfl (by decide) ?_
        refine lv_aload_n hx hb dX12_of_66 rfl (lv_at hl 0 rfl) ?_
        refine nr_get (own := RX12) (C := RX12) (T := TX12) (N := 19) (v := .ref (ad Γ (mo + 1))) hx hb hts hi_X12_of_X12 hown hw (by omega) (isM_0 hM) rfl 0 (by decide) wl_X12_of_2 rfl rfl dX12_of_67 ?_
        refine lv_bipush (v := nI 6) hx hb dX12_of_70 (by decide) ?_
        refine lv_iload_n hx hb dX12_of_72 rfl (lv_at hl 1 rfl) ?_
        refine nr_iadd hx hb dX12_of_73 ?_
        refine nr_iald (x := (R (6 + ji))) hx hb hw (by omega) (isM_1 hM) rfl (by omega) (by decide) dX12_of_74 ?_
        have hL7 := hB (6 + ji)
        exact nr_retI hx hb hr hlocks hw hS (Or.inr (⟨ji, jw, hji, rfl, hjwb, rfl, by refine congrArg nI ?_; unfold rOf; (repeat' split) <;> first | rfl | omega | contradiction, hM, hfr⟩)) dX12_of_75
      · refine nr_tabIn (j := 2) (tgt := 76) hx hb (by omega) c5 dX12_of_28 (by decide) (by decide) rfl (by decide) ?_
        refine lv_aload_n hx hb dX12_of_76 rfl (lv_at hl 0 rfl) ?_
        refine nr_get (own := RX12) (C := RX12) (T := TX12) (N := 19) (v := .ref (ad Γ (mo + 1))) hx hb hts hi_X12_of_X12 hown hw (by omega) (isM_0 hM) rfl 0 (by decide) wl_X12_of_2 rfl rfl dX12_of_77 ?_
        refine lv_iload_n hx hb dX12_of_80 rfl (lv_at hl 1 rfl) ?_
        refine nr_goS (nr_runS (As := [.ref (ad Γ (mo + 1)), .int (nI ji)]) ⟨hx, hb, hml, hown, hts⟩ hw (c_X12_letsOf l Γ n G (mo + 1) 256 R (isM_1 hM) (by omega) (by omega) (by omega) (vI_a hI) ji (by omega)) (va_cwS 2 hts gX12_of_X12_letsOf rfl rfl rfl (by decide +kernel) ⟨Nat.le_of_ble_eq_true rfl, Nat.le_of_ble_eq_true rfl⟩) rfl hl.1 rfl (Nat.le_of_ble_eq_true rfl) dX12_of_81 ⟨Nat.zero_le _, Nat.zero_le _⟩) (fun r8 hr8 => ?_)
        obtain rfl : r8 = (nI (rL R ji)) := hr8
        exact nr_retI hx hb hr hlocks hw hS (Or.inr (⟨ji, jw, hji, rfl, hjwb, rfl, by refine congrArg nI ?_; unfold rOf; (repeat' split) <;> first | rfl | omega | contradiction, hM, hfr⟩)) dX12_of_84
      · refine nr_tabOut (tgt := 85) hx hb (by omega) dX12_of_28 (by omega) (by decide) ?_
        refine lv_aload_n hx hb dX12_of_85 rfl (lv_at hl 0 rfl) ?_
        refine nr_get (own := RX12) (C := RX12) (T := TX12) (N := 19) (v := .ref (ad Γ (mo + 1))) hx hb hts hi_X12_of_X12 hown hw (by omega) (isM_0 hM) rfl 0 (by decide) wl_X12_of_2 rfl rfl dX12_of_86 ?_
        refine lv_iload_n hx hb dX12_of_89 rfl (lv_at hl 1 rfl) ?_
        refine nr_goB (P := guiltyP R ji) (nr_runS (As := [.ref (ad Γ (mo + 1)), .int (nI ji)]) ⟨hx, hb, hml, hown, hts⟩ hw (c_X12_isGuilty l Γ n G (mo + 1) 256 R (isM_1 hM) (by omega) (by omega) (by omega) (vI_a hI) ji (by omega)) (va_cwS 2 hts gX12_of_X12_isGuilty rfl rfl rfl (by decide +kernel) ⟨Nat.le_of_ble_eq_true rfl, Nat.le_of_ble_eq_true rfl⟩) rfl hl.1 rfl (Nat.le_of_ble_eq_true rfl) dX12_of_90 ⟨Nat.zero_le _, Nat.zero_le _⟩) (fun b9 => ?_) (fun b9 => ?_)
        · refine nr_if_eq (tgt := 100) hx hb (by decide) dX12_of_93 (by decide) (fun c10 => absurd c10 (by decide)) (fun c10 => ?_)
          refine lv_iconst (v := nI 1) hx hb dX12_of_96 (by decide) ?_
          refine lv_goto (tgt := 101) hx hb dX12_of_97 (by decide) ?_
          exact nr_retI hx hb hr hlocks hw hS (Or.inr (⟨ji, jw, hji, rfl, hjwb, rfl, by refine congrArg nI ?_; unfold rOf; (repeat' split) <;> first | rfl | omega | contradiction, hM, hfr⟩)) dX12_of_101
        · refine nr_if_eq (tgt := 100) hx hb (by decide) dX12_of_93 (by decide) (fun c11 => ?_) (fun c11 => absurd c11 (by decide))
          refine lv_iconst (v := nI 0) hx hb dX12_of_100 (by decide) ?_
          exact nr_retI hx hb hr hlocks hw hS (Or.inr (⟨ji, jw, hji, rfl, hjwb, rfl, by refine congrArg nI ?_; unfold rOf; (repeat' split) <;> first | rfl | omega | contradiction, hM, hfr⟩)) dX12_of_101
    · have b3n : ¬ vRng 0 3 what := fun hh => b3 ((in_c (by decide) (by decide)).mpr hh)
      refine nr_if_ne (tgt := 27) hx hb (by decide) dX12_of_17 (by decide) (fun c12 => absurd c12 (by decide)) (fun c12 => ?_)
      refine lv_aload_n hx hb dX12_of_20 rfl (lv_at hl 0 rfl) ?_
      refine lv_bipush (v := (-2)) hx hb dX12_of_21 (by decide) ?_
      refine nr_goI (nr_runV (As := [.int (-2)]) (C := RX12) (T := TX12) (N := 19) ⟨hx, hb, hml, hown, hts⟩ hw (by omega) (isM_0 hM) rfl (c_X12_bad l Γ n G mo R K kp rf ca rc hd fw tl by0 an vl iv hM (by omega) hI hj (-2)) (cwV 1 hts gX12_of_X12_bad rfl rfl rfl (by decide +kernel) ⟨Nat.le_of_ble_eq_true rfl, Nat.le_of_ble_eq_true rfl⟩) rfl hl.1 rfl (Nat.le_of_ble_eq_true rfl) dX12_of_23 ⟨Nat.zero_le _, Nat.zero_le _⟩) hw hA hS (fun z13 G13 H locs hp hw hS => ?_)
      obtain ⟨ha13, hM, hfr13⟩ := hp
      have hfr := fr_tr hfr hfr13 (Nat.le_refl _) (Nat.le_refl _)
      subst ha13
      exact nr_retI hx hb hr hlocks hw hS (Or.inl ⟨by intro hh; first | contradiction | (obtain ⟨hq1, hq2⟩ := hh; first | contradiction | (obtain ⟨hq2, hq3⟩ := hq2; first | contradiction | (obtain ⟨hq3, hq4⟩ := hq3; first | contradiction | (obtain ⟨hq4, hq5⟩ := hq4; first | contradiction | (exact hq4 (congrArg nI (by assumption))))))), rfl, hM, hfr⟩) dX12_of_26
  · refine nr_if_eq (tgt := 20) hx hb (by decide) dX12_of_5 (by decide) (fun c14 => ?_) (fun c14 => absurd c14 (by decide))
    refine lv_aload_n hx hb dX12_of_20 rfl (lv_at hl 0 rfl) ?_
    refine lv_bipush (v := (-2)) hx hb dX12_of_21 (by decide) ?_
    refine nr_goI (nr_runV (As := [.int (-2)]) (C := RX12) (T := TX12) (N := 19) ⟨hx, hb, hml, hown, hts⟩ hw (by omega) (isM_0 hM) rfl (c_X12_bad l Γ n G mo R K kp rf ca rc hd fw tl by0 an vl iv hM (by omega) hI hj (-2)) (cwV 1 hts gX12_of_X12_bad rfl rfl rfl (by decide +kernel) ⟨Nat.le_of_ble_eq_true rfl, Nat.le_of_ble_eq_true rfl⟩) rfl hl.1 rfl (Nat.le_of_ble_eq_true rfl) dX12_of_23 ⟨Nat.zero_le _, Nat.zero_le _⟩) hw hA hS (fun z15 G15 H locs hp hw hS => ?_)
    obtain ⟨ha15, hM, hfr15⟩ := hp
    have hfr := fr_tr hfr hfr15 (Nat.le_refl _) (Nat.le_refl _)
    subst ha15
    exact nr_retI hx hb hr hlocks hw hS (Or.inl ⟨by intro hh; first | contradiction | (obtain ⟨hq1, hq2⟩ := hh; first | contradiction | (obtain ⟨hq2, hq3⟩ := hq2; first | contradiction | (obtain ⟨hq3, hq4⟩ := hq3; first | contradiction | (obtain ⟨hq4, hq5⟩ := hq4; first | contradiction | (exact hq4 (congrArg nI (by assumption))))))), rfl, hM, hfr⟩) dX12_of_26
theorem wl_X12_about_1 : Cond.constantLong RX12 137 (6) ∈ wsX12_about := List.mem_of_getElem? (i := 1) rfl
set_option maxHeartbeats 4000000 in
set_option maxRecDepth 100000 in
theorem c_X12_about (l : Launch) (Γ : Gam) (n : Nat) (G : Nat → va_E) (mo : Nat) (R K kp rf ca rc hd fw tl by0 an vl iv : Nat → Nat) (hM : isM Γ G mo R K kp rf ca rc hd fw tl by0 an vl iv) (hmo : mo + 13 ≤ n) (hI : vI R) (hj : winj Γ n) (k what : Int32)  : Met l yX12_about wsX12_about ({ frames := 3, cells := 0, slots := 0, locals := 67 }) (va_Pc [.ref (ad Γ (mo + 0)), .int k, .int what] (fun U => hw Γ n G U U.heap)) (wQi Γ n (fun z G2 => ((¬ (vBel (R 1) k ∧ vRng 0 6 what)) ∧ (z = -2) ∧ isM Γ G2 mo R K kp (bmp rf 0) ca rc hd fw tl by0 an vl iv ∧ fr G G2 mo (mo + 13)) ∨ (∃ jk jw : Nat, (jk < R 1) ∧ (k = nI jk) ∧ (jw ≤ 6) ∧ (what = nI jw) ∧ (z = nI (rTold R jk jw)) ∧ isM Γ G2 mo R K kp rf ca rc hd fw tl by0 an vl iv ∧ fr G G2 mo (mo + 13)))) 0 0 (wA Γ n) := by
  refine Met.ofW (cc := cX12_about) (maxL := 3) (ret := (some .int)) (by decide) rfl ?_
  intro p e s m args below meth c s₁ B hml hv
  obtain ⟨rfl, hw⟩ := hv
  have hx := B.exec
  have hb := B.bytes
  have hr := B.returns
  have hts := atoms_spec (ws := wsX12_about) B.pre
  have hown : s.vm.findClass RX12 = some m.cls := findClass_of_methodNamed B.named
  have hlocks := B.notSynchronized
  have hS : va_S (wA Γ n) s.heap s.heap [] := va_S.rf
  have hA : ∀ q, wA Γ n q → wA Γ n q := fun _ h => h
  have hl := lv_entry ([.ref (ad Γ (mo + 0)), .int k, .int what]) (n := 3) (Nat.le_of_ble_eq_true rfl)
  rw [lg_entry_eq]
  generalize (lg_sl ([.ref (ad Γ (mo + 0)), .int k, .int what]) ++ List.replicate (3 - (lg_sl ([.ref (ad Γ (mo + 0)), .int k, .int what])).length) Slot.unset).toArray = ls at hl ⊢
  have hl : lv_has ls 3 [(0, .ref (ad Γ (mo + 0))), (1, .int k), (2, .int what)] := hl
  have hfr := fr_rf G mo (mo + 13)
  have hB := hI.1
  have hB0 := hI.2.1
  have hB1 := hI.2.2.1
  have hB20 := hI.2.2.2.2.2.2.2.2.2
  have hBz2 := hI.2.2.2.1
  have hBz3 := hI.2.2.2.2.1
  have hBz4 := hI.2.2.2.2.2.1
  have hBz5 := hI.2.2.2.2.2.2.1
  have hby := hI.2.2.2.2.2.2.2.1
  have hto := hI.2.2.2.2.2.2.2.2.1
  refine lv_aload_n hx hb dX12_about_0 rfl (lv_at hl 0 rfl) ?_
  refine lv_iload_n hx hb dX12_about_1 rfl (lv_at hl 1 rfl) ?_
  refine nr_goB (P := ∃ j, j < R 1 ∧ k = nI j) (nr_runV (As := [.int k]) (C := RX12) (T := TX12) (N := 19) ⟨hx, hb, hml, hown, hts⟩ hw (by omega) (isM_0 hM) rfl (c_X12_isWrong l Γ n G mo R K kp rf ca rc hd fw tl by0 an vl iv hM (by omega) hI k) (cwV 1 hts gX12_about_X12_isWrong rfl rfl rfl (by decide +kernel) ⟨Nat.le_of_ble_eq_true rfl, Nat.le_of_ble_eq_true rfl⟩) rfl hl.1 rfl (Nat.le_of_ble_eq_true rfl) dX12_about_2 ⟨Nat.zero_le _, Nat.zero_le _⟩) (fun b1 => ?_) (fun b1 => ?_)
  · obtain ⟨jk, hjk, rfl⟩ := b1
    refine nr_if_eq (tgt := 29) hx hb (by decide) dX12_about_5 (by decide) (fun c2 => absurd c2 (by decide)) (fun c2 => ?_)
    refine lv_iload_n hx hb dX12_about_8 rfl (lv_at hl 2 rfl) ?_
    refine lv_i2l (v := (what).toInt64) hx hb dX12_about_9 rfl ?_
    refine lv_lconst (v := lN 0) hx hb dX12_about_10 rfl ?_
    refine nr_ldc2 (k := 6) hx hb hown (hts _ wl_X12_about_1) (by decide) dX12_about_11 ?_
    refine nr_goB (P := (lN 0) ≤ ((what).toInt64) ∧ ((what).toInt64) ≤ (lN 6)) (nr_runS (As := [.long ((what).toInt64), .long (lN 0), .long (lN 6)]) ⟨hx, hb, hml, hown, hts⟩ hw (c_X12_in l Γ n G ((what).toInt64) (lN 0) (lN 6)) (va_cwS 3 hts gX12_about_X12_in rfl rfl rfl (by decide +kernel) ⟨Nat.le_of_ble_eq_true rfl, Nat.le_of_ble_eq_true rfl⟩) rfl hl.1 rfl (Nat.le_of_ble_eq_true rfl) dX12_about_14 ⟨Nat.zero_le _, Nat.zero_le _⟩) (fun b3 => ?_) (fun b3 => ?_)
    · obtain ⟨jw, hjwa, hjwb, rfl⟩ := (in_c (a := 0) (b := 6) (by decide) (by decide)).mp b3
      refine nr_if_eq (tgt := 29) hx hb (by decide) dX12_about_17 (by decide) (fun c4 => absurd c4 (by decide)) (fun c4 => ?_)
      refine lv_aload_n hx hb dX12_about_20 rfl (lv_at hl 0 rfl) ?_
      refine lv_iload_n hx hb dX12_about_21 rfl (lv_at hl 1 rfl) ?_
      refine lv_iload_n hx hb dX12_about_22 rfl (lv_at hl 2 rfl) ?_
      refine nr_goS (nr_runV (As := [.int (nI jk), .int (nI jw)]) (C := RX12) (T := TX12) (N := 19) ⟨hx, hb, hml, hown, hts⟩ hw (by omega) (isM_0 hM) rfl (c_X12_toldOf l Γ n G mo R K kp rf ca rc hd fw tl by0 an vl iv hM (by omega) hI jk jw (by omega) (by omega)) (cwV 2 hts gX12_about_X12_toldOf rfl rfl rfl (by decide +kernel) ⟨Nat.le_of_ble_eq_true rfl, Nat.le_of_ble_eq_true rfl⟩) rfl hl.1 rfl (Nat.le_of_ble_eq_true rfl) dX12_about_23 ⟨Nat.zero_le _, Nat.zero_le _⟩) (fun r5 hr5 => ?_)
      obtain rfl : r5 = (nI (rTold R jk jw)) := hr5
      refine lv_goto (tgt := 35) hx hb dX12_about_26 (by decide) ?_
      exact nr_retI hx hb hr hlocks hw hS (Or.inr (⟨jk, jw, hjk, rfl, hjwb, rfl, rfl, hM, hfr⟩)) dX12_about_35
    · have b3n : ¬ vRng 0 6 what := fun hh => b3 ((in_c (by decide) (by decide)).mpr hh)
      refine nr_if_eq (tgt := 29) hx hb (by decide) dX12_about_17 (by decide) (fun c6 => ?_) (fun c6 => absurd c6 (by decide))
      refine lv_aload_n hx hb dX12_about_29 rfl (lv_at hl 0 rfl) ?_
      refine lv_bipush (v := (-2)) hx hb dX12_about_30 (by decide) ?_
      refine nr_goI (nr_runV (As := [.int (-2)]) (C := RX12) (T := TX12) (N := 19) ⟨hx, hb, hml, hown, hts⟩ hw (by omega) (isM_0 hM) rfl (c_X12_bad l Γ n G mo R K kp rf ca rc hd fw tl by0 an vl iv hM (by omega) hI hj (-2)) (cwV 1 hts gX12_about_X12_bad rfl rfl rfl (by decide +kernel) ⟨Nat.le_of_ble_eq_true rfl, Nat.le_of_ble_eq_true rfl⟩) rfl hl.1 rfl (Nat.le_of_ble_eq_true rfl) dX12_about_32 ⟨Nat.zero_le _, Nat.zero_le _⟩) hw hA hS (fun z7 G7 H locs hp hw hS => ?_)
      obtain ⟨ha7, hM, hfr7⟩ := hp
      have hfr := fr_tr hfr hfr7 (Nat.le_refl _) (Nat.le_refl _)
      subst ha7
      exact nr_retI hx hb hr hlocks hw hS (Or.inl ⟨by intro hh; first | contradiction | (obtain ⟨hq1, hq2⟩ := hh; first | contradiction | (obtain ⟨hq2, hq3⟩ := hq2; first | contradiction | (obtain ⟨hq3, hq4⟩ := hq3; first | contradiction | (obtain ⟨hq4, hq5⟩ := hq4; first | contradiction | (exact hq4 (congrArg nI (by assumption))))))), rfl, hM, hfr⟩) dX12_about_35
  · refine nr_if_eq (tgt := 29) hx hb (by decide) dX12_about_5 (by decide) (fun c8 => ?_) (fun c8 => absurd c8 (by decide))
    refine lv_aload_n hx hb dX12_about_29 rfl (lv_at hl 0 rfl) ?_
    refine lv_bipush (v := (-2)) hx hb dX12_about_30 (by decide) ?_
    refine nr_goI (nr_runV (As := [.int (-2)]) (C := RX12) (T := TX12) (N := 19) ⟨hx, hb, hml, hown, hts⟩ hw (by omega) (isM_0 hM) rfl (c_X12_bad l Γ n G mo R K kp rf ca rc hd fw tl by0 an vl iv hM (by omega) hI hj (-2)) (cwV 1 hts gX12_about_X12_bad rfl rfl rfl (by decide +kernel) ⟨Nat.le_of_ble_eq_true rfl, Nat.le_of_ble_eq_true rfl⟩) rfl hl.1 rfl (Nat.le_of_ble_eq_true rfl) dX12_about_32 ⟨Nat.zero_le _, Nat.zero_le _⟩) hw hA hS (fun z9 G9 H locs hp hw hS => ?_)
    obtain ⟨ha9, hM, hfr9⟩ := hp
    have hfr := fr_tr hfr hfr9 (Nat.le_refl _) (Nat.le_refl _)
    subst ha9
    exact nr_retI hx hb hr hlocks hw hS (Or.inl ⟨by intro hh; first | contradiction | (obtain ⟨hq1, hq2⟩ := hh; first | contradiction | (obtain ⟨hq2, hq3⟩ := hq2; first | contradiction | (obtain ⟨hq3, hq4⟩ := hq3; first | contradiction | (obtain ⟨hq4, hq5⟩ := hq4; first | contradiction | (exact hq4 (congrArg nI (by assumption))))))), rfl, hM, hfr⟩) dX12_about_35
theorem wl_X12_forget_1 : Cond.constantLong RX12 174 (2) ∈ wsX12_forget := List.mem_of_getElem? (i := 1) rfl
theorem wl_X12_forget_2 : Cond.fieldLink RX12 7 "BellForgivenModel" "all" "[I" ∈ wsX12_forget := List.mem_of_getElem? (i := 2) rfl
theorem hi_X12_forget_X12 : ∀ w ∈ u_ws RX12 TX12 19, w ∈ wsX12_forget := fun w h => (List.mem_cons_of_mem _ (List.mem_append_right _ h))
set_option maxHeartbeats 4000000 in
set_option maxRecDepth 100000 in
theorem c_X12_forget (l : Launch) (Γ : Gam) (n : Nat) (G : Nat → va_E) (mo : Nat) (R K kp rf ca rc hd fw tl by0 an vl iv : Nat → Nat) (hM : isM Γ G mo R K kp rf ca rc hd fw tl by0 an vl iv) (hmo : mo + 13 ≤ n) (hI : vI R) (hj : winj Γ n) (what : Int32)  : Met l yX12_forget wsX12_forget ({ frames := 1, cells := 0, slots := 0, locals := 25 }) (va_Pc [.ref (ad Γ (mo + 0)), .int what] (fun U => hw Γ n G U U.heap)) (wQi Γ n (fun z G2 => ((¬ vRng 0 2 what) ∧ (z = -2) ∧ isM Γ G2 mo R K kp (bmp rf 0) ca rc hd fw tl by0 an vl iv ∧ fr G G2 mo (mo + 13)) ∨ (∃ jw : Nat, (jw ≤ 2) ∧ (what = nI jw) ∧ (z = nI (R (2 + jw))) ∧ isM Γ G2 mo (va_up R (2 + jw) 0) K kp rf ca rc hd fw tl by0 an vl iv ∧ fr G G2 mo (mo + 13)))) 0 0 (wA Γ n) := by
  refine Met.ofW (cc := cX12_forget) (maxL := 3) (ret := (some .int)) (by decide) rfl ?_
  intro p e s m args below meth c s₁ B hml hv
  obtain ⟨rfl, hw⟩ := hv
  have hx := B.exec
  have hb := B.bytes
  have hr := B.returns
  have hts := atoms_spec (ws := wsX12_forget) B.pre
  have hown : s.vm.findClass RX12 = some m.cls := findClass_of_methodNamed B.named
  have hlocks := B.notSynchronized
  have hS : va_S (wA Γ n) s.heap s.heap [] := va_S.rf
  have hA : ∀ q, wA Γ n q → wA Γ n q := fun _ h => h
  have hl := lv_entry ([.ref (ad Γ (mo + 0)), .int what]) (n := 3) (Nat.le_of_ble_eq_true rfl)
  rw [lg_entry_eq]
  generalize (lg_sl ([.ref (ad Γ (mo + 0)), .int what]) ++ List.replicate (3 - (lg_sl ([.ref (ad Γ (mo + 0)), .int what])).length) Slot.unset).toArray = ls at hl ⊢
  have hl : lv_has ls 3 [(0, .ref (ad Γ (mo + 0))), (1, .int what)] := hl
  have hfr := fr_rf G mo (mo + 13)
  have hB := hI.1
  have hB0 := hI.2.1
  have hB1 := hI.2.2.1
  have hB20 := hI.2.2.2.2.2.2.2.2.2
  have hBz2 := hI.2.2.2.1
  have hBz3 := hI.2.2.2.2.1
  have hBz4 := hI.2.2.2.2.2.1
  have hBz5 := hI.2.2.2.2.2.2.1
  have hby := hI.2.2.2.2.2.2.2.1
  have hto := hI.2.2.2.2.2.2.2.2.1
  refine lv_iload_n hx hb dX12_forget_0 rfl (lv_at hl 1 rfl) ?_
  refine lv_i2l (v := (what).toInt64) hx hb dX12_forget_1 rfl ?_
  refine lv_lconst (v := lN 0) hx hb dX12_forget_2 rfl ?_
  refine nr_ldc2 (k := 2) hx hb hown (hts _ wl_X12_forget_1) (by decide) dX12_forget_3 ?_
  refine nr_goB (P := (lN 0) ≤ ((what).toInt64) ∧ ((what).toInt64) ≤ (lN 2)) (nr_runS (As := [.long ((what).toInt64), .long (lN 0), .long (lN 2)]) ⟨hx, hb, hml, hown, hts⟩ hw (c_X12_in l Γ n G ((what).toInt64) (lN 0) (lN 2)) (va_cwS 3 hts gX12_forget_X12_in rfl rfl rfl (by decide +kernel) ⟨Nat.le_of_ble_eq_true rfl, Nat.le_of_ble_eq_true rfl⟩) rfl hl.1 rfl (Nat.le_of_ble_eq_true rfl) dX12_forget_6 ⟨Nat.zero_le _, Nat.zero_le _⟩) (fun b1 => ?_) (fun b1 => ?_)
  · obtain ⟨jw, hjwa, hjwb, rfl⟩ := (in_c (a := 0) (b := 2) (by decide) (by decide)).mp b1
    refine nr_if_ne (tgt := 19) hx hb (by decide) dX12_forget_9 (by decide) (fun c2 => ?_) (fun c2 => absurd c2 (by decide))
    refine lv_aload_n hx hb dX12_forget_19 rfl (lv_at hl 0 rfl) ?_
    refine nr_get (own := RX12) (C := RX12) (T := TX12) (N := 19) (v := .ref (ad Γ (mo + 1))) hx hb hts hi_X12_forget_X12 hown hw (by omega) (isM_0 hM) rfl 0 (by decide) wl_X12_forget_2 rfl rfl dX12_forget_20 ?_
    refine lv_iconst (v := nI 2) hx hb dX12_forget_23 (by decide) ?_
    refine lv_iload_n hx hb dX12_forget_24 rfl (lv_at hl 1 rfl) ?_
    refine nr_iadd hx hb dX12_forget_25 ?_
    refine nr_iald (x := (R (2 + jw))) hx hb hw (by omega) (isM_1 hM) rfl (by omega) (by decide) dX12_forget_26 ?_
    have hL3 := hB (2 + jw)
    refine lv_istore_n (lv' := [(2, .int (nI (R (2 + jw)))), (0, .ref (ad Γ (mo + 0))), (1, .int (nI jw))]) hx hb dX12_forget_27 rfl hl (by decide) rfl (fun ls hl => ?_)
    refine lv_aload_n hx hb dX12_forget_28 rfl (lv_at hl 1 rfl) ?_
    refine nr_get (own := RX12) (C := RX12) (T := TX12) (N := 19) (v := .ref (ad Γ (mo + 1))) hx hb hts hi_X12_forget_X12 hown hw (by omega) (isM_0 hM) rfl 0 (by decide) wl_X12_forget_2 rfl rfl dX12_forget_29 ?_
    refine lv_iconst (v := nI 2) hx hb dX12_forget_32 (by decide) ?_
    refine lv_iload_n hx hb dX12_forget_33 rfl (lv_at hl 2 rfl) ?_
    refine nr_iadd hx hb dX12_forget_34 ?_
    refine lv_iconst (v := nI 0) hx hb dX12_forget_35 (by decide) ?_
    refine nr_iast (k := 2 + jw) (v := 0) hx hb hw hj hA hS (by omega) (isM_1 hM) (by omega) (by decide) dX12_forget_36 (fun H locs hw hS => ?_)
    have hM := isM_s1 hM (va_up R (2 + jw) 0)
    have hfr := fr_up hfr (i := mo + 1) (by omega) (by omega) (na Γ 256 (va_up R (2 + jw) 0))
    generalize va_up G (mo + 1) (na Γ 256 (va_up R (2 + jw) 0)) = G4 at hw hM hfr
    refine lv_iload_n hx hb dX12_forget_37 rfl (lv_at hl 0 rfl) ?_
    exact nr_retI hx hb hr hlocks hw hS (Or.inr (⟨jw, hjwb, rfl, rfl, hM, hfr⟩)) dX12_forget_38
  · have b1n : ¬ vRng 0 2 what := fun hh => b1 ((in_c (by decide) (by decide)).mpr hh)
    refine nr_if_ne (tgt := 19) hx hb (by decide) dX12_forget_9 (by decide) (fun c5 => absurd c5 (by decide)) (fun c5 => ?_)
    refine lv_aload_n hx hb dX12_forget_12 rfl (lv_at hl 0 rfl) ?_
    refine lv_bipush (v := (-2)) hx hb dX12_forget_13 (by decide) ?_
    refine nr_goI (nr_runV (As := [.int (-2)]) (C := RX12) (T := TX12) (N := 19) ⟨hx, hb, hml, hown, hts⟩ hw (by omega) (isM_0 hM) rfl (c_X12_bad l Γ n G mo R K kp rf ca rc hd fw tl by0 an vl iv hM (by omega) hI hj (-2)) (cwV 1 hts gX12_forget_X12_bad rfl rfl rfl (by decide +kernel) ⟨Nat.le_of_ble_eq_true rfl, Nat.le_of_ble_eq_true rfl⟩) rfl hl.1 rfl (Nat.le_of_ble_eq_true rfl) dX12_forget_15 ⟨Nat.zero_le _, Nat.zero_le _⟩) hw hA hS (fun z6 G6 H locs hp hw hS => ?_)
    obtain ⟨ha6, hM, hfr6⟩ := hp
    have hfr := fr_tr hfr hfr6 (Nat.le_refl _) (Nat.le_refl _)
    subst ha6
    exact nr_retI hx hb hr hlocks hw hS (Or.inl ⟨by assumption, rfl, hM, hfr⟩) dX12_forget_18
set_option maxHeartbeats 4000000 in
set_option maxRecDepth 100000 in
theorem c_X12_is (l : Launch) (Γ : Gam) (n : Nat) (G : Nat → va_E) (mo : Nat) (R K kp rf ca rc hd fw tl by0 an vl iv : Nat → Nat) (hM : isM Γ G mo R K kp rf ca rc hd fw tl by0 an vl iv) (hmo : mo + 13 ≤ n) (hI : vI R) (hj : winj Γ n) (k : Int32)  : Met l yX12_is wsX12_is ({ frames := 3, cells := 0, slots := 0, locals := 75 }) (va_Pc [.ref (ad Γ (mo + 0)), .int k] (fun U => hw Γ n G U U.heap)) (wQi Γ n (fun z G2 => ((¬ vBel (R 1) k) ∧ (z = -2) ∧ isM Γ G2 mo R K kp (bmp rf 0) ca rc hd fw tl by0 an vl iv ∧ fr G G2 mo (mo + 13)) ∨ (∃ jk : Nat, (jk < R 1) ∧ (k = nI jk) ∧ (z = nI (wkinds R jk)) ∧ isM Γ G2 mo R K kp rf ca rc hd fw tl by0 an vl iv ∧ fr G G2 mo (mo + 13)))) 0 0 (wA Γ n) := by
  refine Met.ofW (cc := cX12_is) (maxL := 2) (ret := (some .int)) (by decide) rfl ?_
  intro p e s m args below meth c s₁ B hml hv
  obtain ⟨rfl, hw⟩ := hv
  have hx := B.exec
  have hb := B.bytes
  have hr := B.returns
  have hts := atoms_spec (ws := wsX12_is) B.pre
  have hown : s.vm.findClass RX12 = some m.cls := findClass_of_methodNamed B.named
  have hlocks := B.notSynchronized
  have hS : va_S (wA Γ n) s.heap s.heap [] := va_S.rf
  have hA : ∀ q, wA Γ n q → wA Γ n q := fun _ h => h
  have hl := lv_entry ([.ref (ad Γ (mo + 0)), .int k]) (n := 2) (Nat.le_of_ble_eq_true rfl)
  rw [lg_entry_eq]
  generalize (lg_sl ([.ref (ad Γ (mo + 0)), .int k]) ++ List.replicate (2 - (lg_sl ([.ref (ad Γ (mo + 0)), .int k])).length) Slot.unset).toArray = ls at hl ⊢
  have hl : lv_has ls 2 [(0, .ref (ad Γ (mo + 0))), (1, .int k)] := hl
  have hfr := fr_rf G mo (mo + 13)
  have hB := hI.1
  have hB0 := hI.2.1
  have hB1 := hI.2.2.1
  have hB20 := hI.2.2.2.2.2.2.2.2.2
  have hBz2 := hI.2.2.2.1
  have hBz3 := hI.2.2.2.2.1
  have hBz4 := hI.2.2.2.2.2.1
  have hBz5 := hI.2.2.2.2.2.2.1
  have hby := hI.2.2.2.2.2.2.2.1
  have hto := hI.2.2.2.2.2.2.2.2.1
  refine lv_aload_n hx hb dX12_is_0 rfl (lv_at hl 0 rfl) ?_
  refine lv_iload_n hx hb dX12_is_1 rfl (lv_at hl 1 rfl) ?_
  refine nr_goB (P := ∃ j, j < R 1 ∧ k = nI j) (nr_runV (As := [.int k]) (C := RX12) (T := TX12) (N := 19) ⟨hx, hb, hml, hown, hts⟩ hw (by omega) (isM_0 hM) rfl (c_X12_isWrong l Γ n G mo R K kp rf ca rc hd fw tl by0 an vl iv hM (by omega) hI k) (cwV 1 hts gX12_is_X12_isWrong rfl rfl rfl (by decide +kernel) ⟨Nat.le_of_ble_eq_true rfl, Nat.le_of_ble_eq_true rfl⟩) rfl hl.1 rfl (Nat.le_of_ble_eq_true rfl) dX12_is_2 ⟨Nat.zero_le _, Nat.zero_le _⟩) (fun b1 => ?_) (fun b1 => ?_)
  · obtain ⟨jk, hjk, rfl⟩ := b1
    refine nr_if_eq (tgt := 16) hx hb (by decide) dX12_is_5 (by decide) (fun c2 => absurd c2 (by decide)) (fun c2 => ?_)
    refine lv_aload_n hx hb dX12_is_8 rfl (lv_at hl 0 rfl) ?_
    refine lv_iload_n hx hb dX12_is_9 rfl (lv_at hl 1 rfl) ?_
    refine nr_goS (nr_runV (As := [.int (nI jk)]) (C := RX12) (T := TX12) (N := 19) ⟨hx, hb, hml, hown, hts⟩ hw (by omega) (isM_0 hM) rfl (c_X12_kindsOfWrong l Γ n G mo R K kp rf ca rc hd fw tl by0 an vl iv hM (by omega) hI jk (by omega)) (cwV 1 hts gX12_is_X12_kindsOfWrong rfl rfl rfl (by decide +kernel) ⟨Nat.le_of_ble_eq_true rfl, Nat.le_of_ble_eq_true rfl⟩) rfl hl.1 rfl (Nat.le_of_ble_eq_true rfl) dX12_is_10 ⟨Nat.zero_le _, Nat.zero_le _⟩) (fun r3 hr3 => ?_)
    obtain rfl : r3 = (nI (wkinds R jk)) := hr3
    refine lv_goto (tgt := 22) hx hb dX12_is_13 (by decide) ?_
    exact nr_retI hx hb hr hlocks hw hS (Or.inr (⟨jk, hjk, rfl, rfl, hM, hfr⟩)) dX12_is_22
  · refine nr_if_eq (tgt := 16) hx hb (by decide) dX12_is_5 (by decide) (fun c4 => ?_) (fun c4 => absurd c4 (by decide))
    refine lv_aload_n hx hb dX12_is_16 rfl (lv_at hl 0 rfl) ?_
    refine lv_bipush (v := (-2)) hx hb dX12_is_17 (by decide) ?_
    refine nr_goI (nr_runV (As := [.int (-2)]) (C := RX12) (T := TX12) (N := 19) ⟨hx, hb, hml, hown, hts⟩ hw (by omega) (isM_0 hM) rfl (c_X12_bad l Γ n G mo R K kp rf ca rc hd fw tl by0 an vl iv hM (by omega) hI hj (-2)) (cwV 1 hts gX12_is_X12_bad rfl rfl rfl (by decide +kernel) ⟨Nat.le_of_ble_eq_true rfl, Nat.le_of_ble_eq_true rfl⟩) rfl hl.1 rfl (Nat.le_of_ble_eq_true rfl) dX12_is_19 ⟨Nat.zero_le _, Nat.zero_le _⟩) hw hA hS (fun z5 G5 H locs hp hw hS => ?_)
    obtain ⟨ha5, hM, hfr5⟩ := hp
    have hfr := fr_tr hfr hfr5 (Nat.le_refl _) (Nat.le_refl _)
    subst ha5
    exact nr_retI hx hb hr hlocks hw hS (Or.inl ⟨by assumption, rfl, hM, hfr⟩) dX12_is_22
set_option maxHeartbeats 4000000 in
set_option maxRecDepth 100000 in
theorem c_X12_kinds (l : Launch) (Γ : Gam) (n : Nat) (G : Nat → va_E) (mo : Nat) (R K kp rf ca rc hd fw tl by0 an vl iv : Nat → Nat) (hM : isM Γ G mo R K kp rf ca rc hd fw tl by0 an vl iv) (hmo : mo + 13 ≤ n) (hI : vI R) (hj : winj Γ n) (k : Int32)  : Met l yX12_kinds wsX12_kinds ({ frames := 3, cells := 0, slots := 0, locals := 75 }) (va_Pc [.ref (ad Γ (mo + 0)), .int k] (fun U => hw Γ n G U U.heap)) (wQi Γ n (fun z G2 => ((¬ vBel (R 0) k) ∧ (z = -2) ∧ isM Γ G2 mo R K kp (bmp rf 0) ca rc hd fw tl by0 an vl iv ∧ fr G G2 mo (mo + 13)) ∨ (∃ jk : Nat, (jk < R 0) ∧ (k = nI jk) ∧ (z = nI (pkinds R jk)) ∧ isM Γ G2 mo R K kp rf ca rc hd fw tl by0 an vl iv ∧ fr G G2 mo (mo + 13)))) 0 0 (wA Γ n) := by
  refine Met.ofW (cc := cX12_kinds) (maxL := 2) (ret := (some .int)) (by decide) rfl ?_
  intro p e s m args below meth c s₁ B hml hv
  obtain ⟨rfl, hw⟩ := hv
  have hx := B.exec
  have hb := B.bytes
  have hr := B.returns
  have hts := atoms_spec (ws := wsX12_kinds) B.pre
  have hown : s.vm.findClass RX12 = some m.cls := findClass_of_methodNamed B.named
  have hlocks := B.notSynchronized
  have hS : va_S (wA Γ n) s.heap s.heap [] := va_S.rf
  have hA : ∀ q, wA Γ n q → wA Γ n q := fun _ h => h
  have hl := lv_entry ([.ref (ad Γ (mo + 0)), .int k]) (n := 2) (Nat.le_of_ble_eq_true rfl)
  rw [lg_entry_eq]
  generalize (lg_sl ([.ref (ad Γ (mo + 0)), .int k]) ++ List.replicate (2 - (lg_sl ([.ref (ad Γ (mo + 0)), .int k])).length) Slot.unset).toArray = ls at hl ⊢
  have hl : lv_has ls 2 [(0, .ref (ad Γ (mo + 0))), (1, .int k)] := hl
  have hfr := fr_rf G mo (mo + 13)
  have hB := hI.1
  have hB0 := hI.2.1
  have hB1 := hI.2.2.1
  have hB20 := hI.2.2.2.2.2.2.2.2.2
  have hBz2 := hI.2.2.2.1
  have hBz3 := hI.2.2.2.2.1
  have hBz4 := hI.2.2.2.2.2.1
  have hBz5 := hI.2.2.2.2.2.2.1
  have hby := hI.2.2.2.2.2.2.2.1
  have hto := hI.2.2.2.2.2.2.2.2.1
  refine lv_aload_n hx hb dX12_kinds_0 rfl (lv_at hl 0 rfl) ?_
  refine lv_iload_n hx hb dX12_kinds_1 rfl (lv_at hl 1 rfl) ?_
  refine nr_goB (P := ∃ j, j < R 0 ∧ k = nI j) (nr_runV (As := [.int k]) (C := RX12) (T := TX12) (N := 19) ⟨hx, hb, hml, hown, hts⟩ hw (by omega) (isM_0 hM) rfl (c_X12_isOne l Γ n G mo R K kp rf ca rc hd fw tl by0 an vl iv hM (by omega) hI k) (cwV 1 hts gX12_kinds_X12_isOne rfl rfl rfl (by decide +kernel) ⟨Nat.le_of_ble_eq_true rfl, Nat.le_of_ble_eq_true rfl⟩) rfl hl.1 rfl (Nat.le_of_ble_eq_true rfl) dX12_kinds_2 ⟨Nat.zero_le _, Nat.zero_le _⟩) (fun b1 => ?_) (fun b1 => ?_)
  · obtain ⟨jk, hjk, rfl⟩ := b1
    refine nr_if_eq (tgt := 16) hx hb (by decide) dX12_kinds_5 (by decide) (fun c2 => absurd c2 (by decide)) (fun c2 => ?_)
    refine lv_aload_n hx hb dX12_kinds_8 rfl (lv_at hl 0 rfl) ?_
    refine lv_iload_n hx hb dX12_kinds_9 rfl (lv_at hl 1 rfl) ?_
    refine nr_goS (nr_runV (As := [.int (nI jk)]) (C := RX12) (T := TX12) (N := 19) ⟨hx, hb, hml, hown, hts⟩ hw (by omega) (isM_0 hM) rfl (c_X12_kindsOfOne l Γ n G mo R K kp rf ca rc hd fw tl by0 an vl iv hM (by omega) hI jk (by omega)) (cwV 1 hts gX12_kinds_X12_kindsOfOne rfl rfl rfl (by decide +kernel) ⟨Nat.le_of_ble_eq_true rfl, Nat.le_of_ble_eq_true rfl⟩) rfl hl.1 rfl (Nat.le_of_ble_eq_true rfl) dX12_kinds_10 ⟨Nat.zero_le _, Nat.zero_le _⟩) (fun r3 hr3 => ?_)
    obtain rfl : r3 = (nI (pkinds R jk)) := hr3
    refine lv_goto (tgt := 22) hx hb dX12_kinds_13 (by decide) ?_
    exact nr_retI hx hb hr hlocks hw hS (Or.inr (⟨jk, hjk, rfl, rfl, hM, hfr⟩)) dX12_kinds_22
  · refine nr_if_eq (tgt := 16) hx hb (by decide) dX12_kinds_5 (by decide) (fun c4 => ?_) (fun c4 => absurd c4 (by decide))
    refine lv_aload_n hx hb dX12_kinds_16 rfl (lv_at hl 0 rfl) ?_
    refine lv_bipush (v := (-2)) hx hb dX12_kinds_17 (by decide) ?_
    refine nr_goI (nr_runV (As := [.int (-2)]) (C := RX12) (T := TX12) (N := 19) ⟨hx, hb, hml, hown, hts⟩ hw (by omega) (isM_0 hM) rfl (c_X12_bad l Γ n G mo R K kp rf ca rc hd fw tl by0 an vl iv hM (by omega) hI hj (-2)) (cwV 1 hts gX12_kinds_X12_bad rfl rfl rfl (by decide +kernel) ⟨Nat.le_of_ble_eq_true rfl, Nat.le_of_ble_eq_true rfl⟩) rfl hl.1 rfl (Nat.le_of_ble_eq_true rfl) dX12_kinds_19 ⟨Nat.zero_le _, Nat.zero_le _⟩) hw hA hS (fun z5 G5 H locs hp hw hS => ?_)
    obtain ⟨ha5, hM, hfr5⟩ := hp
    have hfr := fr_tr hfr hfr5 (Nat.le_refl _) (Nat.le_refl _)
    subst ha5
    exact nr_retI hx hb hr hlocks hw hS (Or.inl ⟨by assumption, rfl, hM, hfr⟩) dX12_kinds_22
theorem wl_X12_type_1 : Cond.constantLong RX12 219 (127) ∈ wsX12_type := List.mem_of_getElem? (i := 1) rfl
theorem wl_X12_type_2 : Cond.fieldLink RX12 221 "BellForgivenModel" "bytesLong" "I" ∈ wsX12_type := List.mem_of_getElem? (i := 2) rfl
theorem wl_X12_type_3 : Cond.fieldLink RX12 42 "BellForgivenModel" "bytes" "[I" ∈ wsX12_type := List.mem_of_getElem? (i := 3) rfl
theorem hi_X12_type_X12 : ∀ w ∈ u_ws RX12 TX12 19, w ∈ wsX12_type := fun w h => (List.mem_cons_of_mem _ (List.mem_append_right _ h))
set_option maxHeartbeats 4000000 in
set_option maxRecDepth 100000 in
theorem c_X12_type (l : Launch) (Γ : Gam) (n : Nat) (G : Nat → va_E) (mo : Nat) (R K kp rf ca rc hd fw tl by0 an vl iv : Nat → Nat) (hM : isM Γ G mo R K kp rf ca rc hd fw tl by0 an vl iv) (hmo : mo + 13 ≤ n) (hI : vI R) (hj : winj Γ n) (ch : Int32) (hiv : iv 0 ≤ 150)  : Met l yX12_type wsX12_type ({ frames := 1, cells := 0, slots := 0, locals := 25 }) (va_Pc [.ref (ad Γ (mo + 0)), .int ch] (fun U => hw Γ n G U U.heap)) (wQi Γ n (fun z G2 => ((¬ vRng 0 127 ch) ∧ (z = -2) ∧ isM Γ G2 mo R K kp (bmp rf 0) ca rc hd fw tl by0 an vl iv ∧ fr G G2 mo (mo + 13)) ∨ ((vRng 0 127 ch) ∧ (iv 0 = 150) ∧ (z = -4) ∧ isM Γ G2 mo R K kp (bmp rf 2) ca rc hd fw tl by0 an vl iv ∧ fr G G2 mo (mo + 13)) ∨ (∃ jc : Nat, (jc ≤ 127) ∧ (ch = nI jc) ∧ (¬ iv 0 = 150) ∧ (z = nI (iv 0 + 1)) ∧ isM Γ G2 mo R K kp rf ca rc hd fw tl (va_up by0 (iv 0) jc) an vl (va_up iv 0 (iv 0 + 1)) ∧ fr G G2 mo (mo + 13)))) 0 0 (wA Γ n) := by
  refine Met.ofW (cc := cX12_type) (maxL := 2) (ret := (some .int)) (by decide) rfl ?_
  intro p e s m args below meth c s₁ B hml hv
  obtain ⟨rfl, hw⟩ := hv
  have hx := B.exec
  have hb := B.bytes
  have hr := B.returns
  have hts := atoms_spec (ws := wsX12_type) B.pre
  have hown : s.vm.findClass RX12 = some m.cls := findClass_of_methodNamed B.named
  have hlocks := B.notSynchronized
  have hS : va_S (wA Γ n) s.heap s.heap [] := va_S.rf
  have hA : ∀ q, wA Γ n q → wA Γ n q := fun _ h => h
  have hl := lv_entry ([.ref (ad Γ (mo + 0)), .int ch]) (n := 2) (Nat.le_of_ble_eq_true rfl)
  rw [lg_entry_eq]
  generalize (lg_sl ([.ref (ad Γ (mo + 0)), .int ch]) ++ List.replicate (2 - (lg_sl ([.ref (ad Γ (mo + 0)), .int ch])).length) Slot.unset).toArray = ls at hl ⊢
  have hl : lv_has ls 2 [(0, .ref (ad Γ (mo + 0))), (1, .int ch)] := hl
  have hfr := fr_rf G mo (mo + 13)
  have hB := hI.1
  have hB0 := hI.2.1
  have hB1 := hI.2.2.1
  have hB20 := hI.2.2.2.2.2.2.2.2.2
  have hBz2 := hI.2.2.2.1
  have hBz3 := hI.2.2.2.2.1
  have hBz4 := hI.2.2.2.2.2.1
  have hBz5 := hI.2.2.2.2.2.2.1
  have hby := hI.2.2.2.2.2.2.2.1
  have hto := hI.2.2.2.2.2.2.2.2.1
  refine lv_iload_n hx hb dX12_type_0 rfl (lv_at hl 1 rfl) ?_
  refine lv_i2l (v := (ch).toInt64) hx hb dX12_type_1 rfl ?_
  refine lv_lconst (v := lN 0) hx hb dX12_type_2 rfl ?_
  refine nr_ldc2 (k := 127) hx hb hown (hts _ wl_X12_type_1) (by decide) dX12_type_3 ?_
  refine nr_goB (P := (lN 0) ≤ ((ch).toInt64) ∧ ((ch).toInt64) ≤ (lN 127)) (nr_runS (As := [.long ((ch).toInt64), .long (lN 0), .long (lN 127)]) ⟨hx, hb, hml, hown, hts⟩ hw (c_X12_in l Γ n G ((ch).toInt64) (lN 0) (lN 127)) (va_cwS 3 hts gX12_type_X12_in rfl rfl rfl (by decide +kernel) ⟨Nat.le_of_ble_eq_true rfl, Nat.le_of_ble_eq_true rfl⟩) rfl hl.1 rfl (Nat.le_of_ble_eq_true rfl) dX12_type_6 ⟨Nat.zero_le _, Nat.zero_le _⟩) (fun b1 => ?_) (fun b1 => ?_)
  · obtain ⟨jc, hjca, hjcb, rfl⟩ := (in_c (a := 0) (b := 127) (by decide) (by decide)).mp b1
    refine nr_if_ne (tgt := 19) hx hb (by decide) dX12_type_9 (by decide) (fun c2 => ?_) (fun c2 => absurd c2 (by decide))
    refine lv_aload_n hx hb dX12_type_19 rfl (lv_at hl 0 rfl) ?_
    refine nr_get (own := RX12) (C := RX12) (T := TX12) (N := 19) (v := .int (nI (iv 0))) hx hb hts hi_X12_type_X12 hown hw (by omega) (isM_0 hM) rfl 12 (by decide) wl_X12_type_2 rfl rfl dX12_type_20 ?_
    refine lv_sipush (v := nI 150) hx hb dX12_type_23 (by decide) ?_
    refine nr_icmp_ne (tgt := 34) hx hb (by omega) (by decide) dX12_type_26 (by decide) (fun c3 => ?_) (fun c3 => ?_)
    · refine lv_aload_n hx hb dX12_type_34 rfl (lv_at hl 0 rfl) ?_
      refine nr_get (own := RX12) (C := RX12) (T := TX12) (N := 19) (v := .ref (ad Γ (mo + 10))) hx hb hts hi_X12_type_X12 hown hw (by omega) (isM_0 hM) rfl 11 (by decide) wl_X12_type_3 rfl rfl dX12_type_35 ?_
      refine lv_aload_n hx hb dX12_type_38 rfl (lv_at hl 0 rfl) ?_
      refine nr_get (own := RX12) (C := RX12) (T := TX12) (N := 19) (v := .int (nI (iv 0))) hx hb hts hi_X12_type_X12 hown hw (by omega) (isM_0 hM) rfl 12 (by decide) wl_X12_type_2 rfl rfl dX12_type_39 ?_
      refine lv_iload_n hx hb dX12_type_42 rfl (lv_at hl 1 rfl) ?_
      refine nr_iast (k := iv 0) (v := jc) hx hb hw hj hA hS (by omega) (isM_10 hM) (by omega) (by decide) dX12_type_43 (fun H locs hw hS => ?_)
      have hM := isM_s10 hM (va_up by0 (iv 0) jc)
      have hfr := fr_up hfr (i := mo + 10) (by omega) (by omega) (na Γ 150 (va_up by0 (iv 0) jc))
      generalize va_up G (mo + 10) (na Γ 150 (va_up by0 (iv 0) jc)) = G4 at hw hM hfr
      refine lv_aload_n hx hb dX12_type_44 rfl (lv_at hl 0 rfl) ?_
      refine lv_dup hx hb dX12_type_45 rfl ?_
      refine nr_get (own := RX12) (C := RX12) (T := TX12) (N := 19) (v := .int (nI (iv 0))) hx hb hts hi_X12_type_X12 hown hw (by omega) (isM_0 hM) rfl 12 (by decide) wl_X12_type_2 rfl rfl dX12_type_46 ?_
      refine lv_iconst (v := nI 1) hx hb dX12_type_49 (by decide) ?_
      refine nr_iadd hx hb dX12_type_50 ?_
      refine nr_put (own := RX12) (C := RX12) (T := TX12) (N := 19) (ty := .int) (v := .int (nI (iv 0 + 1))) (fs' := [.ref (ad Γ (mo + 1)), .ref (ad Γ (mo + 2)), .ref (ad Γ (mo + 3)), .ref (ad Γ (mo + 4)), .long (lN ((va_up iv 0 (iv 0 + 1)) 5)), .long (lN ((va_up iv 0 (iv 0 + 1)) 6)), .ref (ad Γ (mo + 5)), .ref (ad Γ (mo + 6)), .ref (ad Γ (mo + 7)), .ref (ad Γ (mo + 8)), .ref (ad Γ (mo + 9)), .ref (ad Γ (mo + 10)), .int (nI ((va_up iv 0 (iv 0 + 1)) 0)), .int (nI ((va_up iv 0 (iv 0 + 1)) 1)), .int (nI ((va_up iv 0 (iv 0 + 1)) 2)), .int (nI ((va_up iv 0 (iv 0 + 1)) 3)), .int (nI ((va_up iv 0 (iv 0 + 1)) 4)), .ref (ad Γ (mo + 11)), .ref (ad Γ (mo + 12))]) hx hb hts hi_X12_type_X12 tyX12 tyX12_ok nmX12 hown hw hj hA hS (by omega) (isM_0 hM) rfl 12 (by decide) wl_X12_type_2 rfl rfl (by decide +kernel) rfl rfl (Nat.le_of_ble_eq_true rfl) rfl dX12_type_51 (fun H locs hw hS => ?_)
      have hM := isM_s0 hM (va_up iv 0 (iv 0 + 1))
      have hfr := fr_up hfr (i := mo + 0) (by omega) (by omega) (.inr (9, [.ref (ad Γ (mo + 1)), .ref (ad Γ (mo + 2)), .ref (ad Γ (mo + 3)), .ref (ad Γ (mo + 4)), .long (lN ((va_up iv 0 (iv 0 + 1)) 5)), .long (lN ((va_up iv 0 (iv 0 + 1)) 6)), .ref (ad Γ (mo + 5)), .ref (ad Γ (mo + 6)), .ref (ad Γ (mo + 7)), .ref (ad Γ (mo + 8)), .ref (ad Γ (mo + 9)), .ref (ad Γ (mo + 10)), .int (nI ((va_up iv 0 (iv 0 + 1)) 0)), .int (nI ((va_up iv 0 (iv 0 + 1)) 1)), .int (nI ((va_up iv 0 (iv 0 + 1)) 2)), .int (nI ((va_up iv 0 (iv 0 + 1)) 3)), .int (nI ((va_up iv 0 (iv 0 + 1)) 4)), .ref (ad Γ (mo + 11)), .ref (ad Γ (mo + 12))]))
      generalize va_up G4 (mo + 0) (.inr (9, [.ref (ad Γ (mo + 1)), .ref (ad Γ (mo + 2)), .ref (ad Γ (mo + 3)), .ref (ad Γ (mo + 4)), .long (lN ((va_up iv 0 (iv 0 + 1)) 5)), .long (lN ((va_up iv 0 (iv 0 + 1)) 6)), .ref (ad Γ (mo + 5)), .ref (ad Γ (mo + 6)), .ref (ad Γ (mo + 7)), .ref (ad Γ (mo + 8)), .ref (ad Γ (mo + 9)), .ref (ad Γ (mo + 10)), .int (nI ((va_up iv 0 (iv 0 + 1)) 0)), .int (nI ((va_up iv 0 (iv 0 + 1)) 1)), .int (nI ((va_up iv 0 (iv 0 + 1)) 2)), .int (nI ((va_up iv 0 (iv 0 + 1)) 3)), .int (nI ((va_up iv 0 (iv 0 + 1)) 4)), .ref (ad Γ (mo + 11)), .ref (ad Γ (mo + 12))])) = G5 at hw hM hfr
      refine lv_aload_n hx hb dX12_type_54 rfl (lv_at hl 0 rfl) ?_
      refine nr_get (own := RX12) (C := RX12) (T := TX12) (N := 19) (v := .int (nI ((va_up iv 0 (iv 0 + 1)) 0))) hx hb hts hi_X12_type_X12 hown hw (by omega) (isM_0 hM) rfl 12 (by decide) wl_X12_type_2 rfl rfl dX12_type_55 ?_
      exact nr_retI hx hb hr hlocks hw hS (Or.inr (Or.inr (⟨jc, hjcb, rfl, by assumption, rfl, hM, hfr⟩))) dX12_type_58
    · refine lv_aload_n hx hb dX12_type_29 rfl (lv_at hl 0 rfl) ?_
      refine nr_goI (nr_runV (As := []) (C := RX12) (T := TX12) (N := 19) ⟨hx, hb, hml, hown, hts⟩ hw (by omega) (isM_0 hM) rfl (c_X12_full l Γ n G mo R K kp rf ca rc hd fw tl by0 an vl iv hM (by omega) hI hj) (cwV 0 hts gX12_type_X12_full rfl rfl rfl (by decide +kernel) ⟨Nat.le_of_ble_eq_true rfl, Nat.le_of_ble_eq_true rfl⟩) rfl hl.1 rfl (Nat.le_of_ble_eq_true rfl) dX12_type_30 ⟨Nat.zero_le _, Nat.zero_le _⟩) hw hA hS (fun z6 G6 H locs hp hw hS => ?_)
      obtain ⟨ha6, hM, hfr6⟩ := hp
      have hfr := fr_tr hfr hfr6 (Nat.le_refl _) (Nat.le_refl _)
      subst ha6
      exact nr_retI hx hb hr hlocks hw hS (Or.inr (Or.inl ⟨⟨jc, hjca, hjcb, rfl⟩, by assumption, rfl, hM, hfr⟩)) dX12_type_33
  · have b1n : ¬ vRng 0 127 ch := fun hh => b1 ((in_c (by decide) (by decide)).mpr hh)
    refine nr_if_ne (tgt := 19) hx hb (by decide) dX12_type_9 (by decide) (fun c7 => absurd c7 (by decide)) (fun c7 => ?_)
    refine lv_aload_n hx hb dX12_type_12 rfl (lv_at hl 0 rfl) ?_
    refine lv_bipush (v := (-2)) hx hb dX12_type_13 (by decide) ?_
    refine nr_goI (nr_runV (As := [.int (-2)]) (C := RX12) (T := TX12) (N := 19) ⟨hx, hb, hml, hown, hts⟩ hw (by omega) (isM_0 hM) rfl (c_X12_bad l Γ n G mo R K kp rf ca rc hd fw tl by0 an vl iv hM (by omega) hI hj (-2)) (cwV 1 hts gX12_type_X12_bad rfl rfl rfl (by decide +kernel) ⟨Nat.le_of_ble_eq_true rfl, Nat.le_of_ble_eq_true rfl⟩) rfl hl.1 rfl (Nat.le_of_ble_eq_true rfl) dX12_type_15 ⟨Nat.zero_le _, Nat.zero_le _⟩) hw hA hS (fun z8 G8 H locs hp hw hS => ?_)
    obtain ⟨ha8, hM, hfr8⟩ := hp
    have hfr := fr_tr hfr hfr8 (Nat.le_refl _) (Nat.le_refl _)
    subst ha8
    exact nr_retI hx hb hr hlocks hw hS (Or.inl ⟨by assumption, rfl, hM, hfr⟩) dX12_type_18
theorem wl_X12_clear_1 : Cond.fieldLink RX12 221 "BellForgivenModel" "bytesLong" "I" ∈ wsX12_clear := List.mem_of_getElem? (i := 1) rfl
theorem hi_X12_clear_X12 : ∀ w ∈ u_ws RX12 TX12 19, w ∈ wsX12_clear := fun w h => (List.mem_cons_of_mem _ (List.mem_append_right _ h))
set_option maxHeartbeats 4000000 in
set_option maxRecDepth 100000 in
theorem c_X12_clear (l : Launch) (Γ : Gam) (n : Nat) (G : Nat → va_E) (mo : Nat) (R K kp rf ca rc hd fw tl by0 an vl iv : Nat → Nat) (hM : isM Γ G mo R K kp rf ca rc hd fw tl by0 an vl iv) (hmo : mo + 13 ≤ n) (hI : vI R) (hj : winj Γ n)  : Met l yX12_clear wsX12_clear ({ frames := 0, cells := 0, slots := 0, locals := 0 }) (va_Pc [.ref (ad Γ (mo + 0))] (fun U => hw Γ n G U U.heap)) (wQi Γ n (fun z G2 => ((z = nI (iv 0)) ∧ isM Γ G2 mo R K kp rf ca rc hd fw tl by0 an vl (va_up iv 0 0) ∧ fr G G2 mo (mo + 13)))) 0 0 (wA Γ n) := by
  refine Met.ofW (cc := cX12_clear) (maxL := 2) (ret := (some .int)) (by decide) rfl ?_
  intro p e s m args below meth c s₁ B hml hv
  obtain ⟨rfl, hw⟩ := hv
  have hx := B.exec
  have hb := B.bytes
  have hr := B.returns
  have hts := atoms_spec (ws := wsX12_clear) B.pre
  have hown : s.vm.findClass RX12 = some m.cls := findClass_of_methodNamed B.named
  have hlocks := B.notSynchronized
  have hS : va_S (wA Γ n) s.heap s.heap [] := va_S.rf
  have hA : ∀ q, wA Γ n q → wA Γ n q := fun _ h => h
  have hl := lv_entry ([.ref (ad Γ (mo + 0))]) (n := 2) (Nat.le_of_ble_eq_true rfl)
  rw [lg_entry_eq]
  generalize (lg_sl ([.ref (ad Γ (mo + 0))]) ++ List.replicate (2 - (lg_sl ([.ref (ad Γ (mo + 0))])).length) Slot.unset).toArray = ls at hl ⊢
  have hl : lv_has ls 2 [(0, .ref (ad Γ (mo + 0)))] := hl
  have hfr := fr_rf G mo (mo + 13)
  have hB := hI.1
  have hB0 := hI.2.1
  have hB1 := hI.2.2.1
  have hB20 := hI.2.2.2.2.2.2.2.2.2
  have hBz2 := hI.2.2.2.1
  have hBz3 := hI.2.2.2.2.1
  have hBz4 := hI.2.2.2.2.2.1
  have hBz5 := hI.2.2.2.2.2.2.1
  have hby := hI.2.2.2.2.2.2.2.1
  have hto := hI.2.2.2.2.2.2.2.2.1
  refine lv_aload_n hx hb dX12_clear_0 rfl (lv_at hl 0 rfl) ?_
  refine nr_get (own := RX12) (C := RX12) (T := TX12) (N := 19) (v := .int (nI (iv 0))) hx hb hts hi_X12_clear_X12 hown hw (by omega) (isM_0 hM) rfl 12 (by decide) wl_X12_clear_1 rfl rfl dX12_clear_1 ?_
  refine lv_istore_n (lv' := [(1, .int (nI (iv 0))), (0, .ref (ad Γ (mo + 0)))]) hx hb dX12_clear_4 rfl hl (by decide) rfl (fun ls hl => ?_)
  refine lv_aload_n hx hb dX12_clear_5 rfl (lv_at hl 1 rfl) ?_
  refine lv_iconst (v := nI 0) hx hb dX12_clear_6 (by decide) ?_
  refine nr_put (own := RX12) (C := RX12) (T := TX12) (N := 19) (ty := .int) (v := .int (nI 0)) (fs' := [.ref (ad Γ (mo + 1)), .ref (ad Γ (mo + 2)), .ref (ad Γ (mo + 3)), .ref (ad Γ (mo + 4)), .long (lN ((va_up iv 0 0) 5)), .long (lN ((va_up iv 0 0) 6)), .ref (ad Γ (mo + 5)), .ref (ad Γ (mo + 6)), .ref (ad Γ (mo + 7)), .ref (ad Γ (mo + 8)), .ref (ad Γ (mo + 9)), .ref (ad Γ (mo + 10)), .int (nI ((va_up iv 0 0) 0)), .int (nI ((va_up iv 0 0) 1)), .int (nI ((va_up iv 0 0) 2)), .int (nI ((va_up iv 0 0) 3)), .int (nI ((va_up iv 0 0) 4)), .ref (ad Γ (mo + 11)), .ref (ad Γ (mo + 12))]) hx hb hts hi_X12_clear_X12 tyX12 tyX12_ok nmX12 hown hw hj hA hS (by omega) (isM_0 hM) rfl 12 (by decide) wl_X12_clear_1 rfl rfl (by decide +kernel) rfl rfl (Nat.le_of_ble_eq_true rfl) rfl dX12_clear_7 (fun H locs hw hS => ?_)
  have hM := isM_s0 hM (va_up iv 0 0)
  have hfr := fr_up hfr (i := mo + 0) (by omega) (by omega) (.inr (9, [.ref (ad Γ (mo + 1)), .ref (ad Γ (mo + 2)), .ref (ad Γ (mo + 3)), .ref (ad Γ (mo + 4)), .long (lN ((va_up iv 0 0) 5)), .long (lN ((va_up iv 0 0) 6)), .ref (ad Γ (mo + 5)), .ref (ad Γ (mo + 6)), .ref (ad Γ (mo + 7)), .ref (ad Γ (mo + 8)), .ref (ad Γ (mo + 9)), .ref (ad Γ (mo + 10)), .int (nI ((va_up iv 0 0) 0)), .int (nI ((va_up iv 0 0) 1)), .int (nI ((va_up iv 0 0) 2)), .int (nI ((va_up iv 0 0) 3)), .int (nI ((va_up iv 0 0) 4)), .ref (ad Γ (mo + 11)), .ref (ad Γ (mo + 12))]))
  generalize va_up G (mo + 0) (.inr (9, [.ref (ad Γ (mo + 1)), .ref (ad Γ (mo + 2)), .ref (ad Γ (mo + 3)), .ref (ad Γ (mo + 4)), .long (lN ((va_up iv 0 0) 5)), .long (lN ((va_up iv 0 0) 6)), .ref (ad Γ (mo + 5)), .ref (ad Γ (mo + 6)), .ref (ad Γ (mo + 7)), .ref (ad Γ (mo + 8)), .ref (ad Γ (mo + 9)), .ref (ad Γ (mo + 10)), .int (nI ((va_up iv 0 0) 0)), .int (nI ((va_up iv 0 0) 1)), .int (nI ((va_up iv 0 0) 2)), .int (nI ((va_up iv 0 0) 3)), .int (nI ((va_up iv 0 0) 4)), .ref (ad Γ (mo + 11)), .ref (ad Γ (mo + 12))])) = G1 at hw hM hfr
  refine lv_iload_n hx hb dX12_clear_10 rfl (lv_at hl 0 rfl) ?_
  exact nr_retI hx hb hr hlocks hw hS (⟨rfl, hM, hfr⟩) dX12_clear_11
theorem wl_X12_image_1 : Cond.fieldLink RX12 13 "BellForgivenModel" "kept" "[I" ∈ wsX12_image := List.mem_of_getElem? (i := 1) rfl
theorem wl_X12_image_2 : Cond.fieldLink RX12 7 "BellForgivenModel" "all" "[I" ∈ wsX12_image := List.mem_of_getElem? (i := 2) rfl
theorem wl_X12_image_3 : Cond.fieldLink RX12 16 "BellForgivenModel" "isKept" "[Z" ∈ wsX12_image := List.mem_of_getElem? (i := 3) rfl
theorem hi_X12_image_X12 : ∀ w ∈ u_ws RX12 TX12 19, w ∈ wsX12_image := fun w h => (List.mem_cons_of_mem _ (List.mem_append_right _ h))
set_option maxHeartbeats 4000000 in
set_option maxRecDepth 100000 in
theorem c_X12_image (l : Launch) (Γ : Gam) (n : Nat) (G : Nat → va_E) (mo : Nat) (R K kp rf ca rc hd fw tl by0 an vl iv : Nat → Nat) (hM : isM Γ G mo R K kp rf ca rc hd fw tl by0 an vl iv) (hmo : mo + 13 ≤ n) (hI : vI R) (hj : winj Γ n) (i : Int32)  : Met l yX12_image wsX12_image ({ frames := 1, cells := 0, slots := 0, locals := 25 }) (va_Pc [.ref (ad Γ (mo + 0)), .int i] (fun U => hw Γ n G U U.heap)) (wQi Γ n (fun z G2 => ((¬ vRng 0 1 i) ∧ (z = -2) ∧ isM Γ G2 mo R K kp (bmp rf 0) ca rc hd fw tl by0 an vl iv ∧ fr G G2 mo (mo + 13)) ∨ (∃ ji : Nat, (ji ≤ 1) ∧ (i = nI ji) ∧ (z = nI 1) ∧ isM Γ G2 mo R (imgK K R ji 256) (va_up kp ji 1) rf ca rc hd fw tl by0 an vl iv ∧ fr G G2 mo (mo + 13)))) 0 0 (wA Γ n) := by
  refine Met.ofW (cc := cX12_image) (maxL := 3) (ret := (some .int)) (by decide) rfl ?_
  intro p e s m args below meth c s₁ B hml hv
  obtain ⟨rfl, hw⟩ := hv
  have hx := B.exec
  have hb := B.bytes
  have hr := B.returns
  have hts := atoms_spec (ws := wsX12_image) B.pre
  have hown : s.vm.findClass RX12 = some m.cls := findClass_of_methodNamed B.named
  have hlocks := B.notSynchronized
  have hS : va_S (wA Γ n) s.heap s.heap [] := va_S.rf
  have hA : ∀ q, wA Γ n q → wA Γ n q := fun _ h => h
  have hl := lv_entry ([.ref (ad Γ (mo + 0)), .int i]) (n := 3) (Nat.le_of_ble_eq_true rfl)
  rw [lg_entry_eq]
  generalize (lg_sl ([.ref (ad Γ (mo + 0)), .int i]) ++ List.replicate (3 - (lg_sl ([.ref (ad Γ (mo + 0)), .int i])).length) Slot.unset).toArray = ls at hl ⊢
  have hl : lv_has ls 3 [(0, .ref (ad Γ (mo + 0))), (1, .int i)] := hl
  have hfr := fr_rf G mo (mo + 13)
  have hB := hI.1
  have hB0 := hI.2.1
  have hB1 := hI.2.2.1
  have hB20 := hI.2.2.2.2.2.2.2.2.2
  have hBz2 := hI.2.2.2.1
  have hBz3 := hI.2.2.2.2.1
  have hBz4 := hI.2.2.2.2.2.1
  have hBz5 := hI.2.2.2.2.2.2.1
  have hby := hI.2.2.2.2.2.2.2.1
  have hto := hI.2.2.2.2.2.2.2.2.1
  refine lv_iload_n hx hb dX12_image_0 rfl (lv_at hl 1 rfl) ?_
  refine lv_i2l (v := (i).toInt64) hx hb dX12_image_1 rfl ?_
  refine lv_lconst (v := lN 0) hx hb dX12_image_2 rfl ?_
  refine lv_lconst (v := lN 1) hx hb dX12_image_3 rfl ?_
  refine nr_goB (P := (lN 0) ≤ ((i).toInt64) ∧ ((i).toInt64) ≤ (lN 1)) (nr_runS (As := [.long ((i).toInt64), .long (lN 0), .long (lN 1)]) ⟨hx, hb, hml, hown, hts⟩ hw (c_X12_in l Γ n G ((i).toInt64) (lN 0) (lN 1)) (va_cwS 3 hts gX12_image_X12_in rfl rfl rfl (by decide +kernel) ⟨Nat.le_of_ble_eq_true rfl, Nat.le_of_ble_eq_true rfl⟩) rfl hl.1 rfl (Nat.le_of_ble_eq_true rfl) dX12_image_4 ⟨Nat.zero_le _, Nat.zero_le _⟩) (fun b1 => ?_) (fun b1 => ?_)
  · obtain ⟨ji, hjia, hjib, rfl⟩ := (in_c (a := 0) (b := 1) (by decide) (by decide)).mp b1
    refine nr_if_ne (tgt := 17) hx hb (by decide) dX12_image_7 (by decide) (fun c2 => ?_) (fun c2 => absurd c2 (by decide))
    refine lv_iconst (v := nI 0) hx hb dX12_image_17 (by decide) ?_
    refine lv_istore_n (lv' := [(2, .int (nI 0)), (0, .ref (ad Γ (mo + 0))), (1, .int (nI ji))]) hx hb dX12_image_18 rfl hl (by decide) rfl (fun ls hl => ?_)
    refine nr_lpI (σ := (Nat → va_E) × Nat × (Nat → Nat)) 19 (fun x => x.1) (fun x lv => lv = [(0, .ref (ad Γ (mo + 0))), (1, .int (nI ji)), (2, .int (nI x.2.1))] ∧ isM Γ x.1 mo R x.2.2 kp rf ca rc hd fw tl by0 an vl iv ∧ fr G x.1 mo (mo + 13) ∧ (x.2.1 ≤ 256) ∧ (x.2.2 = imgK K R ji x.2.1)) (fun x => 256 - x.2.1) (G, 0, K) hw hS (lv_sub hl [1, 2, 0] rfl) ⟨rfl, hM, hfr, by (try dsimp only); omega, by (try dsimp only); exact (imgK_0 K R ji)⟩ ?_
    intro x lv ls H locs hw hS hl hI ih19
    obtain ⟨Gl19, q, KL19⟩ := x
    obtain ⟨rfl, hM, hfr, hq, hK2⟩ := hI
    try dsimp only at hM hfr hq hK2 hw hl ih19
    refine lv_iload_n hx hb dX12_image_19 rfl (lv_at hl 2 rfl) ?_
    refine lv_sipush (v := nI 256) hx hb dX12_image_20 (by decide) ?_
    refine nr_icmp_ge (tgt := 50) hx hb (by omega) (by decide) dX12_image_23 (by decide) (fun c3 => ?_) (fun c3 => ?_)
    · obtain rfl : q = 256 := by omega
      subst hK2
      refine lv_aload_n hx hb dX12_image_50 rfl (lv_at hl 0 rfl) ?_
      refine nr_get (own := RX12) (C := RX12) (T := TX12) (N := 19) (v := .ref (ad Γ (mo + 3))) hx hb hts hi_X12_image_X12 hown hw (by omega) (isM_0 hM) rfl 2 (by decide) wl_X12_image_3 rfl rfl dX12_image_51 ?_
      refine lv_iload_n hx hb dX12_image_54 rfl (lv_at hl 1 rfl) ?_
      refine lv_iconst (v := nI 1) hx hb dX12_image_55 (by decide) ?_
      refine nr_zast (k := ji) (v := 1) hx hb hw hj hA hS (by omega) (isM_3 hM) (by omega) (by decide) (by decide) dX12_image_56 (fun H locs hw hS => ?_)
      have hM := isM_s3 hM (va_up kp ji 1)
      have hfr := fr_up hfr (i := mo + 3) (by omega) (by omega) (za Γ 2 (va_up kp ji 1))
      generalize va_up Gl19 (mo + 3) (za Γ 2 (va_up kp ji 1)) = G4 at hw hM hfr
      refine lv_iconst (v := nI 1) hx hb dX12_image_57 (by decide) ?_
      exact nr_retI hx hb hr hlocks hw hS (Or.inr (⟨ji, hjib, rfl, rfl, hM, hfr⟩)) dX12_image_58
    · refine lv_aload_n hx hb dX12_image_26 rfl (lv_at hl 0 rfl) ?_
      refine nr_get (own := RX12) (C := RX12) (T := TX12) (N := 19) (v := .ref (ad Γ (mo + 2))) hx hb hts hi_X12_image_X12 hown hw (by omega) (isM_0 hM) rfl 1 (by decide) wl_X12_image_1 rfl rfl dX12_image_27 ?_
      refine lv_sipush (v := nI 256) hx hb dX12_image_30 (by decide) ?_
      refine lv_iload_n hx hb dX12_image_33 rfl (lv_at hl 1 rfl) ?_
      refine nr_imul hx hb dX12_image_34 ?_
      refine lv_iload_n hx hb dX12_image_35 rfl (lv_at hl 2 rfl) ?_
      refine nr_iadd hx hb dX12_image_36 ?_
      refine lv_aload_n hx hb dX12_image_37 rfl (lv_at hl 0 rfl) ?_
      refine nr_get (own := RX12) (C := RX12) (T := TX12) (N := 19) (v := .ref (ad Γ (mo + 1))) hx hb hts hi_X12_image_X12 hown hw (by omega) (isM_0 hM) rfl 0 (by decide) wl_X12_image_2 rfl rfl dX12_image_38 ?_
      refine lv_iload_n hx hb dX12_image_41 rfl (lv_at hl 2 rfl) ?_
      refine nr_iald (x := (R q)) hx hb hw (by omega) (isM_1 hM) rfl (by omega) (by decide) dX12_image_42 ?_
      have hL5 := hB (q)
      refine nr_iast (k := 256 * ji + q) (v := R q) hx hb hw hj hA hS (by omega) (isM_2 hM) (by omega) (by decide) dX12_image_43 (fun H locs hw hS => ?_)
      have hM := isM_s2 hM (va_up KL19 (256 * ji + q) (R q))
      have hfr := fr_up hfr (i := mo + 2) (by omega) (by omega) (na Γ 512 (va_up KL19 (256 * ji + q) (R q)))
      generalize va_up Gl19 (mo + 2) (na Γ 512 (va_up KL19 (256 * ji + q) (R q))) = G6 at hw hM hfr
      refine nr_inc (d := 1) (k := 2) (lv' := [(2, .int (nI (q + 1))), (0, .ref (ad Γ (mo + 0))), (1, .int (nI ji))]) hx hb dX12_image_44 hl rfl (by decide) (by decide) rfl (fun ls hl => ?_)
      refine lv_goto (tgt := 19) hx hb dX12_image_47 (by decide) ?_
      exact ih19 (G6, q + 1, va_up KL19 (256 * ji + q) (R q)) _ _ _ _ hw hS (lv_sub hl [1, 2, 0] rfl) ⟨rfl, hM, hfr, by (try dsimp only); omega, by (try dsimp only); rw [hK2]; exact imgK_s K R ji q⟩ (by (try dsimp only); omega)
  · have b1n : ¬ vRng 0 1 i := fun hh => b1 ((in_c (by decide) (by decide)).mpr hh)
    refine nr_if_ne (tgt := 17) hx hb (by decide) dX12_image_7 (by decide) (fun c7 => absurd c7 (by decide)) (fun c7 => ?_)
    refine lv_aload_n hx hb dX12_image_10 rfl (lv_at hl 0 rfl) ?_
    refine lv_bipush (v := (-2)) hx hb dX12_image_11 (by decide) ?_
    refine nr_goI (nr_runV (As := [.int (-2)]) (C := RX12) (T := TX12) (N := 19) ⟨hx, hb, hml, hown, hts⟩ hw (by omega) (isM_0 hM) rfl (c_X12_bad l Γ n G mo R K kp rf ca rc hd fw tl by0 an vl iv hM (by omega) hI hj (-2)) (cwV 1 hts gX12_image_X12_bad rfl rfl rfl (by decide +kernel) ⟨Nat.le_of_ble_eq_true rfl, Nat.le_of_ble_eq_true rfl⟩) rfl hl.1 rfl (Nat.le_of_ble_eq_true rfl) dX12_image_13 ⟨Nat.zero_le _, Nat.zero_le _⟩) hw hA hS (fun z8 G8 H locs hp hw hS => ?_)
    obtain ⟨ha8, hM, hfr8⟩ := hp
    have hfr := fr_tr hfr hfr8 (Nat.le_refl _) (Nat.le_refl _)
    subst ha8
    exact nr_retI hx hb hr hlocks hw hS (Or.inl ⟨by assumption, rfl, hM, hfr⟩) dX12_image_16
theorem wl_X12_from_1 : Cond.fieldLink RX12 16 "BellForgivenModel" "isKept" "[Z" ∈ wsX12_from := List.mem_of_getElem? (i := 1) rfl
theorem wl_X12_from_2 : Cond.fieldLink RX12 7 "BellForgivenModel" "all" "[I" ∈ wsX12_from := List.mem_of_getElem? (i := 2) rfl
theorem wl_X12_from_3 : Cond.fieldLink RX12 13 "BellForgivenModel" "kept" "[I" ∈ wsX12_from := List.mem_of_getElem? (i := 3) rfl
theorem hi_X12_from_X12 : ∀ w ∈ u_ws RX12 TX12 19, w ∈ wsX12_from := fun w h => (List.mem_cons_of_mem _ (List.mem_append_right _ h))
set_option maxHeartbeats 4000000 in
set_option maxRecDepth 100000 in
theorem c_X12_from (l : Launch) (Γ : Gam) (n : Nat) (G : Nat → va_E) (mo : Nat) (R K kp rf ca rc hd fw tl by0 an vl iv : Nat → Nat) (hM : isM Γ G mo R K kp rf ca rc hd fw tl by0 an vl iv) (hmo : mo + 13 ≤ n) (hI : vI R) (hj : winj Γ n) (i : Int32) (hkp : ∀ j, kp j ≤ 1) (hKB : ∀ j, K j ≤ 1999)  : Met l yX12_from wsX12_from ({ frames := 1, cells := 0, slots := 0, locals := 25 }) (va_Pc [.ref (ad Γ (mo + 0)), .int i] (fun U => hw Γ n G U U.heap)) (wQi Γ n (fun z G2 => ((¬ vRng 0 1 i) ∧ (z = -2) ∧ isM Γ G2 mo R K kp (bmp rf 0) ca rc hd fw tl by0 an vl iv ∧ fr G G2 mo (mo + 13)) ∨ (∃ ji : Nat, (ji ≤ 1) ∧ (i = nI ji) ∧ (kp ji = 0) ∧ (z = -3) ∧ isM Γ G2 mo R K kp (bmp rf 1) ca rc hd fw tl by0 an vl iv ∧ fr G G2 mo (mo + 13)) ∨ (∃ ji : Nat, (ji ≤ 1) ∧ (i = nI ji) ∧ (¬ kp ji = 0) ∧ (z = nI 1) ∧ isM Γ G2 mo (cpyR R (fun j => K (256 * ji + j)) 256) K kp rf ca rc hd fw tl by0 an vl iv ∧ fr G G2 mo (mo + 13)))) 0 0 (wA Γ n) := by
  refine Met.ofW (cc := cX12_from) (maxL := 3) (ret := (some .int)) (by decide) rfl ?_
  intro p e s m args below meth c s₁ B hml hv
  obtain ⟨rfl, hw⟩ := hv
  have hx := B.exec
  have hb := B.bytes
  have hr := B.returns
  have hts := atoms_spec (ws := wsX12_from) B.pre
  have hown : s.vm.findClass RX12 = some m.cls := findClass_of_methodNamed B.named
  have hlocks := B.notSynchronized
  have hS : va_S (wA Γ n) s.heap s.heap [] := va_S.rf
  have hA : ∀ q, wA Γ n q → wA Γ n q := fun _ h => h
  have hl := lv_entry ([.ref (ad Γ (mo + 0)), .int i]) (n := 3) (Nat.le_of_ble_eq_true rfl)
  rw [lg_entry_eq]
  generalize (lg_sl ([.ref (ad Γ (mo + 0)), .int i]) ++ List.replicate (3 - (lg_sl ([.ref (ad Γ (mo + 0)), .int i])).length) Slot.unset).toArray = ls at hl ⊢
  have hl : lv_has ls 3 [(0, .ref (ad Γ (mo + 0))), (1, .int i)] := hl
  have hfr := fr_rf G mo (mo + 13)
  have hB := hI.1
  have hB0 := hI.2.1
  have hB1 := hI.2.2.1
  have hB20 := hI.2.2.2.2.2.2.2.2.2
  have hBz2 := hI.2.2.2.1
  have hBz3 := hI.2.2.2.2.1
  have hBz4 := hI.2.2.2.2.2.1
  have hBz5 := hI.2.2.2.2.2.2.1
  have hby := hI.2.2.2.2.2.2.2.1
  have hto := hI.2.2.2.2.2.2.2.2.1
  refine lv_iload_n hx hb dX12_from_0 rfl (lv_at hl 1 rfl) ?_
  refine lv_i2l (v := (i).toInt64) hx hb dX12_from_1 rfl ?_
  refine lv_lconst (v := lN 0) hx hb dX12_from_2 rfl ?_
  refine lv_lconst (v := lN 1) hx hb dX12_from_3 rfl ?_
  refine nr_goB (P := (lN 0) ≤ ((i).toInt64) ∧ ((i).toInt64) ≤ (lN 1)) (nr_runS (As := [.long ((i).toInt64), .long (lN 0), .long (lN 1)]) ⟨hx, hb, hml, hown, hts⟩ hw (c_X12_in l Γ n G ((i).toInt64) (lN 0) (lN 1)) (va_cwS 3 hts gX12_from_X12_in rfl rfl rfl (by decide +kernel) ⟨Nat.le_of_ble_eq_true rfl, Nat.le_of_ble_eq_true rfl⟩) rfl hl.1 rfl (Nat.le_of_ble_eq_true rfl) dX12_from_4 ⟨Nat.zero_le _, Nat.zero_le _⟩) (fun b1 => ?_) (fun b1 => ?_)
  · obtain ⟨ji, hjia, hjib, rfl⟩ := (in_c (a := 0) (b := 1) (by decide) (by decide)).mp b1
    refine nr_if_ne (tgt := 17) hx hb (by decide) dX12_from_7 (by decide) (fun c2 => ?_) (fun c2 => absurd c2 (by decide))
    refine lv_aload_n hx hb dX12_from_17 rfl (lv_at hl 0 rfl) ?_
    refine nr_get (own := RX12) (C := RX12) (T := TX12) (N := 19) (v := .ref (ad Γ (mo + 3))) hx hb hts hi_X12_from_X12 hown hw (by omega) (isM_0 hM) rfl 2 (by decide) wl_X12_from_1 rfl rfl dX12_from_18 ?_
    refine lv_iload_n hx hb dX12_from_21 rfl (lv_at hl 1 rfl) ?_
    refine nr_zald (x := (kp ji)) hx hb hw (by omega) (isM_3 hM) rfl (by omega) (by decide) dX12_from_22 ?_
    have hkp1 := hkp ji
    refine nr_if_ne (tgt := 31) hx hb (by omega) dX12_from_23 (by decide) (fun c3 => ?_) (fun c3 => ?_)
    · refine lv_iconst (v := nI 0) hx hb dX12_from_31 (by decide) ?_
      refine lv_istore_n (lv' := [(2, .int (nI 0)), (0, .ref (ad Γ (mo + 0))), (1, .int (nI ji))]) hx hb dX12_from_32 rfl hl (by decide) rfl (fun ls hl => ?_)
      refine nr_lpI (σ := (Nat → va_E) × Nat × (Nat → Nat)) 33 (fun x => x.1) (fun x lv => lv = [(0, .ref (ad Γ (mo + 0))), (1, .int (nI ji)), (2, .int (nI x.2.1))] ∧ isM Γ x.1 mo x.2.2 K kp rf ca rc hd fw tl by0 an vl iv ∧ fr G x.1 mo (mo + 13) ∧ (x.2.1 ≤ 256) ∧ (x.2.2 = cpyR R (fun j => K (256 * ji + j)) x.2.1)) (fun x => 256 - x.2.1) (G, 0, R) hw hS (lv_sub hl [1, 2, 0] rfl) ⟨rfl, hM, hfr, by (try dsimp only); omega, by (try dsimp only); exact (cpyR_0 R _)⟩ ?_
      intro x lv ls H locs hw hS hl hI ih33
      obtain ⟨Gl33, q, RL33⟩ := x
      obtain ⟨rfl, hM, hfr, hq, hR2⟩ := hI
      try dsimp only at hM hfr hq hR2 hw hl ih33
      refine lv_iload_n hx hb dX12_from_33 rfl (lv_at hl 2 rfl) ?_
      refine lv_sipush (v := nI 256) hx hb dX12_from_34 (by decide) ?_
      refine nr_icmp_ge (tgt := 64) hx hb (by omega) (by decide) dX12_from_37 (by decide) (fun c4 => ?_) (fun c4 => ?_)
      · obtain rfl : q = 256 := by omega
        subst hR2
        refine lv_iconst (v := nI 1) hx hb dX12_from_64 (by decide) ?_
        exact nr_retI hx hb hr hlocks hw hS (Or.inr (Or.inr (⟨ji, hjib, rfl, by assumption, rfl, hM, hfr⟩))) dX12_from_65
      · refine lv_aload_n hx hb dX12_from_40 rfl (lv_at hl 0 rfl) ?_
        refine nr_get (own := RX12) (C := RX12) (T := TX12) (N := 19) (v := .ref (ad Γ (mo + 1))) hx hb hts hi_X12_from_X12 hown hw (by omega) (isM_0 hM) rfl 0 (by decide) wl_X12_from_2 rfl rfl dX12_from_41 ?_
        refine lv_iload_n hx hb dX12_from_44 rfl (lv_at hl 2 rfl) ?_
        refine lv_aload_n hx hb dX12_from_45 rfl (lv_at hl 0 rfl) ?_
        refine nr_get (own := RX12) (C := RX12) (T := TX12) (N := 19) (v := .ref (ad Γ (mo + 2))) hx hb hts hi_X12_from_X12 hown hw (by omega) (isM_0 hM) rfl 1 (by decide) wl_X12_from_3 rfl rfl dX12_from_46 ?_
        refine lv_sipush (v := nI 256) hx hb dX12_from_49 (by decide) ?_
        refine lv_iload_n hx hb dX12_from_52 rfl (lv_at hl 1 rfl) ?_
        refine nr_imul hx hb dX12_from_53 ?_
        refine lv_iload_n hx hb dX12_from_54 rfl (lv_at hl 2 rfl) ?_
        refine nr_iadd hx hb dX12_from_55 ?_
        refine nr_iald (x := (K (256 * ji + q))) hx hb hw (by omega) (isM_2 hM) rfl (by omega) (by decide) dX12_from_56 ?_
        have hL5 := hKB (256 * ji + q)
        refine nr_iast (k := q) (v := K (256 * ji + q)) hx hb hw hj hA hS (by omega) (isM_1 hM) (by omega) (by decide) dX12_from_57 (fun H locs hw hS => ?_)
        have hM := isM_s1 hM (va_up RL33 q (K (256 * ji + q)))
        have hfr := fr_up hfr (i := mo + 1) (by omega) (by omega) (na Γ 256 (va_up RL33 q (K (256 * ji + q))))
        generalize va_up Gl33 (mo + 1) (na Γ 256 (va_up RL33 q (K (256 * ji + q)))) = G6 at hw hM hfr
        refine nr_inc (d := 1) (k := 2) (lv' := [(2, .int (nI (q + 1))), (0, .ref (ad Γ (mo + 0))), (1, .int (nI ji))]) hx hb dX12_from_58 hl rfl (by decide) (by decide) rfl (fun ls hl => ?_)
        refine lv_goto (tgt := 33) hx hb dX12_from_61 (by decide) ?_
        exact ih33 (G6, q + 1, va_up RL33 q (K (256 * ji + q))) _ _ _ _ hw hS (lv_sub hl [1, 2, 0] rfl) ⟨rfl, hM, hfr, by (try dsimp only); omega, by (try dsimp only); rw [hR2]; exact cpyR_s R (fun j => K (256 * ji + j)) q⟩ (by (try dsimp only); omega)
    · refine lv_aload_n hx hb dX12_from_26 rfl (lv_at hl 0 rfl) ?_
      refine nr_goI (nr_runV (As := []) (C := RX12) (T := TX12) (N := 19) ⟨hx, hb, hml, hown, hts⟩ hw (by omega) (isM_0 hM) rfl (c_X12_no l Γ n G mo R K kp rf ca rc hd fw tl by0 an vl iv hM (by omega) hI hj) (cwV 0 hts gX12_from_X12_no rfl rfl rfl (by decide +kernel) ⟨Nat.le_of_ble_eq_true rfl, Nat.le_of_ble_eq_true rfl⟩) rfl hl.1 rfl (Nat.le_of_ble_eq_true rfl) dX12_from_27 ⟨Nat.zero_le _, Nat.zero_le _⟩) hw hA hS (fun z7 G7 H locs hp hw hS => ?_)
      obtain ⟨ha7, hM, hfr7⟩ := hp
      have hfr := fr_tr hfr hfr7 (Nat.le_refl _) (Nat.le_refl _)
      subst ha7
      exact nr_retI hx hb hr hlocks hw hS (Or.inr (Or.inl ⟨ji, hjib, rfl, by assumption, rfl, hM, hfr⟩)) dX12_from_30
  · have b1n : ¬ vRng 0 1 i := fun hh => b1 ((in_c (by decide) (by decide)).mpr hh)
    refine nr_if_ne (tgt := 17) hx hb (by decide) dX12_from_7 (by decide) (fun c8 => absurd c8 (by decide)) (fun c8 => ?_)
    refine lv_aload_n hx hb dX12_from_10 rfl (lv_at hl 0 rfl) ?_
    refine lv_bipush (v := (-2)) hx hb dX12_from_11 (by decide) ?_
    refine nr_goI (nr_runV (As := [.int (-2)]) (C := RX12) (T := TX12) (N := 19) ⟨hx, hb, hml, hown, hts⟩ hw (by omega) (isM_0 hM) rfl (c_X12_bad l Γ n G mo R K kp rf ca rc hd fw tl by0 an vl iv hM (by omega) hI hj (-2)) (cwV 1 hts gX12_from_X12_bad rfl rfl rfl (by decide +kernel) ⟨Nat.le_of_ble_eq_true rfl, Nat.le_of_ble_eq_true rfl⟩) rfl hl.1 rfl (Nat.le_of_ble_eq_true rfl) dX12_from_13 ⟨Nat.zero_le _, Nat.zero_le _⟩) hw hA hS (fun z9 G9 H locs hp hw hS => ?_)
    obtain ⟨ha9, hM, hfr9⟩ := hp
    have hfr := fr_tr hfr hfr9 (Nat.le_refl _) (Nat.le_refl _)
    subst ha9
    exact nr_retI hx hb hr hlocks hw hS (Or.inl ⟨by assumption, rfl, hM, hfr⟩) dX12_from_16
theorem wl_X12_status_1 : Cond.constantLong RX12 174 (2) ∈ wsX12_status := List.mem_of_getElem? (i := 1) rfl
theorem wl_X12_status_2 : Cond.fieldLink RX12 20 "BellForgivenModel" "refused" "[I" ∈ wsX12_status := List.mem_of_getElem? (i := 2) rfl
theorem hi_X12_status_X12 : ∀ w ∈ u_ws RX12 TX12 19, w ∈ wsX12_status := fun w h => (List.mem_cons_of_mem _ (List.mem_append_right _ h))
set_option maxHeartbeats 4000000 in
set_option maxRecDepth 100000 in
theorem c_X12_status (l : Launch) (Γ : Gam) (n : Nat) (G : Nat → va_E) (mo : Nat) (R K kp rf ca rc hd fw tl by0 an vl iv : Nat → Nat) (hM : isM Γ G mo R K kp rf ca rc hd fw tl by0 an vl iv) (hmo : mo + 13 ≤ n) (hI : vI R) (hj : winj Γ n) (what : Int32)  : Met l yX12_status wsX12_status ({ frames := 1, cells := 0, slots := 0, locals := 25 }) (va_Pc [.ref (ad Γ (mo + 0)), .int what] (fun U => hw Γ n G U U.heap)) (wQi Γ n (fun z G2 => ((¬ vRng 0 2 what) ∧ (z = -1) ∧ isM Γ G2 mo R K kp (bmp rf 0) ca rc hd fw tl by0 an vl iv ∧ fr G G2 mo (mo + 13)) ∨ (∃ jw : Nat, (jw ≤ 2) ∧ (what = nI jw) ∧ (z = nI (rf jw)) ∧ isM Γ G2 mo R K kp rf ca rc hd fw tl by0 an vl iv ∧ fr G G2 mo (mo + 13)))) 0 0 (wA Γ n) := by
  refine Met.ofW (cc := cX12_status) (maxL := 2) (ret := (some .int)) (by decide) rfl ?_
  intro p e s m args below meth c s₁ B hml hv
  obtain ⟨rfl, hw⟩ := hv
  have hx := B.exec
  have hb := B.bytes
  have hr := B.returns
  have hts := atoms_spec (ws := wsX12_status) B.pre
  have hown : s.vm.findClass RX12 = some m.cls := findClass_of_methodNamed B.named
  have hlocks := B.notSynchronized
  have hS : va_S (wA Γ n) s.heap s.heap [] := va_S.rf
  have hA : ∀ q, wA Γ n q → wA Γ n q := fun _ h => h
  have hl := lv_entry ([.ref (ad Γ (mo + 0)), .int what]) (n := 2) (Nat.le_of_ble_eq_true rfl)
  rw [lg_entry_eq]
  generalize (lg_sl ([.ref (ad Γ (mo + 0)), .int what]) ++ List.replicate (2 - (lg_sl ([.ref (ad Γ (mo + 0)), .int what])).length) Slot.unset).toArray = ls at hl ⊢
  have hl : lv_has ls 2 [(0, .ref (ad Γ (mo + 0))), (1, .int what)] := hl
  have hfr := fr_rf G mo (mo + 13)
  have hB := hI.1
  have hB0 := hI.2.1
  have hB1 := hI.2.2.1
  have hB20 := hI.2.2.2.2.2.2.2.2.2
  have hBz2 := hI.2.2.2.1
  have hBz3 := hI.2.2.2.2.1
  have hBz4 := hI.2.2.2.2.2.1
  have hBz5 := hI.2.2.2.2.2.2.1
  have hby := hI.2.2.2.2.2.2.2.1
  have hto := hI.2.2.2.2.2.2.2.2.1
  refine lv_iload_n hx hb dX12_status_0 rfl (lv_at hl 1 rfl) ?_
  refine lv_i2l (v := (what).toInt64) hx hb dX12_status_1 rfl ?_
  refine lv_lconst (v := lN 0) hx hb dX12_status_2 rfl ?_
  refine nr_ldc2 (k := 2) hx hb hown (hts _ wl_X12_status_1) (by decide) dX12_status_3 ?_
  refine nr_goB (P := (lN 0) ≤ ((what).toInt64) ∧ ((what).toInt64) ≤ (lN 2)) (nr_runS (As := [.long ((what).toInt64), .long (lN 0), .long (lN 2)]) ⟨hx, hb, hml, hown, hts⟩ hw (c_X12_in l Γ n G ((what).toInt64) (lN 0) (lN 2)) (va_cwS 3 hts gX12_status_X12_in rfl rfl rfl (by decide +kernel) ⟨Nat.le_of_ble_eq_true rfl, Nat.le_of_ble_eq_true rfl⟩) rfl hl.1 rfl (Nat.le_of_ble_eq_true rfl) dX12_status_6 ⟨Nat.zero_le _, Nat.zero_le _⟩) (fun b1 => ?_) (fun b1 => ?_)
  · obtain ⟨jw, hjwa, hjwb, rfl⟩ := (in_c (a := 0) (b := 2) (by decide) (by decide)).mp b1
    refine nr_if_eq (tgt := 21) hx hb (by decide) dX12_status_9 (by decide) (fun c2 => absurd c2 (by decide)) (fun c2 => ?_)
    refine lv_aload_n hx hb dX12_status_12 rfl (lv_at hl 0 rfl) ?_
    refine nr_get (own := RX12) (C := RX12) (T := TX12) (N := 19) (v := .ref (ad Γ (mo + 4))) hx hb hts hi_X12_status_X12 hown hw (by omega) (isM_0 hM) rfl 3 (by decide) wl_X12_status_2 rfl rfl dX12_status_13 ?_
    refine lv_iload_n hx hb dX12_status_16 rfl (lv_at hl 1 rfl) ?_
    refine nr_iald (x := (rf jw)) hx hb hw (by omega) (isM_4 hM) rfl (by omega) (by decide) dX12_status_17 ?_
    refine lv_goto (tgt := 26) hx hb dX12_status_18 (by decide) ?_
    exact nr_retI hx hb hr hlocks hw hS (Or.inr (⟨jw, hjwb, rfl, rfl, hM, hfr⟩)) dX12_status_26
  · have b1n : ¬ vRng 0 2 what := fun hh => b1 ((in_c (by decide) (by decide)).mpr hh)
    refine nr_if_eq (tgt := 21) hx hb (by decide) dX12_status_9 (by decide) (fun c3 => ?_) (fun c3 => absurd c3 (by decide))
    refine lv_aload_n hx hb dX12_status_21 rfl (lv_at hl 0 rfl) ?_
    refine lv_iconst (v := (-1)) hx hb dX12_status_22 (by decide) ?_
    refine nr_goI (nr_runV (As := [.int (-1)]) (C := RX12) (T := TX12) (N := 19) ⟨hx, hb, hml, hown, hts⟩ hw (by omega) (isM_0 hM) rfl (c_X12_bad l Γ n G mo R K kp rf ca rc hd fw tl by0 an vl iv hM (by omega) hI hj (-1)) (cwV 1 hts gX12_status_X12_bad rfl rfl rfl (by decide +kernel) ⟨Nat.le_of_ble_eq_true rfl, Nat.le_of_ble_eq_true rfl⟩) rfl hl.1 rfl (Nat.le_of_ble_eq_true rfl) dX12_status_23 ⟨Nat.zero_le _, Nat.zero_le _⟩) hw hA hS (fun z4 G4 H locs hp hw hS => ?_)
    obtain ⟨ha4, hM, hfr4⟩ := hp
    have hfr := fr_tr hfr hfr4 (Nat.le_refl _) (Nat.le_refl _)
    subst ha4
    exact nr_retI hx hb hr hlocks hw hS (Or.inl ⟨by assumption, rfl, hM, hfr⟩) dX12_status_26
theorem wl_X12_count_1 : Cond.constantLong RX12 201 (10) ∈ wsX12_count := List.mem_of_getElem? (i := 1) rfl
set_option maxHeartbeats 4000000 in
set_option maxRecDepth 100000 in
theorem c_X12_count (l : Launch) (Γ : Gam) (n : Nat) (G : Nat → va_E) (mo : Nat) (R K kp rf ca rc hd fw tl by0 an vl iv : Nat → Nat) (hM : isM Γ G mo R K kp rf ca rc hd fw tl by0 an vl iv) (hmo : mo + 13 ≤ n) (hI : vI R) (hj : winj Γ n) (what : Int32) (hiv : iv 0 ≤ 150)  : Met l yX12_count wsX12_count ({ frames := 3, cells := 0, slots := 0, locals := 68 }) (va_Pc [.ref (ad Γ (mo + 0)), .int what] (fun U => hw Γ n G U U.heap)) (wQi Γ n (fun z G2 => ((¬ vRng 0 10 what) ∧ (z = -2) ∧ isM Γ G2 mo R K kp (bmp rf 0) ca rc hd fw tl by0 an vl iv ∧ fr G G2 mo (mo + 13)) ∨ (∃ jw : Nat, (jw ≤ 10) ∧ (what = nI jw) ∧ (z = nI (rTally R iv jw)) ∧ isM Γ G2 mo R K kp rf ca rc hd fw tl by0 an vl iv ∧ fr G G2 mo (mo + 13)))) 0 0 (wA Γ n) := by
  refine Met.ofW (cc := cX12_count) (maxL := 2) (ret := (some .int)) (by decide) rfl ?_
  intro p e s m args below meth c s₁ B hml hv
  obtain ⟨rfl, hw⟩ := hv
  have hx := B.exec
  have hb := B.bytes
  have hr := B.returns
  have hts := atoms_spec (ws := wsX12_count) B.pre
  have hown : s.vm.findClass RX12 = some m.cls := findClass_of_methodNamed B.named
  have hlocks := B.notSynchronized
  have hS : va_S (wA Γ n) s.heap s.heap [] := va_S.rf
  have hA : ∀ q, wA Γ n q → wA Γ n q := fun _ h => h
  have hl := lv_entry ([.ref (ad Γ (mo + 0)), .int what]) (n := 2) (Nat.le_of_ble_eq_true rfl)
  rw [lg_entry_eq]
  generalize (lg_sl ([.ref (ad Γ (mo + 0)), .int what]) ++ List.replicate (2 - (lg_sl ([.ref (ad Γ (mo + 0)), .int what])).length) Slot.unset).toArray = ls at hl ⊢
  have hl : lv_has ls 2 [(0, .ref (ad Γ (mo + 0))), (1, .int what)] := hl
  have hfr := fr_rf G mo (mo + 13)
  have hB := hI.1
  have hB0 := hI.2.1
  have hB1 := hI.2.2.1
  have hB20 := hI.2.2.2.2.2.2.2.2.2
  have hBz2 := hI.2.2.2.1
  have hBz3 := hI.2.2.2.2.1
  have hBz4 := hI.2.2.2.2.2.1
  have hBz5 := hI.2.2.2.2.2.2.1
  have hby := hI.2.2.2.2.2.2.2.1
  have hto := hI.2.2.2.2.2.2.2.2.1
  refine lv_iload_n hx hb dX12_count_0 rfl (lv_at hl 1 rfl) ?_
  refine lv_i2l (v := (what).toInt64) hx hb dX12_count_1 rfl ?_
  refine lv_lconst (v := lN 0) hx hb dX12_count_2 rfl ?_
  refine nr_ldc2 (k := 10) hx hb hown (hts _ wl_X12_count_1) (by decide) dX12_count_3 ?_
  refine nr_goB (P := (lN 0) ≤ ((what).toInt64) ∧ ((what).toInt64) ≤ (lN 10)) (nr_runS (As := [.long ((what).toInt64), .long (lN 0), .long (lN 10)]) ⟨hx, hb, hml, hown, hts⟩ hw (c_X12_in l Γ n G ((what).toInt64) (lN 0) (lN 10)) (va_cwS 3 hts gX12_count_X12_in rfl rfl rfl (by decide +kernel) ⟨Nat.le_of_ble_eq_true rfl, Nat.le_of_ble_eq_true rfl⟩) rfl hl.1 rfl (Nat.le_of_ble_eq_true rfl) dX12_count_6 ⟨Nat.zero_le _, Nat.zero_le _⟩) (fun b1 => ?_) (fun b1 => ?_)
  · obtain ⟨jw, hjwa, hjwb, rfl⟩ := (in_c (a := 0) (b := 10) (by decide) (by decide)).mp b1
    refine nr_if_eq (tgt := 20) hx hb (by decide) dX12_count_9 (by decide) (fun c2 => absurd c2 (by decide)) (fun c2 => ?_)
    refine lv_aload_n hx hb dX12_count_12 rfl (lv_at hl 0 rfl) ?_
    refine lv_iload_n hx hb dX12_count_13 rfl (lv_at hl 1 rfl) ?_
    refine nr_goS (nr_runV (As := [.int (nI jw)]) (C := RX12) (T := TX12) (N := 19) ⟨hx, hb, hml, hown, hts⟩ hw (by omega) (isM_0 hM) rfl (c_X12_counted l Γ n G mo R K kp rf ca rc hd fw tl by0 an vl iv hM (by omega) hI jw (by omega) (by omega)) (cwV 1 hts gX12_count_X12_counted rfl rfl rfl (by decide +kernel) ⟨Nat.le_of_ble_eq_true rfl, Nat.le_of_ble_eq_true rfl⟩) rfl hl.1 rfl (Nat.le_of_ble_eq_true rfl) dX12_count_14 ⟨Nat.zero_le _, Nat.zero_le _⟩) (fun r3 hr3 => ?_)
    obtain rfl : r3 = (nI (rTally R iv jw)) := hr3
    refine lv_goto (tgt := 26) hx hb dX12_count_17 (by decide) ?_
    exact nr_retI hx hb hr hlocks hw hS (Or.inr (⟨jw, hjwb, rfl, rfl, hM, hfr⟩)) dX12_count_26
  · have b1n : ¬ vRng 0 10 what := fun hh => b1 ((in_c (by decide) (by decide)).mpr hh)
    refine nr_if_eq (tgt := 20) hx hb (by decide) dX12_count_9 (by decide) (fun c4 => ?_) (fun c4 => absurd c4 (by decide))
    refine lv_aload_n hx hb dX12_count_20 rfl (lv_at hl 0 rfl) ?_
    refine lv_bipush (v := (-2)) hx hb dX12_count_21 (by decide) ?_
    refine nr_goI (nr_runV (As := [.int (-2)]) (C := RX12) (T := TX12) (N := 19) ⟨hx, hb, hml, hown, hts⟩ hw (by omega) (isM_0 hM) rfl (c_X12_bad l Γ n G mo R K kp rf ca rc hd fw tl by0 an vl iv hM (by omega) hI hj (-2)) (cwV 1 hts gX12_count_X12_bad rfl rfl rfl (by decide +kernel) ⟨Nat.le_of_ble_eq_true rfl, Nat.le_of_ble_eq_true rfl⟩) rfl hl.1 rfl (Nat.le_of_ble_eq_true rfl) dX12_count_23 ⟨Nat.zero_le _, Nat.zero_le _⟩) hw hA hS (fun z5 G5 H locs hp hw hS => ?_)
    obtain ⟨ha5, hM, hfr5⟩ := hp
    have hfr := fr_tr hfr hfr5 (Nat.le_refl _) (Nat.le_refl _)
    subst ha5
    exact nr_retI hx hb hr hlocks hw hS (Or.inl ⟨by assumption, rfl, hM, hfr⟩) dX12_count_26
theorem wl_X12_save_1 : Cond.fieldLink RX12 7 "BellForgivenModel" "all" "[I" ∈ wsX12_save := List.mem_of_getElem? (i := 1) rfl
theorem hi_X12_save_X12 : ∀ w ∈ u_ws RX12 TX12 19, w ∈ wsX12_save := fun w h => (List.mem_cons_of_mem _ (List.mem_append_right _ h))
set_option maxHeartbeats 4000000 in
set_option maxRecDepth 100000 in
theorem c_X12_save (l : Launch) (Γ : Gam) (n : Nat) (G : Nat → va_E) (mo : Nat) (R K kp rf ca rc hd fw tl by0 an vl iv : Nat → Nat) (hM : isM Γ G mo R K kp rf ca rc hd fw tl by0 an vl iv) (hmo : mo + 13 ≤ n) (hI : vI R) (hj : winj Γ n)  : Met l yX12_save wsX12_save ({ frames := 0, cells := 0, slots := 0, locals := 0 }) (va_Pc [.ref (ad Γ (mo + 0))] (fun U => hw Γ n G U U.heap)) (wQv Γ n (fun G2 => isM Γ G2 mo (saveR R) K kp rf ca rc hd fw tl by0 an vl iv ∧ fr G G2 mo (mo + 13))) 0 0 (wA Γ n) := by
  refine Met.ofW (cc := cX12_save) (maxL := 2) (ret := none) (by decide) rfl ?_
  intro p e s m args below meth c s₁ B hml hv
  obtain ⟨rfl, hw⟩ := hv
  have hx := B.exec
  have hb := B.bytes
  have hr := B.returns
  have hts := atoms_spec (ws := wsX12_save) B.pre
  have hown : s.vm.findClass RX12 = some m.cls := findClass_of_methodNamed B.named
  have hlocks := B.notSynchronized
  have hS : va_S (wA Γ n) s.heap s.heap [] := va_S.rf
  have hA : ∀ q, wA Γ n q → wA Γ n q := fun _ h => h
  have hl := lv_entry ([.ref (ad Γ (mo + 0))]) (n := 2) (Nat.le_of_ble_eq_true rfl)
  rw [lg_entry_eq]
  generalize (lg_sl ([.ref (ad Γ (mo + 0))]) ++ List.replicate (2 - (lg_sl ([.ref (ad Γ (mo + 0))])).length) Slot.unset).toArray = ls at hl ⊢
  have hl : lv_has ls 2 [(0, .ref (ad Γ (mo + 0)))] := hl
  have hfr := fr_rf G mo (mo + 13)
  have hB := hI.1
  have hB0 := hI.2.1
  have hB1 := hI.2.2.1
  have hB20 := hI.2.2.2.2.2.2.2.2.2
  have hBz2 := hI.2.2.2.1
  have hBz3 := hI.2.2.2.2.1
  have hBz4 := hI.2.2.2.2.2.1
  have hBz5 := hI.2.2.2.2.2.2.1
  have hby := hI.2.2.2.2.2.2.2.1
  have hto := hI.2.2.2.2.2.2.2.2.1
  have hf7 := fullR_5 hBz5
  refine lv_aload_n hx hb dX12_save_0 rfl (lv_at hl 0 rfl) ?_
  refine nr_get (own := RX12) (C := RX12) (T := TX12) (N := 19) (v := .ref (ad Γ (mo + 1))) hx hb hts hi_X12_save_X12 hown hw (by omega) (isM_0 hM) rfl 0 (by decide) wl_X12_save_1 rfl rfl dX12_save_1 ?_
  refine lv_iconst (v := nI 5) hx hb dX12_save_4 (by decide) ?_
  refine nr_iald (x := (R 5)) hx hb hw (by omega) (isM_1 hM) rfl (by omega) (by decide) dX12_save_5 ?_
  have hL1 := hB (5)
  refine lv_bipush (v := nI 8) hx hb dX12_save_6 (by decide) ?_
  refine nr_icmp_ne (tgt := 53) hx hb (by omega) (by decide) dX12_save_8 (by decide) (fun c2 => ?_) (fun c2 => ?_)
  · refine lv_iconst (v := nI 0) hx hb dX12_save_53 (by decide) ?_
    refine lv_istore_n (lv' := [(1, .int (nI 0)), (0, .ref (ad Γ (mo + 0)))]) hx hb dX12_save_54 rfl hl (by decide) rfl (fun ls hl => ?_)
    refine nr_lpI (σ := (Nat → va_E) × Nat × (Nat → Nat)) 55 (fun x => x.1) (fun x lv => lv = [(0, .ref (ad Γ (mo + 0))), (1, .int (nI x.2.1))] ∧ isM Γ x.1 mo x.2.2 K kp rf ca rc hd fw tl by0 an vl iv ∧ fr G x.1 mo (mo + 13) ∧ (x.2.1 ≤ 16) ∧ (x.2.2 = movR (fullR R) (128 + 16 * fullR R 5) 6 x.2.1)) (fun x => 16 - x.2.1) (G, 0, R) hw hS (lv_sub hl [1, 0] rfl) ⟨rfl, hM, hfr, by (try dsimp only); omega, by (try dsimp only); rw [← movR_0]; unfold fullR; first | (rw [if_pos (by assumption)]; rw [hR2, show k = 112 by omega]; done) | rw [if_neg (by assumption)]⟩ ?_
    intro x lv ls H locs hw hS hl hI ih55
    obtain ⟨Gl55, k, RL55⟩ := x
    obtain ⟨rfl, hM, hfr, hk, hR3⟩ := hI
    try dsimp only at hM hfr hk hR3 hw hl ih55
    have hfk : fullR R (6 + k) ≤ 1999 := by rw [fullR_o (by omega) (by omega)]; exact hB _
    refine lv_iload_n hx hb dX12_save_55 rfl (lv_at hl 1 rfl) ?_
    refine lv_bipush (v := nI 16) hx hb dX12_save_56 (by decide) ?_
    refine nr_icmp_ge (tgt := 96) hx hb (by omega) (by decide) dX12_save_58 (by decide) (fun c3 => ?_) (fun c3 => ?_)
    · refine lv_aload_n hx hb dX12_save_96 rfl (lv_at hl 0 rfl) ?_
      refine nr_get (own := RX12) (C := RX12) (T := TX12) (N := 19) (v := .ref (ad Γ (mo + 1))) hx hb hts hi_X12_save_X12 hown hw (by omega) (isM_0 hM) rfl 0 (by decide) wl_X12_save_1 rfl rfl dX12_save_97 ?_
      refine lv_iconst (v := nI 5) hx hb dX12_save_100 (by decide) ?_
      refine lv_dup2_11 hx hb dX12_save_101 rfl rfl ?_
      refine nr_iald (x := (fullR R 5)) hx hb hw (by omega) (isM_1 hM) (by rw [hR3]; exact movR_out (by omega)) (by omega) (by decide) dX12_save_102 ?_
      refine lv_iconst (v := nI 1) hx hb dX12_save_103 (by decide) ?_
      refine nr_iadd hx hb dX12_save_104 ?_
      refine nr_iast (k := 5) (v := fullR R 5 + 1) hx hb hw hj hA hS (by omega) (isM_1 hM) (by omega) (by decide) dX12_save_105 (fun H locs hw hS => ?_)
      have hM := isM_s1 hM (va_up RL55 5 (fullR R 5 + 1))
      have hfr := fr_up hfr (i := mo + 1) (by omega) (by omega) (na Γ 256 (va_up RL55 5 (fullR R 5 + 1)))
      generalize va_up Gl55 (mo + 1) (na Γ 256 (va_up RL55 5 (fullR R 5 + 1))) = G4 at hw hM hfr
      exact nr_retV hx hb hr hlocks hw hS (⟨by rw [show saveR R = va_up RL55 5 (fullR R 5 + 1) from (by rw [hR3, show k = 16 by omega]; rfl)]; exact hM, hfr⟩) dX12_save_106
    · refine lv_aload_n hx hb dX12_save_61 rfl (lv_at hl 0 rfl) ?_
      refine nr_get (own := RX12) (C := RX12) (T := TX12) (N := 19) (v := .ref (ad Γ (mo + 1))) hx hb hts hi_X12_save_X12 hown hw (by omega) (isM_0 hM) rfl 0 (by decide) wl_X12_save_1 rfl rfl dX12_save_62 ?_
      refine lv_sipush (v := nI 128) hx hb dX12_save_65 (by decide) ?_
      refine lv_bipush (v := nI 16) hx hb dX12_save_68 (by decide) ?_
      refine lv_aload_n hx hb dX12_save_70 rfl (lv_at hl 0 rfl) ?_
      refine nr_get (own := RX12) (C := RX12) (T := TX12) (N := 19) (v := .ref (ad Γ (mo + 1))) hx hb hts hi_X12_save_X12 hown hw (by omega) (isM_0 hM) rfl 0 (by decide) wl_X12_save_1 rfl rfl dX12_save_71 ?_
      refine lv_iconst (v := nI 5) hx hb dX12_save_74 (by decide) ?_
      refine nr_iald (x := (fullR R 5)) hx hb hw (by omega) (isM_1 hM) (by rw [hR3]; exact movR_out (by omega)) (by omega) (by decide) dX12_save_75 ?_
      refine nr_imul hx hb dX12_save_76 ?_
      refine nr_iadd hx hb dX12_save_77 ?_
      refine lv_iload_n hx hb dX12_save_78 rfl (lv_at hl 1 rfl) ?_
      refine nr_iadd hx hb dX12_save_79 ?_
      refine lv_aload_n hx hb dX12_save_80 rfl (lv_at hl 0 rfl) ?_
      refine nr_get (own := RX12) (C := RX12) (T := TX12) (N := 19) (v := .ref (ad Γ (mo + 1))) hx hb hts hi_X12_save_X12 hown hw (by omega) (isM_0 hM) rfl 0 (by decide) wl_X12_save_1 rfl rfl dX12_save_81 ?_
      refine lv_bipush (v := nI 6) hx hb dX12_save_84 (by decide) ?_
      refine lv_iload_n hx hb dX12_save_86 rfl (lv_at hl 1 rfl) ?_
      refine nr_iadd hx hb dX12_save_87 ?_
      refine nr_iald (x := (fullR R (6 + k))) hx hb hw (by omega) (isM_1 hM) (by rw [hR3]; exact movR_out (by omega)) (by omega) (by decide) dX12_save_88 ?_
      refine nr_iast (k := 128 + (16 * (fullR R 5)) + k) (v := fullR R (6 + k)) hx hb hw hj hA hS (by omega) (isM_1 hM) (by omega) (by decide) dX12_save_89 (fun H locs hw hS => ?_)
      have hM := isM_s1 hM (va_up RL55 (128 + (16 * (fullR R 5)) + k) (fullR R (6 + k)))
      have hfr := fr_up hfr (i := mo + 1) (by omega) (by omega) (na Γ 256 (va_up RL55 (128 + (16 * (fullR R 5)) + k) (fullR R (6 + k))))
      generalize va_up Gl55 (mo + 1) (na Γ 256 (va_up RL55 (128 + (16 * (fullR R 5)) + k) (fullR R (6 + k)))) = G5 at hw hM hfr
      refine nr_inc (d := 1) (k := 1) (lv' := [(1, .int (nI (k + 1))), (0, .ref (ad Γ (mo + 0)))]) hx hb dX12_save_90 hl rfl (by decide) (by decide) rfl (fun ls hl => ?_)
      refine lv_goto (tgt := 55) hx hb dX12_save_93 (by decide) ?_
      exact ih55 (G5, k + 1, va_up RL55 (128 + (16 * (fullR R 5)) + k) (fullR R (6 + k))) _ _ _ _ hw hS (lv_sub hl [1, 0] rfl) ⟨rfl, hM, hfr, by (try dsimp only); omega, by (try dsimp only); rw [hR3]; exact movR_s (fullR R) _ 6 k⟩ (by (try dsimp only); omega)
  · refine lv_iconst (v := nI 0) hx hb dX12_save_11 (by decide) ?_
    refine lv_istore_n (lv' := [(1, .int (nI 0)), (0, .ref (ad Γ (mo + 0)))]) hx hb dX12_save_12 rfl hl (by decide) rfl (fun ls hl => ?_)
    refine nr_lpI (σ := (Nat → va_E) × Nat × (Nat → Nat)) 13 (fun x => x.1) (fun x lv => lv = [(0, .ref (ad Γ (mo + 0))), (1, .int (nI x.2.1))] ∧ isM Γ x.1 mo x.2.2 K kp rf ca rc hd fw tl by0 an vl iv ∧ fr G x.1 mo (mo + 13) ∧ (x.2.1 ≤ 112) ∧ (x.2.2 = movR R 128 144 x.2.1)) (fun x => 112 - x.2.1) (G, 0, R) hw hS (lv_sub hl [1, 0] rfl) ⟨rfl, hM, hfr, by (try dsimp only); omega, by (try dsimp only); exact (movR_0 R 128 144)⟩ ?_
    intro x lv ls H locs hw hS hl hI ih13
    obtain ⟨Gl13, k, RL13⟩ := x
    obtain ⟨rfl, hM, hfr, hk, hR2⟩ := hI
    try dsimp only at hM hfr hk hR2 hw hl ih13
    refine lv_iload_n hx hb dX12_save_13 rfl (lv_at hl 1 rfl) ?_
    refine lv_bipush (v := nI 112) hx hb dX12_save_14 (by decide) ?_
    refine nr_icmp_ge (tgt := 45) hx hb (by omega) (by decide) dX12_save_16 (by decide) (fun c6 => ?_) (fun c6 => ?_)
    · refine lv_aload_n hx hb dX12_save_45 rfl (lv_at hl 0 rfl) ?_
      refine nr_get (own := RX12) (C := RX12) (T := TX12) (N := 19) (v := .ref (ad Γ (mo + 1))) hx hb hts hi_X12_save_X12 hown hw (by omega) (isM_0 hM) rfl 0 (by decide) wl_X12_save_1 rfl rfl dX12_save_46 ?_
      refine lv_iconst (v := nI 5) hx hb dX12_save_49 (by decide) ?_
      refine lv_bipush (v := nI 7) hx hb dX12_save_50 (by decide) ?_
      refine nr_iast (k := 5) (v := 7) hx hb hw hj hA hS (by omega) (isM_1 hM) (by omega) (by decide) dX12_save_52 (fun H locs hw hS => ?_)
      have hM := isM_s1 hM (va_up RL13 5 7)
      have hfr := fr_up hfr (i := mo + 1) (by omega) (by omega) (na Γ 256 (va_up RL13 5 7))
      generalize va_up Gl13 (mo + 1) (na Γ 256 (va_up RL13 5 7)) = G7 at hw hM hfr
      refine lv_iconst (v := nI 0) hx hb dX12_save_53 (by decide) ?_
      refine lv_istore_n (lv' := [(1, .int (nI 0)), (0, .ref (ad Γ (mo + 0)))]) hx hb dX12_save_54 rfl hl (by decide) rfl (fun ls hl => ?_)
      refine nr_lpI (σ := (Nat → va_E) × Nat × (Nat → Nat)) 55 (fun x => x.1) (fun x lv => lv = [(0, .ref (ad Γ (mo + 0))), (1, .int (nI x.2.1))] ∧ isM Γ x.1 mo x.2.2 K kp rf ca rc hd fw tl by0 an vl iv ∧ fr G x.1 mo (mo + 13) ∧ (x.2.1 ≤ 16) ∧ (x.2.2 = movR (fullR R) (128 + 16 * fullR R 5) 6 x.2.1)) (fun x => 16 - x.2.1) (G7, 0, va_up RL13 5 7) hw hS (lv_sub hl [1, 0] rfl) ⟨rfl, hM, hfr, by (try dsimp only); omega, by (try dsimp only); rw [← movR_0]; unfold fullR; first | (rw [if_pos (by assumption)]; rw [hR2, show k = 112 by omega]; done) | rw [if_neg (by assumption)]⟩ ?_
      intro x lv ls H locs hw hS hl hI ih55
      obtain ⟨Gl55, k, RL55⟩ := x
      obtain ⟨rfl, hM, hfr, hk, hR3⟩ := hI
      try dsimp only at hM hfr hk hR3 hw hl ih55
      have hfk : fullR R (6 + k) ≤ 1999 := by rw [fullR_o (by omega) (by omega)]; exact hB _
      refine lv_iload_n hx hb dX12_save_55 rfl (lv_at hl 1 rfl) ?_
      refine lv_bipush (v := nI 16) hx hb dX12_save_56 (by decide) ?_
      refine nr_icmp_ge (tgt := 96) hx hb (by omega) (by decide) dX12_save_58 (by decide) (fun c8 => ?_) (fun c8 => ?_)
      · refine lv_aload_n hx hb dX12_save_96 rfl (lv_at hl 0 rfl) ?_
        refine nr_get (own := RX12) (C := RX12) (T := TX12) (N := 19) (v := .ref (ad Γ (mo + 1))) hx hb hts hi_X12_save_X12 hown hw (by omega) (isM_0 hM) rfl 0 (by decide) wl_X12_save_1 rfl rfl dX12_save_97 ?_
        refine lv_iconst (v := nI 5) hx hb dX12_save_100 (by decide) ?_
        refine lv_dup2_11 hx hb dX12_save_101 rfl rfl ?_
        refine nr_iald (x := (fullR R 5)) hx hb hw (by omega) (isM_1 hM) (by rw [hR3]; exact movR_out (by omega)) (by omega) (by decide) dX12_save_102 ?_
        refine lv_iconst (v := nI 1) hx hb dX12_save_103 (by decide) ?_
        refine nr_iadd hx hb dX12_save_104 ?_
        refine nr_iast (k := 5) (v := fullR R 5 + 1) hx hb hw hj hA hS (by omega) (isM_1 hM) (by omega) (by decide) dX12_save_105 (fun H locs hw hS => ?_)
        have hM := isM_s1 hM (va_up RL55 5 (fullR R 5 + 1))
        have hfr := fr_up hfr (i := mo + 1) (by omega) (by omega) (na Γ 256 (va_up RL55 5 (fullR R 5 + 1)))
        generalize va_up Gl55 (mo + 1) (na Γ 256 (va_up RL55 5 (fullR R 5 + 1))) = G9 at hw hM hfr
        exact nr_retV hx hb hr hlocks hw hS (⟨by rw [show saveR R = va_up RL55 5 (fullR R 5 + 1) from (by rw [hR3, show k = 16 by omega]; rfl)]; exact hM, hfr⟩) dX12_save_106
      · refine lv_aload_n hx hb dX12_save_61 rfl (lv_at hl 0 rfl) ?_
        refine nr_get (own := RX12) (C := RX12) (T := TX12) (N := 19) (v := .ref (ad Γ (mo + 1))) hx hb hts hi_X12_save_X12 hown hw (by omega) (isM_0 hM) rfl 0 (by decide) wl_X12_save_1 rfl rfl dX12_save_62 ?_
        refine lv_sipush (v := nI 128) hx hb dX12_save_65 (by decide) ?_
        refine lv_bipush (v := nI 16) hx hb dX12_save_68 (by decide) ?_
        refine lv_aload_n hx hb dX12_save_70 rfl (lv_at hl 0 rfl) ?_
        refine nr_get (own := RX12) (C := RX12) (T := TX12) (N := 19) (v := .ref (ad Γ (mo + 1))) hx hb hts hi_X12_save_X12 hown hw (by omega) (isM_0 hM) rfl 0 (by decide) wl_X12_save_1 rfl rfl dX12_save_71 ?_
        refine lv_iconst (v := nI 5) hx hb dX12_save_74 (by decide) ?_
        refine nr_iald (x := (fullR R 5)) hx hb hw (by omega) (isM_1 hM) (by rw [hR3]; exact movR_out (by omega)) (by omega) (by decide) dX12_save_75 ?_
        refine nr_imul hx hb dX12_save_76 ?_
        refine nr_iadd hx hb dX12_save_77 ?_
        refine lv_iload_n hx hb dX12_save_78 rfl (lv_at hl 1 rfl) ?_
        refine nr_iadd hx hb dX12_save_79 ?_
        refine lv_aload_n hx hb dX12_save_80 rfl (lv_at hl 0 rfl) ?_
        refine nr_get (own := RX12) (C := RX12) (T := TX12) (N := 19) (v := .ref (ad Γ (mo + 1))) hx hb hts hi_X12_save_X12 hown hw (by omega) (isM_0 hM) rfl 0 (by decide) wl_X12_save_1 rfl rfl dX12_save_81 ?_
        refine lv_bipush (v := nI 6) hx hb dX12_save_84 (by decide) ?_
        refine lv_iload_n hx hb dX12_save_86 rfl (lv_at hl 1 rfl) ?_
        refine nr_iadd hx hb dX12_save_87 ?_
        refine nr_iald (x := (fullR R (6 + k))) hx hb hw (by omega) (isM_1 hM) (by rw [hR3]; exact movR_out (by omega)) (by omega) (by decide) dX12_save_88 ?_
        refine nr_iast (k := 128 + (16 * (fullR R 5)) + k) (v := fullR R (6 + k)) hx hb hw hj hA hS (by omega) (isM_1 hM) (by omega) (by decide) dX12_save_89 (fun H locs hw hS => ?_)
        have hM := isM_s1 hM (va_up RL55 (128 + (16 * (fullR R 5)) + k) (fullR R (6 + k)))
        have hfr := fr_up hfr (i := mo + 1) (by omega) (by omega) (na Γ 256 (va_up RL55 (128 + (16 * (fullR R 5)) + k) (fullR R (6 + k))))
        generalize va_up Gl55 (mo + 1) (na Γ 256 (va_up RL55 (128 + (16 * (fullR R 5)) + k) (fullR R (6 + k)))) = G10 at hw hM hfr
        refine nr_inc (d := 1) (k := 1) (lv' := [(1, .int (nI (k + 1))), (0, .ref (ad Γ (mo + 0)))]) hx hb dX12_save_90 hl rfl (by decide) (by decide) rfl (fun ls hl => ?_)
        refine lv_goto (tgt := 55) hx hb dX12_save_93 (by decide) ?_
        exact ih55 (G10, k + 1, va_up RL55 (128 + (16 * (fullR R 5)) + k) (fullR R (6 + k))) _ _ _ _ hw hS (lv_sub hl [1, 0] rfl) ⟨rfl, hM, hfr, by (try dsimp only); omega, by (try dsimp only); rw [hR3]; exact movR_s (fullR R) _ 6 k⟩ (by (try dsimp only); omega)
    · refine lv_aload_n hx hb dX12_save_19 rfl (lv_at hl 0 rfl) ?_
      refine nr_get (own := RX12) (C := RX12) (T := TX12) (N := 19) (v := .ref (ad Γ (mo + 1))) hx hb hts hi_X12_save_X12 hown hw (by omega) (isM_0 hM) rfl 0 (by decide) wl_X12_save_1 rfl rfl dX12_save_20 ?_
      refine lv_sipush (v := nI 128) hx hb dX12_save_23 (by decide) ?_
      refine lv_iload_n hx hb dX12_save_26 rfl (lv_at hl 1 rfl) ?_
      refine nr_iadd hx hb dX12_save_27 ?_
      refine lv_aload_n hx hb dX12_save_28 rfl (lv_at hl 0 rfl) ?_
      refine nr_get (own := RX12) (C := RX12) (T := TX12) (N := 19) (v := .ref (ad Γ (mo + 1))) hx hb hts hi_X12_save_X12 hown hw (by omega) (isM_0 hM) rfl 0 (by decide) wl_X12_save_1 rfl rfl dX12_save_29 ?_
      refine lv_sipush (v := nI 144) hx hb dX12_save_32 (by decide) ?_
      refine lv_iload_n hx hb dX12_save_35 rfl (lv_at hl 1 rfl) ?_
      refine nr_iadd hx hb dX12_save_36 ?_
      refine nr_iald (x := (R (144 + k))) hx hb hw (by omega) (isM_1 hM) (by rw [hR2]; exact movR_out (by omega)) (by omega) (by decide) dX12_save_37 ?_
      refine nr_iast (k := 128 + k) (v := R (144 + k)) hx hb hw hj hA hS (by omega) (isM_1 hM) (by omega) (by decide) dX12_save_38 (fun H locs hw hS => ?_)
      have hM := isM_s1 hM (va_up RL13 (128 + k) (R (144 + k)))
      have hfr := fr_up hfr (i := mo + 1) (by omega) (by omega) (na Γ 256 (va_up RL13 (128 + k) (R (144 + k))))
      generalize va_up Gl13 (mo + 1) (na Γ 256 (va_up RL13 (128 + k) (R (144 + k)))) = G11 at hw hM hfr
      refine nr_inc (d := 1) (k := 1) (lv' := [(1, .int (nI (k + 1))), (0, .ref (ad Γ (mo + 0)))]) hx hb dX12_save_39 hl rfl (by decide) (by decide) rfl (fun ls hl => ?_)
      refine lv_goto (tgt := 13) hx hb dX12_save_42 (by decide) ?_
      exact ih13 (G11, k + 1, va_up RL13 (128 + k) (R (144 + k))) _ _ _ _ hw hS (lv_sub hl [1, 0] rfl) ⟨rfl, hM, hfr, by (try dsimp only); omega, by (try dsimp only); rw [hR2]; exact movR_s R 128 144 k⟩ (by (try dsimp only); omega)
theorem wl_X12_days_1 : Cond.constantLong RX12 109 (60) ∈ wsX12_days := List.mem_of_getElem? (i := 1) rfl
theorem wl_X12_days_2 : Cond.fieldLink RX12 7 "BellForgivenModel" "all" "[I" ∈ wsX12_days := List.mem_of_getElem? (i := 2) rfl
theorem hi_X12_days_X12 : ∀ w ∈ u_ws RX12 TX12 19, w ∈ wsX12_days := fun w h => (List.mem_cons_of_mem _ (List.mem_append_right _ h))
set_option maxHeartbeats 4000000 in
set_option maxRecDepth 100000 in
theorem c_X12_days (l : Launch) (Γ : Gam) (n : Nat) (G : Nat → va_E) (mo : Nat) (R K kp rf ca rc hd fw tl by0 an vl iv : Nat → Nat) (hM : isM Γ G mo R K kp rf ca rc hd fw tl by0 an vl iv) (hmo : mo + 13 ≤ n) (hI : vI R) (hj : winj Γ n) (q : Int32) (h21 : R 21 ≤ 999)  : Met l yX12_days wsX12_days ({ frames := 3, cells := 0, slots := 0, locals := 64 }) (va_Pc [.ref (ad Γ (mo + 0)), .int q] (fun U => hw Γ n G U U.heap)) (wQi Γ n (fun z G2 => ((¬ vRng 1 60 q) ∧ (z = -2) ∧ isM Γ G2 mo R K kp (bmp rf 0) ca rc hd fw tl by0 an vl iv ∧ fr G G2 mo (mo + 13)) ∨ (∃ jq : Nat, (1 ≤ jq) ∧ (jq ≤ 60) ∧ (q = nI jq) ∧ (z = nI (itD (saveR R) (min jq (999 - R 21)) 21)) ∧ isM Γ G2 mo (itD (saveR R) (min jq (999 - R 21))) K kp rf ca rc hd fw tl by0 an vl iv ∧ fr G G2 mo (mo + 13)))) 0 0 (wA Γ n) := by
  refine Met.ofW (cc := cX12_days) (maxL := 2) (ret := (some .int)) (by decide) rfl ?_
  intro p e s m args below meth c s₁ B hml hv
  obtain ⟨rfl, hw⟩ := hv
  have hx := B.exec
  have hb := B.bytes
  have hr := B.returns
  have hts := atoms_spec (ws := wsX12_days) B.pre
  have hown : s.vm.findClass RX12 = some m.cls := findClass_of_methodNamed B.named
  have hlocks := B.notSynchronized
  have hS : va_S (wA Γ n) s.heap s.heap [] := va_S.rf
  have hA : ∀ q, wA Γ n q → wA Γ n q := fun _ h => h
  have hl := lv_entry ([.ref (ad Γ (mo + 0)), .int q]) (n := 2) (Nat.le_of_ble_eq_true rfl)
  rw [lg_entry_eq]
  generalize (lg_sl ([.ref (ad Γ (mo + 0)), .int q]) ++ List.replicate (2 - (lg_sl ([.ref (ad Γ (mo + 0)), .int q])).length) Slot.unset).toArray = ls at hl ⊢
  have hl : lv_has ls 2 [(0, .ref (ad Γ (mo + 0))), (1, .int q)] := hl
  have hfr := fr_rf G mo (mo + 13)
  have hB := hI.1
  have hB0 := hI.2.1
  have hB1 := hI.2.2.1
  have hB20 := hI.2.2.2.2.2.2.2.2.2
  have hBz2 := hI.2.2.2.1
  have hBz3 := hI.2.2.2.2.1
  have hBz4 := hI.2.2.2.2.2.1
  have hBz5 := hI.2.2.2.2.2.2.1
  have hby := hI.2.2.2.2.2.2.2.1
  have hto := hI.2.2.2.2.2.2.2.2.1
  have hs21 : saveR R 21 = R 21 := saveR_o (by decide) (by decide)
  refine lv_iload_n hx hb dX12_days_0 rfl (lv_at hl 1 rfl) ?_
  refine lv_i2l (v := (q).toInt64) hx hb dX12_days_1 rfl ?_
  refine lv_lconst (v := lN 1) hx hb dX12_days_2 rfl ?_
  refine nr_ldc2 (k := 60) hx hb hown (hts _ wl_X12_days_1) (by decide) dX12_days_3 ?_
  refine nr_goB (P := (lN 1) ≤ ((q).toInt64) ∧ ((q).toInt64) ≤ (lN 60)) (nr_runS (As := [.long ((q).toInt64), .long (lN 1), .long (lN 60)]) ⟨hx, hb, hml, hown, hts⟩ hw (c_X12_in l Γ n G ((q).toInt64) (lN 1) (lN 60)) (va_cwS 3 hts gX12_days_X12_in rfl rfl rfl (by decide +kernel) ⟨Nat.le_of_ble_eq_true rfl, Nat.le_of_ble_eq_true rfl⟩) rfl hl.1 rfl (Nat.le_of_ble_eq_true rfl) dX12_days_6 ⟨Nat.zero_le _, Nat.zero_le _⟩) (fun b1 => ?_) (fun b1 => ?_)
  · obtain ⟨jq, hjqa, hjqb, rfl⟩ := (in_c (a := 1) (b := 60) (by decide) (by decide)).mp b1
    refine nr_if_ne (tgt := 19) hx hb (by decide) dX12_days_9 (by decide) (fun c2 => ?_) (fun c2 => absurd c2 (by decide))
    refine lv_aload_n hx hb dX12_days_19 rfl (lv_at hl 0 rfl) ?_
    refine nr_goV (nr_runV (As := []) (C := RX12) (T := TX12) (N := 19) ⟨hx, hb, hml, hown, hts⟩ hw (by omega) (isM_0 hM) rfl (c_X12_save l Γ n G mo R K kp rf ca rc hd fw tl by0 an vl iv hM (by omega) hI hj) (cwV 0 hts gX12_days_X12_save rfl rfl rfl (by decide +kernel) ⟨Nat.le_of_ble_eq_true rfl, Nat.le_of_ble_eq_true rfl⟩) rfl hl.1 rfl (Nat.le_of_ble_eq_true rfl) dX12_days_20 ⟨Nat.zero_le _, Nat.zero_le _⟩) hw hA hS (fun G3 H locs hp hw hS => ?_)
    obtain ⟨hM, hfr3⟩ := hp
    have hfr := fr_tr hfr hfr3 (Nat.le_refl _) (Nat.le_refl _)
    refine lv_aload_n hx hb dX12_days_23 rfl (lv_at hl 0 rfl) ?_
    refine nr_get (own := RX12) (C := RX12) (T := TX12) (N := 19) (v := .ref (ad Γ (mo + 1))) hx hb hts hi_X12_days_X12 hown hw (by omega) (isM_0 hM) rfl 0 (by decide) wl_X12_days_2 rfl rfl dX12_days_24 ?_
    refine lv_iload_n hx hb dX12_days_27 rfl (lv_at hl 1 rfl) ?_
    refine nr_goV (nr_runS (As := [.ref (ad Γ (mo + 1)), .int (nI jq)]) ⟨hx, hb, hml, hown, hts⟩ hw (c_X12_goDays l Γ n G3 (mo + 1) 256 (saveR R) (isM_1 hM) (by omega) (by omega) (by omega) (vI_a (vI_save hI)) hj jq (by omega) (by omega)) (va_cwS 2 hts gX12_days_X12_goDays rfl rfl rfl (by decide +kernel) ⟨Nat.le_of_ble_eq_true rfl, Nat.le_of_ble_eq_true rfl⟩) rfl hl.1 rfl (Nat.le_of_ble_eq_true rfl) dX12_days_28 ⟨Nat.zero_le _, Nat.zero_le _⟩) hw hA hS (fun G4 H locs hp hw hS => ?_)
    subst hp
    have hM := isM_s1 hM (itD (saveR R) (min jq (999 - (saveR R) 21)))
    have hfr := fr_up hfr (i := mo + 1) (by omega) (by omega) (na Γ 256 (itD (saveR R) (min jq (999 - (saveR R) 21))))
    generalize va_up G3 (mo + 1) (na Γ 256 (itD (saveR R) (min jq (999 - (saveR R) 21)))) = G5 at hw hM hfr
    rw [hs21] at hM
    refine lv_aload_n hx hb dX12_days_31 rfl (lv_at hl 0 rfl) ?_
    refine nr_get (own := RX12) (C := RX12) (T := TX12) (N := 19) (v := .ref (ad Γ (mo + 1))) hx hb hts hi_X12_days_X12 hown hw (by omega) (isM_0 hM) rfl 0 (by decide) wl_X12_days_2 rfl rfl dX12_days_32 ?_
    refine lv_bipush (v := nI 21) hx hb dX12_days_35 (by decide) ?_
    refine nr_iald (x := ((itD (saveR R) (min jq (999 - R 21))) 21)) hx hb hw (by omega) (isM_1 hM) rfl (by omega) (by decide) dX12_days_37 ?_
    exact nr_retI hx hb hr hlocks hw hS (Or.inr (⟨jq, hjqa, hjqb, rfl, rfl, hM, hfr⟩)) dX12_days_38
  · have b1n : ¬ vRng 1 60 q := fun hh => b1 ((in_c (by decide) (by decide)).mpr hh)
    refine nr_if_ne (tgt := 19) hx hb (by decide) dX12_days_9 (by decide) (fun c6 => absurd c6 (by decide)) (fun c6 => ?_)
    refine lv_aload_n hx hb dX12_days_12 rfl (lv_at hl 0 rfl) ?_
    refine lv_bipush (v := (-2)) hx hb dX12_days_13 (by decide) ?_
    refine nr_goI (nr_runV (As := [.int (-2)]) (C := RX12) (T := TX12) (N := 19) ⟨hx, hb, hml, hown, hts⟩ hw (by omega) (isM_0 hM) rfl (c_X12_bad l Γ n G mo R K kp rf ca rc hd fw tl by0 an vl iv hM (by omega) hI hj (-2)) (cwV 1 hts gX12_days_X12_bad rfl rfl rfl (by decide +kernel) ⟨Nat.le_of_ble_eq_true rfl, Nat.le_of_ble_eq_true rfl⟩) rfl hl.1 rfl (Nat.le_of_ble_eq_true rfl) dX12_days_15 ⟨Nat.zero_le _, Nat.zero_le _⟩) hw hA hS (fun z7 G7 H locs hp hw hS => ?_)
    obtain ⟨ha7, hM, hfr7⟩ := hp
    have hfr := fr_tr hfr hfr7 (Nat.le_refl _) (Nat.le_refl _)
    subst ha7
    exact nr_retI hx hb hr hlocks hw hS (Or.inl ⟨by assumption, rfl, hM, hfr⟩) dX12_days_18
theorem wl_X12_undo_1 : Cond.fieldLink RX12 7 "BellForgivenModel" "all" "[I" ∈ wsX12_undo := List.mem_of_getElem? (i := 1) rfl
theorem hi_X12_undo_X12 : ∀ w ∈ u_ws RX12 TX12 19, w ∈ wsX12_undo := fun w h => (List.mem_cons_of_mem _ (List.mem_append_right _ h))
set_option maxHeartbeats 4000000 in
set_option maxRecDepth 100000 in
theorem c_X12_undo (l : Launch) (Γ : Gam) (n : Nat) (G : Nat → va_E) (mo : Nat) (R K kp rf ca rc hd fw tl by0 an vl iv : Nat → Nat) (hM : isM Γ G mo R K kp rf ca rc hd fw tl by0 an vl iv) (hmo : mo + 13 ≤ n) (hI : vI R) (hj : winj Γ n)  : Met l yX12_undo wsX12_undo ({ frames := 1, cells := 0, slots := 0, locals := 20 }) (va_Pc [.ref (ad Γ (mo + 0))] (fun U => hw Γ n G U U.heap)) (wQi Γ n (fun z G2 => ((R 5 = 0) ∧ (z = -3) ∧ isM Γ G2 mo R K kp (bmp rf 1) ca rc hd fw tl by0 an vl iv ∧ fr G G2 mo (mo + 13)) ∨ ((¬ R 5 = 0) ∧ (z = nI (popR R 21)) ∧ isM Γ G2 mo (popR R) K kp rf ca rc hd fw tl by0 an vl iv ∧ fr G G2 mo (mo + 13)))) 0 0 (wA Γ n) := by
  refine Met.ofW (cc := cX12_undo) (maxL := 2) (ret := (some .int)) (by decide) rfl ?_
  intro p e s m args below meth c s₁ B hml hv
  obtain ⟨rfl, hw⟩ := hv
  have hx := B.exec
  have hb := B.bytes
  have hr := B.returns
  have hts := atoms_spec (ws := wsX12_undo) B.pre
  have hown : s.vm.findClass RX12 = some m.cls := findClass_of_methodNamed B.named
  have hlocks := B.notSynchronized
  have hS : va_S (wA Γ n) s.heap s.heap [] := va_S.rf
  have hA : ∀ q, wA Γ n q → wA Γ n q := fun _ h => h
  have hl := lv_entry ([.ref (ad Γ (mo + 0))]) (n := 2) (Nat.le_of_ble_eq_true rfl)
  rw [lg_entry_eq]
  generalize (lg_sl ([.ref (ad Γ (mo + 0))]) ++ List.replicate (2 - (lg_sl ([.ref (ad Γ (mo + 0))])).length) Slot.unset).toArray = ls at hl ⊢
  have hl : lv_has ls 2 [(0, .ref (ad Γ (mo + 0)))] := hl
  have hfr := fr_rf G mo (mo + 13)
  have hB := hI.1
  have hB0 := hI.2.1
  have hB1 := hI.2.2.1
  have hB20 := hI.2.2.2.2.2.2.2.2.2
  have hBz2 := hI.2.2.2.1
  have hBz3 := hI.2.2.2.2.1
  have hBz4 := hI.2.2.2.2.2.1
  have hBz5 := hI.2.2.2.2.2.2.1
  have hby := hI.2.2.2.2.2.2.2.1
  have hto := hI.2.2.2.2.2.2.2.2.1
  refine lv_aload_n hx hb dX12_undo_0 rfl (lv_at hl 0 rfl) ?_
  refine nr_get (own := RX12) (C := RX12) (T := TX12) (N := 19) (v := .ref (ad Γ (mo + 1))) hx hb hts hi_X12_undo_X12 hown hw (by omega) (isM_0 hM) rfl 0 (by decide) wl_X12_undo_1 rfl rfl dX12_undo_1 ?_
  refine lv_iconst (v := nI 5) hx hb dX12_undo_4 (by decide) ?_
  refine nr_iald (x := (R 5)) hx hb hw (by omega) (isM_1 hM) rfl (by omega) (by decide) dX12_undo_5 ?_
  have hL1 := hB (5)
  refine nr_if_ne (tgt := 14) hx hb (by omega) dX12_undo_6 (by decide) (fun c2 => ?_) (fun c2 => ?_)
  · refine lv_aload_n hx hb dX12_undo_14 rfl (lv_at hl 0 rfl) ?_
    refine nr_get (own := RX12) (C := RX12) (T := TX12) (N := 19) (v := .ref (ad Γ (mo + 1))) hx hb hts hi_X12_undo_X12 hown hw (by omega) (isM_0 hM) rfl 0 (by decide) wl_X12_undo_1 rfl rfl dX12_undo_15 ?_
    refine lv_iconst (v := nI 5) hx hb dX12_undo_18 (by decide) ?_
    refine lv_dup2_11 hx hb dX12_undo_19 rfl rfl ?_
    refine nr_iald (x := (R 5)) hx hb hw (by omega) (isM_1 hM) rfl (by omega) (by decide) dX12_undo_20 ?_
    have hL3 := hB (5)
    refine lv_iconst (v := nI 1) hx hb dX12_undo_21 (by decide) ?_
    refine nr_isub hx hb (by omega) dX12_undo_22 ?_
    refine nr_iast (k := 5) (v := (R 5) - 1) hx hb hw hj hA hS (by omega) (isM_1 hM) (by omega) (by decide) dX12_undo_23 (fun H locs hw hS => ?_)
    have hM := isM_s1 hM (va_up R 5 ((R 5) - 1))
    have hfr := fr_up hfr (i := mo + 1) (by omega) (by omega) (na Γ 256 (va_up R 5 ((R 5) - 1)))
    generalize va_up G (mo + 1) (na Γ 256 (va_up R 5 ((R 5) - 1))) = G4 at hw hM hfr
    refine lv_iconst (v := nI 0) hx hb dX12_undo_24 (by decide) ?_
    refine lv_istore_n (lv' := [(1, .int (nI 0)), (0, .ref (ad Γ (mo + 0)))]) hx hb dX12_undo_25 rfl hl (by decide) rfl (fun ls hl => ?_)
    refine nr_lpI (σ := (Nat → va_E) × Nat × (Nat → Nat)) 26 (fun x => x.1) (fun x lv => lv = [(0, .ref (ad Γ (mo + 0))), (1, .int (nI x.2.1))] ∧ isM Γ x.1 mo x.2.2 K kp rf ca rc hd fw tl by0 an vl iv ∧ fr G x.1 mo (mo + 13) ∧ (x.2.1 ≤ 16) ∧ (x.2.2 = movR (va_up R 5 (R 5 - 1)) 6 (128 + 16 * (R 5 - 1)) x.2.1)) (fun x => 16 - x.2.1) (G4, 0, va_up R 5 ((R 5) - 1)) hw hS (lv_sub hl [1, 0] rfl) ⟨rfl, hM, hfr, by (try dsimp only); omega, by (try dsimp only); exact (movR_0 _ _ _)⟩ ?_
    intro x lv ls H locs hw hS hl hI ih26
    obtain ⟨Gl26, k, RL26⟩ := x
    obtain ⟨rfl, hM, hfr, hk, hR2⟩ := hI
    try dsimp only at hM hfr hk hR2 hw hl ih26
    have hu9 : va_up R 5 (R 5 - 1) (128 + 16 * (R 5 - 1) + k) ≤ 1999 := by rw [va_up_ne _ _ (by omega)]; exact hB _
    refine lv_iload_n hx hb dX12_undo_26 rfl (lv_at hl 1 rfl) ?_
    refine lv_bipush (v := nI 16) hx hb dX12_undo_27 (by decide) ?_
    refine nr_icmp_ge (tgt := 67) hx hb (by omega) (by decide) dX12_undo_29 (by decide) (fun c5 => ?_) (fun c5 => ?_)
    · obtain rfl : k = 16 := by omega
      have hR4 : RL26 = popR R := hR2
      subst hR4
      refine lv_aload_n hx hb dX12_undo_67 rfl (lv_at hl 0 rfl) ?_
      refine nr_get (own := RX12) (C := RX12) (T := TX12) (N := 19) (v := .ref (ad Γ (mo + 1))) hx hb hts hi_X12_undo_X12 hown hw (by omega) (isM_0 hM) rfl 0 (by decide) wl_X12_undo_1 rfl rfl dX12_undo_68 ?_
      refine lv_bipush (v := nI 21) hx hb dX12_undo_71 (by decide) ?_
      refine nr_iald (x := ((popR R) 21)) hx hb hw (by omega) (isM_1 hM) rfl (by omega) (by decide) dX12_undo_73 ?_
      exact nr_retI hx hb hr hlocks hw hS (Or.inr (⟨by assumption, rfl, hM, hfr⟩)) dX12_undo_74
    · refine lv_aload_n hx hb dX12_undo_32 rfl (lv_at hl 0 rfl) ?_
      refine nr_get (own := RX12) (C := RX12) (T := TX12) (N := 19) (v := .ref (ad Γ (mo + 1))) hx hb hts hi_X12_undo_X12 hown hw (by omega) (isM_0 hM) rfl 0 (by decide) wl_X12_undo_1 rfl rfl dX12_undo_33 ?_
      refine lv_bipush (v := nI 6) hx hb dX12_undo_36 (by decide) ?_
      refine lv_iload_n hx hb dX12_undo_38 rfl (lv_at hl 1 rfl) ?_
      refine nr_iadd hx hb dX12_undo_39 ?_
      refine lv_aload_n hx hb dX12_undo_40 rfl (lv_at hl 0 rfl) ?_
      refine nr_get (own := RX12) (C := RX12) (T := TX12) (N := 19) (v := .ref (ad Γ (mo + 1))) hx hb hts hi_X12_undo_X12 hown hw (by omega) (isM_0 hM) rfl 0 (by decide) wl_X12_undo_1 rfl rfl dX12_undo_41 ?_
      refine lv_sipush (v := nI 128) hx hb dX12_undo_44 (by decide) ?_
      refine lv_bipush (v := nI 16) hx hb dX12_undo_47 (by decide) ?_
      refine lv_aload_n hx hb dX12_undo_49 rfl (lv_at hl 0 rfl) ?_
      refine nr_get (own := RX12) (C := RX12) (T := TX12) (N := 19) (v := .ref (ad Γ (mo + 1))) hx hb hts hi_X12_undo_X12 hown hw (by omega) (isM_0 hM) rfl 0 (by decide) wl_X12_undo_1 rfl rfl dX12_undo_50 ?_
      refine lv_iconst (v := nI 5) hx hb dX12_undo_53 (by decide) ?_
      refine nr_iald (x := (R 5 - 1)) hx hb hw (by omega) (isM_1 hM) (by rw [hR2, movR_out (by omega)]; exact va_up_self _ _ _) (by omega) (by decide) dX12_undo_54 ?_
      refine nr_imul hx hb dX12_undo_55 ?_
      refine nr_iadd hx hb dX12_undo_56 ?_
      refine lv_iload_n hx hb dX12_undo_57 rfl (lv_at hl 1 rfl) ?_
      refine nr_iadd hx hb dX12_undo_58 ?_
      refine nr_iald (x := (va_up R 5 (R 5 - 1) (128 + 16 * (R 5 - 1) + k))) hx hb hw (by omega) (isM_1 hM) (by rw [hR2]; exact movR_out (by omega)) (by omega) (by decide) dX12_undo_59 ?_
      refine nr_iast (k := 6 + k) (v := va_up R 5 (R 5 - 1) (128 + 16 * (R 5 - 1) + k)) hx hb hw hj hA hS (by omega) (isM_1 hM) (by omega) (by decide) dX12_undo_60 (fun H locs hw hS => ?_)
      have hM := isM_s1 hM (va_up RL26 (6 + k) (va_up R 5 (R 5 - 1) (128 + 16 * (R 5 - 1) + k)))
      have hfr := fr_up hfr (i := mo + 1) (by omega) (by omega) (na Γ 256 (va_up RL26 (6 + k) (va_up R 5 (R 5 - 1) (128 + 16 * (R 5 - 1) + k))))
      generalize va_up Gl26 (mo + 1) (na Γ 256 (va_up RL26 (6 + k) (va_up R 5 (R 5 - 1) (128 + 16 * (R 5 - 1) + k)))) = G6 at hw hM hfr
      refine nr_inc (d := 1) (k := 1) (lv' := [(1, .int (nI (k + 1))), (0, .ref (ad Γ (mo + 0)))]) hx hb dX12_undo_61 hl rfl (by decide) (by decide) rfl (fun ls hl => ?_)
      refine lv_goto (tgt := 26) hx hb dX12_undo_64 (by decide) ?_
      exact ih26 (G6, k + 1, va_up RL26 (6 + k) (va_up R 5 (R 5 - 1) (128 + 16 * (R 5 - 1) + k))) _ _ _ _ hw hS (lv_sub hl [1, 0] rfl) ⟨rfl, hM, hfr, by (try dsimp only); omega, by (try dsimp only); rw [hR2]; exact movR_s _ 6 _ k⟩ (by (try dsimp only); omega)
  · refine lv_aload_n hx hb dX12_undo_9 rfl (lv_at hl 0 rfl) ?_
    refine nr_goI (nr_runV (As := []) (C := RX12) (T := TX12) (N := 19) ⟨hx, hb, hml, hown, hts⟩ hw (by omega) (isM_0 hM) rfl (c_X12_no l Γ n G mo R K kp rf ca rc hd fw tl by0 an vl iv hM (by omega) hI hj) (cwV 0 hts gX12_undo_X12_no rfl rfl rfl (by decide +kernel) ⟨Nat.le_of_ble_eq_true rfl, Nat.le_of_ble_eq_true rfl⟩) rfl hl.1 rfl (Nat.le_of_ble_eq_true rfl) dX12_undo_10 ⟨Nat.zero_le _, Nat.zero_le _⟩) hw hA hS (fun z7 G7 H locs hp hw hS => ?_)
    obtain ⟨ha7, hM, hfr7⟩ := hp
    have hfr := fr_tr hfr hfr7 (Nat.le_refl _) (Nat.le_refl _)
    subst ha7
    exact nr_retI hx hb hr hlocks hw hS (Or.inl ⟨by assumption, rfl, hM, hfr⟩) dX12_undo_13
theorem wl_X12_rings_1 : Cond.fieldLink RX12 7 "BellForgivenModel" "all" "[I" ∈ wsX12_rings := List.mem_of_getElem? (i := 1) rfl
theorem hi_X12_rings_X12 : ∀ w ∈ u_ws RX12 TX12 19, w ∈ wsX12_rings := fun w h => (List.mem_cons_of_mem _ (List.mem_append_right _ h))
set_option maxHeartbeats 4000000 in
set_option maxRecDepth 100000 in
theorem c_X12_rings (l : Launch) (Γ : Gam) (n : Nat) (G : Nat → va_E) (mo : Nat) (R K kp rf ca rc hd fw tl by0 an vl iv : Nat → Nat) (hM : isM Γ G mo R K kp rf ca rc hd fw tl by0 an vl iv) (hmo : mo + 13 ≤ n) (hI : vI R) (hj : winj Γ n) (k : Int32)  : Met l yX12_rings wsX12_rings ({ frames := 3, cells := 0, slots := 0, locals := 66 }) (va_Pc [.ref (ad Γ (mo + 0)), .int k] (fun U => hw Γ n G U U.heap)) (wQi Γ n (fun z G2 => ((¬ vBel (R 1) k) ∧ (z = -2) ∧ isM Γ G2 mo R K kp (bmp rf 0) ca rc hd fw tl by0 an vl iv ∧ fr G G2 mo (mo + 13)) ∨ (∃ jk : Nat, (jk < R 1) ∧ (k = nI jk) ∧ (¬ canP R jk) ∧ (z = -3) ∧ isM Γ G2 mo R K kp (bmp rf 1) ca rc hd fw tl by0 an vl iv ∧ fr G G2 mo (mo + 13)) ∨ (∃ jk : Nat, (jk < R 1) ∧ (k = nI jk) ∧ (canP R jk) ∧ (z = nI (offR (saveR R) jk 1 (6 + R (36 + jk)))) ∧ isM Γ G2 mo (offR (saveR R) jk 1) K kp rf ca rc hd fw tl by0 an vl iv ∧ fr G G2 mo (mo + 13)))) 0 0 (wA Γ n) := by
  refine Met.ofW (cc := cX12_rings) (maxL := 2) (ret := (some .int)) (by decide) rfl ?_
  intro p e s m args below meth c s₁ B hml hv
  obtain ⟨rfl, hw⟩ := hv
  have hx := B.exec
  have hb := B.bytes
  have hr := B.returns
  have hts := atoms_spec (ws := wsX12_rings) B.pre
  have hown : s.vm.findClass RX12 = some m.cls := findClass_of_methodNamed B.named
  have hlocks := B.notSynchronized
  have hS : va_S (wA Γ n) s.heap s.heap [] := va_S.rf
  have hA : ∀ q, wA Γ n q → wA Γ n q := fun _ h => h
  have hl := lv_entry ([.ref (ad Γ (mo + 0)), .int k]) (n := 2) (Nat.le_of_ble_eq_true rfl)
  rw [lg_entry_eq]
  generalize (lg_sl ([.ref (ad Γ (mo + 0)), .int k]) ++ List.replicate (2 - (lg_sl ([.ref (ad Γ (mo + 0)), .int k])).length) Slot.unset).toArray = ls at hl ⊢
  have hl : lv_has ls 2 [(0, .ref (ad Γ (mo + 0))), (1, .int k)] := hl
  have hfr := fr_rf G mo (mo + 13)
  have hB := hI.1
  have hB0 := hI.2.1
  have hB1 := hI.2.2.1
  have hB20 := hI.2.2.2.2.2.2.2.2.2
  have hBz2 := hI.2.2.2.1
  have hBz3 := hI.2.2.2.2.1
  have hBz4 := hI.2.2.2.2.2.1
  have hBz5 := hI.2.2.2.2.2.2.1
  have hby := hI.2.2.2.2.2.2.2.1
  have hto := hI.2.2.2.2.2.2.2.2.1
  refine lv_aload_n hx hb dX12_rings_0 rfl (lv_at hl 0 rfl) ?_
  refine lv_iload_n hx hb dX12_rings_1 rfl (lv_at hl 1 rfl) ?_
  refine nr_goB (P := ∃ j, j < R 1 ∧ k = nI j) (nr_runV (As := [.int k]) (C := RX12) (T := TX12) (N := 19) ⟨hx, hb, hml, hown, hts⟩ hw (by omega) (isM_0 hM) rfl (c_X12_isWrong l Γ n G mo R K kp rf ca rc hd fw tl by0 an vl iv hM (by omega) hI k) (cwV 1 hts gX12_rings_X12_isWrong rfl rfl rfl (by decide +kernel) ⟨Nat.le_of_ble_eq_true rfl, Nat.le_of_ble_eq_true rfl⟩) rfl hl.1 rfl (Nat.le_of_ble_eq_true rfl) dX12_rings_2 ⟨Nat.zero_le _, Nat.zero_le _⟩) (fun b1 => ?_) (fun b1 => ?_)
  · obtain ⟨jk, hjk, rfl⟩ := b1
    refine nr_if_ne (tgt := 15) hx hb (by decide) dX12_rings_5 (by decide) (fun c2 => ?_) (fun c2 => absurd c2 (by decide))
    refine lv_aload_n hx hb dX12_rings_15 rfl (lv_at hl 0 rfl) ?_
    refine nr_get (own := RX12) (C := RX12) (T := TX12) (N := 19) (v := .ref (ad Γ (mo + 1))) hx hb hts hi_X12_rings_X12 hown hw (by omega) (isM_0 hM) rfl 0 (by decide) wl_X12_rings_1 rfl rfl dX12_rings_16 ?_
    refine lv_iload_n hx hb dX12_rings_19 rfl (lv_at hl 1 rfl) ?_
    refine nr_goB (P := canP R jk) (nr_runS (As := [.ref (ad Γ (mo + 1)), .int (nI jk)]) ⟨hx, hb, hml, hown, hts⟩ hw (c_X12_canOff l Γ n G (mo + 1) 256 R (isM_1 hM) (by omega) (by omega) (by omega) (vI_a hI) jk (by omega)) (va_cwS 2 hts gX12_rings_X12_canOff rfl rfl rfl (by decide +kernel) ⟨Nat.le_of_ble_eq_true rfl, Nat.le_of_ble_eq_true rfl⟩) rfl hl.1 rfl (Nat.le_of_ble_eq_true rfl) dX12_rings_20 ⟨Nat.zero_le _, Nat.zero_le _⟩) (fun b3 => ?_) (fun b3 => ?_)
    · refine nr_if_ne (tgt := 31) hx hb (by decide) dX12_rings_23 (by decide) (fun c4 => ?_) (fun c4 => absurd c4 (by decide))
      refine lv_aload_n hx hb dX12_rings_31 rfl (lv_at hl 0 rfl) ?_
      refine nr_goV (nr_runV (As := []) (C := RX12) (T := TX12) (N := 19) ⟨hx, hb, hml, hown, hts⟩ hw (by omega) (isM_0 hM) rfl (c_X12_save l Γ n G mo R K kp rf ca rc hd fw tl by0 an vl iv hM (by omega) hI hj) (cwV 0 hts gX12_rings_X12_save rfl rfl rfl (by decide +kernel) ⟨Nat.le_of_ble_eq_true rfl, Nat.le_of_ble_eq_true rfl⟩) rfl hl.1 rfl (Nat.le_of_ble_eq_true rfl) dX12_rings_32 ⟨Nat.zero_le _, Nat.zero_le _⟩) hw hA hS (fun G5 H locs hp hw hS => ?_)
      obtain ⟨hM, hfr5⟩ := hp
      have hfr := fr_tr hfr hfr5 (Nat.le_refl _) (Nat.le_refl _)
      refine lv_aload_n hx hb dX12_rings_35 rfl (lv_at hl 0 rfl) ?_
      refine nr_get (own := RX12) (C := RX12) (T := TX12) (N := 19) (v := .ref (ad Γ (mo + 1))) hx hb hts hi_X12_rings_X12 hown hw (by omega) (isM_0 hM) rfl 0 (by decide) wl_X12_rings_1 rfl rfl dX12_rings_36 ?_
      refine lv_iload_n hx hb dX12_rings_39 rfl (lv_at hl 1 rfl) ?_
      refine lv_iconst (v := nI 1) hx hb dX12_rings_40 (by decide) ?_
      refine nr_goV (nr_runS (As := [.ref (ad Γ (mo + 1)), .int (nI jk), .int (nI 1)]) ⟨hx, hb, hml, hown, hts⟩ hw (c_X12_goOff l Γ n G5 (mo + 1) 256 (saveR R) (isM_1 hM) (by omega) (by omega) (by omega) (vI_a (vI_save hI)) hj jk 1 (by omega) (by omega)) (va_cwS 3 hts gX12_rings_X12_goOff rfl rfl rfl (by decide +kernel) ⟨Nat.le_of_ble_eq_true rfl, Nat.le_of_ble_eq_true rfl⟩) rfl hl.1 rfl (Nat.le_of_ble_eq_true rfl) dX12_rings_41 ⟨Nat.zero_le _, Nat.zero_le _⟩) hw hA hS (fun G6 H locs hp hw hS => ?_)
      subst hp
      have hM := isM_s1 hM (offR (saveR R) jk 1)
      have hfr := fr_up hfr (i := mo + 1) (by omega) (by omega) (na Γ 256 (offR (saveR R) jk 1))
      generalize va_up G5 (mo + 1) (na Γ 256 (offR (saveR R) jk 1)) = G7 at hw hM hfr
      refine lv_aload_n hx hb dX12_rings_44 rfl (lv_at hl 0 rfl) ?_
      refine nr_get (own := RX12) (C := RX12) (T := TX12) (N := 19) (v := .ref (ad Γ (mo + 1))) hx hb hts hi_X12_rings_X12 hown hw (by omega) (isM_0 hM) rfl 0 (by decide) wl_X12_rings_1 rfl rfl dX12_rings_45 ?_
      refine lv_bipush (v := nI 6) hx hb dX12_rings_48 (by decide) ?_
      refine lv_aload_n hx hb dX12_rings_50 rfl (lv_at hl 0 rfl) ?_
      refine nr_get (own := RX12) (C := RX12) (T := TX12) (N := 19) (v := .ref (ad Γ (mo + 1))) hx hb hts hi_X12_rings_X12 hown hw (by omega) (isM_0 hM) rfl 0 (by decide) wl_X12_rings_1 rfl rfl dX12_rings_51 ?_
      refine lv_bipush (v := nI 36) hx hb dX12_rings_54 (by decide) ?_
      refine lv_iload_n hx hb dX12_rings_56 rfl (lv_at hl 1 rfl) ?_
      refine nr_iadd hx hb dX12_rings_57 ?_
      refine nr_iald (x := (R (36 + jk))) hx hb hw (by omega) (isM_1 hM) (by rw [offR_o (by rw [saveR_o (by omega) (by omega)]; exact hby jk (by omega)) (by omega) (by omega)]; exact saveR_o (by omega) (by omega)) (by omega) (by decide) dX12_rings_58 ?_
      have hby5 := hby jk (by omega)
      refine nr_iadd hx hb dX12_rings_59 ?_
      refine nr_iald (x := ((offR (saveR R) jk 1) (6 + (R (36 + jk))))) hx hb hw (by omega) (isM_1 hM) rfl (by omega) (by decide) dX12_rings_60 ?_
      exact nr_retI hx hb hr hlocks hw hS (Or.inr (Or.inr (⟨jk, hjk, rfl, by assumption, rfl, hM, hfr⟩))) dX12_rings_61
    · refine nr_if_ne (tgt := 31) hx hb (by decide) dX12_rings_23 (by decide) (fun c8 => absurd c8 (by decide)) (fun c8 => ?_)
      refine lv_aload_n hx hb dX12_rings_26 rfl (lv_at hl 0 rfl) ?_
      refine nr_goI (nr_runV (As := []) (C := RX12) (T := TX12) (N := 19) ⟨hx, hb, hml, hown, hts⟩ hw (by omega) (isM_0 hM) rfl (c_X12_no l Γ n G mo R K kp rf ca rc hd fw tl by0 an vl iv hM (by omega) hI hj) (cwV 0 hts gX12_rings_X12_no rfl rfl rfl (by decide +kernel) ⟨Nat.le_of_ble_eq_true rfl, Nat.le_of_ble_eq_true rfl⟩) rfl hl.1 rfl (Nat.le_of_ble_eq_true rfl) dX12_rings_27 ⟨Nat.zero_le _, Nat.zero_le _⟩) hw hA hS (fun z9 G9 H locs hp hw hS => ?_)
      obtain ⟨ha9, hM, hfr9⟩ := hp
      have hfr := fr_tr hfr hfr9 (Nat.le_refl _) (Nat.le_refl _)
      subst ha9
      exact nr_retI hx hb hr hlocks hw hS (Or.inr (Or.inl ⟨jk, hjk, rfl, by assumption, rfl, hM, hfr⟩)) dX12_rings_30
  · refine nr_if_ne (tgt := 15) hx hb (by decide) dX12_rings_5 (by decide) (fun c10 => absurd c10 (by decide)) (fun c10 => ?_)
    refine lv_aload_n hx hb dX12_rings_8 rfl (lv_at hl 0 rfl) ?_
    refine lv_bipush (v := (-2)) hx hb dX12_rings_9 (by decide) ?_
    refine nr_goI (nr_runV (As := [.int (-2)]) (C := RX12) (T := TX12) (N := 19) ⟨hx, hb, hml, hown, hts⟩ hw (by omega) (isM_0 hM) rfl (c_X12_bad l Γ n G mo R K kp rf ca rc hd fw tl by0 an vl iv hM (by omega) hI hj (-2)) (cwV 1 hts gX12_rings_X12_bad rfl rfl rfl (by decide +kernel) ⟨Nat.le_of_ble_eq_true rfl, Nat.le_of_ble_eq_true rfl⟩) rfl hl.1 rfl (Nat.le_of_ble_eq_true rfl) dX12_rings_11 ⟨Nat.zero_le _, Nat.zero_le _⟩) hw hA hS (fun z11 G11 H locs hp hw hS => ?_)
    obtain ⟨ha11, hM, hfr11⟩ := hp
    have hfr := fr_tr hfr hfr11 (Nat.le_refl _) (Nat.le_refl _)
    subst ha11
    exact nr_retI hx hb hr hlocks hw hS (Or.inl ⟨by assumption, rfl, hM, hfr⟩) dX12_rings_14
