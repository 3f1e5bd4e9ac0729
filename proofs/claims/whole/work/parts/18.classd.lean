section SD
variable {p : Program} {l : Launch} {e : Env} {R : Room} {s : State} {m : MethodId} {args : Array Value} {below : List Frame} {meth : Method} {c : Code} {H : Heap} {locs : List Loc} {cells slots : Nat} {Q : State → Prop}
variable {cc : ByteArray} {pc : Nat} {ls : Array Slot} {rest : List Value}
theorem nr_u31 : ∀ j, j < 32 → (((nI j).toUInt32 &&& Int32.toUInt32 31).toBitVec % 32).toNat = j := by decide +kernel
theorem nr_iushr (hx : p.tables.exec = Jvm.exec) (hb : c.code = cc) {a j : Nat} (ha : a < 4294967296) (hj : j < 32) (hdg : decode cc pc = .ok (.iushr, 1)) (k : W p l e R s m args below meth c H locs cells slots Q (F0 m (pc + 1) ls (.int (nI (a / 2 ^ j)) :: rest))) : W p l e R s m args below meth c H locs cells slots Q (F0 m pc ls (.int (nI j) :: .int (nI a) :: rest)) :=
  lv_iushr hx hb hdg (pk_ushrN ha (nI j) j (nr_u31 j hj)) k
theorem nr_ldcw (hx : p.tables.exec = Jvm.exec) (hb : c.code = cc) {own : String} {index k : Nat} {v : Int32} (hown : s.vm.findClass own = some m.cls) (hconst : (Jvm.Cond.constant own index v).before args s = true) (hv : v = nI k) (hdg : decode cc pc = .ok (.ldc_w index, 3)) (kk : W p l e R s m args below meth c H locs cells slots Q (F0 m (pc + 3) ls (.int (nI k) :: rest))) : W p l e R s m args below meth c H locs cells slots Q (F0 m pc ls rest) := lv_ldcw hx hb hown hconst hdg (by rw [hv]; exact kk)
end SD
section SD2
theorem bc_sub (q : Nat) : q / 2 ^ 1 &&& 1431655765 ≤ q := Nat.le_trans Nat.and_le_left (Nat.div_le_self _ _)
def bcF (q : Nat) : Nat :=
  let a := q - (q / 2 ^ 1 &&& 1431655765)
  let b := (a &&& 858993459) + (a / 2 ^ 2 &&& 858993459)
  let d := b + b / 2 ^ 4 &&& 252645135
  let f := d + d / 2 ^ 8
  let g := f + f / 2 ^ 16
  g &&& 63
theorem bc_pc8 : ∀ q, q < 256 → bcF q = pc8 q := by decide +kernel
def seedG (V : Nat → Nat) (seed : Nat) : Nat → Nat
  | 0 => 0
  | t + 1 => if rngX seed (t + 1) / 65536 % 8 < V 1 ∧ could V (rngX seed (t + 1) / 65536 % 8) (seedG V seed t) (seedG V seed t) t then seedG V seed t ||| 2 ^ (rngX seed (t + 1) / 65536 % 8) else seedG V seed t
theorem seedG_lt (V : Nat → Nat) (seed : Nat) : ∀ t, seedG V seed t < 256
  | 0 => by show (0 : Nat) < 256; decide
  | t + 1 => by
    have h := seedG_lt V seed t
    unfold seedG
    split
    · exact or_lt256 h (Nat.mod_lt _ (by decide))
    · exact h
/-- Euclid: where it stands after q steps -/
def euI (a b x y q : Nat) : Prop := Nat.gcd x y = Nat.gcd a b ∧ (q = 0 ∧ x = a ∧ y = b ∨ (1 ≤ q ∧ y < x ∧ x * y * 2 ^ (q - 1) ≤ a * b))
theorem eu_step {a b x y q : Nat} (h : euI a b x y q) (hy : 0 < y) : euI a b y (x % y) (q + 1) := by
  obtain ⟨h1, h2⟩ := h
  have hm := Nat.mod_lt x hy
  refine ⟨by rw [← h1, Nat.gcd_comm x y, Nat.gcd_rec y x, Nat.gcd_comm], Or.inr ⟨by omega, hm, ?_⟩⟩
  rw [Nat.add_sub_cancel]
  rcases h2 with ⟨rfl, rfl, rfl⟩ | ⟨g1, g2, g3⟩
  · rw [Nat.pow_zero, Nat.mul_one, Nat.mul_comm]
    exact Nat.mul_le_mul (Nat.mod_le _ _) (Nat.le_refl _)
  · obtain ⟨d, rfl⟩ : ∃ d, q = d + 1 := ⟨q - 1, by omega⟩
    rw [Nat.add_sub_cancel] at g3
    refine Nat.le_trans ?_ g3
    rw [Nat.pow_succ]
    have h5 : x % y * 2 ≤ x := by
      have := Nat.div_add_mod x y
      have h6 : 1 ≤ x / y := (Nat.le_div_iff_mul_le hy).mpr (by omega)
      have h7 : y * 1 ≤ y * (x / y) := Nat.mul_le_mul_left y h6
      omega
    calc y * (x % y) * (2 ^ d * 2) = y * (x % y * 2) * 2 ^ d := by
          rw [Nat.mul_assoc, Nat.mul_assoc, Nat.mul_assoc, Nat.mul_comm (2 ^ d) 2]
      _ ≤ y * x * 2 ^ d := Nat.mul_le_mul_right _ (Nat.mul_le_mul_left _ h5)
      _ = x * y * 2 ^ d := by rw [Nat.mul_comm y x]
theorem eu_end {a b x y q : Nat} (h : euI a b x y q) (hq : 1000 ≤ q) (ha : a < 2 ^ 62) (hb : b < 2 ^ 62) : y = 0 := by
  obtain ⟨h1, h2⟩ := h
  rcases h2 with ⟨g1, _⟩ | ⟨g1, g2, g3⟩
  · omega
  · rcases Nat.eq_zero_or_pos y with z | z
    · exact z
    · have h4 : a * b < 2 ^ 62 * 2 ^ 62 := Nat.mul_lt_mul'' ha hb
      have h5 : 1 * 2 ^ 200 ≤ x * y * 2 ^ (q - 1) := Nat.mul_le_mul (Nat.mul_pos (by omega) z) (Nat.pow_le_pow_right (by omega) (by omega))
      have h6 : (2 : Nat) ^ 62 * 2 ^ 62 ≤ 1 * 2 ^ 200 := by decide +kernel
      omega
end SD2
theorem wl_J6_bitCount_0f7a4_1 : Cond.constant RJ6 265 (1431655765) ∈ wsJ6_bitCount_0f7a4 := List.mem_of_getElem? (i := 1) rfl
theorem wl_J6_bitCount_0f7a4_2 : Cond.constant RJ6 266 (858993459) ∈ wsJ6_bitCount_0f7a4 := List.mem_of_getElem? (i := 2) rfl
theorem wl_J6_bitCount_0f7a4_3 : Cond.constant RJ6 267 (252645135) ∈ wsJ6_bitCount_0f7a4 := List.mem_of_getElem? (i := 3) rfl
set_option maxHeartbeats 4000000 in
set_option maxRecDepth 100000 in
theorem c_J6_bitCount_0f7a4 (l : Launch) (Γ : Gam) (n : Nat) (G : Nat → va_E) (q : Nat) (hq : q < 256)  : Met l yJ6_bitCount_0f7a4 wsJ6_bitCount_0f7a4 ({ frames := 0, cells := 0, slots := 0, locals := 0 }) (va_Pc [.int (nI q)] (fun U => hw Γ n G U U.heap)) (vp_Si (fun z => z = nI (pc8 q))) 0 0 (fun _ => False) := by
  refine Met.ofW (cc := cJ6_bitCount_0f7a4) (maxL := 1) (ret := (some .int)) (by decide) rfl ?_
  intro p e s m args below meth c s₁ B hml hv
  obtain ⟨rfl, hw⟩ := hv
  have hx := B.exec
  have hb := B.bytes
  have hr := B.returns
  have hts := atoms_spec (ws := wsJ6_bitCount_0f7a4) B.pre
  have hown : s.vm.findClass RJ6 = some m.cls := findClass_of_methodNamed B.named
  have hlocks := B.notSynchronized
  have hl := lv_entry ([.int (nI q)]) (n := 1) (Nat.le_of_ble_eq_true rfl)
  rw [lg_entry_eq]
  generalize (lg_sl ([.int (nI q)]) ++ List.replicate (1 - (lg_sl ([.int (nI q)])).length) Slot.unset).toArray = ls at hl ⊢
  have hl : lv_has ls 1 [(0, .int (nI q))] := hl
  have hs1 := bc_sub q
  refine lv_iload_n hx hb dJ6_bitCount_0f7a4_0 rfl (lv_at hl 0 rfl) ?_
  refine lv_iload_n hx hb dJ6_bitCount_0f7a4_1 rfl (lv_at hl 0 rfl) ?_
  refine lv_iconst (v := nI 1) hx hb dJ6_bitCount_0f7a4_2 (by decide) ?_
  refine nr_iushr hx hb (by omega) (by decide) dJ6_bitCount_0f7a4_3 ?_
  refine nr_ldcw (k := 1431655765) hx hb hown (hts _ wl_J6_bitCount_0f7a4_1) (by decide) dJ6_bitCount_0f7a4_4 ?_
  refine nr_iand hx hb dJ6_bitCount_0f7a4_7 ?_
  refine nr_isub hx hb (by omega) dJ6_bitCount_0f7a4_8 ?_
  refine lv_istore_n (lv' := [(0, .int (nI (q - ((q / 2 ^ 1) &&& 1431655765))))]) hx hb dJ6_bitCount_0f7a4_9 rfl hl (by decide) rfl (fun ls hl => ?_)
  obtain ⟨a1, ha1⟩ : ∃ y, y = q - ((q / 2 ^ 1) &&& 1431655765) := ⟨_, rfl⟩
  rw [← ha1] at hl
  have hand1 : a1 &&& 858993459 ≤ a1 := Nat.and_le_left
  have hand2 : a1 / 2 ^ 2 &&& 858993459 ≤ a1 / 2 ^ 2 := Nat.and_le_left
  have hle1 : a1 ≤ q := by omega
  have hle2 : a1 / 2 ^ 2 ≤ a1 := Nat.div_le_self _ _
  refine lv_iload_n hx hb dJ6_bitCount_0f7a4_10 rfl (lv_at hl 0 rfl) ?_
  refine nr_ldcw (k := 858993459) hx hb hown (hts _ wl_J6_bitCount_0f7a4_2) (by decide) dJ6_bitCount_0f7a4_11 ?_
  refine nr_iand hx hb dJ6_bitCount_0f7a4_14 ?_
  refine lv_iload_n hx hb dJ6_bitCount_0f7a4_15 rfl (lv_at hl 0 rfl) ?_
  refine lv_iconst (v := nI 2) hx hb dJ6_bitCount_0f7a4_16 (by decide) ?_
  refine nr_iushr hx hb (by omega) (by decide) dJ6_bitCount_0f7a4_17 ?_
  refine nr_ldcw (k := 858993459) hx hb hown (hts _ wl_J6_bitCount_0f7a4_2) (by decide) dJ6_bitCount_0f7a4_18 ?_
  refine nr_iand hx hb dJ6_bitCount_0f7a4_21 ?_
  refine nr_iadd hx hb dJ6_bitCount_0f7a4_22 ?_
  refine lv_istore_n (lv' := [(0, .int (nI ((a1 &&& 858993459) + ((a1 / 2 ^ 2) &&& 858993459))))]) hx hb dJ6_bitCount_0f7a4_23 rfl hl (by decide) rfl (fun ls hl => ?_)
  obtain ⟨a2, ha2⟩ : ∃ y, y = (a1 &&& 858993459) + ((a1 / 2 ^ 2) &&& 858993459) := ⟨_, rfl⟩
  rw [← ha2] at hl
  have hle3 : a2 ≤ 512 := by omega
  have hle4 : a2 / 2 ^ 4 ≤ a2 := Nat.div_le_self _ _
  have hand3 : a2 + a2 / 2 ^ 4 &&& 252645135 ≤ a2 + a2 / 2 ^ 4 := Nat.and_le_left
  refine lv_iload_n hx hb dJ6_bitCount_0f7a4_24 rfl (lv_at hl 0 rfl) ?_
  refine lv_iload_n hx hb dJ6_bitCount_0f7a4_25 rfl (lv_at hl 0 rfl) ?_
  refine lv_iconst (v := nI 4) hx hb dJ6_bitCount_0f7a4_26 (by decide) ?_
  refine nr_iushr hx hb (by omega) (by decide) dJ6_bitCount_0f7a4_27 ?_
  refine nr_iadd hx hb dJ6_bitCount_0f7a4_28 ?_
  refine nr_ldcw (k := 252645135) hx hb hown (hts _ wl_J6_bitCount_0f7a4_3) (by decide) dJ6_bitCount_0f7a4_29 ?_
  refine nr_iand hx hb dJ6_bitCount_0f7a4_32 ?_
  refine lv_istore_n (lv' := [(0, .int (nI ((a2 + (a2 / 2 ^ 4)) &&& 252645135)))]) hx hb dJ6_bitCount_0f7a4_33 rfl hl (by decide) rfl (fun ls hl => ?_)
  obtain ⟨a3, ha3⟩ : ∃ y, y = (a2 + (a2 / 2 ^ 4)) &&& 252645135 := ⟨_, rfl⟩
  rw [← ha3] at hl
  have hle5 : a3 ≤ 1024 := by omega
  have hle6 : a3 / 2 ^ 8 ≤ a3 := Nat.div_le_self _ _
  refine lv_iload_n hx hb dJ6_bitCount_0f7a4_34 rfl (lv_at hl 0 rfl) ?_
  refine lv_iload_n hx hb dJ6_bitCount_0f7a4_35 rfl (lv_at hl 0 rfl) ?_
  refine lv_bipush (v := nI 8) hx hb dJ6_bitCount_0f7a4_36 (by decide) ?_
  refine nr_iushr hx hb (by omega) (by decide) dJ6_bitCount_0f7a4_38 ?_
  refine nr_iadd hx hb dJ6_bitCount_0f7a4_39 ?_
  refine lv_istore_n (lv' := [(0, .int (nI (a3 + (a3 / 2 ^ 8))))]) hx hb dJ6_bitCount_0f7a4_40 rfl hl (by decide) rfl (fun ls hl => ?_)
  obtain ⟨a4, ha4⟩ : ∃ y, y = a3 + (a3 / 2 ^ 8) := ⟨_, rfl⟩
  rw [← ha4] at hl
  have hle7 : a4 ≤ 2048 := by omega
  refine lv_iload_n hx hb dJ6_bitCount_0f7a4_41 rfl (lv_at hl 0 rfl) ?_
  refine lv_iload_n hx hb dJ6_bitCount_0f7a4_42 rfl (lv_at hl 0 rfl) ?_
  refine lv_bipush (v := nI 16) hx hb dJ6_bitCount_0f7a4_43 (by decide) ?_
  refine nr_iushr hx hb (by omega) (by decide) dJ6_bitCount_0f7a4_45 ?_
  refine nr_iadd hx hb dJ6_bitCount_0f7a4_46 ?_
  refine lv_istore_n (lv' := [(0, .int (nI (a4 + (a4 / 2 ^ 16))))]) hx hb dJ6_bitCount_0f7a4_47 rfl hl (by decide) rfl (fun ls hl => ?_)
  obtain ⟨a5, ha5⟩ : ∃ y, y = a4 + (a4 / 2 ^ 16) := ⟨_, rfl⟩
  rw [← ha5] at hl
  refine lv_iload_n hx hb dJ6_bitCount_0f7a4_48 rfl (lv_at hl 0 rfl) ?_
  refine lv_bipush (v := nI 63) hx hb dJ6_bitCount_0f7a4_49 (by decide) ?_
  refine nr_iand hx hb dJ6_bitCount_0f7a4_51 ?_
  exact nr_retS hx hb hr hlocks (by rw [← bc_pc8 q hq]; unfold bcF; simp only [*]) rfl dJ6_bitCount_0f7a4_52
theorem wl_X8_letOffBySeed_1 : Cond.constantLong RX8 51 (1103515245) ∈ wsX8_letOffBySeed := List.mem_of_getElem? (i := 1) rfl
theorem wl_X8_letOffBySeed_2 : Cond.constantLong RX8 53 (12345) ∈ wsX8_letOffBySeed := List.mem_of_getElem? (i := 2) rfl
theorem wl_X8_letOffBySeed_3 : Cond.constantLong RX8 55 (2147483648) ∈ wsX8_letOffBySeed := List.mem_of_getElem? (i := 3) rfl
theorem wl_X8_letOffBySeed_4 : Cond.constantLong RX8 57 (65536) ∈ wsX8_letOffBySeed := List.mem_of_getElem? (i := 4) rfl
theorem wl_X8_letOffBySeed_5 : Cond.constantLong RX8 59 (8) ∈ wsX8_letOffBySeed := List.mem_of_getElem? (i := 5) rfl
theorem wl_X8_letOffBySeed_6 : Cond.fieldLink RX8 41 "BellForgiven$Valley" "letOff" "I" ∈ wsX8_letOffBySeed := List.mem_of_getElem? (i := 6) rfl
theorem hi_X8_letOffBySeed_X10 : ∀ w ∈ u_ws RX10 TX10 15, w ∈ wsX8_letOffBySeed := fun w h => (List.mem_cons_of_mem _ (List.mem_append_right _ h))
set_option maxHeartbeats 4000000 in
set_option maxRecDepth 100000 in
theorem c_X8_letOffBySeed (l : Launch) (Γ : Gam) (n : Nat) (G : Nat → va_E) (b : Nat) (V : Nat → Nat) (hV : isV Γ G b V) (hI : vI V) (hbn : b + 16 ≤ n) (sd q : Nat) (hsd : sd ≤ 999999) (hq : q ≤ 60)  : Met l yX8_letOffBySeed wsX8_letOffBySeed ({ frames := 4, cells := 0, slots := 0, locals := 95 }) (va_Pc [.ref (ad Γ (b + 0)), .int (nI sd), .int (nI q)] (fun U => hw Γ n G U U.heap)) (vp_Si (fun z => z = nI (pc8 (V 20 ||| seedG V sd q)))) 0 0 (fun _ => False) := by
  refine Met.ofW (cc := cX8_letOffBySeed) (maxL := 8) (ret := (some .int)) (by decide) rfl ?_
  intro p e s m args below meth c s₁ B hml hv
  obtain ⟨rfl, hw⟩ := hv
  have hx := B.exec
  have hb := B.bytes
  have hr := B.returns
  have hts := atoms_spec (ws := wsX8_letOffBySeed) B.pre
  have hown : s.vm.findClass RX8 = some m.cls := findClass_of_methodNamed B.named
  have hlocks := B.notSynchronized
  have hl := lv_entry ([.ref (ad Γ (b + 0)), .int (nI sd), .int (nI q)]) (n := 8) (Nat.le_of_ble_eq_true rfl)
  rw [lg_entry_eq]
  generalize (lg_sl ([.ref (ad Γ (b + 0)), .int (nI sd), .int (nI q)]) ++ List.replicate (8 - (lg_sl ([.ref (ad Γ (b + 0)), .int (nI sd), .int (nI q)])).length) Slot.unset).toArray = ls at hl ⊢
  have hl : lv_has ls 8 [(0, .ref (ad Γ (b + 0))), (1, .int (nI sd)), (2, .int (nI q))] := hl
  have hB := hI.1
  have hB0 := hI.2.1
  have hB1 := hI.2.2.1
  have hB20 := hI.2.2.2.2.2.2.2.2.2
  have hBz2 := hI.2.2.2.1
  have hBz3 := hI.2.2.2.2.1
  have hBz4 := hI.2.2.2.2.2.1
  have hBz5 := hI.2.2.2.2.2.2.1
  have hBd := hB 21
  refine lv_iload_n hx hb dX8_letOffBySeed_0 rfl (lv_at hl 1 rfl) ?_
  refine lv_i2l (v := lN sd) hx hb dX8_letOffBySeed_1 (nI_l (by omega)) ?_
  refine lv_lstore_n (lv' := [(3, .long (lN sd)), (0, .ref (ad Γ (b + 0))), (1, .int (nI sd)), (2, .int (nI q))]) hx hb dX8_letOffBySeed_2 rfl hl (by decide) rfl (fun ls hl => ?_)
  refine lv_iconst (v := nI 0) hx hb dX8_letOffBySeed_3 (by decide) ?_
  refine lv_istore (lv' := [(5, .int (nI 0)), (3, .long (lN sd)), (0, .ref (ad Γ (b + 0))), (1, .int (nI sd)), (2, .int (nI q))]) hx hb dX8_letOffBySeed_4 hl (by decide) rfl (fun ls hl => ?_)
  refine lv_iconst (v := nI 0) hx hb dX8_letOffBySeed_6 (by decide) ?_
  refine lv_istore (lv' := [(6, .int (nI 0)), (5, .int (nI 0)), (3, .long (lN sd)), (0, .ref (ad Γ (b + 0))), (1, .int (nI sd)), (2, .int (nI q))]) hx hb dX8_letOffBySeed_7 hl (by decide) rfl (fun ls hl => ?_)
  refine nr_lp (σ := Nat × Nat × Nat) (pc := 9) (fun x lv => lv = [(0, .ref (ad Γ (b + 0))), (1, .int (nI sd)), (2, .int (nI q)), (3, .long (lN x.2.1)), (5, .int (nI x.2.2)), (6, .int (nI x.1))] ∧ (x.1 ≤ q) ∧ (x.2.1 = rngX sd x.1) ∧ (x.2.2 = seedG V sd x.1) ∧ (x.2.1 < 2147483648) ∧ (x.2.2 < 256)) (fun x => q - x.1) (0, sd, 0) (lv_sub hl [3, 4, 5, 2, 1, 0] rfl) ⟨rfl, by (try dsimp only); omega, rfl, rfl, by (try dsimp only); omega, by (try dsimp only); omega⟩ ?_
  intro x lv ls hl hI ih9
  obtain ⟨t, x, go⟩ := x
  obtain ⟨rfl, ht, hx9, hgo9, hxl0, hgl⟩ := hI
  try dsimp only at ht hx9 hgo9 hxl0 hgl hl ih9
  refine lv_iload hx hb dX8_letOffBySeed_9 (lv_at hl 5 rfl) ?_
  refine lv_iload_n hx hb dX8_letOffBySeed_11 rfl (lv_at hl 2 rfl) ?_
  refine nr_icmp_ge (tgt := 80) hx hb (by omega) (by omega) dX8_letOffBySeed_12 (by decide) (fun c1 => ?_) (fun c1 => ?_)
  · refine lv_aload_n hx hb dX8_letOffBySeed_80 rfl (lv_at hl 0 rfl) ?_
    refine nr_get (own := RX8) (C := RX10) (T := TX10) (N := 15) (v := .int (nI (V 20))) hx hb hts hi_X8_letOffBySeed_X10 hown hw (by omega) (isV_0 hV) rfl 9 (by decide) wl_X8_letOffBySeed_6 rfl rfl dX8_letOffBySeed_81 ?_
    refine lv_iload hx hb dX8_letOffBySeed_84 (lv_at hl 4 rfl) ?_
    refine nr_ior hx hb dX8_letOffBySeed_86 ?_
    have hgo : V 20 ||| go < 256 := Nat.or_lt_two_pow (n := 8) hB20 hgl
    refine nr_goS (nr_runS (As := [.int (nI ((V 20) ||| go))]) ⟨hx, hb, hml, hown, hts⟩ hw (c_J6_bitCount_0f7a4 l Γ n G ((V 20) ||| go) (by omega)) (va_cwS 1 hts gX8_letOffBySeed_J6_bitCount_0f7a4 rfl rfl rfl (by decide +kernel) ⟨Nat.le_of_ble_eq_true rfl, Nat.le_of_ble_eq_true rfl⟩) rfl hl.1 rfl (Nat.le_of_ble_eq_true rfl) dX8_letOffBySeed_87 ⟨Nat.zero_le _, Nat.zero_le _⟩) (fun r2 hr2 => ?_)
    obtain rfl : r2 = (nI (pc8 ((V 20) ||| go))) := hr2
    exact nr_retS hx hb hr hlocks (by rw [hgo9, show t = q by omega]) rfl dX8_letOffBySeed_90
  · refine lv_lload_n hx hb dX8_letOffBySeed_15 rfl (lv_at hl 3 rfl) ?_
    refine nr_ldc2 (k := 1103515245) hx hb hown (hts _ wl_X8_letOffBySeed_1) (by decide) dX8_letOffBySeed_16 ?_
    refine nr_lmul hx hb dX8_letOffBySeed_19 ?_
    refine nr_ldc2 (k := 12345) hx hb hown (hts _ wl_X8_letOffBySeed_2) (by decide) dX8_letOffBySeed_20 ?_
    refine nr_ladd hx hb dX8_letOffBySeed_23 ?_
    refine nr_ldc2 (k := 2147483648) hx hb hown (hts _ wl_X8_letOffBySeed_3) (by decide) dX8_letOffBySeed_24 ?_
    refine nr_lrem hx hb (by omega) (by omega) (by omega) dX8_letOffBySeed_27 ?_
    rw [show (x * 1103515245 + 12345) % 2147483648 = rngX sd (t + 1) from (by rw [hx9]; rfl)]
    have hxl : rngX sd (t + 1) < 2147483648 := rngX_lt hsd (t + 1)
    refine lv_lstore_n (lv' := [(3, .long (lN (rngX sd (t + 1)))), (0, .ref (ad Γ (b + 0))), (1, .int (nI sd)), (2, .int (nI q)), (5, .int (nI go)), (6, .int (nI t))]) hx hb dX8_letOffBySeed_28 rfl hl (by decide) rfl (fun ls hl => ?_)
    refine lv_lload_n hx hb dX8_letOffBySeed_29 rfl (lv_at hl 0 rfl) ?_
    refine nr_ldc2 (k := 65536) hx hb hown (hts _ wl_X8_letOffBySeed_4) (by decide) dX8_letOffBySeed_30 ?_
    refine nr_ldiv hx hb (by omega) (by omega) (by omega) dX8_letOffBySeed_33 ?_
    refine nr_ldc2 (k := 8) hx hb hown (hts _ wl_X8_letOffBySeed_5) (by decide) dX8_letOffBySeed_34 ?_
    refine nr_lrem hx hb (by omega) (by omega) (by omega) dX8_letOffBySeed_37 ?_
    refine lv_l2i (v := nI (((rngX sd (t + 1)) / 65536) % 8)) hx hb dX8_letOffBySeed_38 (lN_i _) ?_
    refine lv_istore (lv' := [(7, .int (nI (((rngX sd (t + 1)) / 65536) % 8))), (3, .long (lN (rngX sd (t + 1)))), (0, .ref (ad Γ (b + 0))), (1, .int (nI sd)), (2, .int (nI q)), (5, .int (nI go)), (6, .int (nI t))]) hx hb dX8_letOffBySeed_39 hl (by decide) rfl (fun ls hl => ?_)
    refine lv_aload_n hx hb dX8_letOffBySeed_41 rfl (lv_at hl 2 rfl) ?_
    refine lv_iload hx hb dX8_letOffBySeed_42 (lv_at hl 0 rfl) ?_
    refine nr_goB (P := ∃ j, j < V 1 ∧ (nI (((rngX sd (t + 1)) / 65536) % 8)) = nI j) (nr_runV (As := [.int (nI (((rngX sd (t + 1)) / 65536) % 8))]) (C := RX10) (T := TX10) (N := 15) ⟨hx, hb, hml, hown, hts⟩ hw (by omega) (isV_0 hV) rfl (c_X10_hasWrong l Γ n G b V hV hI hbn (nI (((rngX sd (t + 1)) / 65536) % 8))) (cwV 1 hts gX8_letOffBySeed_X10_hasWrong rfl rfl rfl (by decide +kernel) ⟨Nat.le_of_ble_eq_true rfl, Nat.le_of_ble_eq_true rfl⟩) rfl hl.1 rfl (Nat.le_of_ble_eq_true rfl) dX8_letOffBySeed_44 ⟨Nat.zero_le _, Nat.zero_le _⟩) (fun b3 => ?_) (fun b3 => ?_)
    · have hkx : rngX sd (t + 1) / 65536 % 8 < V 1 := by obtain ⟨j, hj, e9⟩ := b3; rw [show rngX sd (t + 1) / 65536 % 8 = j from (nI_eq (by omega) (by omega)).mp e9]; exact hj
      refine nr_if_eq (tgt := 74) hx hb (by decide) dX8_letOffBySeed_47 (by decide) (fun c4 => absurd c4 (by decide)) (fun c4 => ?_)
      refine lv_aload_n hx hb dX8_letOffBySeed_50 rfl (lv_at hl 2 rfl) ?_
      refine lv_iload hx hb dX8_letOffBySeed_51 (lv_at hl 0 rfl) ?_
      refine lv_iload hx hb dX8_letOffBySeed_53 (lv_at hl 5 rfl) ?_
      refine lv_iload hx hb dX8_letOffBySeed_55 (lv_at hl 5 rfl) ?_
      refine lv_iload hx hb dX8_letOffBySeed_57 (lv_at hl 6 rfl) ?_
      refine nr_goB (P := could V (((rngX sd (t + 1)) / 65536) % 8) go go t) (nr_runV (As := [.int (nI (((rngX sd (t + 1)) / 65536) % 8)), .int (nI go), .int (nI go), .int (nI t)]) (C := RX10) (T := TX10) (N := 15) ⟨hx, hb, hml, hown, hts⟩ hw (by omega) (isV_0 hV) rfl (c_X10_could l Γ n G b V hV hI hbn (((rngX sd (t + 1)) / 65536) % 8) go go t (by omega) (by omega) (by omega) (by omega)) (cwV 4 hts gX8_letOffBySeed_X10_could rfl rfl rfl (by decide +kernel) ⟨Nat.le_of_ble_eq_true rfl, Nat.le_of_ble_eq_true rfl⟩) rfl hl.1 rfl (Nat.le_of_ble_eq_true rfl) dX8_letOffBySeed_59 ⟨Nat.zero_le _, Nat.zero_le _⟩) (fun b5 => ?_) (fun b5 => ?_)
      · refine nr_if_eq (tgt := 74) hx hb (by decide) dX8_letOffBySeed_62 (by decide) (fun c6 => absurd c6 (by decide)) (fun c6 => ?_)
        refine lv_iload hx hb dX8_letOffBySeed_65 (lv_at hl 5 rfl) ?_
        refine lv_iconst (v := nI 1) hx hb dX8_letOffBySeed_67 (by decide) ?_
        refine lv_iload hx hb dX8_letOffBySeed_68 (lv_at hl 0 rfl) ?_
        refine nr_ishl1 hx hb (by omega) dX8_letOffBySeed_70 ?_
        refine nr_ior hx hb dX8_letOffBySeed_71 ?_
        refine lv_istore (lv' := [(5, .int (nI (go ||| (2 ^ (((rngX sd (t + 1)) / 65536) % 8))))), (7, .int (nI (((rngX sd (t + 1)) / 65536) % 8))), (3, .long (lN (rngX sd (t + 1)))), (0, .ref (ad Γ (b + 0))), (1, .int (nI sd)), (2, .int (nI q)), (6, .int (nI t))]) hx hb dX8_letOffBySeed_72 hl (by decide) rfl (fun ls hl => ?_)
        refine nr_inc (d := 1) (k := 6) (lv' := [(6, .int (nI (t + 1))), (5, .int (nI (go ||| (2 ^ (((rngX sd (t + 1)) / 65536) % 8))))), (7, .int (nI (((rngX sd (t + 1)) / 65536) % 8))), (3, .long (lN (rngX sd (t + 1)))), (0, .ref (ad Γ (b + 0))), (1, .int (nI sd)), (2, .int (nI q))]) hx hb dX8_letOffBySeed_74 hl rfl (by decide) (by decide) rfl (fun ls hl => ?_)
        refine lv_goto (tgt := 9) hx hb dX8_letOffBySeed_77 (by decide) ?_
        exact ih9 (t + 1, rngX sd (t + 1), go ||| (2 ^ (((rngX sd (t + 1)) / 65536) % 8))) _ _ (lv_sub hl [4, 5, 6, 3, 1, 0] rfl) ⟨rfl, by (try dsimp only); omega, rfl, by (try dsimp only); rw [hgo9]; simp only [seedG]; first | rw [if_pos ⟨by assumption, by rw [← hgo9]; assumption⟩] | (rw [if_neg]; intro hh9; first | exact absurd hh9.1 (by assumption) | exact absurd hh9.2 (by rw [← hgo9]; assumption)), by (try dsimp only); exact (hxl), by (try dsimp only); first | exact hgl | exact or_lt256 hgl (by omega)⟩ (by (try dsimp only); omega)
      · refine nr_if_eq (tgt := 74) hx hb (by decide) dX8_letOffBySeed_62 (by decide) (fun c7 => ?_) (fun c7 => absurd c7 (by decide))
        refine nr_inc (d := 1) (k := 6) (lv' := [(6, .int (nI (t + 1))), (7, .int (nI (((rngX sd (t + 1)) / 65536) % 8))), (3, .long (lN (rngX sd (t + 1)))), (0, .ref (ad Γ (b + 0))), (1, .int (nI sd)), (2, .int (nI q)), (5, .int (nI go))]) hx hb dX8_letOffBySeed_74 hl rfl (by decide) (by decide) rfl (fun ls hl => ?_)
        refine lv_goto (tgt := 9) hx hb dX8_letOffBySeed_77 (by decide) ?_
        exact ih9 (t + 1, rngX sd (t + 1), go) _ _ (lv_sub hl [3, 4, 5, 2, 6, 0] rfl) ⟨rfl, by (try dsimp only); omega, rfl, by (try dsimp only); rw [hgo9]; simp only [seedG]; first | rw [if_pos ⟨by assumption, by rw [← hgo9]; assumption⟩] | (rw [if_neg]; intro hh9; first | exact absurd hh9.1 (by assumption) | exact absurd hh9.2 (by rw [← hgo9]; assumption)), by (try dsimp only); exact (hxl), by (try dsimp only); first | exact hgl | exact or_lt256 hgl (by omega)⟩ (by (try dsimp only); omega)
    · have hkx : ¬ rngX sd (t + 1) / 65536 % 8 < V 1 := fun hh9 => b3 ⟨_, hh9, rfl⟩
      refine nr_if_eq (tgt := 74) hx hb (by decide) dX8_letOffBySeed_47 (by decide) (fun c8 => ?_) (fun c8 => absurd c8 (by decide))
      refine nr_inc (d := 1) (k := 6) (lv' := [(6, .int (nI (t + 1))), (7, .int (nI (((rngX sd (t + 1)) / 65536) % 8))), (3, .long (lN (rngX sd (t + 1)))), (0, .ref (ad Γ (b + 0))), (1, .int (nI sd)), (2, .int (nI q)), (5, .int (nI go))]) hx hb dX8_letOffBySeed_74 hl rfl (by decide) (by decide) rfl (fun ls hl => ?_)
      refine lv_goto (tgt := 9) hx hb dX8_letOffBySeed_77 (by decide) ?_
      exact ih9 (t + 1, rngX sd (t + 1), go) _ _ (lv_sub hl [3, 4, 5, 2, 6, 0] rfl) ⟨rfl, by (try dsimp only); omega, rfl, by (try dsimp only); rw [hgo9]; simp only [seedG]; first | rw [if_pos ⟨by assumption, by rw [← hgo9]; assumption⟩] | (rw [if_neg]; intro hh9; first | exact absurd hh9.1 (by assumption) | exact absurd hh9.2 (by rw [← hgo9]; assumption)), by (try dsimp only); exact (hxl), by (try dsimp only); first | exact hgl | exact or_lt256 hgl (by omega)⟩ (by (try dsimp only); omega)
set_option maxHeartbeats 4000000 in
set_option maxRecDepth 100000 in
theorem c_X0_greatestDivisor (l : Launch) (Γ : Gam) (n : Nat) (G : Nat → va_E) (a0 b0 : Nat) (ha : a0 < 4611686018427387904) (hb0 : b0 < 4611686018427387904)  : Met l yX0_greatestDivisor wsX0_greatestDivisor ({ frames := 0, cells := 0, slots := 0, locals := 0 }) (va_Pc [.long (lN a0), .long (lN b0)] (fun U => hw Γ n G U U.heap)) (vp_Sl (fun z => z = lN (Nat.gcd a0 b0))) 0 0 (fun _ => False) := by
  refine Met.ofW (cc := cX0_greatestDivisor) (maxL := 11) (ret := (some .long)) (by decide) rfl ?_
  intro p e s m args below meth c s₁ B hml hv
  obtain ⟨rfl, hw⟩ := hv
  have hx := B.exec
  have hb := B.bytes
  have hr := B.returns
  have hts := atoms_spec (ws := wsX0_greatestDivisor) B.pre
  have hown : s.vm.findClass RX0 = some m.cls := findClass_of_methodNamed B.named
  have hlocks := B.notSynchronized
  have hl := lv_entry ([.long (lN a0), .long (lN b0)]) (n := 11) (Nat.le_of_ble_eq_true rfl)
  rw [lg_entry_eq]
  generalize (lg_sl ([.long (lN a0), .long (lN b0)]) ++ List.replicate (11 - (lg_sl ([.long (lN a0), .long (lN b0)])).length) Slot.unset).toArray = ls at hl ⊢
  have hl : lv_has ls 11 [(0, .long (lN a0)), (2, .long (lN b0))] := hl
  refine lv_lload_n hx hb dX0_greatestDivisor_0 rfl (lv_at hl 0 rfl) ?_
  refine lv_lstore (lv' := [(4, .long (lN a0)), (0, .long (lN a0)), (2, .long (lN b0))]) hx hb dX0_greatestDivisor_1 hl (by decide) rfl (fun ls hl => ?_)
  refine lv_lload_n hx hb dX0_greatestDivisor_3 rfl (lv_at hl 2 rfl) ?_
  refine lv_lstore (lv' := [(6, .long (lN b0)), (4, .long (lN a0)), (0, .long (lN a0)), (2, .long (lN b0))]) hx hb dX0_greatestDivisor_4 hl (by decide) rfl (fun ls hl => ?_)
  refine lv_iconst (v := nI 0) hx hb dX0_greatestDivisor_6 (by decide) ?_
  refine lv_istore (lv' := [(8, .int (nI 0)), (6, .long (lN b0)), (4, .long (lN a0)), (0, .long (lN a0)), (2, .long (lN b0))]) hx hb dX0_greatestDivisor_7 hl (by decide) rfl (fun ls hl => ?_)
  refine nr_lp (σ := Nat × Nat × Nat) (pc := 9) (fun x lv => lv = [(0, .long (lN a0)), (2, .long (lN b0)), (4, .long (lN x.1)), (6, .long (lN x.2.1)), (8, .int (nI x.2.2))] ∧ (euI a0 b0 x.1 x.2.1 x.2.2) ∧ (x.1 < 4611686018427387904) ∧ (x.2.1 < 4611686018427387904) ∧ (x.2.2 ≤ 1000)) (fun x => 1000 - x.2.2) (a0, b0, 0) (lv_sub hl [3, 4, 2, 1, 0] rfl) ⟨rfl, by (try dsimp only); exact (⟨rfl, Or.inl ⟨rfl, rfl, rfl⟩⟩), by (try dsimp only); omega, by (try dsimp only); omega, by (try dsimp only); omega⟩ ?_
  intro x lv ls hl hI ih9
  obtain ⟨x, y, q⟩ := x
  obtain ⟨rfl, hg, hx1, hy1, hq1⟩ := hI
  try dsimp only at hg hx1 hy1 hq1 hl ih9
  refine lv_iload hx hb dX0_greatestDivisor_9 (lv_at hl 4 rfl) ?_
  refine lv_sipush (v := nI 1000) hx hb dX0_greatestDivisor_11 (by decide) ?_
  refine nr_icmp_ge (tgt := 45) hx hb (by omega) (by decide) dX0_greatestDivisor_14 (by decide) (fun c1 => ?_) (fun c1 => ?_)
  · have hy0 : y = 0 := by first | exact (lg_cmp0 (by omega)).mp (by assumption) | exact eu_end hg (by omega) (by omega) (by omega)
    refine lv_lload hx hb dX0_greatestDivisor_45 (lv_at hl 2 rfl) ?_
    exact nr_retL hx hb hr hlocks (by rw [← hg.1, hy0, Nat.gcd_zero_right]) rfl dX0_greatestDivisor_47
  · refine lv_lload hx hb dX0_greatestDivisor_17 (lv_at hl 3 rfl) ?_
    refine lv_lconst (v := lN 0) hx hb dX0_greatestDivisor_19 rfl ?_
    refine W.lcmp hx hb dX0_greatestDivisor_20 ?_
    refine lv_if_eq (tgt := 45) hx hb dX0_greatestDivisor_21 (by decide) (fun c2 => ?_) (fun c2 => ?_)
    · have hy0 : y = 0 := by first | exact (lg_cmp0 (by omega)).mp (by assumption) | exact eu_end hg (by omega) (by omega) (by omega)
      refine lv_lload hx hb dX0_greatestDivisor_45 (lv_at hl 2 rfl) ?_
      exact nr_retL hx hb hr hlocks (by rw [← hg.1, hy0, Nat.gcd_zero_right]) rfl dX0_greatestDivisor_47
    · have hy9 : 0 < y := (by rcases Nat.eq_zero_or_pos y with z | z; exact absurd ((lg_cmp0 (by omega)).mpr z) (by assumption); exact z)
      refine lv_lload hx hb dX0_greatestDivisor_24 (lv_at hl 2 rfl) ?_
      refine lv_lload hx hb dX0_greatestDivisor_26 (lv_at hl 3 rfl) ?_
      refine nr_lrem hx hb (by omega) (by omega) (by omega) dX0_greatestDivisor_28 ?_
      refine lv_lstore (lv' := [(9, .long (lN (x % y))), (0, .long (lN a0)), (2, .long (lN b0)), (4, .long (lN x)), (6, .long (lN y)), (8, .int (nI q))]) hx hb dX0_greatestDivisor_29 hl (by decide) rfl (fun ls hl => ?_)
      refine lv_lload hx hb dX0_greatestDivisor_31 (lv_at hl 4 rfl) ?_
      refine lv_lstore (lv' := [(4, .long (lN y)), (9, .long (lN (x % y))), (0, .long (lN a0)), (2, .long (lN b0)), (6, .long (lN y)), (8, .int (nI q))]) hx hb dX0_greatestDivisor_33 hl (by decide) rfl (fun ls hl => ?_)
      refine lv_lload hx hb dX0_greatestDivisor_35 (lv_at hl 1 rfl) ?_
      refine lv_lstore (lv' := [(6, .long (lN (x % y))), (4, .long (lN y)), (9, .long (lN (x % y))), (0, .long (lN a0)), (2, .long (lN b0)), (8, .int (nI q))]) hx hb dX0_greatestDivisor_37 hl (by decide) rfl (fun ls hl => ?_)
      refine nr_inc (d := 1) (k := 5) (lv' := [(8, .int (nI (q + 1))), (6, .long (lN (x % y))), (4, .long (lN y)), (9, .long (lN (x % y))), (0, .long (lN a0)), (2, .long (lN b0))]) hx hb dX0_greatestDivisor_39 hl rfl (by decide) (by decide) rfl (fun ls hl => ?_)
      refine lv_goto (tgt := 9) hx hb dX0_greatestDivisor_42 (by decide) ?_
      exact ih9 (y, x % y, q + 1) _ _ (lv_sub hl [4, 5, 2, 1, 0] rfl) ⟨rfl, by (try dsimp only); exact eu_step hg hy9, by (try dsimp only); omega, by (try dsimp only); have := Nat.mod_lt x hy9; omega, by (try dsimp only); omega⟩ (by (try dsimp only); omega)
set_option maxHeartbeats 4000000 in
set_option maxRecDepth 100000 in
theorem c_X11_lowest (l : Launch) (Γ : Gam) (n : Nat) (G : Nat → va_E) (q : Nat) (hq : q < 2147483648)  : Met l yX11_lowest wsX11_lowest ({ frames := 1, cells := 0, slots := 0, locals := 21 }) (va_Pc [.int (nI q)] (fun U => hw Γ n G U U.heap)) (vp_Si (fun z => (∃ k, k < 31 ∧ bt q k ∧ (∀ j, j < k → ¬ bt q j) ∧ z = nI k) ∨ ((∀ j, j < 31 → ¬ bt q j) ∧ z = -1))) 0 0 (fun _ => False) := by
  refine Met.ofW (cc := cX11_lowest) (maxL := 2) (ret := (some .int)) (by decide) rfl ?_
  intro p e s m args below meth c s₁ B hml hv
  obtain ⟨rfl, hw⟩ := hv
  have hx := B.exec
  have hb := B.bytes
  have hr := B.returns
  have hts := atoms_spec (ws := wsX11_lowest) B.pre
  have hown : s.vm.findClass RX11 = some m.cls := findClass_of_methodNamed B.named
  have hlocks := B.notSynchronized
  have hl := lv_entry ([.int (nI q)]) (n := 2) (Nat.le_of_ble_eq_true rfl)
  rw [lg_entry_eq]
  generalize (lg_sl ([.int (nI q)]) ++ List.replicate (2 - (lg_sl ([.int (nI q)])).length) Slot.unset).toArray = ls at hl ⊢
  have hl : lv_has ls 2 [(0, .int (nI q))] := hl
  refine lv_iconst (v := nI 0) hx hb dX11_lowest_0 (by decide) ?_
  refine lv_istore_n (lv' := [(1, .int (nI 0)), (0, .int (nI q))]) hx hb dX11_lowest_1 rfl hl (by decide) rfl (fun ls hl => ?_)
  refine nr_lp (σ := Nat) (pc := 2) (fun x lv => lv = [(0, .int (nI q)), (1, .int (nI x))] ∧ (x ≤ 31) ∧ (∀ j, j < x → ¬ bt q j)) (fun x => 31 - x) 0 (lv_sub hl [1, 0] rfl) ⟨rfl, by (try dsimp only); omega, by (try dsimp only); exact (fun j hj => absurd hj (Nat.not_lt_zero j))⟩ ?_
  intro k lv ls hl hI ih2
  obtain ⟨rfl, hk, hn⟩ := hI
  try dsimp only at hk hn hl ih2
  refine lv_iload_n hx hb dX11_lowest_2 rfl (lv_at hl 1 rfl) ?_
  refine lv_bipush (v := nI 31) hx hb dX11_lowest_3 (by decide) ?_
  refine nr_icmp_ge (tgt := 24) hx hb (by omega) (by decide) dX11_lowest_5 (by decide) (fun c1 => ?_) (fun c1 => ?_)
  · refine lv_iconst (v := (-1)) hx hb dX11_lowest_24 (by decide) ?_
    exact nr_retS hx hb hr hlocks (by first | exact Or.inl ⟨k, by omega, by assumption, hn, rfl⟩ | exact Or.inr ⟨fun j hj => hn j (by omega), rfl⟩) rfl dX11_lowest_25
  · refine lv_iload_n hx hb dX11_lowest_8 rfl (lv_at hl 0 rfl) ?_
    refine lv_iload_n hx hb dX11_lowest_9 rfl (lv_at hl 1 rfl) ?_
    refine nr_goB (P := bt q k) (nr_runS (As := [.int (nI q), .int (nI k)]) ⟨hx, hb, hml, hown, hts⟩ hw (c_X11_holds l Γ n G q k (by omega) (by omega)) (va_cwS 2 hts gX11_lowest_X11_holds rfl rfl rfl (by decide +kernel) ⟨Nat.le_of_ble_eq_true rfl, Nat.le_of_ble_eq_true rfl⟩) rfl hl.1 rfl (Nat.le_of_ble_eq_true rfl) dX11_lowest_10 ⟨Nat.zero_le _, Nat.zero_le _⟩) (fun b2 => ?_) (fun b2 => ?_)
    · refine nr_if_eq (tgt := 18) hx hb (by decide) dX11_lowest_13 (by decide) (fun c3 => absurd c3 (by decide)) (fun c3 => ?_)
      refine lv_iload_n hx hb dX11_lowest_16 rfl (lv_at hl 1 rfl) ?_
      exact nr_retS hx hb hr hlocks (by first | exact Or.inl ⟨k, by omega, by assumption, hn, rfl⟩ | exact Or.inr ⟨fun j hj => hn j (by omega), rfl⟩) rfl dX11_lowest_17
    · refine nr_if_eq (tgt := 18) hx hb (by decide) dX11_lowest_13 (by decide) (fun c4 => ?_) (fun c4 => absurd c4 (by decide))
      refine nr_inc (d := 1) (k := 1) (lv' := [(1, .int (nI (k + 1))), (0, .int (nI q))]) hx hb dX11_lowest_18 hl rfl (by decide) (by decide) rfl (fun ls hl => ?_)
      refine lv_goto (tgt := 2) hx hb dX11_lowest_21 (by decide) ?_
      exact ih2 (k + 1) _ _ (lv_sub hl [1, 0] rfl) ⟨rfl, by (try dsimp only); omega, by (try dsimp only); exact (fun j hj => by
          rcases Nat.lt_or_eq_of_le (Nat.le_of_lt_succ hj) with z | z
          · exact hn j z
          · rw [z]; assumption)⟩ (by (try dsimp only); omega)
set_option maxHeartbeats 4000000 in
set_option maxRecDepth 100000 in
theorem c_X9_isLetter (l : Launch) (Γ : Gam) (n : Nat) (G : Nat → va_E) (q : Nat) (hq : q < 2147483648)  : Met l yX9_isLetter wsX9_isLetter ({ frames := 0, cells := 0, slots := 0, locals := 0 }) (va_Pc [.int (nI q)] (fun U => hw Γ n G U U.heap)) (vp_Si (bp (97 ≤ q ∧ q ≤ 122))) 0 0 (fun _ => False) := by
  refine Met.ofW (cc := cX9_isLetter) (maxL := 1) (ret := (some .boolean)) (by decide) rfl ?_
  intro p e s m args below meth c s₁ B hml hv
  obtain ⟨rfl, hw⟩ := hv
  have hx := B.exec
  have hb := B.bytes
  have hr := B.returns
  have hts := atoms_spec (ws := wsX9_isLetter) B.pre
  have hown : s.vm.findClass RX9 = some m.cls := findClass_of_methodNamed B.named
  have hlocks := B.notSynchronized
  have hl := lv_entry ([.int (nI q)]) (n := 1) (Nat.le_of_ble_eq_true rfl)
  rw [lg_entry_eq]
  generalize (lg_sl ([.int (nI q)]) ++ List.replicate (1 - (lg_sl ([.int (nI q)])).length) Slot.unset).toArray = ls at hl ⊢
  have hl : lv_has ls 1 [(0, .int (nI q))] := hl
  refine lv_iload_n hx hb dX9_isLetter_0 rfl (lv_at hl 0 rfl) ?_
  refine lv_bipush (v := nI 97) hx hb dX9_isLetter_1 (by decide) ?_
  refine nr_icmp_lt (tgt := 16) hx hb (by omega) (by decide) dX9_isLetter_3 (by decide) (fun c1 => ?_) (fun c1 => ?_)
  · refine lv_iconst (v := nI 0) hx hb dX9_isLetter_16 (by decide) ?_
    exact nr_retB hx hb hr hlocks (Or.inr ⟨by omega, rfl⟩) rfl dX9_isLetter_17
  · refine lv_iload_n hx hb dX9_isLetter_6 rfl (lv_at hl 0 rfl) ?_
    refine lv_bipush (v := nI 122) hx hb dX9_isLetter_7 (by decide) ?_
    refine nr_icmp_gt (tgt := 16) hx hb (by omega) (by decide) dX9_isLetter_9 (by decide) (fun c2 => ?_) (fun c2 => ?_)
    · refine lv_iconst (v := nI 0) hx hb dX9_isLetter_16 (by decide) ?_
      exact nr_retB hx hb hr hlocks (Or.inr ⟨by omega, rfl⟩) rfl dX9_isLetter_17
    · refine lv_iconst (v := nI 1) hx hb dX9_isLetter_12 (by decide) ?_
      refine lv_goto (tgt := 17) hx hb dX9_isLetter_13 (by decide) ?_
      exact nr_retB hx hb hr hlocks (Or.inl ⟨by omega, rfl⟩) rfl dX9_isLetter_17
set_option maxHeartbeats 4000000 in
set_option maxRecDepth 100000 in
theorem c_X9_isFigure (l : Launch) (Γ : Gam) (n : Nat) (G : Nat → va_E) (q : Nat) (hq : q < 2147483648)  : Met l yX9_isFigure wsX9_isFigure ({ frames := 0, cells := 0, slots := 0, locals := 0 }) (va_Pc [.int (nI q)] (fun U => hw Γ n G U U.heap)) (vp_Si (bp (48 ≤ q ∧ q ≤ 57))) 0 0 (fun _ => False) := by
  refine Met.ofW (cc := cX9_isFigure) (maxL := 1) (ret := (some .boolean)) (by decide) rfl ?_
  intro p e s m args below meth c s₁ B hml hv
  obtain ⟨rfl, hw⟩ := hv
  have hx := B.exec
  have hb := B.bytes
  have hr := B.returns
  have hts := atoms_spec (ws := wsX9_isFigure) B.pre
  have hown : s.vm.findClass RX9 = some m.cls := findClass_of_methodNamed B.named
  have hlocks := B.notSynchronized
  have hl := lv_entry ([.int (nI q)]) (n := 1) (Nat.le_of_ble_eq_true rfl)
  rw [lg_entry_eq]
  generalize (lg_sl ([.int (nI q)]) ++ List.replicate (1 - (lg_sl ([.int (nI q)])).length) Slot.unset).toArray = ls at hl ⊢
  have hl : lv_has ls 1 [(0, .int (nI q))] := hl
  refine lv_iload_n hx hb dX9_isFigure_0 rfl (lv_at hl 0 rfl) ?_
  refine lv_bipush (v := nI 48) hx hb dX9_isFigure_1 (by decide) ?_
  refine nr_icmp_lt (tgt := 16) hx hb (by omega) (by decide) dX9_isFigure_3 (by decide) (fun c1 => ?_) (fun c1 => ?_)
  · refine lv_iconst (v := nI 0) hx hb dX9_isFigure_16 (by decide) ?_
    exact nr_retB hx hb hr hlocks (Or.inr ⟨by omega, rfl⟩) rfl dX9_isFigure_17
  · refine lv_iload_n hx hb dX9_isFigure_6 rfl (lv_at hl 0 rfl) ?_
    refine lv_bipush (v := nI 57) hx hb dX9_isFigure_7 (by decide) ?_
    refine nr_icmp_gt (tgt := 16) hx hb (by omega) (by decide) dX9_isFigure_9 (by decide) (fun c2 => ?_) (fun c2 => ?_)
    · refine lv_iconst (v := nI 0) hx hb dX9_isFigure_16 (by decide) ?_
      exact nr_retB hx hb hr hlocks (Or.inr ⟨by omega, rfl⟩) rfl dX9_isFigure_17
    · refine lv_iconst (v := nI 1) hx hb dX9_isFigure_12 (by decide) ?_
      refine lv_goto (tgt := 17) hx hb dX9_isFigure_13 (by decide) ?_
      exact nr_retB hx hb hr hlocks (Or.inl ⟨by omega, rfl⟩) rfl dX9_isFigure_17
