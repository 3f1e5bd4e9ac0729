theorem arr_prim {s : State} {args : Array Value} {ty : FieldType} (hp : ty = .int ∨ ty = .byte ∨ ty = .boolean) (h : (Cond.arrayClass ty).before args s = true) : ∃ cA : ClassId, ArrOfT s cA ty ∧ va_RA s cA ty := by
  obtain ⟨c, k, comp, h1, h2, h3⟩ := Cond.arrayClass_spec h
  refine ⟨c, fun n z => ⟨(fun k h => by cases h), k, h2, comp, h3⟩, ?_⟩
  rcases hp with rfl | rfl | rfl <;> exact h1
theorem arr_over {s : State} {args : Array Value} {C : String} (h : (Cond.arrayOver (.object C)).before args s = true) : ∃ cA : ClassId, ArrOfT s cA (.object C) ∧ va_RA s cA (.object C) := by
  obtain ⟨comp, cA, kA, f1, f2, f3, f4, f5⟩ := Cond.arrayOver_spec h
  exact ⟨cA, fun n z => ⟨(fun k h => by cases h), kA, f3, comp, f4⟩, kA, comp, f3, f4, f1, f5⟩
set_option maxHeartbeats 4000000 in
set_option maxRecDepth 100000 in
theorem ls_K {s : State} {b : Nat} (hts : ∀ w ∈ lw_tbl, w.before #[Value.ref b] s = true) (hgf : ∀ w ∈ flatC (Jvm.Cond.and given_1 narrow_1), w.before #[Value.ref b] s = true) : ∃ Γ : Gam, cK Γ s := by
  obtain ⟨k0, i0, hK0⟩ := u_known (C := RX0) (T := TX0) (N := 2) (n := 2) hts mw_wsX00 (hts (.instantiable RX0 2) (inT1 _ (lkC_mem (i := 214) rfl)))
  obtain ⟨k1, i1, hK1⟩ := u_known (C := RX1) (T := TX1) (N := 1) (n := 1) hts mw_wsX10 (hts (.instantiable RX1 1) (inT1 _ (lkC_mem (i := 204) rfl)))
  obtain ⟨k2, i2, hK2⟩ := u_known (C := RX4) (T := TX4) (N := 2) (n := 2) hts mw_wsX40 (hts (.instantiable RX4 2) (inT1 _ (lkC_mem (i := 56) rfl)))
  obtain ⟨k3, i3, hK3⟩ := u_known (C := RX5) (T := TX5) (N := 2) (n := 2) hts mw_wsX50 (hts (.instantiable RX5 2) (inT1 _ (lkC_mem (i := 178) rfl)))
  obtain ⟨k4, i4, hK4⟩ := u_known (C := RX6) (T := TX6) (N := 1) (n := 1) hts mw_wsX60 (hts (.instantiable RX6 1) (inT1 _ (lkC_mem (i := 194) rfl)))
  obtain ⟨k5, i5, hK5⟩ := u_known (C := RX7) (T := TX7) (N := 3) (n := 3) hts mw_wsX70 (hts (.instantiable RX7 3) (inT1 _ (lkC_mem (i := 36) rfl)))
  obtain ⟨k6, i6, hK6⟩ := u_known (C := RX9) (T := TX9) (N := 6) (n := 6) hts mw_wsX90 (hts (.instantiable RX9 6) (inT1 _ (lkC_mem (i := 147) rfl)))
  obtain ⟨k7, i7, hK7⟩ := u_known (C := RX10) (T := TX10) (N := 15) (n := 15) hts mw_wsX100 (hts (.instantiable RX10 15) (inT1 _ (lkC_mem (i := 30) rfl)))
  obtain ⟨k8, i8, hK8⟩ := u_known (C := RX11) (T := TX11) (N := 11) (n := 11) hts mw_wsX110 (hts (.instantiable RX11 11) (inT1 _ (lkC_mem (i := 22) rfl)))
  obtain ⟨k9, i9, hK9⟩ := u_known (C := RX12) (T := TX12) (N := 19) (n := 19) hts mw_wsX120 (hts (.instantiable RX12 19) (inT4 _ (lkC_mem (i := 103) rfl)))
  obtain ⟨cI, aI⟩ := arr_prim (ty := .int) (by decide) (hts (.arrayClass .int) (inT1 _ (lkC_mem (i := 54) rfl)))
  obtain ⟨cB, aB⟩ := arr_prim (ty := .byte) (by decide) (hts (.arrayClass .byte) (inT1 _ (lkC_mem (i := 176) rfl)))
  obtain ⟨cZ, aZ⟩ := arr_prim (ty := .boolean) (by decide) (hts (.arrayClass .boolean) (inT1 _ (lkC_mem (i := 175) rfl)))
  have hO : (Cond.arrayOver (.object "BellForgiven$Valley")).before #[Value.ref b] s = true := hts _ (inT1 _ (lkC_mem (i := 145) rfl))
  obtain ⟨cV, aV⟩ := arr_over hO
  refine ⟨((fun k => ([k0, k1, k2, k3, k4, k5, k6, k7, k8, k9] : List ClassId).getD k k0, fun k => ([i0, i1, i2, i3, i4, i5, i6, i7, i8, i9] : List (Nat → Nat)).getD k i0), (cI, cB, cZ, cV), fun _ => 0), ⟨fun c q hq => ?_, fun k q hq => ?_⟩, fun w hw => ?_, va_AO.of hO⟩
  · match c, hq with
    | 0, hq => cases hq; exact hK0
    | 1, hq => cases hq; exact hK1
    | 2, hq => cases hq; exact hK2
    | 3, hq => cases hq; exact hK3
    | 4, hq => cases hq; exact hK4
    | 5, hq => cases hq; exact hK5
    | 6, hq => cases hq; exact hK6
    | 7, hq => cases hq; exact hK7
    | 8, hq => cases hq; exact hK8
    | 9, hq => cases hq; exact hK9
    | c + 10, hq => simp at hq
  · match k, hq with
    | 0, hq => cases hq; exact aI
    | 1, hq => cases hq; exact aB
    | 2, hq => cases hq; exact aZ
    | 3, hq => cases hq; exact aV
    | k + 4, hq => simp [tysG] at hq
  · simp only [nestL, List.mem_cons, List.not_mem_nil, or_false] at hw
    rcases hw with rfl | rfl | rfl | rfl | rfl | rfl | rfl | rfl | rfl | rfl | rfl | rfl | rfl | rfl | rfl | rfl
    · exact va_Nw.of rfl (hts _ (inT1 _ (lkC_mem (i := 148) rfl)))
    · exact va_Nw.of rfl (hts _ (inT1 _ (lkC_mem (i := 179) rfl)))
    · exact va_Nw.of rfl (hts _ (inT1 _ (lkC_mem (i := 195) rfl)))
    · exact va_Nw.of rfl (hts _ (inT1 _ (lkC_mem (i := 205) rfl)))
    · exact va_Nw.of rfl (hts _ (inT1 _ (lkC_mem (i := 215) rfl)))
    · exact va_Nw.of rfl (hts _ (inT1 _ (lkC_mem (i := 31) rfl)))
    · exact va_Nw.of rfl (hts _ (inT4 _ (lkC_mem (i := 26) rfl)))
    · exact va_Nw.of rfl (hts _ (inT3 _ (lkC_mem (i := 186) rfl)))
    · exact va_Nw.of rfl (hts _ (inT4 _ (lkC_mem (i := 8) rfl)))
    · exact va_Nw.of rfl (hts _ (inT1 _ (lkC_mem (i := 184) rfl)))
    · exact va_Nw.of rfl (hts _ (inT2 _ (lkC_mem (i := 185) rfl)))
    · exact va_Nw.of rfl (hts _ (inT3 _ (lkC_mem (i := 97) rfl)))
    · exact va_Nw.of rfl (hts _ (inT3 _ (lkC_mem (i := 81) rfl)))
    · exact va_Nw.of rfl (hts _ (inT1 _ (lkC_mem (i := 57) rfl)))
    · exact va_Nw.of rfl (hts _ (inT2 _ (lkC_mem (i := 57) rfl)))
    · exact va_Nw.of rfl (hts _ (inT2 _ (lkC_mem (i := 194) rfl)))
set_option maxHeartbeats 4000000 in
set_option maxRecDepth 100000 in
theorem ls_S {s : State} {b : Nat} {A : Nat → Prop} (hts : ∀ w ∈ lw_tbl, w.before #[Value.ref b] s = true) (hgf : ∀ w ∈ flatC (Jvm.Cond.and given_1 narrow_1), w.before #[Value.ref b] s = true) (hA : ∀ a : Nat, a < s.heap.size → ¬ A a) : ∃ (ak av : Nat → Nat) (fr0 : Option Nat), kSt A ak av fr0 s s.heap := by
  obtain ⟨ak, av, hS, hev⟩ := vk_Sof (args := #[Value.ref b]) (s := s) (N := 5) (tm := fun i => .string "BellForgiven$Text" (61 + 2 * i)) (len := [6, 3, 5, 4, 4]) (byt := bytW) (A := A) (by decide +kernel)
    (fun i hi => hgf _ ((show ∀ i, i < 5 → Cond.exactly (.string "BellForgiven$Text" (61 + 2 * i)) "java/lang/String" ∈ flatC (Jvm.Cond.and given_1 narrow_1) by decide +kernel) i hi))
    (fun i hi => hgf _ ((show ∀ i, i < 5 → Cond.eq (.field (.string "BellForgiven$Text" (61 + 2 * i)) "java/lang/String" "coder" "B") (.int 0) ∈ flatC (Jvm.Cond.and given_1 narrow_1) by decide +kernel) i hi))
    (fun i hi => hgf _ ((show ∀ i, i < 5 → Cond.arrayOf (.field (.string "BellForgiven$Text" (61 + 2 * i)) "java/lang/String" "value" "[B") .byte ∈ flatC (Jvm.Cond.and given_1 narrow_1) by decide +kernel) i hi))
    (fun i hi => hgf _ ((show ∀ i, i < 5 → Cond.eq (.length (.field (.string "BellForgiven$Text" (61 + 2 * i)) "java/lang/String" "value" "[B")) (.int (Int32.ofNat (([6, 3, 5, 4, 4] : List Nat).getD i 0))) ∈ flatC (Jvm.Cond.and given_1 narrow_1) by decide +kernel) i hi))
    (fun i hi j hj => hgf _ ((show ∀ i, i < 5 → ∀ j, j < ([6, 3, 5, 4, 4] : List Nat).getD i 0 → Cond.eq (.elem (.field (.string "BellForgiven$Text" (61 + 2 * i)) "java/lang/String" "value" "[B") (.int (Int32.ofNat j))) (.int ((bytW.getD i []).getD j 0)) ∈ flatC (Jvm.Cond.and given_1 narrow_1) by decide +kernel) i hi j hj))
    (fun i j hi hj hij => ((show ∀ i, i < 5 → ∀ j, j < 5 → i ≠ j → Cond.not (Cond.eq (.string "BellForgiven$Text" (61 + 2 * i)) (.string "BellForgiven$Text" (61 + 2 * j))) ∈ flatC (Jvm.Cond.and given_1 narrow_1) ∨ Cond.not (Cond.eq (.string "BellForgiven$Text" (61 + 2 * j)) (.string "BellForgiven$Text" (61 + 2 * i))) ∈ flatC (Jvm.Cond.and given_1 narrow_1) by decide +kernel) i hi j hj hij).imp (hgf _) (hgf _))
    hA
  have hR : ∀ i, i < 5 → vk_R RX9 (61 + 2 * i) (txtW.getD i "") (ak i) s := fun i hi => by
    have h2 := hev i hi
    match i, hi with
    | 0, _ => exact vk_R.of (hts (.stringRef RX9 61 "valley") (inT2 _ (lkC_mem (i := 101) rfl))) h2
    | 1, _ => exact vk_R.of (hts (.stringRef RX9 63 "one") (inT2 _ (lkC_mem (i := 102) rfl))) h2
    | 2, _ => exact vk_R.of (hts (.stringRef RX9 65 "wrong") (inT2 _ (lkC_mem (i := 103) rfl))) h2
    | 3, _ => exact vk_R.of (hts (.stringRef RX9 67 "ring") (inT2 _ (lkC_mem (i := 104) rfl))) h2
    | 4, _ => exact vk_R.of (hts (.stringRef RX9 69 "days") (inT2 _ (lkC_mem (i := 105) rfl))) h2
    | i + 5, h => exact absurd h (by omega)
  have hC : va_Z "java/lang/String" "COMPACT_STRINGS" "Z" (.int (nI 1)) A s s.heap := va_Zof (hts (.laysStatic "java/lang/String" "COMPACT_STRINGS" "Z") (inT2 _ (lkC_mem (i := 119) rfl))) (hts (.initialized "java/lang/String") (inT1 _ (lkC_mem (i := 11) rfl))) (va_eqt (hgf (.eq (.static "java/lang/String" "COMPACT_STRINGS" "Z") (.int 1)) (by decide +kernel))) hA
  have hF : va_Zq "jdk/internal/util/Preconditions" "SIOOBE_FORMATTER" "Ljava/util/function/BiFunction;" A s s.heap := va_Zqof (hts (.laysStatic "jdk/internal/util/Preconditions" "SIOOBE_FORMATTER" "Ljava/util/function/BiFunction;") (inT2 _ (lkC_mem (i := 135) rfl))) (hts (.initialized "jdk/internal/util/Preconditions") (inT1 _ (lkC_mem (i := 13) rfl))) (hgf (.isRef (.static "jdk/internal/util/Preconditions" "SIOOBE_FORMATTER" "Ljava/util/function/BiFunction;")) (by decide +kernel)) hA
  rcases hF with hF | ⟨t, hF⟩
  · exact ⟨ak, av, none, hS, hR, hC, hF⟩
  · exact ⟨ak, av, some t, hS, hR, hC, hF⟩
