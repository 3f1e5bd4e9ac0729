theorem dX11_within_0 : decode cX11_within 0 = .ok (.iload_n 0, 1) := by decide +kernel
theorem dX11_within_1 : decode cX11_within 1 = .ok (.iload_n 1, 1) := by decide +kernel
theorem dX11_within_2 : decode cX11_within 2 = .ok (.if_icmp .lt 12, 3) := by decide +kernel
theorem dX11_within_5 : decode cX11_within 5 = .ok (.iload_n 0, 1) := by decide +kernel
theorem dX11_within_6 : decode cX11_within 6 = .ok (.iload_n 2, 1) := by decide +kernel
theorem dX11_within_7 : decode cX11_within 7 = .ok (.if_icmp .gt 7, 3) := by decide +kernel
theorem dX11_within_10 : decode cX11_within 10 = .ok (.iconst 1, 1) := by decide +kernel
theorem dX11_within_11 : decode cX11_within 11 = .ok (.goto 4, 3) := by decide +kernel
theorem dX11_within_14 : decode cX11_within 14 = .ok (.iconst 0, 1) := by decide +kernel
theorem dX11_within_15 : decode cX11_within 15 = .ok (.ireturn, 1) := by decide +kernel
theorem dX11_holds_0 : decode cX11_holds 0 = .ok (.iload_n 0, 1) := by decide +kernel
theorem dX11_holds_1 : decode cX11_holds 1 = .ok (.iload_n 1, 1) := by decide +kernel
theorem dX11_holds_2 : decode cX11_holds 2 = .ok (.ishr, 1) := by decide +kernel
theorem dX11_holds_3 : decode cX11_holds 3 = .ok (.iconst 1, 1) := by decide +kernel
theorem dX11_holds_4 : decode cX11_holds 4 = .ok (.iand, 1) := by decide +kernel
theorem dX11_holds_5 : decode cX11_holds 5 = .ok (.ifCond .eq 7, 3) := by decide +kernel
theorem dX11_holds_8 : decode cX11_holds 8 = .ok (.iconst 1, 1) := by decide +kernel
theorem dX11_holds_9 : decode cX11_holds 9 = .ok (.goto 4, 3) := by decide +kernel
theorem dX11_holds_12 : decode cX11_holds 12 = .ok (.iconst 0, 1) := by decide +kernel
theorem dX11_holds_13 : decode cX11_holds 13 = .ok (.ireturn, 1) := by decide +kernel
set_option maxHeartbeats 4000000 in
set_option maxRecDepth 100000 in
theorem c_X11_within (l : Launch) (Γ : Gam) (n : Nat) (G : Nat → va_E) (x y z : Int32)  : Met l yX11_within wsX11_within ({ frames := 0, cells := 0, slots := 0, locals := 0 }) (va_Pc [.int x, .int y, .int z] (fun U => hw Γ n G U U.heap)) (vp_Si (bp (y ≤ x ∧ x ≤ z))) 0 0 (fun _ => False) := by
  refine Met.ofW (cc := cX11_within) (maxL := 3) (ret := (some .boolean)) (by decide) rfl ?_
  intro p e s m args below meth c s₁ B hml hv
  obtain ⟨rfl, hw⟩ := hv
  have hx := B.exec
  have hb := B.bytes
  have hr := B.returns
  have hts := atoms_spec (ws := wsX11_within) B.pre
  have hown : s.vm.findClass RX11 = some m.cls := findClass_of_methodNamed B.named
  have hlocks := B.notSynchronized
  have hl := lv_entry ([.int x, .int y, .int z]) (n := 3) (Nat.le_of_ble_eq_true rfl)
  rw [lg_entry_eq]
  generalize (lg_sl ([.int x, .int y, .int z]) ++ List.replicate (3 - (lg_sl ([.int x, .int y, .int z])).length) Slot.unset).toArray = ls at hl ⊢
  have hl : lv_has ls 3 [(0, .int x), (1, .int y), (2, .int z)] := hl
  refine lv_iload_n hx hb dX11_within_0 rfl (lv_at hl 0 rfl) ?_
  refine lv_iload_n hx hb dX11_within_1 rfl (lv_at hl 1 rfl) ?_
  refine lv_icmp_lt (tgt := 14) hx hb dX11_within_2 (by decide) (fun c1 => ?_) (fun c1 => ?_)
  · refine lv_iconst (v := nI 0) hx hb dX11_within_14 (by decide) ?_
    exact nr_retB hx hb hr hlocks (Or.inr ⟨by intro hh; first | exact absurd hh.1 (Int32.not_le.mpr c1) | exact absurd hh.2 (Int32.not_le.mpr c2), rfl⟩) rfl dX11_within_15
  · refine lv_iload_n hx hb dX11_within_5 rfl (lv_at hl 0 rfl) ?_
    refine lv_iload_n hx hb dX11_within_6 rfl (lv_at hl 2 rfl) ?_
    refine lv_icmp_gt (tgt := 14) hx hb dX11_within_7 (by decide) (fun c2 => ?_) (fun c2 => ?_)
    · refine lv_iconst (v := nI 0) hx hb dX11_within_14 (by decide) ?_
      exact nr_retB hx hb hr hlocks (Or.inr ⟨by intro hh; first | exact absurd hh.1 (Int32.not_le.mpr c1) | exact absurd hh.2 (Int32.not_le.mpr c2), rfl⟩) rfl dX11_within_15
    · refine lv_iconst (v := nI 1) hx hb dX11_within_10 (by decide) ?_
      refine lv_goto (tgt := 15) hx hb dX11_within_11 (by decide) ?_
      exact nr_retB hx hb hr hlocks (Or.inl ⟨⟨Int32.not_lt.mp c1, Int32.not_lt.mp c2⟩, rfl⟩) rfl dX11_within_15
set_option maxHeartbeats 4000000 in
set_option maxRecDepth 100000 in
theorem c_X11_holds (l : Launch) (Γ : Gam) (n : Nat) (G : Nat → va_E) (q k : Nat) (hs : q < 2147483648) (hk : k < 32)  : Met l yX11_holds wsX11_holds ({ frames := 0, cells := 0, slots := 0, locals := 0 }) (va_Pc [.int (nI q), .int (nI k)] (fun U => hw Γ n G U U.heap)) (vp_Si (bp (bt q k))) 0 0 (fun _ => False) := by
  refine Met.ofW (cc := cX11_holds) (maxL := 2) (ret := (some .boolean)) (by decide) rfl ?_
  intro p e s m args below meth c s₁ B hml hv
  obtain ⟨rfl, hw⟩ := hv
  have hx := B.exec
  have hb := B.bytes
  have hr := B.returns
  have hts := atoms_spec (ws := wsX11_holds) B.pre
  have hown : s.vm.findClass RX11 = some m.cls := findClass_of_methodNamed B.named
  have hlocks := B.notSynchronized
  have hl := lv_entry ([.int (nI q), .int (nI k)]) (n := 2) (Nat.le_of_ble_eq_true rfl)
  rw [lg_entry_eq]
  generalize (lg_sl ([.int (nI q), .int (nI k)]) ++ List.replicate (2 - (lg_sl ([.int (nI q), .int (nI k)])).length) Slot.unset).toArray = ls at hl ⊢
  have hl : lv_has ls 2 [(0, .int (nI q)), (1, .int (nI k))] := hl
  refine lv_iload_n hx hb dX11_holds_0 rfl (lv_at hl 0 rfl) ?_
  refine lv_iload_n hx hb dX11_holds_1 rfl (lv_at hl 1 rfl) ?_
  refine nr_ishr hx hb (by omega) (by omega) dX11_holds_2 ?_
  refine lv_iconst (v := nI 1) hx hb dX11_holds_3 (by decide) ?_
  refine nr_iand1 hx hb dX11_holds_4 ?_
  refine nr_if_eq (tgt := 12) hx hb (by omega) dX11_holds_5 (by decide) (fun c1 => ?_) (fun c1 => ?_)
  · refine lv_iconst (v := nI 0) hx hb dX11_holds_12 (by decide) ?_
    exact nr_retB hx hb hr hlocks (Or.inr ⟨by omega, rfl⟩) rfl dX11_holds_13
  · refine lv_iconst (v := nI 1) hx hb dX11_holds_8 (by decide) ?_
    refine lv_goto (tgt := 13) hx hb dX11_holds_9 (by decide) ?_
    exact nr_retB hx hb hr hlocks (Or.inl ⟨by omega, rfl⟩) rfl dX11_holds_13
theorem wl_X2_weight_1 : Cond.methodLink RX2 7 Lib.Math.max.name ∈ wsX2_weight := List.mem_of_getElem? (i := 1) rfl
theorem wl_X2_weight_2 : Cond.static Lib.Math.max.name ∈ wsX2_weight := List.mem_of_getElem? (i := 2) rfl
theorem wl_X2_weight_3 : Cond.initialized "java/lang/Math" ∈ wsX2_weight := List.mem_of_getElem? (i := 3) rfl
theorem wl_X2_weight_4 : Cond.code Lib.Math.max.name Lib.Math.max.code 2 (some .int) ∈ wsX2_weight := List.mem_of_getElem? (i := 4) rfl
theorem wl_X2_weight_5 : Cond.methodLink RX2 13 Lib.Math.min.name ∈ wsX2_weight := List.mem_of_getElem? (i := 5) rfl
theorem wl_X2_weight_6 : Cond.static Lib.Math.min.name ∈ wsX2_weight := List.mem_of_getElem? (i := 6) rfl
theorem wl_X2_weight_7 : Cond.code Lib.Math.min.name Lib.Math.min.code 2 (some .int) ∈ wsX2_weight := List.mem_of_getElem? (i := 7) rfl
set_option maxHeartbeats 4000000 in
set_option maxRecDepth 100000 in
theorem c_X2_weight (l : Launch) (Γ : Gam) (n : Nat) (G : Nat → va_E) (kind g d : Nat) (hk : kind < 2147483648) (hg : g < 1073741824) (hd : d < 1073741824)  : Met l yX2_weight wsX2_weight ({ frames := 1, cells := 0, slots := 0, locals := 21 }) (va_Pc [.int (nI kind), .int (nI g), .int (nI d)] (fun U => hw Γ n G U U.heap)) (vp_Si (fun z => z = nI (sWeight kind g d))) 0 0 (fun _ => False) := by
  refine Met.ofW (cc := cX2_weight) (maxL := 5) (ret := (some .int)) (by decide) rfl ?_
  intro p e s m args below meth c s₁ B hml hv
  obtain ⟨rfl, hw⟩ := hv
  have hx := B.exec
  have hb := B.bytes
  have hr := B.returns
  have hts := atoms_spec (ws := wsX2_weight) B.pre
  have hown : s.vm.findClass RX2 = some m.cls := findClass_of_methodNamed B.named
  have hlocks := B.notSynchronized
  have hl := lv_entry ([.int (nI kind), .int (nI g), .int (nI d)]) (n := 5) (Nat.le_of_ble_eq_true rfl)
  rw [lg_entry_eq]
  generalize (lg_sl ([.int (nI kind), .int (nI g), .int (nI d)]) ++ List.replicate (5 - (lg_sl ([.int (nI kind), .int (nI g), .int (nI d)])).length) Slot.unset).toArray = ls at hl ⊢
  have hl : lv_has ls 5 [(0, .int (nI kind)), (1, .int (nI g)), (2, .int (nI d))] := hl
  refine lv_iconst (v := nI 0) hx hb dX2_weight_0 (by decide) ?_
  refine lv_iload_n hx hb dX2_weight_1 rfl (lv_at hl 1 rfl) ?_
  refine lv_iload_n hx hb dX2_weight_2 rfl (lv_at hl 2 rfl) ?_
  refine lv_iconst (v := nI 3) hx hb dX2_weight_3 (by decide) ?_
  refine nr_idiv hx hb (by omega) (by decide) (by decide) dX2_weight_4 ?_
  refine lv_isub hx hb dX2_weight_5 ?_
  refine nr_mmax0 hx hb (hml.trans hl.1.symm) hown (hts _ wl_X2_weight_1) (hts _ wl_X2_weight_2) (hts _ wl_X2_weight_3) (hts _ wl_X2_weight_4) (Nat.le_of_ble_eq_true rfl) (Nat.le_of_ble_eq_true rfl) (Nat.zero_le _) (Nat.zero_le _) (by omega) (by omega) dX2_weight_6 ?_
  refine lv_istore_n (lv' := [(3, .int (nI (g - (d / 3)))), (0, .int (nI kind)), (1, .int (nI g)), (2, .int (nI d))]) hx hb dX2_weight_9 rfl hl (by decide) rfl (fun ls hl => ?_)
  refine lv_iload_n hx hb dX2_weight_10 rfl (lv_at hl 2 rfl) ?_
  refine lv_iconst (v := nI 5) hx hb dX2_weight_11 (by decide) ?_
  refine lv_iload_n hx hb dX2_weight_12 rfl (lv_at hl 3 rfl) ?_
  refine lv_iconst (v := nI 5) hx hb dX2_weight_13 (by decide) ?_
  refine nr_idiv hx hb (by omega) (by decide) (by decide) dX2_weight_14 ?_
  refine nr_mmin hx hb (hml.trans hl.1.symm) hown (hts _ wl_X2_weight_5) (hts _ wl_X2_weight_6) (hts _ wl_X2_weight_3) (hts _ wl_X2_weight_7) (Nat.le_of_ble_eq_true rfl) (Nat.le_of_ble_eq_true rfl) (Nat.zero_le _) (Nat.zero_le _) (by decide) (by omega) dX2_weight_15 ?_
  refine nr_iadd hx hb dX2_weight_18 ?_
  refine lv_istore (lv' := [(4, .int (nI (g + (min 5 (d / 5))))), (3, .int (nI (g - (d / 3)))), (0, .int (nI kind)), (1, .int (nI g)), (2, .int (nI d))]) hx hb dX2_weight_19 hl (by decide) rfl (fun ls hl => ?_)
  refine lv_iload_n hx hb dX2_weight_21 rfl (lv_at hl 2 rfl) ?_
  rcases (show kind = 1 ∨ kind = 2 ∨ kind = 3 ∨ kind = 4 ∨ kind = 5 ∨ (kind < 1 ∨ 5 < kind) by omega) with c1 | c1 | c1 | c1 | c1 | c1
  · refine nr_tabIn (j := 1) (tgt := 56) hx hb (by omega) c1 dX2_weight_22 (by decide) (by decide) rfl (by decide) ?_
    refine lv_iload_n hx hb dX2_weight_56 rfl (lv_at hl 1 rfl) ?_
    exact nr_retS hx hb hr hlocks (by refine congrArg nI ?_; unfold sWeight; (repeat' split) <;> omega) rfl dX2_weight_57
  · refine nr_tabIn (j := 2) (tgt := 58) hx hb (by omega) c1 dX2_weight_22 (by decide) (by decide) rfl (by decide) ?_
    refine lv_iload hx hb dX2_weight_58 (lv_at hl 0 rfl) ?_
    exact nr_retS hx hb hr hlocks (by refine congrArg nI ?_; unfold sWeight; (repeat' split) <;> omega) rfl dX2_weight_60
  · refine nr_tabIn (j := 3) (tgt := 61) hx hb (by omega) c1 dX2_weight_22 (by decide) (by decide) rfl (by decide) ?_
    refine lv_iconst (v := nI 2) hx hb dX2_weight_61 (by decide) ?_
    refine lv_iload_n hx hb dX2_weight_62 rfl (lv_at hl 1 rfl) ?_
    refine nr_mmax hx hb (hml.trans hl.1.symm) hown (hts _ wl_X2_weight_1) (hts _ wl_X2_weight_2) (hts _ wl_X2_weight_3) (hts _ wl_X2_weight_4) (Nat.le_of_ble_eq_true rfl) (Nat.le_of_ble_eq_true rfl) (Nat.zero_le _) (Nat.zero_le _) (by decide) (by omega) dX2_weight_63 ?_
    exact nr_retS hx hb hr hlocks (by refine congrArg nI ?_; unfold sWeight; (repeat' split) <;> omega) rfl dX2_weight_66
  · refine nr_tabIn (j := 4) (tgt := 67) hx hb (by omega) c1 dX2_weight_22 (by decide) (by decide) rfl (by decide) ?_
    refine lv_iconst (v := nI 2) hx hb dX2_weight_67 (by decide) ?_
    refine lv_iload hx hb dX2_weight_68 (lv_at hl 0 rfl) ?_
    refine nr_imul hx hb dX2_weight_70 ?_
    exact nr_retS hx hb hr hlocks (by refine congrArg nI ?_; unfold sWeight; (repeat' split) <;> omega) rfl dX2_weight_71
  · refine nr_tabIn (j := 5) (tgt := 72) hx hb (by omega) c1 dX2_weight_22 (by decide) (by decide) rfl (by decide) ?_
    refine lv_iload_n hx hb dX2_weight_72 rfl (lv_at hl 4 rfl) ?_
    refine lv_iconst (v := nI 1) hx hb dX2_weight_73 (by decide) ?_
    refine nr_icmp_lt (tgt := 88) hx hb (by omega) (by decide) dX2_weight_74 (by decide) (fun c2 => ?_) (fun c2 => ?_)
    · refine lv_iload_n hx hb dX2_weight_88 rfl (lv_at hl 1 rfl) ?_
      exact nr_retS hx hb hr hlocks (by refine congrArg nI ?_; unfold sWeight; (repeat' split) <;> omega) rfl dX2_weight_89
    · refine lv_iload_n hx hb dX2_weight_77 rfl (lv_at hl 4 rfl) ?_
      refine lv_bipush (v := nI 7) hx hb dX2_weight_78 (by decide) ?_
      refine nr_irem hx hb (by omega) (by decide) (by decide) dX2_weight_80 ?_
      refine nr_if_ne (tgt := 88) hx hb (by omega) dX2_weight_81 (by decide) (fun c3 => ?_) (fun c3 => ?_)
      · refine lv_iload_n hx hb dX2_weight_88 rfl (lv_at hl 1 rfl) ?_
        exact nr_retS hx hb hr hlocks (by refine congrArg nI ?_; unfold sWeight; (repeat' split) <;> omega) rfl dX2_weight_89
      · refine lv_iconst (v := nI 0) hx hb dX2_weight_84 (by decide) ?_
        refine lv_goto (tgt := 89) hx hb dX2_weight_85 (by decide) ?_
        exact nr_retS hx hb hr hlocks (by refine congrArg nI ?_; unfold sWeight; (repeat' split) <;> omega) rfl dX2_weight_89
  · refine nr_tabOut (tgt := 90) hx hb (by omega) dX2_weight_22 (by omega) (by decide) ?_
    refine lv_iload_n hx hb dX2_weight_90 rfl (lv_at hl 3 rfl) ?_
    exact nr_retS hx hb hr hlocks (by refine congrArg nI ?_; unfold sWeight; (repeat' split) <;> omega) rfl dX2_weight_91
theorem wl_X2_mercy_1 : Cond.methodLink RX2 13 Lib.Math.min.name ∈ wsX2_mercy := List.mem_of_getElem? (i := 1) rfl
theorem wl_X2_mercy_2 : Cond.static Lib.Math.min.name ∈ wsX2_mercy := List.mem_of_getElem? (i := 2) rfl
theorem wl_X2_mercy_3 : Cond.initialized "java/lang/Math" ∈ wsX2_mercy := List.mem_of_getElem? (i := 3) rfl
theorem wl_X2_mercy_4 : Cond.code Lib.Math.min.name Lib.Math.min.code 2 (some .int) ∈ wsX2_mercy := List.mem_of_getElem? (i := 4) rfl
set_option maxHeartbeats 4000000 in
set_option maxRecDepth 100000 in
theorem c_X2_mercy (l : Launch) (Γ : Gam) (n : Nat) (G : Nat → va_E) (kind r t : Nat) (hk : kind < 2147483648) (hr : r < 1073741824) (ht : t < 1073741824)  : Met l yX2_mercy wsX2_mercy ({ frames := 1, cells := 0, slots := 0, locals := 21 }) (va_Pc [.int (nI kind), .int (nI r), .int (nI t)] (fun U => hw Γ n G U U.heap)) (vp_Si (fun z => z = nI (sMercy kind r t))) 0 0 (fun _ => False) := by
  refine Met.ofW (cc := cX2_mercy) (maxL := 6) (ret := (some .int)) (by decide) rfl ?_
  intro p e s m args below meth c s₁ B hml hv
  obtain ⟨rfl, hw⟩ := hv
  have hx := B.exec
  have hb := B.bytes
  have hr := B.returns
  have hts := atoms_spec (ws := wsX2_mercy) B.pre
  have hown : s.vm.findClass RX2 = some m.cls := findClass_of_methodNamed B.named
  have hlocks := B.notSynchronized
  have hl := lv_entry ([.int (nI kind), .int (nI r), .int (nI t)]) (n := 6) (Nat.le_of_ble_eq_true rfl)
  rw [lg_entry_eq]
  generalize (lg_sl ([.int (nI kind), .int (nI r), .int (nI t)]) ++ List.replicate (6 - (lg_sl ([.int (nI kind), .int (nI r), .int (nI t)])).length) Slot.unset).toArray = ls at hl ⊢
  have hl : lv_has ls 6 [(0, .int (nI kind)), (1, .int (nI r)), (2, .int (nI t))] := hl
  refine lv_iconst (v := nI 2) hx hb dX2_mercy_0 (by decide) ?_
  refine lv_iload_n hx hb dX2_mercy_1 rfl (lv_at hl 1 rfl) ?_
  refine nr_iadd hx hb dX2_mercy_2 ?_
  refine lv_istore_n (lv' := [(3, .int (nI (2 + r))), (0, .int (nI kind)), (1, .int (nI r)), (2, .int (nI t))]) hx hb dX2_mercy_3 rfl hl (by decide) rfl (fun ls hl => ?_)
  refine lv_iload_n hx hb dX2_mercy_4 rfl (lv_at hl 0 rfl) ?_
  refine lv_iconst (v := nI 3) hx hb dX2_mercy_5 (by decide) ?_
  refine nr_iadd hx hb dX2_mercy_6 ?_
  refine lv_istore (lv' := [(4, .int (nI (2 + r + 3))), (3, .int (nI (2 + r))), (0, .int (nI kind)), (1, .int (nI r)), (2, .int (nI t))]) hx hb dX2_mercy_7 hl (by decide) rfl (fun ls hl => ?_)
  refine lv_iload_n hx hb dX2_mercy_9 rfl (lv_at hl 1 rfl) ?_
  refine lv_iconst (v := nI 2) hx hb dX2_mercy_10 (by decide) ?_
  refine nr_idiv hx hb (by omega) (by decide) (by decide) dX2_mercy_11 ?_
  refine lv_istore (lv' := [(5, .int (nI ((2 + r) / 2))), (4, .int (nI (2 + r + 3))), (3, .int (nI (2 + r))), (0, .int (nI kind)), (1, .int (nI r)), (2, .int (nI t))]) hx hb dX2_mercy_12 hl (by decide) rfl (fun ls hl => ?_)
  refine lv_iload_n hx hb dX2_mercy_14 rfl (lv_at hl 3 rfl) ?_
  rcases (show kind = 1 ∨ kind = 2 ∨ kind = 3 ∨ kind = 4 ∨ kind = 5 ∨ (kind < 1 ∨ 5 < kind) by omega) with c1 | c1 | c1 | c1 | c1 | c1
  · refine nr_tabIn (j := 1) (tgt := 48) hx hb (by omega) c1 dX2_mercy_15 (by decide) (by decide) rfl (by decide) ?_
    refine lv_iload hx hb dX2_mercy_48 (lv_at hl 1 rfl) ?_
    exact nr_retS hx hb hr hlocks (by refine congrArg nI ?_; unfold sMercy; (repeat' split) <;> omega) rfl dX2_mercy_50
  · refine nr_tabIn (j := 2) (tgt := 51) hx hb (by omega) c1 dX2_mercy_15 (by decide) (by decide) rfl (by decide) ?_
    refine lv_iload hx hb dX2_mercy_51 (lv_at hl 0 rfl) ?_
    exact nr_retS hx hb hr hlocks (by refine congrArg nI ?_; unfold sMercy; (repeat' split) <;> omega) rfl dX2_mercy_53
  · refine nr_tabIn (j := 3) (tgt := 54) hx hb (by omega) c1 dX2_mercy_15 (by decide) (by decide) rfl (by decide) ?_
    refine lv_iload_n hx hb dX2_mercy_54 rfl (lv_at hl 5 rfl) ?_
    refine lv_bipush (v := nI 30) hx hb dX2_mercy_55 (by decide) ?_
    refine nr_irem hx hb (by omega) (by decide) (by decide) dX2_mercy_57 ?_
    refine nr_if_ne (tgt := 66) hx hb (by omega) dX2_mercy_58 (by decide) (fun c2 => ?_) (fun c2 => ?_)
    · refine lv_iload hx hb dX2_mercy_66 (lv_at hl 0 rfl) ?_
      exact nr_retS hx hb hr hlocks (by refine congrArg nI ?_; unfold sMercy; (repeat' split) <;> omega) rfl dX2_mercy_68
    · refine lv_bipush (v := nI 30) hx hb dX2_mercy_61 (by decide) ?_
      refine lv_goto (tgt := 68) hx hb dX2_mercy_63 (by decide) ?_
      exact nr_retS hx hb hr hlocks (by refine congrArg nI ?_; unfold sMercy; (repeat' split) <;> omega) rfl dX2_mercy_68
  · refine nr_tabIn (j := 4) (tgt := 69) hx hb (by omega) c1 dX2_mercy_15 (by decide) (by decide) rfl (by decide) ?_
    refine lv_iload_n hx hb dX2_mercy_69 rfl (lv_at hl 4 rfl) ?_
    refine lv_iconst (v := nI 2) hx hb dX2_mercy_70 (by decide) ?_
    refine nr_icmp_lt (tgt := 81) hx hb (by omega) (by decide) dX2_mercy_71 (by decide) (fun c3 => ?_) (fun c3 => ?_)
    · refine lv_iload hx hb dX2_mercy_81 (lv_at hl 0 rfl) ?_
      exact nr_retS hx hb hr hlocks (by refine congrArg nI ?_; unfold sMercy; (repeat' split) <;> omega) rfl dX2_mercy_83
    · refine lv_iload hx hb dX2_mercy_74 (lv_at hl 0 rfl) ?_
      refine lv_iconst (v := nI 1) hx hb dX2_mercy_76 (by decide) ?_
      refine nr_iadd hx hb dX2_mercy_77 ?_
      refine lv_goto (tgt := 83) hx hb dX2_mercy_78 (by decide) ?_
      exact nr_retS hx hb hr hlocks (by refine congrArg nI ?_; unfold sMercy; (repeat' split) <;> omega) rfl dX2_mercy_83
  · refine nr_tabIn (j := 5) (tgt := 84) hx hb (by omega) c1 dX2_mercy_15 (by decide) (by decide) rfl (by decide) ?_
    refine lv_iload hx hb dX2_mercy_84 (lv_at hl 1 rfl) ?_
    refine lv_bipush (v := nI 9) hx hb dX2_mercy_86 (by decide) ?_
    refine lv_iload_n hx hb dX2_mercy_88 rfl (lv_at hl 5 rfl) ?_
    refine lv_bipush (v := nI 10) hx hb dX2_mercy_89 (by decide) ?_
    refine nr_idiv hx hb (by omega) (by decide) (by decide) dX2_mercy_91 ?_
    refine nr_mmin hx hb (hml.trans hl.1.symm) hown (hts _ wl_X2_mercy_1) (hts _ wl_X2_mercy_2) (hts _ wl_X2_mercy_3) (hts _ wl_X2_mercy_4) (Nat.le_of_ble_eq_true rfl) (Nat.le_of_ble_eq_true rfl) (Nat.zero_le _) (Nat.zero_le _) (by decide) (by omega) dX2_mercy_92 ?_
    refine nr_iadd hx hb dX2_mercy_95 ?_
    exact nr_retS hx hb hr hlocks (by refine congrArg nI ?_; unfold sMercy; (repeat' split) <;> omega) rfl dX2_mercy_96
  · refine nr_tabOut (tgt := 97) hx hb (by omega) dX2_mercy_15 (by omega) (by decide) ?_
    refine lv_iload_n hx hb dX2_mercy_97 rfl (lv_at hl 2 rfl) ?_
    exact nr_retS hx hb hr hlocks (by refine congrArg nI ?_; unfold sMercy; (repeat' split) <;> omega) rfl dX2_mercy_98
theorem wl_X10_hasPerson_1 : Cond.fieldLink RX10 55 "BellForgiven$Valley" "people" "I" ∈ wsX10_hasPerson := List.mem_of_getElem? (i := 1) rfl
theorem wl_X10_hasPerson_2 : Cond.static yX11_within ∈ wsX10_hasPerson := List.mem_of_getElem? (i := 2) rfl
theorem wl_X10_hasPerson_3 : Cond.initialized RX11 ∈ wsX10_hasPerson := List.mem_of_getElem? (i := 3) rfl
theorem hi_X10_hasPerson_X10 : ∀ w ∈ u_ws RX10 TX10 15, w ∈ wsX10_hasPerson := fun w h => (List.mem_cons_of_mem _ (List.mem_append_right _ h))
set_option maxHeartbeats 4000000 in
set_option maxRecDepth 100000 in
theorem c_X10_hasPerson (l : Launch) (Γ : Gam) (n : Nat) (G : Nat → va_E) (b : Nat) (V : Nat → Nat) (hV : isV Γ G b V) (hI : vI V) (hbn : b + 16 ≤ n) (i : Int32)  : Met l yX10_hasPerson wsX10_hasPerson ({ frames := 1, cells := 0, slots := 0, locals := 22 }) (va_Pc [.ref (ad Γ (b + 0)), .int i] (fun U => hw Γ n G U U.heap)) (vp_Si (bp (∃ j, j < V 0 ∧ i = nI j))) 0 0 (fun _ => False) := by
  refine Met.ofW (cc := cX10_hasPerson) (maxL := 2) (ret := (some .boolean)) (by decide) rfl ?_
  intro p e s m args below meth c s₁ B hml hv
  obtain ⟨rfl, hw⟩ := hv
  have hx := B.exec
  have hb := B.bytes
  have hr := B.returns
  have hts := atoms_spec (ws := wsX10_hasPerson) B.pre
  have hown : s.vm.findClass RX10 = some m.cls := findClass_of_methodNamed B.named
  have hlocks := B.notSynchronized
  have hl := lv_entry ([.ref (ad Γ (b + 0)), .int i]) (n := 2) (Nat.le_of_ble_eq_true rfl)
  rw [lg_entry_eq]
  generalize (lg_sl ([.ref (ad Γ (b + 0)), .int i]) ++ List.replicate (2 - (lg_sl ([.ref (ad Γ (b + 0)), .int i])).length) Slot.unset).toArray = ls at hl ⊢
  have hl : lv_has ls 2 [(0, .ref (ad Γ (b + 0))), (1, .int i)] := hl
  have hB := hI.1
  have hB0 := hI.2.1
  have hB1 := hI.2.2.1
  have hB20 := hI.2.2.2.2.2.2.2.2.2
  have hBd := hB 21
  refine lv_iload_n hx hb dX10_hasPerson_0 rfl (lv_at hl 1 rfl) ?_
  refine lv_iconst (v := nI 0) hx hb dX10_hasPerson_1 (by decide) ?_
  refine lv_aload_n hx hb dX10_hasPerson_2 rfl (lv_at hl 0 rfl) ?_
  refine nr_get (own := RX10) (C := RX10) (T := TX10) (N := 15) (v := .int (nI (V 0))) hx hb hts hi_X10_hasPerson_X10 hown hw (by omega) (isV_0 hV) rfl 0 (by decide) wl_X10_hasPerson_1 rfl rfl dX10_hasPerson_3 ?_
  refine lv_iconst (v := nI 1) hx hb dX10_hasPerson_6 (by decide) ?_
  refine lv_isub hx hb dX10_hasPerson_7 ?_
  refine nr_goB (P := (nI 0) ≤ i ∧ i ≤ ((nI (V 0)) - (nI 1))) (nr_runN (As := [.int i, .int (nI 0), .int ((nI (V 0)) - (nI 1))]) ⟨hx, hb, hml, hown, hts⟩ hw (c_X11_within l Γ n G i (nI 0) ((nI (V 0)) - (nI 1))) ⟨va_cnB 3 hts gX10_hasPerson_X11_within_n85 rfl rfl rfl (hw.2.2 _ (List.mem_of_getElem? (i := 14) rfl)) (hts _ wl_X10_hasPerson_3) (by decide +kernel) ⟨Nat.le_of_ble_eq_true rfl, Nat.le_of_ble_eq_true rfl⟩, hts _ wl_X10_hasPerson_2, trivial⟩ rfl hl.1 rfl (Nat.le_of_ble_eq_true rfl) dX10_hasPerson_8 ⟨Nat.zero_le _, Nat.zero_le _⟩) (fun b1 => ?_) (fun b1 => ?_)
  · exact nr_retB hx hb hr hlocks (Or.inl ⟨(within_nat (by omega)).mp b1, rfl⟩) rfl dX10_hasPerson_11
  · exact nr_retB hx hb hr hlocks (Or.inr ⟨fun h => b1 ((within_nat (by omega)).mpr h), rfl⟩) rfl dX10_hasPerson_11
theorem wl_X10_hasWrong_1 : Cond.fieldLink RX10 59 "BellForgiven$Valley" "wrongs" "I" ∈ wsX10_hasWrong := List.mem_of_getElem? (i := 1) rfl
theorem wl_X10_hasWrong_2 : Cond.static yX11_within ∈ wsX10_hasWrong := List.mem_of_getElem? (i := 2) rfl
theorem wl_X10_hasWrong_3 : Cond.initialized RX11 ∈ wsX10_hasWrong := List.mem_of_getElem? (i := 3) rfl
theorem hi_X10_hasWrong_X10 : ∀ w ∈ u_ws RX10 TX10 15, w ∈ wsX10_hasWrong := fun w h => (List.mem_cons_of_mem _ (List.mem_append_right _ h))
set_option maxHeartbeats 4000000 in
set_option maxRecDepth 100000 in
theorem c_X10_hasWrong (l : Launch) (Γ : Gam) (n : Nat) (G : Nat → va_E) (b : Nat) (V : Nat → Nat) (hV : isV Γ G b V) (hI : vI V) (hbn : b + 16 ≤ n) (i : Int32)  : Met l yX10_hasWrong wsX10_hasWrong ({ frames := 1, cells := 0, slots := 0, locals := 22 }) (va_Pc [.ref (ad Γ (b + 0)), .int i] (fun U => hw Γ n G U U.heap)) (vp_Si (bp (∃ j, j < V 1 ∧ i = nI j))) 0 0 (fun _ => False) := by
  refine Met.ofW (cc := cX10_hasWrong) (maxL := 2) (ret := (some .boolean)) (by decide) rfl ?_
  intro p e s m args below meth c s₁ B hml hv
  obtain ⟨rfl, hw⟩ := hv
  have hx := B.exec
  have hb := B.bytes
  have hr := B.returns
  have hts := atoms_spec (ws := wsX10_hasWrong) B.pre
  have hown : s.vm.findClass RX10 = some m.cls := findClass_of_methodNamed B.named
  have hlocks := B.notSynchronized
  have hl := lv_entry ([.ref (ad Γ (b + 0)), .int i]) (n := 2) (Nat.le_of_ble_eq_true rfl)
  rw [lg_entry_eq]
  generalize (lg_sl ([.ref (ad Γ (b + 0)), .int i]) ++ List.replicate (2 - (lg_sl ([.ref (ad Γ (b + 0)), .int i])).length) Slot.unset).toArray = ls at hl ⊢
  have hl : lv_has ls 2 [(0, .ref (ad Γ (b + 0))), (1, .int i)] := hl
  have hB := hI.1
  have hB0 := hI.2.1
  have hB1 := hI.2.2.1
  have hB20 := hI.2.2.2.2.2.2.2.2.2
  have hBd := hB 21
  refine lv_iload_n hx hb dX10_hasWrong_0 rfl (lv_at hl 1 rfl) ?_
  refine lv_iconst (v := nI 0) hx hb dX10_hasWrong_1 (by decide) ?_
  refine lv_aload_n hx hb dX10_hasWrong_2 rfl (lv_at hl 0 rfl) ?_
  refine nr_get (own := RX10) (C := RX10) (T := TX10) (N := 15) (v := .int (nI (V 1))) hx hb hts hi_X10_hasWrong_X10 hown hw (by omega) (isV_0 hV) rfl 3 (by decide) wl_X10_hasWrong_1 rfl rfl dX10_hasWrong_3 ?_
  refine lv_iconst (v := nI 1) hx hb dX10_hasWrong_6 (by decide) ?_
  refine lv_isub hx hb dX10_hasWrong_7 ?_
  refine nr_goB (P := (nI 0) ≤ i ∧ i ≤ ((nI (V 1)) - (nI 1))) (nr_runN (As := [.int i, .int (nI 0), .int ((nI (V 1)) - (nI 1))]) ⟨hx, hb, hml, hown, hts⟩ hw (c_X11_within l Γ n G i (nI 0) ((nI (V 1)) - (nI 1))) ⟨va_cnB 3 hts gX10_hasWrong_X11_within_n85 rfl rfl rfl (hw.2.2 _ (List.mem_of_getElem? (i := 14) rfl)) (hts _ wl_X10_hasWrong_3) (by decide +kernel) ⟨Nat.le_of_ble_eq_true rfl, Nat.le_of_ble_eq_true rfl⟩, hts _ wl_X10_hasWrong_2, trivial⟩ rfl hl.1 rfl (Nat.le_of_ble_eq_true rfl) dX10_hasWrong_8 ⟨Nat.zero_le _, Nat.zero_le _⟩) (fun b1 => ?_) (fun b1 => ?_)
  · exact nr_retB hx hb hr hlocks (Or.inl ⟨(within_nat (by omega)).mp b1, rfl⟩) rfl dX10_hasWrong_11
  · exact nr_retB hx hb hr hlocks (Or.inr ⟨fun h => b1 ((within_nat (by omega)).mpr h), rfl⟩) rfl dX10_hasWrong_11
theorem wl_X10_ageIn_1 : Cond.fieldLink RX10 30 "BellForgiven$Valley" "age" "[I" ∈ wsX10_ageIn := List.mem_of_getElem? (i := 1) rfl
theorem wl_X10_ageIn_2 : Cond.methodLink RX10 89 Lib.Math.min.name ∈ wsX10_ageIn := List.mem_of_getElem? (i := 2) rfl
theorem wl_X10_ageIn_3 : Cond.static Lib.Math.min.name ∈ wsX10_ageIn := List.mem_of_getElem? (i := 3) rfl
theorem wl_X10_ageIn_4 : Cond.initialized "java/lang/Math" ∈ wsX10_ageIn := List.mem_of_getElem? (i := 4) rfl
theorem wl_X10_ageIn_5 : Cond.code Lib.Math.min.name Lib.Math.min.code 2 (some .int) ∈ wsX10_ageIn := List.mem_of_getElem? (i := 5) rfl
theorem hi_X10_ageIn_X10 : ∀ w ∈ u_ws RX10 TX10 15, w ∈ wsX10_ageIn := fun w h => (List.mem_cons_of_mem _ (List.mem_append_right _ h))
set_option maxHeartbeats 4000000 in
set_option maxRecDepth 100000 in
theorem c_X10_ageIn (l : Launch) (Γ : Gam) (n : Nat) (G : Nat → va_E) (b : Nat) (V : Nat → Nat) (hV : isV Γ G b V) (hI : vI V) (hbn : b + 16 ≤ n) (k later : Nat) (hk : k < 8) (hl : later ≤ 3000)  : Met l yX10_ageIn wsX10_ageIn ({ frames := 1, cells := 0, slots := 0, locals := 21 }) (va_Pc [.ref (ad Γ (b + 0)), .int (nI k), .int (nI later)] (fun U => hw Γ n G U U.heap)) (vp_Si (fun z => z = nI (min 99 (V (12 + k) + later)))) 0 0 (fun _ => False) := by
  refine Met.ofW (cc := cX10_ageIn) (maxL := 3) (ret := (some .int)) (by decide) rfl ?_
  intro p e s m args below meth c s₁ B hml hv
  obtain ⟨rfl, hw⟩ := hv
  have hx := B.exec
  have hb := B.bytes
  have hr := B.returns
  have hts := atoms_spec (ws := wsX10_ageIn) B.pre
  have hown : s.vm.findClass RX10 = some m.cls := findClass_of_methodNamed B.named
  have hlocks := B.notSynchronized
  have hl := lv_entry ([.ref (ad Γ (b + 0)), .int (nI k), .int (nI later)]) (n := 3) (Nat.le_of_ble_eq_true rfl)
  rw [lg_entry_eq]
  generalize (lg_sl ([.ref (ad Γ (b + 0)), .int (nI k), .int (nI later)]) ++ List.replicate (3 - (lg_sl ([.ref (ad Γ (b + 0)), .int (nI k), .int (nI later)])).length) Slot.unset).toArray = ls at hl ⊢
  have hl : lv_has ls 3 [(0, .ref (ad Γ (b + 0))), (1, .int (nI k)), (2, .int (nI later))] := hl
  have hB := hI.1
  have hB0 := hI.2.1
  have hB1 := hI.2.2.1
  have hB20 := hI.2.2.2.2.2.2.2.2.2
  have hBd := hB 21
  have hA := hB (12 + k)
  refine lv_bipush (v := nI 99) hx hb dX10_ageIn_0 (by decide) ?_
  refine lv_aload_n hx hb dX10_ageIn_2 rfl (lv_at hl 0 rfl) ?_
  refine nr_get (own := RX10) (C := RX10) (T := TX10) (N := 15) (v := .ref (ad Γ (b + 7))) hx hb hts hi_X10_ageIn_X10 hown hw (by omega) (isV_0 hV) rfl 8 (by decide) wl_X10_ageIn_1 rfl rfl dX10_ageIn_3 ?_
  refine lv_iload_n hx hb dX10_ageIn_6 rfl (lv_at hl 1 rfl) ?_
  refine nr_iald (x := (V (12 + k))) hx hb hw (by omega) (isV_7 hV) rfl (by omega) (by decide) dX10_ageIn_7 ?_
  have hL1 := hB (12 + k)
  refine lv_iload_n hx hb dX10_ageIn_8 rfl (lv_at hl 2 rfl) ?_
  refine nr_iadd hx hb dX10_ageIn_9 ?_
  refine nr_mmin hx hb (hml.trans hl.1.symm) hown (hts _ wl_X10_ageIn_2) (hts _ wl_X10_ageIn_3) (hts _ wl_X10_ageIn_4) (hts _ wl_X10_ageIn_5) (Nat.le_of_ble_eq_true rfl) (Nat.le_of_ble_eq_true rfl) (Nat.zero_le _) (Nat.zero_le _) (by decide) (by omega) dX10_ageIn_10 ?_
  exact nr_retS hx hb hr hlocks (rfl) rfl dX10_ageIn_13
theorem wl_X10_weight_1 : Cond.fieldLink RX10 18 "BellForgiven$Valley" "kind" "[I" ∈ wsX10_weight := List.mem_of_getElem? (i := 1) rfl
theorem wl_X10_weight_2 : Cond.fieldLink RX10 27 "BellForgiven$Valley" "gravity" "[I" ∈ wsX10_weight := List.mem_of_getElem? (i := 2) rfl
theorem hi_X10_weight_X10 : ∀ w ∈ u_ws RX10 TX10 15, w ∈ wsX10_weight := fun w h => (List.mem_cons_of_mem _ (List.mem_append_right _ h))
set_option maxHeartbeats 4000000 in
set_option maxRecDepth 100000 in
theorem c_X10_weight (l : Launch) (Γ : Gam) (n : Nat) (G : Nat → va_E) (b : Nat) (V : Nat → Nat) (hV : isV Γ G b V) (hI : vI V) (hbn : b + 16 ≤ n) (k later : Nat) (hk : k < 8) (hl : later ≤ 3000)  : Met l yX10_weight wsX10_weight ({ frames := 2, cells := 0, slots := 0, locals := 45 }) (va_Pc [.ref (ad Γ (b + 0)), .int (nI k), .int (nI later)] (fun U => hw Γ n G U U.heap)) (vp_Si (fun z => z = nI (sW V k later))) 0 0 (fun _ => False) := by
  refine Met.ofW (cc := cX10_weight) (maxL := 3) (ret := (some .int)) (by decide) rfl ?_
  intro p e s m args below meth c s₁ B hml hv
  obtain ⟨rfl, hw⟩ := hv
  have hx := B.exec
  have hb := B.bytes
  have hr := B.returns
  have hts := atoms_spec (ws := wsX10_weight) B.pre
  have hown : s.vm.findClass RX10 = some m.cls := findClass_of_methodNamed B.named
  have hlocks := B.notSynchronized
  have hl := lv_entry ([.ref (ad Γ (b + 0)), .int (nI k), .int (nI later)]) (n := 3) (Nat.le_of_ble_eq_true rfl)
  rw [lg_entry_eq]
  generalize (lg_sl ([.ref (ad Γ (b + 0)), .int (nI k), .int (nI later)]) ++ List.replicate (3 - (lg_sl ([.ref (ad Γ (b + 0)), .int (nI k), .int (nI later)])).length) Slot.unset).toArray = ls at hl ⊢
  have hl : lv_has ls 3 [(0, .ref (ad Γ (b + 0))), (1, .int (nI k)), (2, .int (nI later))] := hl
  have hB := hI.1
  have hB0 := hI.2.1
  have hB1 := hI.2.2.1
  have hB20 := hI.2.2.2.2.2.2.2.2.2
  have hBd := hB 21
  have hA := hB (28 + k)
  have hA2 := hB (52 + k)
  refine lv_aload_n hx hb dX10_weight_0 rfl (lv_at hl 0 rfl) ?_
  refine nr_get (own := RX10) (C := RX10) (T := TX10) (N := 15) (v := .ref (ad Γ (b + 3))) hx hb hts hi_X10_weight_X10 hown hw (by omega) (isV_0 hV) rfl 4 (by decide) wl_X10_weight_1 rfl rfl dX10_weight_1 ?_
  refine lv_iload_n hx hb dX10_weight_4 rfl (lv_at hl 1 rfl) ?_
  refine nr_iald (x := (V (28 + k))) hx hb hw (by omega) (isV_3 hV) rfl (by omega) (by decide) dX10_weight_5 ?_
  have hL1 := hB (28 + k)
  refine lv_aload_n hx hb dX10_weight_6 rfl (lv_at hl 0 rfl) ?_
  refine nr_get (own := RX10) (C := RX10) (T := TX10) (N := 15) (v := .ref (ad Γ (b + 6))) hx hb hts hi_X10_weight_X10 hown hw (by omega) (isV_0 hV) rfl 7 (by decide) wl_X10_weight_2 rfl rfl dX10_weight_7 ?_
  refine lv_iload_n hx hb dX10_weight_10 rfl (lv_at hl 1 rfl) ?_
  refine nr_iald (x := (V (52 + k))) hx hb hw (by omega) (isV_6 hV) rfl (by omega) (by decide) dX10_weight_11 ?_
  have hL2 := hB (52 + k)
  refine lv_aload_n hx hb dX10_weight_12 rfl (lv_at hl 0 rfl) ?_
  refine lv_iload_n hx hb dX10_weight_13 rfl (lv_at hl 1 rfl) ?_
  refine lv_iload_n hx hb dX10_weight_14 rfl (lv_at hl 2 rfl) ?_
  refine nr_goS (nr_runV (As := [.int (nI k), .int (nI later)]) (C := RX10) (T := TX10) (N := 15) ⟨hx, hb, hml, hown, hts⟩ hw (by omega) (isV_0 hV) rfl (c_X10_ageIn l Γ n G b V hV hI hbn k later (by omega) (by omega)) (cwV 2 hts gX10_weight_X10_ageIn rfl rfl rfl (by decide +kernel) ⟨Nat.le_of_ble_eq_true rfl, Nat.le_of_ble_eq_true rfl⟩) rfl hl.1 rfl (Nat.le_of_ble_eq_true rfl) dX10_weight_15 ⟨Nat.zero_le _, Nat.zero_le _⟩) (fun r3 hr3 => ?_)
  obtain rfl : r3 = (nI (min 99 (V (12 + k) + later))) := hr3
  refine nr_goS (nr_runS (As := [.int (nI (V (28 + k))), .int (nI (V (52 + k))), .int (nI (min 99 (V (12 + k) + later)))]) ⟨hx, hb, hml, hown, hts⟩ hw (c_X2_weight l Γ n G (V (28 + k)) (V (52 + k)) (min 99 (V (12 + k) + later)) (by omega) (by omega) (by omega)) (va_cwS 3 hts gX10_weight_X2_weight rfl rfl rfl (by decide +kernel) ⟨Nat.le_of_ble_eq_true rfl, Nat.le_of_ble_eq_true rfl⟩) rfl hl.1 rfl (Nat.le_of_ble_eq_true rfl) dX10_weight_18 ⟨Nat.zero_le _, Nat.zero_le _⟩) (fun r4 hr4 => ?_)
  obtain rfl : r4 = (nI (sWeight (V (28 + k)) (V (52 + k)) (min 99 (V (12 + k) + later)))) := hr4
  exact nr_retS hx hb hr hlocks (rfl) rfl dX10_weight_21
theorem wl_X10_mercy_1 : Cond.fieldLink RX10 15 "BellForgiven$Valley" "rung" "[I" ∈ wsX10_mercy := List.mem_of_getElem? (i := 1) rfl
theorem wl_X10_mercy_2 : Cond.fieldLink RX10 59 "BellForgiven$Valley" "wrongs" "I" ∈ wsX10_mercy := List.mem_of_getElem? (i := 2) rfl
theorem wl_X10_mercy_3 : Cond.fieldLink RX10 21 "BellForgiven$Valley" "by" "[I" ∈ wsX10_mercy := List.mem_of_getElem? (i := 3) rfl
theorem wl_X10_mercy_4 : Cond.fieldLink RX10 9 "BellForgiven$Valley" "nature" "[I" ∈ wsX10_mercy := List.mem_of_getElem? (i := 4) rfl
theorem wl_X10_mercy_5 : Cond.fieldLink RX10 65 "BellForgiven$Valley" "day" "I" ∈ wsX10_mercy := List.mem_of_getElem? (i := 5) rfl
theorem wl_X10_mercy_6 : Cond.static yX11_holds ∈ wsX10_mercy := List.mem_of_getElem? (i := 6) rfl
theorem wl_X10_mercy_7 : Cond.initialized RX11 ∈ wsX10_mercy := List.mem_of_getElem? (i := 7) rfl
theorem hi_X10_mercy_X10 : ∀ w ∈ u_ws RX10 TX10 15, w ∈ wsX10_mercy := fun w h => (List.mem_cons_of_mem _ (List.mem_append_right _ h))
set_option maxHeartbeats 4000000 in
set_option maxRecDepth 100000 in
theorem c_X10_mercy (l : Launch) (Γ : Gam) (n : Nat) (G : Nat → va_E) (b : Nat) (V : Nat → Nat) (hV : isV Γ G b V) (hI : vI V) (hbn : b + 16 ≤ n) (i so later : Nat) (hi : i < 6) (hs : so < 256) (hl : later ≤ 3000)  : Met l yX10_mercy wsX10_mercy ({ frames := 2, cells := 0, slots := 0, locals := 46 }) (va_Pc [.ref (ad Γ (b + 0)), .int (nI i), .int (nI so), .int (nI later)] (fun U => hw Γ n G U U.heap)) (vp_Si (fun z => z = nI (sM V i so later))) 0 0 (fun _ => False) := by
  refine Met.ofW (cc := cX10_mercy) (maxL := 6) (ret := (some .int)) (by decide) rfl ?_
  intro p e s m args below meth c s₁ B hml hv
  obtain ⟨rfl, hw⟩ := hv
  have hx := B.exec
  have hb := B.bytes
  have hr := B.returns
  have hts := atoms_spec (ws := wsX10_mercy) B.pre
  have hown : s.vm.findClass RX10 = some m.cls := findClass_of_methodNamed B.named
  have hlocks := B.notSynchronized
  have hl := lv_entry ([.ref (ad Γ (b + 0)), .int (nI i), .int (nI so), .int (nI later)]) (n := 6) (Nat.le_of_ble_eq_true rfl)
  rw [lg_entry_eq]
  generalize (lg_sl ([.ref (ad Γ (b + 0)), .int (nI i), .int (nI so), .int (nI later)]) ++ List.replicate (6 - (lg_sl ([.ref (ad Γ (b + 0)), .int (nI i), .int (nI so), .int (nI later)])).length) Slot.unset).toArray = ls at hl ⊢
  have hl : lv_has ls 6 [(0, .ref (ad Γ (b + 0))), (1, .int (nI i)), (2, .int (nI so)), (3, .int (nI later))] := hl
  have hB := hI.1
  have hB0 := hI.2.1
  have hB1 := hI.2.2.1
  have hB20 := hI.2.2.2.2.2.2.2.2.2
  have hBd := hB 21
  have hA := hB (6 + i)
  have hA2 := hB (22 + i)
  have hA3 := fun m => cntBy_le V i so m
  refine lv_aload_n hx hb dX10_mercy_0 rfl (lv_at hl 0 rfl) ?_
  refine nr_get (own := RX10) (C := RX10) (T := TX10) (N := 15) (v := .ref (ad Γ (b + 2))) hx hb hts hi_X10_mercy_X10 hown hw (by omega) (isV_0 hV) rfl 2 (by decide) wl_X10_mercy_1 rfl rfl dX10_mercy_1 ?_
  refine lv_iload_n hx hb dX10_mercy_4 rfl (lv_at hl 1 rfl) ?_
  refine nr_iald (x := (V (6 + i))) hx hb hw (by omega) (isV_2 hV) rfl (by omega) (by decide) dX10_mercy_5 ?_
  have hL1 := hB (6 + i)
  refine lv_istore (lv' := [(4, .int (nI (V (6 + i)))), (0, .ref (ad Γ (b + 0))), (1, .int (nI i)), (2, .int (nI so)), (3, .int (nI later))]) hx hb dX10_mercy_6 hl (by decide) rfl (fun ls hl => ?_)
  refine lv_iconst (v := nI 0) hx hb dX10_mercy_8 (by decide) ?_
  refine lv_istore (lv' := [(5, .int (nI 0)), (4, .int (nI (V (6 + i)))), (0, .ref (ad Γ (b + 0))), (1, .int (nI i)), (2, .int (nI so)), (3, .int (nI later))]) hx hb dX10_mercy_9 hl (by decide) rfl (fun ls hl => ?_)
  refine nr_lp (σ := Nat × Nat) (pc := 11) (fun x lv => lv = [(0, .ref (ad Γ (b + 0))), (1, .int (nI i)), (2, .int (nI so)), (3, .int (nI later)), (4, .int (nI x.2)), (5, .int (nI x.1))] ∧ (x.1 ≤ V 1) ∧ (x.2 = V (6 + i) + cntBy V i so x.1)) (fun x => V 1 - x.1) (0, V (6 + i)) (lv_sub hl [2, 3, 4, 5, 1, 0] rfl) ⟨rfl, by omega, by rfl⟩ ?_
  intro x lv ls hl hI ih11
  obtain ⟨k, pu⟩ := x
  obtain ⟨rfl, hk, hpu⟩ := hI
  try dsimp only at hk hpu hl ih11
  have hA4 := hA3 k
  refine lv_iload hx hb dX10_mercy_11 (lv_at hl 5 rfl) ?_
  refine lv_aload_n hx hb dX10_mercy_13 rfl (lv_at hl 0 rfl) ?_
  refine nr_get (own := RX10) (C := RX10) (T := TX10) (N := 15) (v := .int (nI (V 1))) hx hb hts hi_X10_mercy_X10 hown hw (by omega) (isV_0 hV) rfl 3 (by decide) wl_X10_mercy_2 rfl rfl dX10_mercy_14 ?_
  refine nr_icmp_ge (tgt := 49) hx hb (by omega) (by omega) dX10_mercy_17 (by decide) (fun c2 => ?_) (fun c2 => ?_)
  · refine lv_aload_n hx hb dX10_mercy_49 rfl (lv_at hl 0 rfl) ?_
    refine nr_get (own := RX10) (C := RX10) (T := TX10) (N := 15) (v := .ref (ad Γ (b + 1))) hx hb hts hi_X10_mercy_X10 hown hw (by omega) (isV_0 hV) rfl 1 (by decide) wl_X10_mercy_4 rfl rfl dX10_mercy_50 ?_
    refine lv_iload_n hx hb dX10_mercy_53 rfl (lv_at hl 1 rfl) ?_
    refine nr_iald (x := (V (22 + i))) hx hb hw (by omega) (isV_1 hV) rfl (by omega) (by decide) dX10_mercy_54 ?_
    have hL3 := hB (22 + i)
    refine lv_iload hx hb dX10_mercy_55 (lv_at hl 4 rfl) ?_
    refine lv_aload_n hx hb dX10_mercy_57 rfl (lv_at hl 0 rfl) ?_
    refine nr_get (own := RX10) (C := RX10) (T := TX10) (N := 15) (v := .int (nI (V 21))) hx hb hts hi_X10_mercy_X10 hown hw (by omega) (isV_0 hV) rfl 10 (by decide) wl_X10_mercy_5 rfl rfl dX10_mercy_58 ?_
    refine lv_iload_n hx hb dX10_mercy_61 rfl (lv_at hl 3 rfl) ?_
    refine nr_iadd hx hb dX10_mercy_62 ?_
    refine nr_goS (nr_runS (As := [.int (nI (V (22 + i))), .int (nI pu), .int (nI (V 21 + later))]) ⟨hx, hb, hml, hown, hts⟩ hw (c_X2_mercy l Γ n G (V (22 + i)) pu (V 21 + later) (by omega) (by omega) (by omega)) (va_cwS 3 hts gX10_mercy_X2_mercy rfl rfl rfl (by decide +kernel) ⟨Nat.le_of_ble_eq_true rfl, Nat.le_of_ble_eq_true rfl⟩) rfl hl.1 rfl (Nat.le_of_ble_eq_true rfl) dX10_mercy_63 ⟨Nat.zero_le _, Nat.zero_le _⟩) (fun r4 hr4 => ?_)
    obtain rfl : r4 = (nI (sMercy (V (22 + i)) pu (V 21 + later))) := hr4
    exact nr_retS hx hb hr hlocks (by rw [hpu, show k = V 1 by omega]; rfl) rfl dX10_mercy_66
  · refine lv_iload_n hx hb dX10_mercy_20 rfl (lv_at hl 2 rfl) ?_
    refine lv_iload hx hb dX10_mercy_21 (lv_at hl 5 rfl) ?_
    refine nr_goB (P := bt so k) (nr_runN (As := [.int (nI so), .int (nI k)]) ⟨hx, hb, hml, hown, hts⟩ hw (c_X11_holds l Γ n G so k (by omega) (by omega)) ⟨va_cnB 2 hts gX10_mercy_X11_holds_n95 rfl rfl rfl (hw.2.2 _ (List.mem_of_getElem? (i := 15) rfl)) (hts _ wl_X10_mercy_7) (by decide +kernel) ⟨Nat.le_of_ble_eq_true rfl, Nat.le_of_ble_eq_true rfl⟩, hts _ wl_X10_mercy_6, trivial⟩ rfl hl.1 rfl (Nat.le_of_ble_eq_true rfl) dX10_mercy_23 ⟨Nat.zero_le _, Nat.zero_le _⟩) (fun b5 => ?_) (fun b5 => ?_)
    · refine nr_if_eq (tgt := 43) hx hb (by decide) dX10_mercy_26 (by decide) (fun c6 => absurd c6 (by decide)) (fun c6 => ?_)
      refine lv_aload_n hx hb dX10_mercy_29 rfl (lv_at hl 0 rfl) ?_
      refine nr_get (own := RX10) (C := RX10) (T := TX10) (N := 15) (v := .ref (ad Γ (b + 4))) hx hb hts hi_X10_mercy_X10 hown hw (by omega) (isV_0 hV) rfl 5 (by decide) wl_X10_mercy_3 rfl rfl dX10_mercy_30 ?_
      refine lv_iload hx hb dX10_mercy_33 (lv_at hl 5 rfl) ?_
      refine nr_iald (x := (V (36 + k))) hx hb hw (by omega) (isV_4 hV) rfl (by omega) (by decide) dX10_mercy_35 ?_
      have hL7 := hB (36 + k)
      refine lv_iload_n hx hb dX10_mercy_36 rfl (lv_at hl 1 rfl) ?_
      refine nr_icmp_ne (tgt := 43) hx hb (by omega) (by omega) dX10_mercy_37 (by decide) (fun c8 => ?_) (fun c8 => ?_)
      · refine nr_inc (d := 1) (k := 5) (lv' := [(5, .int (nI (k + 1))), (0, .ref (ad Γ (b + 0))), (1, .int (nI i)), (2, .int (nI so)), (3, .int (nI later)), (4, .int (nI pu))]) hx hb dX10_mercy_43 hl rfl (by decide) (by decide) rfl (fun ls hl => ?_)
        refine lv_goto (tgt := 11) hx hb dX10_mercy_46 (by decide) ?_
        exact ih11 (k + 1, pu) _ _ (lv_sub hl [1, 2, 3, 4, 5, 0] rfl) ⟨rfl, by omega, by simp only [cntBy]; split <;> omega⟩ (by dsimp only; omega)
      · refine nr_inc (d := 1) (k := 4) (lv' := [(4, .int (nI (pu + 1))), (0, .ref (ad Γ (b + 0))), (1, .int (nI i)), (2, .int (nI so)), (3, .int (nI later)), (5, .int (nI k))]) hx hb dX10_mercy_40 hl rfl (by decide) (by decide) rfl (fun ls hl => ?_)
        refine nr_inc (d := 1) (k := 5) (lv' := [(5, .int (nI (k + 1))), (4, .int (nI (pu + 1))), (0, .ref (ad Γ (b + 0))), (1, .int (nI i)), (2, .int (nI so)), (3, .int (nI later))]) hx hb dX10_mercy_43 hl rfl (by decide) (by decide) rfl (fun ls hl => ?_)
        refine lv_goto (tgt := 11) hx hb dX10_mercy_46 (by decide) ?_
        exact ih11 (k + 1, pu + 1) _ _ (lv_sub hl [2, 3, 4, 5, 1, 0] rfl) ⟨rfl, by omega, by simp only [cntBy]; split <;> omega⟩ (by dsimp only; omega)
    · refine nr_if_eq (tgt := 43) hx hb (by decide) dX10_mercy_26 (by decide) (fun c9 => ?_) (fun c9 => absurd c9 (by decide))
      refine nr_inc (d := 1) (k := 5) (lv' := [(5, .int (nI (k + 1))), (0, .ref (ad Γ (b + 0))), (1, .int (nI i)), (2, .int (nI so)), (3, .int (nI later)), (4, .int (nI pu))]) hx hb dX10_mercy_43 hl rfl (by decide) (by decide) rfl (fun ls hl => ?_)
      refine lv_goto (tgt := 11) hx hb dX10_mercy_46 (by decide) ?_
      exact ih11 (k + 1, pu) _ _ (lv_sub hl [1, 2, 3, 4, 5, 0] rfl) ⟨rfl, by omega, by simp only [cntBy]; split <;> omega⟩ (by dsimp only; omega)
theorem wl_X10_could_1 : Cond.fieldLink RX10 62 "BellForgiven$Valley" "letOff" "I" ∈ wsX10_could := List.mem_of_getElem? (i := 1) rfl
theorem wl_X10_could_2 : Cond.fieldLink RX10 24 "BellForgiven$Valley" "to" "[I" ∈ wsX10_could := List.mem_of_getElem? (i := 2) rfl
theorem wl_X10_could_3 : Cond.static yX11_holds ∈ wsX10_could := List.mem_of_getElem? (i := 3) rfl
theorem wl_X10_could_4 : Cond.initialized RX11 ∈ wsX10_could := List.mem_of_getElem? (i := 4) rfl
theorem hi_X10_could_X10 : ∀ w ∈ u_ws RX10 TX10 15, w ∈ wsX10_could := fun w h => (List.mem_cons_of_mem _ (List.mem_append_right _ h))
set_option maxHeartbeats 4000000 in
set_option maxRecDepth 100000 in
theorem c_X10_could (l : Launch) (Γ : Gam) (n : Nat) (G : Nat → va_E) (b : Nat) (V : Nat → Nat) (hV : isV Γ G b V) (hI : vI V) (hbn : b + 16 ≤ n) (k gone so later : Nat) (hk : k < 8) (hg : gone < 256) (hs : so < 256) (hl : later ≤ 3000)  : Met l yX10_could wsX10_could ({ frames := 3, cells := 0, slots := 0, locals := 71 }) (va_Pc [.ref (ad Γ (b + 0)), .int (nI k), .int (nI gone), .int (nI so), .int (nI later)] (fun U => hw Γ n G U U.heap)) (vp_Si (bp (could V k gone so later))) 0 0 (fun _ => False) := by
  refine Met.ofW (cc := cX10_could) (maxL := 5) (ret := (some .boolean)) (by decide) rfl ?_
  intro p e s m args below meth c s₁ B hml hv
  obtain ⟨rfl, hw⟩ := hv
  have hx := B.exec
  have hb := B.bytes
  have hr := B.returns
  have hts := atoms_spec (ws := wsX10_could) B.pre
  have hown : s.vm.findClass RX10 = some m.cls := findClass_of_methodNamed B.named
  have hlocks := B.notSynchronized
  have hl := lv_entry ([.ref (ad Γ (b + 0)), .int (nI k), .int (nI gone), .int (nI so), .int (nI later)]) (n := 5) (Nat.le_of_ble_eq_true rfl)
  rw [lg_entry_eq]
  generalize (lg_sl ([.ref (ad Γ (b + 0)), .int (nI k), .int (nI gone), .int (nI so), .int (nI later)]) ++ List.replicate (5 - (lg_sl ([.ref (ad Γ (b + 0)), .int (nI k), .int (nI gone), .int (nI so), .int (nI later)])).length) Slot.unset).toArray = ls at hl ⊢
  have hl : lv_has ls 5 [(0, .ref (ad Γ (b + 0))), (1, .int (nI k)), (2, .int (nI gone)), (3, .int (nI so)), (4, .int (nI later))] := hl
  have hB := hI.1
  have hB0 := hI.2.1
  have hB1 := hI.2.2.1
  have hB20 := hI.2.2.2.2.2.2.2.2.2
  have hBd := hB 21
  have hO : V 20 ||| gone < 256 := Nat.or_lt_two_pow (n := 8) hB20 hg
  have hT := hI.2.2.2.2.2.2.2.2.1 k hk
  have hA := hB (52 + k)
  have hA2 := hB (6 + V (44 + k))
  have hWl : sW V k later < 2147483648 := by have := sWeight_le (V (28 + k)) (V (52 + k)) (min 99 (V (12 + k) + later)); unfold sW; omega
  have hMl : sM V (V (44 + k)) so later < 2147483648 := by have := sMercy_le (V (22 + V (44 + k))) (V (6 + V (44 + k)) + cntBy V (V (44 + k)) so (V 1)) (V 21 + later); have := cntBy_le V (V (44 + k)) so (V 1); unfold sM; omega
  refine lv_aload_n hx hb dX10_could_0 rfl (lv_at hl 0 rfl) ?_
  refine nr_get (own := RX10) (C := RX10) (T := TX10) (N := 15) (v := .int (nI (V 20))) hx hb hts hi_X10_could_X10 hown hw (by omega) (isV_0 hV) rfl 9 (by decide) wl_X10_could_1 rfl rfl dX10_could_1 ?_
  refine lv_iload_n hx hb dX10_could_4 rfl (lv_at hl 2 rfl) ?_
  refine nr_ior hx hb dX10_could_5 ?_
  refine lv_iload_n hx hb dX10_could_6 rfl (lv_at hl 1 rfl) ?_
  refine nr_goB (P := bt ((V 20) ||| gone) k) (nr_runN (As := [.int (nI ((V 20) ||| gone)), .int (nI k)]) ⟨hx, hb, hml, hown, hts⟩ hw (c_X11_holds l Γ n G ((V 20) ||| gone) k (by omega) (by omega)) ⟨va_cnB 2 hts gX10_could_X11_holds_n95 rfl rfl rfl (hw.2.2 _ (List.mem_of_getElem? (i := 15) rfl)) (hts _ wl_X10_could_4) (by decide +kernel) ⟨Nat.le_of_ble_eq_true rfl, Nat.le_of_ble_eq_true rfl⟩, hts _ wl_X10_could_3, trivial⟩ rfl hl.1 rfl (Nat.le_of_ble_eq_true rfl) dX10_could_7 ⟨Nat.zero_le _, Nat.zero_le _⟩) (fun b1 => ?_) (fun b1 => ?_)
  · refine nr_if_ne (tgt := 40) hx hb (by decide) dX10_could_10 (by decide) (fun c2 => ?_) (fun c2 => absurd c2 (by decide))
    refine lv_iconst (v := nI 0) hx hb dX10_could_40 (by decide) ?_
    exact nr_retB hx hb hr hlocks (Or.inr ⟨by intro hh; first | exact hh.1 (by assumption) | (have := hh.2; omega), rfl⟩) rfl dX10_could_41
  · refine nr_if_ne (tgt := 40) hx hb (by decide) dX10_could_10 (by decide) (fun c3 => absurd c3 (by decide)) (fun c3 => ?_)
    refine lv_aload_n hx hb dX10_could_13 rfl (lv_at hl 0 rfl) ?_
    refine lv_iload_n hx hb dX10_could_14 rfl (lv_at hl 1 rfl) ?_
    refine lv_iload hx hb dX10_could_15 (lv_at hl 4 rfl) ?_
    refine nr_goS (nr_runV (As := [.int (nI k), .int (nI later)]) (C := RX10) (T := TX10) (N := 15) ⟨hx, hb, hml, hown, hts⟩ hw (by omega) (isV_0 hV) rfl (c_X10_weight l Γ n G b V hV hI hbn k later (by omega) (by omega)) (cwV 2 hts gX10_could_X10_weight rfl rfl rfl (by decide +kernel) ⟨Nat.le_of_ble_eq_true rfl, Nat.le_of_ble_eq_true rfl⟩) rfl hl.1 rfl (Nat.le_of_ble_eq_true rfl) dX10_could_17 ⟨Nat.zero_le _, Nat.zero_le _⟩) (fun r4 hr4 => ?_)
    obtain rfl : r4 = (nI (sW V k later)) := hr4
    refine lv_aload_n hx hb dX10_could_20 rfl (lv_at hl 0 rfl) ?_
    refine lv_aload_n hx hb dX10_could_21 rfl (lv_at hl 0 rfl) ?_
    refine nr_get (own := RX10) (C := RX10) (T := TX10) (N := 15) (v := .ref (ad Γ (b + 5))) hx hb hts hi_X10_could_X10 hown hw (by omega) (isV_0 hV) rfl 6 (by decide) wl_X10_could_2 rfl rfl dX10_could_22 ?_
    refine lv_iload_n hx hb dX10_could_25 rfl (lv_at hl 1 rfl) ?_
    refine nr_iald (x := (V (44 + k))) hx hb hw (by omega) (isV_5 hV) rfl (by omega) (by decide) dX10_could_26 ?_
    have hL5 := hB (44 + k)
    refine lv_iload_n hx hb dX10_could_27 rfl (lv_at hl 3 rfl) ?_
    refine lv_iload hx hb dX10_could_28 (lv_at hl 4 rfl) ?_
    refine nr_goS (nr_runV (As := [.int (nI (V (44 + k))), .int (nI so), .int (nI later)]) (C := RX10) (T := TX10) (N := 15) ⟨hx, hb, hml, hown, hts⟩ hw (by omega) (isV_0 hV) rfl (c_X10_mercy l Γ n G b V hV hI hbn (V (44 + k)) so later (by omega) (by omega) (by omega)) (cwV 3 hts gX10_could_X10_mercy rfl rfl rfl (by decide +kernel) ⟨Nat.le_of_ble_eq_true rfl, Nat.le_of_ble_eq_true rfl⟩) rfl hl.1 rfl (Nat.le_of_ble_eq_true rfl) dX10_could_30 ⟨Nat.zero_le _, Nat.zero_le _⟩) (fun r6 hr6 => ?_)
    obtain rfl : r6 = (nI (sM V (V (44 + k)) so later)) := hr6
    refine nr_icmp_gt (tgt := 40) hx hb (by omega) (by omega) dX10_could_33 (by decide) (fun c7 => ?_) (fun c7 => ?_)
    · refine lv_iconst (v := nI 0) hx hb dX10_could_40 (by decide) ?_
      exact nr_retB hx hb hr hlocks (Or.inr ⟨by intro hh; first | exact hh.1 (by assumption) | (have := hh.2; omega), rfl⟩) rfl dX10_could_41
    · refine lv_iconst (v := nI 1) hx hb dX10_could_36 (by decide) ?_
      refine lv_goto (tgt := 41) hx hb dX10_could_37 (by decide) ?_
      exact nr_retB hx hb hr hlocks (Or.inl ⟨⟨by assumption, by omega⟩, rfl⟩) rfl dX10_could_41
