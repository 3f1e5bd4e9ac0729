def cl0 (Γ : Gam) (f : Nat → Nat) : va_W := [(f 0, .inr (0, [.long (lN 0), .long (lN 1)]))]
set_option maxHeartbeats 4000000 in
set_option maxRecDepth 100000 in
theorem c_X0_init (l : Launch) (Γ : Gam) (h0 sz : Nat) : Met l yX0_init wsX0_init ({ frames := 1, cells := 0, slots := 0, locals := 12 }) (ctP Γ [.ref h0] h0 (.inr (0, [.long 0, .long 0])) sz) (ctQ Γ h0 (.inr (0, [.long 0, .long 0])) sz (cl0 Γ)) 0 0 (va_A [(h0, .inr (0, [.long 0, .long 0]))] sz) := by
  refine Met.ofW (cc := cX0_init) (maxL := 1) (ret := none) (by decide) rfl ?_
  intro p e s m args below meth c s₁ B hml hv
  obtain ⟨rfl, hsz, hP, hK, hD0⟩ := hv
  have hx := B.exec
  have hb := B.bytes
  have hr := B.returns
  have hts := atoms_spec (ws := wsX0_init) B.pre
  have hown : s.vm.findClass RX0 = some m.cls := findClass_of_methodNamed B.named
  have hlocks := B.notSynchronized
  have hin : meth.name = "<init>" := (name_of_methodNamed B.named B.method).1
  subst hsz
  have hD := hD0.self (sz := s.heap.size)
  generalize hAe : va_A [(h0, .inr (0, [.long 0, .long 0]))] s.heap.size = A at hD ⊢
  have hA : ∀ q : Nat, s.heap.size ≤ q → A q := fun q h => by rw [← hAe]; exact Or.inr h
  have hS : va_S A s.heap s.heap [] := va_S.rf
  have hl := lv_entry ([.ref h0]) (n := 1) (Nat.le_of_ble_eq_true rfl)
  rw [lg_entry_eq]
  generalize (lg_sl ([.ref h0]) ++ List.replicate (1 - (lg_sl ([.ref h0])).length) Slot.unset).toArray = ls at hl ⊢
  have hl : lv_has ls 1 [(0, .ref h0)] := hl
  have hP : va_P Γ.1 vwCl ((h0, .inr (0, [.long 0, .long 0])) :: (([] : va_W))) _ := hP
  have hD : va_D A ((h0, .inr (0, [.long 0, .long 0])) :: (([] : va_W))) := hD
  refine lv_aload_n hx hb dX0_init_0 rfl (lv_at hl 0 rfl) ?_
  refine W.objInit hx hb hown (hts (.methodLink RX0 3 objectInit) (by decide +kernel)) (hts (.instanceMethod objectInit) (by decide +kernel)) (hts _ (lkC_mem (l := wsX0_init) (i := 3) rfl)) rfl (by rw [hml]; exact hl.1) rfl dX0_init_1 (Nat.le_of_ble_eq_true rfl) (Nat.le_of_ble_eq_true rfl) ?_
  refine W.eq (g2 := F0 m 4 ls []) rfl ?_
  refine lv_aload_n hx hb dX0_init_4 rfl (lv_at hl 0 rfl) ?_
  refine lv_lconst (v := lN 1) hx hb dX0_init_5 (by decide) ?_
  refine va_put (D := Γ.1) (ci := 0) (v := .long (lN 1)) (ty := .long) (C := RX0) (T := TX0) (N := 2) hx hb hts (by decide +kernel) tyX0 tyX0_ok nmX0 hown hK.1 hP hD hS 0 rfl rfl 1 (by decide) (hts (.fieldLink RX0 9 "BellForgiven$Chance" "below" "J") (by decide +kernel)) (fun _ h9 => h9) rfl (by decide +kernel) rfl rfl (Nat.le_of_ble_eq_true rfl) dX0_init_6 (fun H locs hP hD hS => ?_)
  have hP : va_P Γ.1 vwCl ((h0, .inr (0, [.long 0, .long (lN 1)])) :: (([] : va_W))) _ := hP
  have hD : va_D A ((h0, .inr (0, [.long 0, .long (lN 1)])) :: (([] : va_W))) := hD
  obtain ⟨F, hF⟩ : ∃ F : Nat → Nat, F = fun i => [h0].getD i 0 := ⟨_, rfl⟩
  have hP : va_P Γ.1 vwCl (cl0 Γ F) H := by
    rw [hF]
    exact hP
  have hD : va_D A (cl0 Γ F) := by
    rw [hF]
    exact hD
  have hF0 : F 0 = h0 := by rw [hF]; rfl
  subst hAe
  exact W.vret hx hb hr (fun t ht hW => ⟨⟨F, rfl, hF0, by rw [ht]; exact hP, hD⟩, hS.F ht⟩) hS.2.2 dX0_init_9
def cl1 (Γ : Gam) (f : Nat → Nat) : va_W := [(f 0, .inr (1, [.ref (f 1)])), (f 1, na Γ 6 (fun _ => 0))]
set_option maxHeartbeats 4000000 in
set_option maxRecDepth 100000 in
theorem c_X1_init (l : Launch) (Γ : Gam) (h0 sz : Nat) : Met l yX1_init wsX1_init ({ frames := 1, cells := 1, slots := 6, locals := 12 }) (ctP Γ [.ref h0] h0 (.inr (1, [.null])) sz) (ctQ Γ h0 (.inr (1, [.null])) sz (cl1 Γ)) 1 6 (va_A [(h0, .inr (1, [.null]))] sz) := by
  refine Met.ofW (cc := cX1_init) (maxL := 1) (ret := none) (by decide) rfl ?_
  intro p e s m args below meth c s₁ B hml hv
  obtain ⟨rfl, hsz, hP, hK, hD0⟩ := hv
  have hx := B.exec
  have hb := B.bytes
  have hr := B.returns
  have hts := atoms_spec (ws := wsX1_init) B.pre
  have hown : s.vm.findClass RX1 = some m.cls := findClass_of_methodNamed B.named
  have hlocks := B.notSynchronized
  have hin : meth.name = "<init>" := (name_of_methodNamed B.named B.method).1
  subst hsz
  have hD := hD0.self (sz := s.heap.size)
  generalize hAe : va_A [(h0, .inr (1, [.null]))] s.heap.size = A at hD ⊢
  have hA : ∀ q : Nat, s.heap.size ≤ q → A q := fun q h => by rw [← hAe]; exact Or.inr h
  have hS : va_S A s.heap s.heap [] := va_S.rf
  have hl := lv_entry ([.ref h0]) (n := 1) (Nat.le_of_ble_eq_true rfl)
  rw [lg_entry_eq]
  generalize (lg_sl ([.ref h0]) ++ List.replicate (1 - (lg_sl ([.ref h0])).length) Slot.unset).toArray = ls at hl ⊢
  have hl : lv_has ls 1 [(0, .ref h0)] := hl
  have hP : va_P Γ.1 vwCl ((h0, .inr (1, [.null])) :: (([] : va_W))) _ := hP
  have hD : va_D A ((h0, .inr (1, [.null])) :: (([] : va_W))) := hD
  refine lv_aload_n hx hb dX1_init_0 rfl (lv_at hl 0 rfl) ?_
  refine W.objInit hx hb hown (hts (.methodLink RX1 3 objectInit) (by decide +kernel)) (hts (.instanceMethod objectInit) (by decide +kernel)) (hts _ (lkC_mem (l := wsX1_init) (i := 3) rfl)) rfl (by rw [hml]; exact hl.1) rfl dX1_init_1 (Nat.le_of_ble_eq_true rfl) (Nat.le_of_ble_eq_true rfl) ?_
  refine W.eq (g2 := F0 m 4 ls []) rfl ?_
  refine lv_aload_n hx hb dX1_init_4 rfl (lv_at hl 0 rfl) ?_
  refine lv_bipush (v := nI 6) hx hb dX1_init_5 (by decide) ?_
  refine ct_newi (N := 6) hx hb (hts (.arrayClass .int) (by decide +kernel)) hK hP hD hS hA (by omega) (show 0 + 1 ≤ 1 by omega) (show 0 + 6 ≤ 6 by omega) dX1_init_7 (fun q7 H hP hD hS => ?_)
  have hP : va_P Γ.1 vwCl ((h0, .inr (1, [.null])) :: (([] : va_W) ++ [(q7, na Γ 6 (fun _ => 0))])) _ := hP
  have hD : va_D A ((h0, .inr (1, [.null])) :: (([] : va_W) ++ [(q7, na Γ 6 (fun _ => 0))])) := hD
  refine va_putF (D := Γ.1) (ci := 1) (v := .ref q7) (ty := .array .int) (C := RX1) (T := TX1) (N := 1) hx hb hts (by decide +kernel) tyX1 tyX1_ok nmX1 hown hK.1 hP hD hS 0 rfl rfl 0 (by decide) (hts (.fieldLink RX1 9 "BellForgiven$Guess" "values" "[I") (by decide +kernel)) (fun _ h9 => h9) rfl hin rfl (by decide +kernel) rfl rfl (Nat.le_of_ble_eq_true rfl) dX1_init_9 (fun H locs hP hD hS => ?_)
  have hP : va_P Γ.1 vwCl ((h0, .inr (1, [.ref q7])) :: (([] : va_W) ++ [(q7, na Γ 6 (fun _ => 0))])) _ := hP
  have hD : va_D A ((h0, .inr (1, [.ref q7])) :: (([] : va_W) ++ [(q7, na Γ 6 (fun _ => 0))])) := hD
  obtain ⟨F, hF⟩ : ∃ F : Nat → Nat, F = fun i => [h0, q7].getD i 0 := ⟨_, rfl⟩
  have hP : va_P Γ.1 vwCl (cl1 Γ F) H := by
    rw [hF]
    exact hP
  have hD : va_D A (cl1 Γ F) := by
    rw [hF]
    exact hD
  have hF0 : F 0 = h0 := by rw [hF]; rfl
  subst hAe
  exact W.vret hx hb hr (fun t ht hW => ⟨⟨F, rfl, hF0, by rw [ht]; exact hP, hD⟩, hS.F ht⟩) hS.2.2 dX1_init_12
def cl4 (Γ : Gam) (f : Nat → Nat) : va_W := [(f 0, .inr (2, [.ref (f 1), .int 0])), (f 1, na Γ 128 (fun _ => 0))]
set_option maxHeartbeats 4000000 in
set_option maxRecDepth 100000 in
theorem c_X4_init (l : Launch) (Γ : Gam) (h0 sz : Nat) : Met l yX4_init wsX4_init ({ frames := 1, cells := 1, slots := 128, locals := 12 }) (ctP Γ [.ref h0] h0 (.inr (2, [.null, .int 0])) sz) (ctQ Γ h0 (.inr (2, [.null, .int 0])) sz (cl4 Γ)) 1 128 (va_A [(h0, .inr (2, [.null, .int 0]))] sz) := by
  refine Met.ofW (cc := cX4_init) (maxL := 1) (ret := none) (by decide) rfl ?_
  intro p e s m args below meth c s₁ B hml hv
  obtain ⟨rfl, hsz, hP, hK, hD0⟩ := hv
  have hx := B.exec
  have hb := B.bytes
  have hr := B.returns
  have hts := atoms_spec (ws := wsX4_init) B.pre
  have hown : s.vm.findClass RX4 = some m.cls := findClass_of_methodNamed B.named
  have hlocks := B.notSynchronized
  have hin : meth.name = "<init>" := (name_of_methodNamed B.named B.method).1
  subst hsz
  have hD := hD0.self (sz := s.heap.size)
  generalize hAe : va_A [(h0, .inr (2, [.null, .int 0]))] s.heap.size = A at hD ⊢
  have hA : ∀ q : Nat, s.heap.size ≤ q → A q := fun q h => by rw [← hAe]; exact Or.inr h
  have hS : va_S A s.heap s.heap [] := va_S.rf
  have hl := lv_entry ([.ref h0]) (n := 1) (Nat.le_of_ble_eq_true rfl)
  rw [lg_entry_eq]
  generalize (lg_sl ([.ref h0]) ++ List.replicate (1 - (lg_sl ([.ref h0])).length) Slot.unset).toArray = ls at hl ⊢
  have hl : lv_has ls 1 [(0, .ref h0)] := hl
  have hP : va_P Γ.1 vwCl ((h0, .inr (2, [.null, .int 0])) :: (([] : va_W))) _ := hP
  have hD : va_D A ((h0, .inr (2, [.null, .int 0])) :: (([] : va_W))) := hD
  refine lv_aload_n hx hb dX4_init_0 rfl (lv_at hl 0 rfl) ?_
  refine W.objInit hx hb hown (hts (.methodLink RX4 3 objectInit) (by decide +kernel)) (hts (.instanceMethod objectInit) (by decide +kernel)) (hts _ (lkC_mem (l := wsX4_init) (i := 3) rfl)) rfl (by rw [hml]; exact hl.1) rfl dX4_init_1 (Nat.le_of_ble_eq_true rfl) (Nat.le_of_ble_eq_true rfl) ?_
  refine W.eq (g2 := F0 m 4 ls []) rfl ?_
  refine lv_aload_n hx hb dX4_init_4 rfl (lv_at hl 0 rfl) ?_
  refine lv_sipush (v := nI 128) hx hb dX4_init_5 (by decide) ?_
  refine ct_newi (N := 128) hx hb (hts (.arrayClass .int) (by decide +kernel)) hK hP hD hS hA (by omega) (show 0 + 1 ≤ 1 by omega) (show 0 + 128 ≤ 128 by omega) dX4_init_8 (fun q8 H hP hD hS => ?_)
  have hP : va_P Γ.1 vwCl ((h0, .inr (2, [.null, .int 0])) :: (([] : va_W) ++ [(q8, na Γ 128 (fun _ => 0))])) _ := hP
  have hD : va_D A ((h0, .inr (2, [.null, .int 0])) :: (([] : va_W) ++ [(q8, na Γ 128 (fun _ => 0))])) := hD
  refine va_putF (D := Γ.1) (ci := 2) (v := .ref q8) (ty := .array .int) (C := RX4) (T := TX4) (N := 2) hx hb hts (by decide +kernel) tyX4 tyX4_ok nmX4 hown hK.1 hP hD hS 0 rfl rfl 0 (by decide) (hts (.fieldLink RX4 11 "BellForgiven$Past" "cells" "[I") (by decide +kernel)) (fun _ h9 => h9) rfl hin rfl (by decide +kernel) rfl rfl (Nat.le_of_ble_eq_true rfl) dX4_init_10 (fun H locs hP hD hS => ?_)
  have hP : va_P Γ.1 vwCl ((h0, .inr (2, [.ref q8, .int 0])) :: (([] : va_W) ++ [(q8, na Γ 128 (fun _ => 0))])) _ := hP
  have hD : va_D A ((h0, .inr (2, [.ref q8, .int 0])) :: (([] : va_W) ++ [(q8, na Γ 128 (fun _ => 0))])) := hD
  obtain ⟨F, hF⟩ : ∃ F : Nat → Nat, F = fun i => [h0, q8].getD i 0 := ⟨_, rfl⟩
  have hP : va_P Γ.1 vwCl (cl4 Γ F) H := by
    rw [hF]
    exact hP
  have hD : va_D A (cl4 Γ F) := by
    rw [hF]
    exact hD
  have hF0 : F 0 = h0 := by rw [hF]; rfl
  subst hAe
  exact W.vret hx hb hr (fun t ht hW => ⟨⟨F, rfl, hF0, by rw [ht]; exact hP, hD⟩, hS.F ht⟩) hS.2.2 dX4_init_13
def cl6 (Γ : Gam) (f : Nat → Nat) : va_W := [(f 0, .inr (4, [.ref (f 1)])), (f 1, na Γ 256 (fun _ => 0))]
set_option maxHeartbeats 4000000 in
set_option maxRecDepth 100000 in
theorem c_X6_init (l : Launch) (Γ : Gam) (h0 sz : Nat) : Met l yX6_init wsX6_init ({ frames := 1, cells := 1, slots := 256, locals := 12 }) (ctP Γ [.ref h0] h0 (.inr (4, [.null])) sz) (ctQ Γ h0 (.inr (4, [.null])) sz (cl6 Γ)) 1 256 (va_A [(h0, .inr (4, [.null]))] sz) := by
  refine Met.ofW (cc := cX6_init) (maxL := 1) (ret := none) (by decide) rfl ?_
  intro p e s m args below meth c s₁ B hml hv
  obtain ⟨rfl, hsz, hP, hK, hD0⟩ := hv
  have hx := B.exec
  have hb := B.bytes
  have hr := B.returns
  have hts := atoms_spec (ws := wsX6_init) B.pre
  have hown : s.vm.findClass RX6 = some m.cls := findClass_of_methodNamed B.named
  have hlocks := B.notSynchronized
  have hin : meth.name = "<init>" := (name_of_methodNamed B.named B.method).1
  subst hsz
  have hD := hD0.self (sz := s.heap.size)
  generalize hAe : va_A [(h0, .inr (4, [.null]))] s.heap.size = A at hD ⊢
  have hA : ∀ q : Nat, s.heap.size ≤ q → A q := fun q h => by rw [← hAe]; exact Or.inr h
  have hS : va_S A s.heap s.heap [] := va_S.rf
  have hl := lv_entry ([.ref h0]) (n := 1) (Nat.le_of_ble_eq_true rfl)
  rw [lg_entry_eq]
  generalize (lg_sl ([.ref h0]) ++ List.replicate (1 - (lg_sl ([.ref h0])).length) Slot.unset).toArray = ls at hl ⊢
  have hl : lv_has ls 1 [(0, .ref h0)] := hl
  have hP : va_P Γ.1 vwCl ((h0, .inr (4, [.null])) :: (([] : va_W))) _ := hP
  have hD : va_D A ((h0, .inr (4, [.null])) :: (([] : va_W))) := hD
  refine lv_aload_n hx hb dX6_init_0 rfl (lv_at hl 0 rfl) ?_
  refine W.objInit hx hb hown (hts (.methodLink RX6 3 objectInit) (by decide +kernel)) (hts (.instanceMethod objectInit) (by decide +kernel)) (hts _ (lkC_mem (l := wsX6_init) (i := 3) rfl)) rfl (by rw [hml]; exact hl.1) rfl dX6_init_1 (Nat.le_of_ble_eq_true rfl) (Nat.le_of_ble_eq_true rfl) ?_
  refine W.eq (g2 := F0 m 4 ls []) rfl ?_
  refine lv_aload_n hx hb dX6_init_4 rfl (lv_at hl 0 rfl) ?_
  refine lv_sipush (v := nI 256) hx hb dX6_init_5 (by decide) ?_
  refine ct_newi (N := 256) hx hb (hts (.arrayClass .int) (by decide +kernel)) hK hP hD hS hA (by omega) (show 0 + 1 ≤ 1 by omega) (show 0 + 256 ≤ 256 by omega) dX6_init_8 (fun q8 H hP hD hS => ?_)
  have hP : va_P Γ.1 vwCl ((h0, .inr (4, [.null])) :: (([] : va_W) ++ [(q8, na Γ 256 (fun _ => 0))])) _ := hP
  have hD : va_D A ((h0, .inr (4, [.null])) :: (([] : va_W) ++ [(q8, na Γ 256 (fun _ => 0))])) := hD
  refine va_putF (D := Γ.1) (ci := 4) (v := .ref q8) (ty := .array .int) (C := RX6) (T := TX6) (N := 1) hx hb hts (by decide +kernel) tyX6 tyX6_ok nmX6 hown hK.1 hP hD hS 0 rfl rfl 0 (by decide) (hts (.fieldLink RX6 9 "BellForgiven$Row" "left" "[I") (by decide +kernel)) (fun _ h9 => h9) rfl hin rfl (by decide +kernel) rfl rfl (Nat.le_of_ble_eq_true rfl) dX6_init_10 (fun H locs hP hD hS => ?_)
  have hP : va_P Γ.1 vwCl ((h0, .inr (4, [.ref q8])) :: (([] : va_W) ++ [(q8, na Γ 256 (fun _ => 0))])) _ := hP
  have hD : va_D A ((h0, .inr (4, [.ref q8])) :: (([] : va_W) ++ [(q8, na Γ 256 (fun _ => 0))])) := hD
  obtain ⟨F, hF⟩ : ∃ F : Nat → Nat, F = fun i => [h0, q8].getD i 0 := ⟨_, rfl⟩
  have hP : va_P Γ.1 vwCl (cl6 Γ F) H := by
    rw [hF]
    exact hP
  have hD : va_D A (cl6 Γ F) := by
    rw [hF]
    exact hD
  have hF0 : F 0 = h0 := by rw [hF]; rfl
  subst hAe
  exact W.vret hx hb hr (fun t ht hW => ⟨⟨F, rfl, hF0, by rw [ht]; exact hP, hD⟩, hS.F ht⟩) hS.2.2 dX6_init_13
def cl7 (Γ : Gam) (k : Nat) (f : Nat → Nat) : va_W := [(f 0, .inr (5, [.ref (f 1), .int (nI k), .int 0])), (f 1, na Γ (k * 4) (fun _ => 0))]
set_option maxHeartbeats 4000000 in
set_option maxRecDepth 100000 in
theorem c_X7_init (l : Launch) (Γ : Gam) (h0 sz : Nat) (k : Nat) (hk6 : k ≤ 6) : Met l yX7_init wsX7_init ({ frames := 1, cells := 1, slots := 24, locals := 12 }) (ctP Γ [.ref h0, .int (nI k)] h0 (.inr (5, [.null, .int 0, .int 0])) sz) (ctQ Γ h0 (.inr (5, [.null, .int 0, .int 0])) sz (cl7 Γ k)) 1 24 (va_A [(h0, .inr (5, [.null, .int 0, .int 0]))] sz) := by
  refine Met.ofW (cc := cX7_init) (maxL := 2) (ret := none) (by decide) rfl ?_
  intro p e s m args below meth c s₁ B hml hv
  obtain ⟨rfl, hsz, hP, hK, hD0⟩ := hv
  have hx := B.exec
  have hb := B.bytes
  have hr := B.returns
  have hts := atoms_spec (ws := wsX7_init) B.pre
  have hown : s.vm.findClass RX7 = some m.cls := findClass_of_methodNamed B.named
  have hlocks := B.notSynchronized
  have hin : meth.name = "<init>" := (name_of_methodNamed B.named B.method).1
  subst hsz
  have hD := hD0.self (sz := s.heap.size)
  generalize hAe : va_A [(h0, .inr (5, [.null, .int 0, .int 0]))] s.heap.size = A at hD ⊢
  have hA : ∀ q : Nat, s.heap.size ≤ q → A q := fun q h => by rw [← hAe]; exact Or.inr h
  have hS : va_S A s.heap s.heap [] := va_S.rf
  have hl := lv_entry ([.ref h0, .int (nI k)]) (n := 2) (Nat.le_of_ble_eq_true rfl)
  rw [lg_entry_eq]
  generalize (lg_sl ([.ref h0, .int (nI k)]) ++ List.replicate (2 - (lg_sl ([.ref h0, .int (nI k)])).length) Slot.unset).toArray = ls at hl ⊢
  have hl : lv_has ls 2 [(0, .ref h0), (1, .int (nI k))] := hl
  have hP : va_P Γ.1 vwCl ((h0, .inr (5, [.null, .int 0, .int 0])) :: (([] : va_W))) _ := hP
  have hD : va_D A ((h0, .inr (5, [.null, .int 0, .int 0])) :: (([] : va_W))) := hD
  refine lv_aload_n hx hb dX7_init_0 rfl (lv_at hl 0 rfl) ?_
  refine W.objInit hx hb hown (hts (.methodLink RX7 1 objectInit) (by decide +kernel)) (hts (.instanceMethod objectInit) (by decide +kernel)) (hts _ (lkC_mem (l := wsX7_init) (i := 3) rfl)) rfl (by rw [hml]; exact hl.1) rfl dX7_init_1 (Nat.le_of_ble_eq_true rfl) (Nat.le_of_ble_eq_true rfl) ?_
  refine W.eq (g2 := F0 m 4 ls []) rfl ?_
  refine lv_aload_n hx hb dX7_init_4 rfl (lv_at hl 0 rfl) ?_
  refine lv_iload_n hx hb dX7_init_5 rfl (lv_at hl 1 rfl) ?_
  refine va_putF (D := Γ.1) (ci := 5) (v := .int (nI k)) (ty := .int) (C := RX7) (T := TX7) (N := 3) hx hb hts (by decide +kernel) tyX7 tyX7_ok nmX7 hown hK.1 hP hD hS 0 rfl rfl 1 (by decide) (hts (.fieldLink RX7 7 "BellForgiven$Rows" "most" "I") (by decide +kernel)) (fun _ h9 => h9) rfl hin rfl (by decide +kernel) rfl rfl (Nat.le_of_ble_eq_true rfl) dX7_init_6 (fun H locs hP hD hS => ?_)
  have hP : va_P Γ.1 vwCl ((h0, .inr (5, [.null, .int (nI k), .int 0])) :: (([] : va_W))) _ := hP
  have hD : va_D A ((h0, .inr (5, [.null, .int (nI k), .int 0])) :: (([] : va_W))) := hD
  refine lv_aload_n hx hb dX7_init_9 rfl (lv_at hl 0 rfl) ?_
  refine lv_iload_n hx hb dX7_init_10 rfl (lv_at hl 1 rfl) ?_
  refine lv_iconst (v := nI 4) hx hb dX7_init_11 (by decide) ?_
  refine nr_imul hx hb dX7_init_12 ?_
  refine ct_newi (N := (k * 4)) hx hb (hts (.arrayClass .int) (by decide +kernel)) hK hP hD hS hA (by omega) (show 0 + 1 ≤ 1 by omega) (show 0 + (k * 4) ≤ 24 by omega) dX7_init_13 (fun q13 H hP hD hS => ?_)
  refine W.widen (k := 1) (n := 24) (by omega) (by omega) ?_
  have hP : va_P Γ.1 vwCl ((h0, .inr (5, [.null, .int (nI k), .int 0])) :: (([] : va_W) ++ [(q13, na Γ (k * 4) (fun _ => 0))])) _ := hP
  have hD : va_D A ((h0, .inr (5, [.null, .int (nI k), .int 0])) :: (([] : va_W) ++ [(q13, na Γ (k * 4) (fun _ => 0))])) := hD
  refine va_putF (D := Γ.1) (ci := 5) (v := .ref q13) (ty := .array .int) (C := RX7) (T := TX7) (N := 3) hx hb hts (by decide +kernel) tyX7 tyX7_ok nmX7 hown hK.1 hP hD hS 0 rfl rfl 0 (by decide) (hts (.fieldLink RX7 13 "BellForgiven$Rows" "cells" "[I") (by decide +kernel)) (fun _ h9 => h9) rfl hin rfl (by decide +kernel) rfl rfl (Nat.le_of_ble_eq_true rfl) dX7_init_15 (fun H locs hP hD hS => ?_)
  have hP : va_P Γ.1 vwCl ((h0, .inr (5, [.ref q13, .int (nI k), .int 0])) :: (([] : va_W) ++ [(q13, na Γ (k * 4) (fun _ => 0))])) _ := hP
  have hD : va_D A ((h0, .inr (5, [.ref q13, .int (nI k), .int 0])) :: (([] : va_W) ++ [(q13, na Γ (k * 4) (fun _ => 0))])) := hD
  obtain ⟨F, hF⟩ : ∃ F : Nat → Nat, F = fun i => [h0, q13].getD i 0 := ⟨_, rfl⟩
  have hP : va_P Γ.1 vwCl (cl7 Γ k F) H := by
    rw [hF]
    exact hP
  have hD : va_D A (cl7 Γ k F) := by
    rw [hF]
    exact hD
  have hF0 : F 0 = h0 := by rw [hF]; rfl
  subst hAe
  exact W.vret hx hb hr (fun t ht hW => ⟨⟨F, rfl, hF0, by rw [ht]; exact hP, hD⟩, hS.F ht⟩) hS.2.2 dX7_init_18
def cl9 (Γ : Gam) (f : Nat → Nat) : va_W := [(f 0, .inr (6, [.ref (f 1), .int 0, .int 0, .int 0, .int 0, .int 0])), (f 1, ba Γ 150 (fun _ => 0))]
set_option maxHeartbeats 4000000 in
set_option maxRecDepth 100000 in
theorem c_X9_init (l : Launch) (Γ : Gam) (h0 sz : Nat) : Met l yX9_init wsX9_init ({ frames := 1, cells := 1, slots := 150, locals := 12 }) (ctP Γ [.ref h0] h0 (.inr (6, [.null, .int 0, .int 0, .int 0, .int 0, .int 0])) sz) (ctQ Γ h0 (.inr (6, [.null, .int 0, .int 0, .int 0, .int 0, .int 0])) sz (cl9 Γ)) 1 150 (va_A [(h0, .inr (6, [.null, .int 0, .int 0, .int 0, .int 0, .int 0]))] sz) := by
  refine Met.ofW (cc := cX9_init) (maxL := 1) (ret := none) (by decide) rfl ?_
  intro p e s m args below meth c s₁ B hml hv
  obtain ⟨rfl, hsz, hP, hK, hD0⟩ := hv
  have hx := B.exec
  have hb := B.bytes
  have hr := B.returns
  have hts := atoms_spec (ws := wsX9_init) B.pre
  have hown : s.vm.findClass RX9 = some m.cls := findClass_of_methodNamed B.named
  have hlocks := B.notSynchronized
  have hin : meth.name = "<init>" := (name_of_methodNamed B.named B.method).1
  subst hsz
  have hD := hD0.self (sz := s.heap.size)
  generalize hAe : va_A [(h0, .inr (6, [.null, .int 0, .int 0, .int 0, .int 0, .int 0]))] s.heap.size = A at hD ⊢
  have hA : ∀ q : Nat, s.heap.size ≤ q → A q := fun q h => by rw [← hAe]; exact Or.inr h
  have hS : va_S A s.heap s.heap [] := va_S.rf
  have hl := lv_entry ([.ref h0]) (n := 1) (Nat.le_of_ble_eq_true rfl)
  rw [lg_entry_eq]
  generalize (lg_sl ([.ref h0]) ++ List.replicate (1 - (lg_sl ([.ref h0])).length) Slot.unset).toArray = ls at hl ⊢
  have hl : lv_has ls 1 [(0, .ref h0)] := hl
  have hP : va_P Γ.1 vwCl ((h0, .inr (6, [.null, .int 0, .int 0, .int 0, .int 0, .int 0])) :: (([] : va_W))) _ := hP
  have hD : va_D A ((h0, .inr (6, [.null, .int 0, .int 0, .int 0, .int 0, .int 0])) :: (([] : va_W))) := hD
  refine lv_aload_n hx hb dX9_init_0 rfl (lv_at hl 0 rfl) ?_
  refine W.objInit hx hb hown (hts (.methodLink RX9 3 objectInit) (by decide +kernel)) (hts (.instanceMethod objectInit) (by decide +kernel)) (hts _ (lkC_mem (l := wsX9_init) (i := 3) rfl)) rfl (by rw [hml]; exact hl.1) rfl dX9_init_1 (Nat.le_of_ble_eq_true rfl) (Nat.le_of_ble_eq_true rfl) ?_
  refine W.eq (g2 := F0 m 4 ls []) rfl ?_
  refine lv_aload_n hx hb dX9_init_4 rfl (lv_at hl 0 rfl) ?_
  refine lv_sipush (v := nI 150) hx hb dX9_init_5 (by decide) ?_
  refine ct_newb (N := 150) hx hb (hts (.arrayClass .byte) (by decide +kernel)) hK hP hD hS hA (by omega) (show 0 + 1 ≤ 1 by omega) (show 0 + 150 ≤ 150 by omega) dX9_init_8 (fun q8 H hP hD hS => ?_)
  have hP : va_P Γ.1 vwCl ((h0, .inr (6, [.null, .int 0, .int 0, .int 0, .int 0, .int 0])) :: (([] : va_W) ++ [(q8, ba Γ 150 (fun _ => 0))])) _ := hP
  have hD : va_D A ((h0, .inr (6, [.null, .int 0, .int 0, .int 0, .int 0, .int 0])) :: (([] : va_W) ++ [(q8, ba Γ 150 (fun _ => 0))])) := hD
  refine va_putF (D := Γ.1) (ci := 6) (v := .ref q8) (ty := .array .byte) (C := RX9) (T := TX9) (N := 6) hx hb hts (by decide +kernel) tyX9 tyX9_ok nmX9 hown hK.1 hP hD hS 0 rfl rfl 0 (by decide) (hts (.fieldLink RX9 9 "BellForgiven$Text" "bytes" "[B") (by decide +kernel)) (fun _ h9 => h9) rfl hin rfl (by decide +kernel) rfl rfl (Nat.le_of_ble_eq_true rfl) dX9_init_10 (fun H locs hP hD hS => ?_)
  have hP : va_P Γ.1 vwCl ((h0, .inr (6, [.ref q8, .int 0, .int 0, .int 0, .int 0, .int 0])) :: (([] : va_W) ++ [(q8, ba Γ 150 (fun _ => 0))])) _ := hP
  have hD : va_D A ((h0, .inr (6, [.ref q8, .int 0, .int 0, .int 0, .int 0, .int 0])) :: (([] : va_W) ++ [(q8, ba Γ 150 (fun _ => 0))])) := hD
  obtain ⟨F, hF⟩ : ∃ F : Nat → Nat, F = fun i => [h0, q8].getD i 0 := ⟨_, rfl⟩
  have hP : va_P Γ.1 vwCl (cl9 Γ F) H := by
    rw [hF]
    exact hP
  have hD : va_D A (cl9 Γ F) := by
    rw [hF]
    exact hD
  have hF0 : F 0 = h0 := by rw [hF]; rfl
  subst hAe
  exact W.vret hx hb hr (fun t ht hW => ⟨⟨F, rfl, hF0, by rw [ht]; exact hP, hD⟩, hS.F ht⟩) hS.2.2 dX9_init_13
