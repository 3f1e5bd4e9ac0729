section SAA
theorem vI_p0 {V : Nat → Nat} (h : vI V) : vI (va_up V 5 0) := vI_of h (fun j => up_le h.1 (by omega) j) (by rw [va_up_self]; omega) (fun j h1 h2 _ _ => va_up_ne _ _ h2)
theorem vn_out {x : Int32} {b : Nat} (hb : b < 2147483648) (h : ¬ vRng 0 b x) : x.toInt < 0 ∨ (b : Int) < x.toInt := by
  rcases Int.lt_or_le x.toInt 0 with q | q
  · exact Or.inl q
  · rcases Int.lt_or_le (b : Int) x.toInt with z | z
    · exact Or.inr z
    · refine absurd ((with_c (a := 0) (b := b) hb (Nat.zero_le _)).mp ⟨?_, ?_⟩) h
      · rw [Int32.le_iff_toInt_le, nI_toInt (by decide)]; exact q
      · rw [Int32.le_iff_toInt_le, nI_toInt hb]; exact z
/-- the n-th stroke by the class, or what is told in its place -/
def fewC (V F : Nat → Nat) (k : Nat) (q z : Int32) : Prop :=
  (fewZ V F k = 100 ∧ z = -6) ∨ (¬ fewZ V F k = 100 ∧ ((q = -1 ∧ z = nI (fewZ V F k)) ∨ (¬ q = -1 ∧ nI (fewZ V F k) ≤ q ∧ z = -5) ∨ (∃ y, q = nI y ∧ y < fewZ V F k ∧ ∃ g w, pathC V F y g ∧ wayS V F g w ∧ z = nI w)))
def ofC (V : Nat → Nat) (i w : Nat) : Nat := if w = 0 then V (22 + i) else if w = 1 then V (6 + i) else if w = 2 then sM V i 0 0 else (if guiltyP V i then 1 else 0)
def graveC (V : Nat → Nat) (k w : Nat) (z : Int32) : Prop := (w = 0 → z = nI (cnt (bt (sFit V k)) 10)) ∧ (w = 1 → (∃ y, y < 31 ∧ bt (sFit V k) y ∧ (∀ j, j < y → ¬ bt (sFit V k) j) ∧ z = nI y) ∨ ((∀ j, j < 31 → ¬ bt (sFit V k) j) ∧ z = -1)) ∧ (w = 2 → (∃ y, y < 31 ∧ bt (sFit V k) y ∧ (∀ j, y < j → j < 31 → ¬ bt (sFit V k) j) ∧ z = nI y) ∨ ((∀ j, j < 31 → ¬ bt (sFit V k) j) ∧ z = -1))
end SAA
theorem wl_X11_bad_1 : Cond.fieldLink RX11 267 "BellForgiven" "refusedBad" "I" ∈ wsX11_bad := List.mem_of_getElem? (i := 1) rfl
theorem hi_X11_bad_X11 : ∀ w ∈ u_ws RX11 TX11 11, w ∈ wsX11_bad := fun w h => (List.mem_cons_of_mem _ (List.mem_append_right _ h))
set_option maxHeartbeats 4000000 in
set_option maxRecDepth 100000 in
theorem c_X11_bad (l : Launch) (Γ : Gam) (n : Nat) (G : Nat → va_E) (co : Nat) (kp rf : Nat → Nat) (hO : isO Γ G co kp rf) (hn_co : co + 3 ≤ n) (hj : winj Γ n)  : Met l yX11_bad wsX11_bad ({ frames := 0, cells := 0, slots := 0, locals := 0 }) (va_Pc [.ref (ad Γ (co + 0))] (fun U => hw Γ n G U U.heap)) (wQi Γ n (fun z G2 => (z = (-2)) ∧ (isO Γ G2 co kp (bmp rf 0) ∧ fr G G2 (co + 0) (co + 3)))) 0 0 (wA Γ n) := by
  refine Met.ofW (cc := cX11_bad) (maxL := 1) (ret := (some .int)) (by decide) rfl ?_
  intro p e s m args below meth c s₁ B hml hv
  obtain ⟨rfl, hw⟩ := hv
  have hx := B.exec
  have hb := B.bytes
  have hr := B.returns
  have hts := atoms_spec (ws := wsX11_bad) B.pre
  have hown : s.vm.findClass RX11 = some m.cls := findClass_of_methodNamed B.named
  have hlocks := B.notSynchronized
  have hS : va_S (wA Γ n) s.heap s.heap [] := va_S.rf
  have hA : ∀ q, wA Γ n q → wA Γ n q := fun _ h => h
  have hl := lv_entry ([.ref (ad Γ (co + 0))]) (n := 1) (Nat.le_of_ble_eq_true rfl)
  rw [lg_entry_eq]
  generalize (lg_sl ([.ref (ad Γ (co + 0))]) ++ List.replicate (1 - (lg_sl ([.ref (ad Γ (co + 0))])).length) Slot.unset).toArray = ls at hl ⊢
  have hl : lv_has ls 1 [(0, .ref (ad Γ (co + 0)))] := hl
  have hfr := fr_rf G (co + 0) (co + 3)
  refine lv_aload_n hx hb dX11_bad_0 rfl (lv_at hl 0 rfl) ?_
  refine lv_dup hx hb dX11_bad_1 rfl ?_
  refine nr_get (own := RX11) (C := RX11) (T := TX11) (N := 11) (v := .int (nI (rf 0))) hx hb hts hi_X11_bad_X11 hown hw (by omega) (isO_0 hO) rfl 8 (by decide) wl_X11_bad_1 rfl rfl dX11_bad_2 ?_
  refine lv_iconst (v := nI 1) hx hb dX11_bad_5 (by decide) ?_
  refine nr_iadd hx hb dX11_bad_6 ?_
  obtain ⟨w2, ew2⟩ : ∃ f, f = va_up rf 0 (rf 0 + 1) := ⟨_, rfl⟩
  refine nr_put (own := RX11) (C := RX11) (T := TX11) (N := 11) (ty := .int) (v := .int (nI (rf 0 + 1))) (fs' := [.ref (ad Γ (co + 28)), .ref (ad Γ (co + 1)), .ref (ad Γ (co + 2)), .ref (ad Γ (co + 3)), .ref (ad Γ (co + 5)), .ref (ad Γ (co + 23)), .ref (ad Γ (co + 25)), .ref (ad Γ (co + 27)), .int (nI (w2 0)), .int (nI (w2 1)), .int (nI (w2 2))]) hx hb hts hi_X11_bad_X11 tyX11 tyX11_ok nmX11 hown hw hj hA hS (by omega) (isO_0 hO) rfl 8 (by decide) wl_X11_bad_1 rfl rfl (by decide +kernel) rfl rfl (Nat.le_of_ble_eq_true rfl) (by rw [ew2]; rfl) dX11_bad_7 (fun H locs hw hS => ?_)
  subst ew2
  obtain ⟨G1, hw, hO, hf1⟩ := nO_c0 hO (va_up rf 0 (rf 0 + 1)) hw
  have hfr := fr_tr hfr hf1 (by omega) (by omega)
  refine lv_bipush (v := (-2)) hx hb dX11_bad_10 (by decide) ?_
  exact nr_retI hx hb hr hlocks hw hS (⟨by first | rfl | decide, hO, hfr⟩) dX11_bad_12
theorem wl_X11_no_1 : Cond.fieldLink RX11 270 "BellForgiven" "refusedNo" "I" ∈ wsX11_no := List.mem_of_getElem? (i := 1) rfl
theorem hi_X11_no_X11 : ∀ w ∈ u_ws RX11 TX11 11, w ∈ wsX11_no := fun w h => (List.mem_cons_of_mem _ (List.mem_append_right _ h))
set_option maxHeartbeats 4000000 in
set_option maxRecDepth 100000 in
theorem c_X11_no (l : Launch) (Γ : Gam) (n : Nat) (G : Nat → va_E) (co : Nat) (kp rf : Nat → Nat) (hO : isO Γ G co kp rf) (hn_co : co + 3 ≤ n) (hj : winj Γ n)  : Met l yX11_no wsX11_no ({ frames := 0, cells := 0, slots := 0, locals := 0 }) (va_Pc [.ref (ad Γ (co + 0))] (fun U => hw Γ n G U U.heap)) (wQi Γ n (fun z G2 => (z = (-3)) ∧ (isO Γ G2 co kp (bmp rf 1) ∧ fr G G2 (co + 0) (co + 3)))) 0 0 (wA Γ n) := by
  refine Met.ofW (cc := cX11_no) (maxL := 1) (ret := (some .int)) (by decide) rfl ?_
  intro p e s m args below meth c s₁ B hml hv
  obtain ⟨rfl, hw⟩ := hv
  have hx := B.exec
  have hb := B.bytes
  have hr := B.returns
  have hts := atoms_spec (ws := wsX11_no) B.pre
  have hown : s.vm.findClass RX11 = some m.cls := findClass_of_methodNamed B.named
  have hlocks := B.notSynchronized
  have hS : va_S (wA Γ n) s.heap s.heap [] := va_S.rf
  have hA : ∀ q, wA Γ n q → wA Γ n q := fun _ h => h
  have hl := lv_entry ([.ref (ad Γ (co + 0))]) (n := 1) (Nat.le_of_ble_eq_true rfl)
  rw [lg_entry_eq]
  generalize (lg_sl ([.ref (ad Γ (co + 0))]) ++ List.replicate (1 - (lg_sl ([.ref (ad Γ (co + 0))])).length) Slot.unset).toArray = ls at hl ⊢
  have hl : lv_has ls 1 [(0, .ref (ad Γ (co + 0)))] := hl
  have hfr := fr_rf G (co + 0) (co + 3)
  refine lv_aload_n hx hb dX11_no_0 rfl (lv_at hl 0 rfl) ?_
  refine lv_dup hx hb dX11_no_1 rfl ?_
  refine nr_get (own := RX11) (C := RX11) (T := TX11) (N := 11) (v := .int (nI (rf 1))) hx hb hts hi_X11_no_X11 hown hw (by omega) (isO_0 hO) rfl 9 (by decide) wl_X11_no_1 rfl rfl dX11_no_2 ?_
  refine lv_iconst (v := nI 1) hx hb dX11_no_5 (by decide) ?_
  refine nr_iadd hx hb dX11_no_6 ?_
  obtain ⟨w2, ew2⟩ : ∃ f, f = va_up rf 1 (rf 1 + 1) := ⟨_, rfl⟩
  refine nr_put (own := RX11) (C := RX11) (T := TX11) (N := 11) (ty := .int) (v := .int (nI (rf 1 + 1))) (fs' := [.ref (ad Γ (co + 28)), .ref (ad Γ (co + 1)), .ref (ad Γ (co + 2)), .ref (ad Γ (co + 3)), .ref (ad Γ (co + 5)), .ref (ad Γ (co + 23)), .ref (ad Γ (co + 25)), .ref (ad Γ (co + 27)), .int (nI (w2 0)), .int (nI (w2 1)), .int (nI (w2 2))]) hx hb hts hi_X11_no_X11 tyX11 tyX11_ok nmX11 hown hw hj hA hS (by omega) (isO_0 hO) rfl 9 (by decide) wl_X11_no_1 rfl rfl (by decide +kernel) rfl rfl (Nat.le_of_ble_eq_true rfl) (by rw [ew2]; rfl) dX11_no_7 (fun H locs hw hS => ?_)
  subst ew2
  obtain ⟨G1, hw, hO, hf1⟩ := nO_c0 hO (va_up rf 1 (rf 1 + 1)) hw
  have hfr := fr_tr hfr hf1 (by omega) (by omega)
  refine lv_bipush (v := (-3)) hx hb dX11_no_10 (by decide) ?_
  exact nr_retI hx hb hr hlocks hw hS (⟨by first | rfl | decide, hO, hfr⟩) dX11_no_12
theorem wl_X11_full_1 : Cond.fieldLink RX11 273 "BellForgiven" "refusedFull" "I" ∈ wsX11_full := List.mem_of_getElem? (i := 1) rfl
theorem hi_X11_full_X11 : ∀ w ∈ u_ws RX11 TX11 11, w ∈ wsX11_full := fun w h => (List.mem_cons_of_mem _ (List.mem_append_right _ h))
set_option maxHeartbeats 4000000 in
set_option maxRecDepth 100000 in
theorem c_X11_full (l : Launch) (Γ : Gam) (n : Nat) (G : Nat → va_E) (co : Nat) (kp rf : Nat → Nat) (hO : isO Γ G co kp rf) (hn_co : co + 3 ≤ n) (hj : winj Γ n)  : Met l yX11_full wsX11_full ({ frames := 0, cells := 0, slots := 0, locals := 0 }) (va_Pc [.ref (ad Γ (co + 0))] (fun U => hw Γ n G U U.heap)) (wQi Γ n (fun z G2 => (z = (-4)) ∧ (isO Γ G2 co kp (bmp rf 2) ∧ fr G G2 (co + 0) (co + 3)))) 0 0 (wA Γ n) := by
  refine Met.ofW (cc := cX11_full) (maxL := 1) (ret := (some .int)) (by decide) rfl ?_
  intro p e s m args below meth c s₁ B hml hv
  obtain ⟨rfl, hw⟩ := hv
  have hx := B.exec
  have hb := B.bytes
  have hr := B.returns
  have hts := atoms_spec (ws := wsX11_full) B.pre
  have hown : s.vm.findClass RX11 = some m.cls := findClass_of_methodNamed B.named
  have hlocks := B.notSynchronized
  have hS : va_S (wA Γ n) s.heap s.heap [] := va_S.rf
  have hA : ∀ q, wA Γ n q → wA Γ n q := fun _ h => h
  have hl := lv_entry ([.ref (ad Γ (co + 0))]) (n := 1) (Nat.le_of_ble_eq_true rfl)
  rw [lg_entry_eq]
  generalize (lg_sl ([.ref (ad Γ (co + 0))]) ++ List.replicate (1 - (lg_sl ([.ref (ad Γ (co + 0))])).length) Slot.unset).toArray = ls at hl ⊢
  have hl : lv_has ls 1 [(0, .ref (ad Γ (co + 0)))] := hl
  have hfr := fr_rf G (co + 0) (co + 3)
  refine lv_aload_n hx hb dX11_full_0 rfl (lv_at hl 0 rfl) ?_
  refine lv_dup hx hb dX11_full_1 rfl ?_
  refine nr_get (own := RX11) (C := RX11) (T := TX11) (N := 11) (v := .int (nI (rf 2))) hx hb hts hi_X11_full_X11 hown hw (by omega) (isO_0 hO) rfl 10 (by decide) wl_X11_full_1 rfl rfl dX11_full_2 ?_
  refine lv_iconst (v := nI 1) hx hb dX11_full_5 (by decide) ?_
  refine nr_iadd hx hb dX11_full_6 ?_
  obtain ⟨w2, ew2⟩ : ∃ f, f = va_up rf 2 (rf 2 + 1) := ⟨_, rfl⟩
  refine nr_put (own := RX11) (C := RX11) (T := TX11) (N := 11) (ty := .int) (v := .int (nI (rf 2 + 1))) (fs' := [.ref (ad Γ (co + 28)), .ref (ad Γ (co + 1)), .ref (ad Γ (co + 2)), .ref (ad Γ (co + 3)), .ref (ad Γ (co + 5)), .ref (ad Γ (co + 23)), .ref (ad Γ (co + 25)), .ref (ad Γ (co + 27)), .int (nI (w2 0)), .int (nI (w2 1)), .int (nI (w2 2))]) hx hb hts hi_X11_full_X11 tyX11 tyX11_ok nmX11 hown hw hj hA hS (by omega) (isO_0 hO) rfl 10 (by decide) wl_X11_full_1 rfl rfl (by decide +kernel) rfl rfl (Nat.le_of_ble_eq_true rfl) (by rw [ew2]; rfl) dX11_full_7 (fun H locs hw hS => ?_)
  subst ew2
  obtain ⟨G1, hw, hO, hf1⟩ := nO_c0 hO (va_up rf 2 (rf 2 + 1)) hw
  have hfr := fr_tr hfr hf1 (by omega) (by omega)
  refine lv_bipush (v := (-4)) hx hb dX11_full_10 (by decide) ?_
  exact nr_retI hx hb hr hlocks hw hS (⟨by first | rfl | decide, hO, hfr⟩) dX11_full_12
theorem wl_X11_valley_1 : Cond.fieldLink RX11 10 "BellForgiven" "now" "LBellForgiven$Valley;" ∈ wsX11_valley := List.mem_of_getElem? (i := 1) rfl
theorem wl_X11_valley_2 : Cond.fieldLink RX11 59 "BellForgiven$Valley" "people" "I" ∈ wsX11_valley := List.mem_of_getElem? (i := 2) rfl
theorem hi_X11_valley_X11 : ∀ w ∈ u_ws RX11 TX11 11, w ∈ wsX11_valley := fun w h => (List.mem_cons_of_mem _ (List.mem_append_left _ (List.mem_append_left _ (List.mem_append_left _ (List.mem_append_right _ h)))))
theorem hi_X11_valley_X10 : ∀ w ∈ u_ws RX10 TX10 15, w ∈ wsX11_valley := fun w h => (List.mem_cons_of_mem _ (List.mem_append_left _ (List.mem_append_left _ (List.mem_append_right _ h))))
set_option maxHeartbeats 4000000 in
set_option maxRecDepth 100000 in
theorem c_X11_valley (l : Launch) (Γ : Gam) (n : Nat) (G : Nat → va_E) (co : Nat) (kp rf by0 tv gv Dv lf vs cv V J0 J1 : Nat → Nat) (hO : isO Γ G co kp rf) (hT : isT Γ G (co + 3) by0 tv) (hRd : isRd Γ G (co + 5) gv) (hD : isV Γ G (co + 7) Dv) (hRw : isRw Γ G (co + 23) lf) (hGs : isGs Γ G (co + 25) vs) (hCh : isCh Γ G (co + 27) cv) (hV : isV Γ G (co + 28) V) (hP0 : isV Γ G (co + 44) J0) (hP1 : isV Γ G (co + 60) J1) (hn_co : co + 76 ≤ n) (hj : winj Γ n) (hG : vG V)  : Met l yX11_valley wsX11_valley ({ frames := 1, cells := 0, slots := 0, locals := 20 }) (va_Pc [.ref (ad Γ (co + 0))] (fun U => hw Γ n G U U.heap)) (wQi Γ n (fun z G2 => ((z = nI (V 0)) ∧ isO Γ G2 co kp rf ∧ isT Γ G2 (co + 3) by0 tv ∧ isRd Γ G2 (co + 5) gv ∧ isV Γ G2 (co + 7) Dv ∧ isRw Γ G2 (co + 23) lf ∧ isGs Γ G2 (co + 25) vs ∧ isCh Γ G2 (co + 27) cv ∧ isV Γ G2 (co + 28) (emV V) ∧ isV Γ G2 (co + 44) J0 ∧ isV Γ G2 (co + 60) J1 ∧ fr G G2 (co + 0) (co + 76)))) 0 0 (wA Γ n) := by
  refine Met.ofW (cc := cX11_valley) (maxL := 2) (ret := (some .int)) (by decide) rfl ?_
  intro p e s m args below meth c s₁ B hml hv
  obtain ⟨rfl, hw⟩ := hv
  have hx := B.exec
  have hb := B.bytes
  have hr := B.returns
  have hts := atoms_spec (ws := wsX11_valley) B.pre
  have hown : s.vm.findClass RX11 = some m.cls := findClass_of_methodNamed B.named
  have hlocks := B.notSynchronized
  have hS : va_S (wA Γ n) s.heap s.heap [] := va_S.rf
  have hA : ∀ q, wA Γ n q → wA Γ n q := fun _ h => h
  have hl := lv_entry ([.ref (ad Γ (co + 0))]) (n := 2) (Nat.le_of_ble_eq_true rfl)
  rw [lg_entry_eq]
  generalize (lg_sl ([.ref (ad Γ (co + 0))]) ++ List.replicate (2 - (lg_sl ([.ref (ad Γ (co + 0))])).length) Slot.unset).toArray = ls at hl ⊢
  have hl : lv_has ls 2 [(0, .ref (ad Γ (co + 0)))] := hl
  have hfr := fr_rf G (co + 0) (co + 76)
  have hI := hG.1
  have hB := hI.1
  have hB0 := hI.2.1
  have hB1 := hI.2.2.1
  have hB20 := hI.2.2.2.2.2.2.2.2.2
  have hBz2 := hI.2.2.2.1
  have hBz3 := hI.2.2.2.2.1
  have hBz4 := hI.2.2.2.2.2.1
  have hBz5 := hI.2.2.2.2.2.2.1
  have hBd := hB 21
  refine lv_aload_n hx hb dX11_valley_0 rfl (lv_at hl 0 rfl) ?_
  refine nr_get (own := RX11) (C := RX11) (T := TX11) (N := 11) (v := .ref (ad Γ (co + 28))) hx hb hts hi_X11_valley_X11 hown hw (by omega) (isO_0 hO) rfl 0 (by decide) wl_X11_valley_1 rfl rfl dX11_valley_1 ?_
  refine nr_get (own := RX11) (C := RX10) (T := TX10) (N := 15) (v := .int (nI (V 0))) hx hb hts hi_X11_valley_X10 hown hw (by omega) (isV_0 hV) rfl 0 (by decide) wl_X11_valley_2 rfl rfl dX11_valley_4 ?_
  refine lv_istore_n (lv' := [(1, .int (nI (V 0))), (0, .ref (ad Γ (co + 0)))]) hx hb dX11_valley_7 rfl hl (by decide) rfl (fun ls hl => ?_)
  refine lv_aload_n hx hb dX11_valley_8 rfl (lv_at hl 1 rfl) ?_
  refine nr_get (own := RX11) (C := RX11) (T := TX11) (N := 11) (v := .ref (ad Γ (co + 28))) hx hb hts hi_X11_valley_X11 hown hw (by omega) (isO_0 hO) rfl 0 (by decide) wl_X11_valley_1 rfl rfl dX11_valley_9 ?_
  refine nr_goV (nr_runV (As := []) (C := RX10) (T := TX10) (N := 15) ⟨hx, hb, hml, hown, hts⟩ hw (by omega) (isV_0 hV) rfl (c_X10_empty l Γ n G (co + 28) V hV (by omega) hj (by first | assumption | omega)) (cwV 0 hts gX11_valley_X10_empty rfl rfl rfl (by decide +kernel) ⟨Nat.le_of_ble_eq_true rfl, Nat.le_of_ble_eq_true rfl⟩) rfl hl.1 rfl (Nat.le_of_ble_eq_true rfl) dX11_valley_12 ⟨Nat.zero_le _, Nat.zero_le _⟩) hw hA hS (fun G1 H locs hp hw hS => ?_)
  obtain ⟨hV, hf1⟩ := hp
  have hO := isO_fr hO hf1 (by omega)
  have hT := isT_fr hT hf1 (by omega)
  have hRd := isRd_fr hRd hf1 (by omega)
  have hD := isV_fr hD hf1 (by omega)
  have hRw := isRw_fr hRw hf1 (by omega)
  have hGs := isGs_fr hGs hf1 (by omega)
  have hCh := isCh_fr hCh hf1 (by omega)
  have hP0 := isV_fr hP0 hf1 (by omega)
  have hP1 := isV_fr hP1 hf1 (by omega)
  have hfr := fr_tr hfr hf1 (by omega) (by omega)
  have hV : isV Γ G1 (co + 28) (emV V) := hV
  refine lv_iload_n hx hb dX11_valley_15 rfl (lv_at hl 0 rfl) ?_
  exact nr_retI hx hb hr hlocks hw hS (⟨rfl, hO, hT, hRd, hD, hRw, hGs, hCh, hV, hP0, hP1, hfr⟩) dX11_valley_16
theorem wl_X11_one_1 : Cond.fieldLink RX11 10 "BellForgiven" "now" "LBellForgiven$Valley;" ∈ wsX11_one := List.mem_of_getElem? (i := 1) rfl
theorem wl_X11_one_2 : Cond.fieldLink RX11 59 "BellForgiven$Valley" "people" "I" ∈ wsX11_one := List.mem_of_getElem? (i := 2) rfl
theorem wl_X11_one_3 : Cond.fieldLink RX11 77 "BellForgiven$Valley" "past" "LBellForgiven$Past;" ∈ wsX11_one := List.mem_of_getElem? (i := 3) rfl
theorem wl_X11_one_4 : Cond.fieldLink RX11 81 "BellForgiven$Past" "size" "I" ∈ wsX11_one := List.mem_of_getElem? (i := 4) rfl
theorem hi_X11_one_X11 : ∀ w ∈ u_ws RX11 TX11 11, w ∈ wsX11_one := fun w h => (List.mem_cons_of_mem _ (List.mem_append_left _ (List.mem_append_left _ (List.mem_append_right _ h))))
theorem hi_X11_one_X10 : ∀ w ∈ u_ws RX10 TX10 15, w ∈ wsX11_one := fun w h => (List.mem_cons_of_mem _ (List.mem_append_left _ (List.mem_append_right _ h)))
theorem hi_X11_one_X4 : ∀ w ∈ u_ws RX4 TX4 2, w ∈ wsX11_one := fun w h => (List.mem_cons_of_mem _ (List.mem_append_right _ h))
set_option maxHeartbeats 4000000 in
set_option maxRecDepth 100000 in
theorem c_X11_one (l : Launch) (Γ : Gam) (n : Nat) (G : Nat → va_E) (co : Nat) (kp rf by0 tv gv Dv lf vs cv V J0 J1 : Nat → Nat) (hO : isO Γ G co kp rf) (hT : isT Γ G (co + 3) by0 tv) (hRd : isRd Γ G (co + 5) gv) (hD : isV Γ G (co + 7) Dv) (hRw : isRw Γ G (co + 23) lf) (hGs : isGs Γ G (co + 25) vs) (hCh : isCh Γ G (co + 27) cv) (hV : isV Γ G (co + 28) V) (hP0 : isV Γ G (co + 44) J0) (hP1 : isV Γ G (co + 60) J1) (hn_co : co + 76 ≤ n) (hj : winj Γ n) (kind : Int32) (hG : vG V)  : Met l yX11_one wsX11_one ({ frames := 1, cells := 0, slots := 0, locals := 22 }) (va_Pc [.ref (ad Γ (co + 0)), .int kind] (fun U => hw Γ n G U U.heap)) (wQi Γ n (fun z G2 => ((¬ vRng 0 5 kind) ∧ (z = -2) ∧ isO Γ G2 co kp (bmp rf 0) ∧ isT Γ G2 (co + 3) by0 tv ∧ isRd Γ G2 (co + 5) gv ∧ isV Γ G2 (co + 7) Dv ∧ isRw Γ G2 (co + 23) lf ∧ isGs Γ G2 (co + 25) vs ∧ isCh Γ G2 (co + 27) cv ∧ isV Γ G2 (co + 28) V ∧ isV Γ G2 (co + 44) J0 ∧ isV Γ G2 (co + 60) J1 ∧ fr G G2 (co + 0) (co + 76)) ∨ ((vRng 0 5 kind) ∧ (V 0 = 6) ∧ (z = -4) ∧ isO Γ G2 co kp (bmp rf 2) ∧ isT Γ G2 (co + 3) by0 tv ∧ isRd Γ G2 (co + 5) gv ∧ isV Γ G2 (co + 7) Dv ∧ isRw Γ G2 (co + 23) lf ∧ isGs Γ G2 (co + 25) vs ∧ isCh Γ G2 (co + 27) cv ∧ isV Γ G2 (co + 28) V ∧ isV Γ G2 (co + 44) J0 ∧ isV Γ G2 (co + 60) J1 ∧ fr G G2 (co + 0) (co + 76)) ∨ (∃ j : Nat, (j ≤ 5) ∧ (kind = nI j) ∧ (¬ V 0 = 6) ∧ (z = nI (V 0)) ∧ isO Γ G2 co kp rf ∧ isT Γ G2 (co + 3) by0 tv ∧ isRd Γ G2 (co + 5) gv ∧ isV Γ G2 (co + 7) Dv ∧ isRw Γ G2 (co + 23) lf ∧ isGs Γ G2 (co + 25) vs ∧ isCh Γ G2 (co + 27) cv ∧ isV Γ G2 (co + 28) (perV (va_up V 5 0) j) ∧ isV Γ G2 (co + 44) J0 ∧ isV Γ G2 (co + 60) J1 ∧ fr G G2 (co + 0) (co + 76)))) 0 0 (wA Γ n) := by
  refine Met.ofW (cc := cX11_one) (maxL := 2) (ret := (some .int)) (by decide) rfl ?_
  intro p e s m args below meth c s₁ B hml hv
  obtain ⟨rfl, hw⟩ := hv
  have hx := B.exec
  have hb := B.bytes
  have hr := B.returns
  have hts := atoms_spec (ws := wsX11_one) B.pre
  have hown : s.vm.findClass RX11 = some m.cls := findClass_of_methodNamed B.named
  have hlocks := B.notSynchronized
  have hS : va_S (wA Γ n) s.heap s.heap [] := va_S.rf
  have hA : ∀ q, wA Γ n q → wA Γ n q := fun _ h => h
  have hl := lv_entry ([.ref (ad Γ (co + 0)), .int kind]) (n := 2) (Nat.le_of_ble_eq_true rfl)
  rw [lg_entry_eq]
  generalize (lg_sl ([.ref (ad Γ (co + 0)), .int kind]) ++ List.replicate (2 - (lg_sl ([.ref (ad Γ (co + 0)), .int kind])).length) Slot.unset).toArray = ls at hl ⊢
  have hl : lv_has ls 2 [(0, .ref (ad Γ (co + 0))), (1, .int kind)] := hl
  have hfr := fr_rf G (co + 0) (co + 76)
  have hI := hG.1
  have hB := hI.1
  have hB0 := hI.2.1
  have hB1 := hI.2.2.1
  have hB20 := hI.2.2.2.2.2.2.2.2.2
  have hBz2 := hI.2.2.2.1
  have hBz3 := hI.2.2.2.2.1
  have hBz4 := hI.2.2.2.2.2.1
  have hBz5 := hI.2.2.2.2.2.2.1
  have hBd := hB 21
  refine lv_iload_n hx hb dX11_one_0 rfl (lv_at hl 1 rfl) ?_
  refine lv_iconst (v := nI 0) hx hb dX11_one_1 (by decide) ?_
  refine lv_iconst (v := nI 5) hx hb dX11_one_2 (by decide) ?_
  refine nr_goB (P := (nI 0) ≤ kind ∧ kind ≤ (nI 5)) (nr_runS (As := [.int kind, .int (nI 0), .int (nI 5)]) ⟨hx, hb, hml, hown, hts⟩ hw (c_X11_within l Γ n G kind (nI 0) (nI 5)) (va_cwS 3 hts gX11_one_X11_within rfl rfl rfl (by decide +kernel) ⟨Nat.le_of_ble_eq_true rfl, Nat.le_of_ble_eq_true rfl⟩) rfl hl.1 rfl (Nat.le_of_ble_eq_true rfl) dX11_one_3 ⟨Nat.zero_le _, Nat.zero_le _⟩) (fun b1 => ?_) (fun b1 => ?_)
  · obtain ⟨j, hja, hjb, rfl⟩ := (with_c (a := 0) (b := 5) (by first | decide | omega) (by first | decide | omega)).mp b1
    refine nr_if_ne (tgt := 14) hx hb (by decide) dX11_one_6 (by decide) (fun c2 => ?_) (fun c2 => absurd c2 (by decide))
    refine lv_aload_n hx hb dX11_one_14 rfl (lv_at hl 0 rfl) ?_
    refine nr_get (own := RX11) (C := RX11) (T := TX11) (N := 11) (v := .ref (ad Γ (co + 28))) hx hb hts hi_X11_one_X11 hown hw (by omega) (isO_0 hO) rfl 0 (by decide) wl_X11_one_1 rfl rfl dX11_one_15 ?_
    refine nr_get (own := RX11) (C := RX10) (T := TX10) (N := 15) (v := .int (nI (V 0))) hx hb hts hi_X11_one_X10 hown hw (by omega) (isV_0 hV) rfl 0 (by decide) wl_X11_one_2 rfl rfl dX11_one_18 ?_
    refine lv_bipush (v := nI 6) hx hb dX11_one_21 (by decide) ?_
    refine nr_icmp_lt (tgt := 31) hx hb (by omega) (by decide) dX11_one_23 (by decide) (fun c3 => ?_) (fun c3 => ?_)
    · refine lv_aload_n hx hb dX11_one_31 rfl (lv_at hl 0 rfl) ?_
      refine nr_get (own := RX11) (C := RX11) (T := TX11) (N := 11) (v := .ref (ad Γ (co + 28))) hx hb hts hi_X11_one_X11 hown hw (by omega) (isO_0 hO) rfl 0 (by decide) wl_X11_one_1 rfl rfl dX11_one_32 ?_
      refine nr_get (own := RX11) (C := RX10) (T := TX10) (N := 15) (v := .ref (ad Γ (co + 39))) hx hb hts hi_X11_one_X10 hown hw (by omega) (isV_0 hV) rfl 14 (by decide) wl_X11_one_3 rfl rfl dX11_one_35 ?_
      refine lv_iconst (v := nI 0) hx hb dX11_one_38 (by decide) ?_
      obtain ⟨w5, ew5⟩ : ∃ f, f = va_up V 5 0 := ⟨_, rfl⟩
      refine nr_put (own := RX11) (C := RX4) (T := TX4) (N := 2) (ty := .int) (v := .int (nI 0)) (fs' := [.ref (ad Γ (co + 43)), .int (nI (w5 5))]) hx hb hts hi_X11_one_X4 tyX4 tyX4_ok nmX4 hown hw hj hA hS (by omega) (isV_11 hV) rfl 1 (by decide) wl_X11_one_4 rfl rfl (by decide +kernel) rfl rfl (Nat.le_of_ble_eq_true rfl) (by rw [ew5]; rfl) dX11_one_39 (fun H locs hw hS => ?_)
      subst ew5
      obtain ⟨G4, hw, hV, hf4⟩ := nv_c11 hV (va_up V 5 0) hw (fun j h1 => va_up_ne _ _ (by assumption))
      have hO := isO_fr hO hf4 (by omega)
      have hT := isT_fr hT hf4 (by omega)
      have hRd := isRd_fr hRd hf4 (by omega)
      have hD := isV_fr hD hf4 (by omega)
      have hRw := isRw_fr hRw hf4 (by omega)
      have hGs := isGs_fr hGs hf4 (by omega)
      have hCh := isCh_fr hCh hf4 (by omega)
      have hP0 := isV_fr hP0 hf4 (by omega)
      have hP1 := isV_fr hP1 hf4 (by omega)
      have hfr := fr_tr hfr hf4 (by omega) (by omega)
      have hI5 := vI_p0 hI
      have h05 : va_up V 5 0 0 = V 0 := rfl
      refine lv_aload_n hx hb dX11_one_42 rfl (lv_at hl 0 rfl) ?_
      refine nr_get (own := RX11) (C := RX11) (T := TX11) (N := 11) (v := .ref (ad Γ (co + 28))) hx hb hts hi_X11_one_X11 hown hw (by omega) (isO_0 hO) rfl 0 (by decide) wl_X11_one_1 rfl rfl dX11_one_43 ?_
      refine lv_iload_n hx hb dX11_one_46 rfl (lv_at hl 1 rfl) ?_
      refine nr_goI (nr_runV (As := [.int (nI j)]) (C := RX10) (T := TX10) (N := 15) ⟨hx, hb, hml, hown, hts⟩ hw (by omega) (isV_0 hV) rfl (c_X10_addPerson l Γ n G4 (co + 28) (va_up V 5 0) hV (by omega) hj j hI5 (by omega)) (cwV 1 hts gX11_one_X10_addPerson rfl rfl rfl (by decide +kernel) ⟨Nat.le_of_ble_eq_true rfl, Nat.le_of_ble_eq_true rfl⟩) rfl hl.1 rfl (Nat.le_of_ble_eq_true rfl) dX11_one_47 ⟨Nat.zero_le _, Nat.zero_le _⟩) hw hA hS (fun z6 G6 H locs hp hw hS => ?_)
      obtain ⟨ha6, hV, hf6⟩ := hp
      have hO := isO_fr hO hf6 (by omega)
      have hT := isT_fr hT hf6 (by omega)
      have hRd := isRd_fr hRd hf6 (by omega)
      have hD := isV_fr hD hf6 (by omega)
      have hRw := isRw_fr hRw hf6 (by omega)
      have hGs := isGs_fr hGs hf6 (by omega)
      have hCh := isCh_fr hCh hf6 (by omega)
      have hP0 := isV_fr hP0 hf6 (by omega)
      have hP1 := isV_fr hP1 hf6 (by omega)
      have hfr := fr_tr hfr hf6 (by omega) (by omega)
      have hV : isV Γ G6 (co + 28) (perV (va_up V 5 0) j) := hV
      subst ha6
      exact nr_retI hx hb hr hlocks hw hS (Or.inr (Or.inr (⟨j, hjb, rfl, by omega, rfl, hO, hT, hRd, hD, hRw, hGs, hCh, hV, hP0, hP1, hfr⟩))) dX11_one_50
    · refine lv_aload_n hx hb dX11_one_26 rfl (lv_at hl 0 rfl) ?_
      refine nr_goI (nr_runV (As := []) (C := RX11) (T := TX11) (N := 11) ⟨hx, hb, hml, hown, hts⟩ hw (by omega) (isO_0 hO) rfl (c_X11_full l Γ n G co kp rf hO (by omega) hj) (cwV 0 hts gX11_one_X11_full rfl rfl rfl (by decide +kernel) ⟨Nat.le_of_ble_eq_true rfl, Nat.le_of_ble_eq_true rfl⟩) rfl hl.1 rfl (Nat.le_of_ble_eq_true rfl) dX11_one_27 ⟨Nat.zero_le _, Nat.zero_le _⟩) hw hA hS (fun z7 G7 H locs hp hw hS => ?_)
      obtain ⟨ha7, hO, hf7⟩ := hp
      have hT := isT_fr hT hf7 (by omega)
      have hRd := isRd_fr hRd hf7 (by omega)
      have hD := isV_fr hD hf7 (by omega)
      have hRw := isRw_fr hRw hf7 (by omega)
      have hGs := isGs_fr hGs hf7 (by omega)
      have hCh := isCh_fr hCh hf7 (by omega)
      have hV := isV_fr hV hf7 (by omega)
      have hP0 := isV_fr hP0 hf7 (by omega)
      have hP1 := isV_fr hP1 hf7 (by omega)
      have hfr := fr_tr hfr hf7 (by omega) (by omega)
      have hO : isO Γ G7 co kp (bmp rf 2) := hO
      subst ha7
      exact nr_retI hx hb hr hlocks hw hS (Or.inr (Or.inl ⟨⟨j, hja, hjb, rfl⟩, by omega, rfl, hO, hT, hRd, hD, hRw, hGs, hCh, hV, hP0, hP1, hfr⟩)) dX11_one_30
  · have b1n : ¬ vRng (0) (5) kind := fun hh => b1 ((with_c (by first | decide | omega) (by first | decide | omega)).mpr hh)
    refine nr_if_ne (tgt := 14) hx hb (by decide) dX11_one_6 (by decide) (fun c8 => absurd c8 (by decide)) (fun c8 => ?_)
    refine lv_aload_n hx hb dX11_one_9 rfl (lv_at hl 0 rfl) ?_
    refine nr_goI (nr_runV (As := []) (C := RX11) (T := TX11) (N := 11) ⟨hx, hb, hml, hown, hts⟩ hw (by omega) (isO_0 hO) rfl (c_X11_bad l Γ n G co kp rf hO (by omega) hj) (cwV 0 hts gX11_one_X11_bad rfl rfl rfl (by decide +kernel) ⟨Nat.le_of_ble_eq_true rfl, Nat.le_of_ble_eq_true rfl⟩) rfl hl.1 rfl (Nat.le_of_ble_eq_true rfl) dX11_one_10 ⟨Nat.zero_le _, Nat.zero_le _⟩) hw hA hS (fun z9 G9 H locs hp hw hS => ?_)
    obtain ⟨ha9, hO, hf9⟩ := hp
    have hT := isT_fr hT hf9 (by omega)
    have hRd := isRd_fr hRd hf9 (by omega)
    have hD := isV_fr hD hf9 (by omega)
    have hRw := isRw_fr hRw hf9 (by omega)
    have hGs := isGs_fr hGs hf9 (by omega)
    have hCh := isCh_fr hCh hf9 (by omega)
    have hV := isV_fr hV hf9 (by omega)
    have hP0 := isV_fr hP0 hf9 (by omega)
    have hP1 := isV_fr hP1 hf9 (by omega)
    have hfr := fr_tr hfr hf9 (by omega) (by omega)
    have hO : isO Γ G9 co kp (bmp rf 0) := hO
    subst ha9
    exact nr_retI hx hb hr hlocks hw hS (Or.inl ⟨by assumption, rfl, hO, hT, hRd, hD, hRw, hGs, hCh, hV, hP0, hP1, hfr⟩) dX11_one_13
theorem wl_X11_wrong_1 : Cond.fieldLink RX11 10 "BellForgiven" "now" "LBellForgiven$Valley;" ∈ wsX11_wrong := List.mem_of_getElem? (i := 1) rfl
theorem wl_X11_wrong_2 : Cond.fieldLink RX11 94 "BellForgiven$Valley" "wrongs" "I" ∈ wsX11_wrong := List.mem_of_getElem? (i := 2) rfl
theorem wl_X11_wrong_3 : Cond.fieldLink RX11 77 "BellForgiven$Valley" "past" "LBellForgiven$Past;" ∈ wsX11_wrong := List.mem_of_getElem? (i := 3) rfl
theorem wl_X11_wrong_4 : Cond.fieldLink RX11 81 "BellForgiven$Past" "size" "I" ∈ wsX11_wrong := List.mem_of_getElem? (i := 4) rfl
theorem hi_X11_wrong_X11 : ∀ w ∈ u_ws RX11 TX11 11, w ∈ wsX11_wrong := fun w h => (List.mem_cons_of_mem _ (List.mem_append_left _ (List.mem_append_left _ (List.mem_append_right _ h))))
theorem hi_X11_wrong_X10 : ∀ w ∈ u_ws RX10 TX10 15, w ∈ wsX11_wrong := fun w h => (List.mem_cons_of_mem _ (List.mem_append_left _ (List.mem_append_right _ h)))
theorem hi_X11_wrong_X4 : ∀ w ∈ u_ws RX4 TX4 2, w ∈ wsX11_wrong := fun w h => (List.mem_cons_of_mem _ (List.mem_append_right _ h))
set_option maxHeartbeats 4000000 in
set_option maxRecDepth 100000 in
theorem c_X11_wrong (l : Launch) (Γ : Gam) (n : Nat) (G : Nat → va_E) (co : Nat) (kp rf by0 tv gv Dv lf vs cv V J0 J1 : Nat → Nat) (hO : isO Γ G co kp rf) (hT : isT Γ G (co + 3) by0 tv) (hRd : isRd Γ G (co + 5) gv) (hD : isV Γ G (co + 7) Dv) (hRw : isRw Γ G (co + 23) lf) (hGs : isGs Γ G (co + 25) vs) (hCh : isCh Γ G (co + 27) cv) (hV : isV Γ G (co + 28) V) (hP0 : isV Γ G (co + 44) J0) (hP1 : isV Γ G (co + 60) J1) (hn_co : co + 76 ≤ n) (hj : winj Γ n) (kind a b gr : Int32) (hG : vG V)  : Met l yX11_wrong wsX11_wrong ({ frames := 2, cells := 0, slots := 0, locals := 43 }) (va_Pc [.ref (ad Γ (co + 0)), .int kind, .int a, .int b, .int gr] (fun U => hw Γ n G U U.heap)) (wQi Γ n (fun z G2 => ((¬ (vRng 0 5 kind ∧ vBel (V 0) a ∧ vBel (V 0) b ∧ ¬ a = b ∧ vRng 1 9 gr)) ∧ (z = -2) ∧ isO Γ G2 co kp (bmp rf 0) ∧ isT Γ G2 (co + 3) by0 tv ∧ isRd Γ G2 (co + 5) gv ∧ isV Γ G2 (co + 7) Dv ∧ isRw Γ G2 (co + 23) lf ∧ isGs Γ G2 (co + 25) vs ∧ isCh Γ G2 (co + 27) cv ∧ isV Γ G2 (co + 28) V ∧ isV Γ G2 (co + 44) J0 ∧ isV Γ G2 (co + 60) J1 ∧ fr G G2 (co + 0) (co + 76)) ∨ ((vRng 0 5 kind ∧ vBel (V 0) a ∧ vBel (V 0) b ∧ ¬ a = b ∧ vRng 1 9 gr) ∧ (V 1 = 8) ∧ (z = -4) ∧ isO Γ G2 co kp (bmp rf 2) ∧ isT Γ G2 (co + 3) by0 tv ∧ isRd Γ G2 (co + 5) gv ∧ isV Γ G2 (co + 7) Dv ∧ isRw Γ G2 (co + 23) lf ∧ isGs Γ G2 (co + 25) vs ∧ isCh Γ G2 (co + 27) cv ∧ isV Γ G2 (co + 28) V ∧ isV Γ G2 (co + 44) J0 ∧ isV Γ G2 (co + 60) J1 ∧ fr G G2 (co + 0) (co + 76)) ∨ (∃ j ja jb jg : Nat, (j ≤ 5) ∧ (kind = nI j) ∧ (ja < V 0) ∧ (a = nI ja) ∧ (jb < V 0) ∧ (b = nI jb) ∧ (¬ ja = jb) ∧ (1 ≤ jg) ∧ (jg ≤ 9) ∧ (gr = nI jg) ∧ (¬ V 1 = 8) ∧ (z = nI (V 1)) ∧ isO Γ G2 co kp rf ∧ isT Γ G2 (co + 3) by0 tv ∧ isRd Γ G2 (co + 5) gv ∧ isV Γ G2 (co + 7) Dv ∧ isRw Γ G2 (co + 23) lf ∧ isGs Γ G2 (co + 25) vs ∧ isCh Γ G2 (co + 27) cv ∧ isV Γ G2 (co + 28) (layR (va_up V 5 0) j ja jb jg) ∧ isV Γ G2 (co + 44) J0 ∧ isV Γ G2 (co + 60) J1 ∧ fr G G2 (co + 0) (co + 76)))) 0 0 (wA Γ n) := by
  refine Met.ofW (cc := cX11_wrong) (maxL := 5) (ret := (some .int)) (by decide) rfl ?_
  intro p e s m args below meth c s₁ B hml hv
  obtain ⟨rfl, hw⟩ := hv
  have hx := B.exec
  have hb := B.bytes
  have hr := B.returns
  have hts := atoms_spec (ws := wsX11_wrong) B.pre
  have hown : s.vm.findClass RX11 = some m.cls := findClass_of_methodNamed B.named
  have hlocks := B.notSynchronized
  have hS : va_S (wA Γ n) s.heap s.heap [] := va_S.rf
  have hA : ∀ q, wA Γ n q → wA Γ n q := fun _ h => h
  have hl := lv_entry ([.ref (ad Γ (co + 0)), .int kind, .int a, .int b, .int gr]) (n := 5) (Nat.le_of_ble_eq_true rfl)
  rw [lg_entry_eq]
  generalize (lg_sl ([.ref (ad Γ (co + 0)), .int kind, .int a, .int b, .int gr]) ++ List.replicate (5 - (lg_sl ([.ref (ad Γ (co + 0)), .int kind, .int a, .int b, .int gr])).length) Slot.unset).toArray = ls at hl ⊢
  have hl : lv_has ls 5 [(0, .ref (ad Γ (co + 0))), (1, .int kind), (2, .int a), (3, .int b), (4, .int gr)] := hl
  have hfr := fr_rf G (co + 0) (co + 76)
  have hI := hG.1
  have hB := hI.1
  have hB0 := hI.2.1
  have hB1 := hI.2.2.1
  have hB20 := hI.2.2.2.2.2.2.2.2.2
  have hBz2 := hI.2.2.2.1
  have hBz3 := hI.2.2.2.2.1
  have hBz4 := hI.2.2.2.2.2.1
  have hBz5 := hI.2.2.2.2.2.2.1
  have hBd := hB 21
  refine lv_iload_n hx hb dX11_wrong_0 rfl (lv_at hl 1 rfl) ?_
  refine lv_iconst (v := nI 0) hx hb dX11_wrong_1 (by decide) ?_
  refine lv_iconst (v := nI 5) hx hb dX11_wrong_2 (by decide) ?_
  refine nr_goB (P := (nI 0) ≤ kind ∧ kind ≤ (nI 5)) (nr_runS (As := [.int kind, .int (nI 0), .int (nI 5)]) ⟨hx, hb, hml, hown, hts⟩ hw (c_X11_within l Γ n G kind (nI 0) (nI 5)) (va_cwS 3 hts gX11_wrong_X11_within rfl rfl rfl (by decide +kernel) ⟨Nat.le_of_ble_eq_true rfl, Nat.le_of_ble_eq_true rfl⟩) rfl hl.1 rfl (Nat.le_of_ble_eq_true rfl) dX11_wrong_3 ⟨Nat.zero_le _, Nat.zero_le _⟩) (fun b1 => ?_) (fun b1 => ?_)
  · obtain ⟨j, hja, hjb, rfl⟩ := (with_c (a := 0) (b := 5) (by first | decide | omega) (by first | decide | omega)).mp b1
    refine nr_if_eq (tgt := 47) hx hb (by decide) dX11_wrong_6 (by decide) (fun c2 => absurd c2 (by decide)) (fun c2 => ?_)
    refine lv_aload_n hx hb dX11_wrong_9 rfl (lv_at hl 0 rfl) ?_
    refine nr_get (own := RX11) (C := RX11) (T := TX11) (N := 11) (v := .ref (ad Γ (co + 28))) hx hb hts hi_X11_wrong_X11 hown hw (by omega) (isO_0 hO) rfl 0 (by decide) wl_X11_wrong_1 rfl rfl dX11_wrong_10 ?_
    refine lv_iload_n hx hb dX11_wrong_13 rfl (lv_at hl 2 rfl) ?_
    refine nr_goB (P := ∃ j, j < V 0 ∧ a = nI j) (nr_runV (As := [.int a]) (C := RX10) (T := TX10) (N := 15) ⟨hx, hb, hml, hown, hts⟩ hw (by omega) (isV_0 hV) rfl (c_X10_hasPerson l Γ n G (co + 28) V hV (by assumption) (by omega) a) (cwV 1 hts gX11_wrong_X10_hasPerson rfl rfl rfl (by decide +kernel) ⟨Nat.le_of_ble_eq_true rfl, Nat.le_of_ble_eq_true rfl⟩) rfl hl.1 rfl (Nat.le_of_ble_eq_true rfl) dX11_wrong_14 ⟨Nat.zero_le _, Nat.zero_le _⟩) (fun b3 => ?_) (fun b3 => ?_)
    · obtain ⟨ja, hja_, rfl⟩ := b3
      refine nr_if_eq (tgt := 47) hx hb (by decide) dX11_wrong_17 (by decide) (fun c4 => absurd c4 (by decide)) (fun c4 => ?_)
      refine lv_aload_n hx hb dX11_wrong_20 rfl (lv_at hl 0 rfl) ?_
      refine nr_get (own := RX11) (C := RX11) (T := TX11) (N := 11) (v := .ref (ad Γ (co + 28))) hx hb hts hi_X11_wrong_X11 hown hw (by omega) (isO_0 hO) rfl 0 (by decide) wl_X11_wrong_1 rfl rfl dX11_wrong_21 ?_
      refine lv_iload_n hx hb dX11_wrong_24 rfl (lv_at hl 3 rfl) ?_
      refine nr_goB (P := ∃ j, j < V 0 ∧ b = nI j) (nr_runV (As := [.int b]) (C := RX10) (T := TX10) (N := 15) ⟨hx, hb, hml, hown, hts⟩ hw (by omega) (isV_0 hV) rfl (c_X10_hasPerson l Γ n G (co + 28) V hV (by assumption) (by omega) b) (cwV 1 hts gX11_wrong_X10_hasPerson rfl rfl rfl (by decide +kernel) ⟨Nat.le_of_ble_eq_true rfl, Nat.le_of_ble_eq_true rfl⟩) rfl hl.1 rfl (Nat.le_of_ble_eq_true rfl) dX11_wrong_25 ⟨Nat.zero_le _, Nat.zero_le _⟩) (fun b5 => ?_) (fun b5 => ?_)
      · obtain ⟨jb, hjb_, rfl⟩ := b5
        refine nr_if_eq (tgt := 47) hx hb (by decide) dX11_wrong_28 (by decide) (fun c6 => absurd c6 (by decide)) (fun c6 => ?_)
        refine lv_iload_n hx hb dX11_wrong_31 rfl (lv_at hl 2 rfl) ?_
        refine lv_iload_n hx hb dX11_wrong_32 rfl (lv_at hl 3 rfl) ?_
        refine nr_icmp_eq (tgt := 47) hx hb (by omega) (by omega) dX11_wrong_33 (by decide) (fun c7 => ?_) (fun c7 => ?_)
        · refine lv_aload_n hx hb dX11_wrong_47 rfl (lv_at hl 0 rfl) ?_
          refine nr_goI (nr_runV (As := []) (C := RX11) (T := TX11) (N := 11) ⟨hx, hb, hml, hown, hts⟩ hw (by omega) (isO_0 hO) rfl (c_X11_bad l Γ n G co kp rf hO (by omega) hj) (cwV 0 hts gX11_wrong_X11_bad rfl rfl rfl (by decide +kernel) ⟨Nat.le_of_ble_eq_true rfl, Nat.le_of_ble_eq_true rfl⟩) rfl hl.1 rfl (Nat.le_of_ble_eq_true rfl) dX11_wrong_48 ⟨Nat.zero_le _, Nat.zero_le _⟩) hw hA hS (fun z8 G8 H locs hp hw hS => ?_)
          obtain ⟨ha8, hO, hf8⟩ := hp
          have hT := isT_fr hT hf8 (by omega)
          have hRd := isRd_fr hRd hf8 (by omega)
          have hD := isV_fr hD hf8 (by omega)
          have hRw := isRw_fr hRw hf8 (by omega)
          have hGs := isGs_fr hGs hf8 (by omega)
          have hCh := isCh_fr hCh hf8 (by omega)
          have hV := isV_fr hV hf8 (by omega)
          have hP0 := isV_fr hP0 hf8 (by omega)
          have hP1 := isV_fr hP1 hf8 (by omega)
          have hfr := fr_tr hfr hf8 (by omega) (by omega)
          have hO : isO Γ G8 co kp (bmp rf 0) := hO
          subst ha8
          exact nr_retI hx hb hr hlocks hw hS (Or.inl ⟨by intro hh; first | contradiction | (obtain ⟨hq1, hq2⟩ := hh; first | contradiction | (obtain ⟨hq2, hq3⟩ := hq2; first | contradiction | (obtain ⟨hq3, hq4⟩ := hq3; first | contradiction | (obtain ⟨hq4, hq5⟩ := hq4; first | contradiction | (exact hq4 (congrArg nI (by assumption))))))), rfl, hO, hT, hRd, hD, hRw, hGs, hCh, hV, hP0, hP1, hfr⟩) dX11_wrong_51
        · refine lv_iload hx hb dX11_wrong_36 (lv_at hl 4 rfl) ?_
          refine lv_iconst (v := nI 1) hx hb dX11_wrong_38 (by decide) ?_
          refine lv_bipush (v := nI 9) hx hb dX11_wrong_39 (by decide) ?_
          refine nr_goB (P := (nI 1) ≤ gr ∧ gr ≤ (nI 9)) (nr_runS (As := [.int gr, .int (nI 1), .int (nI 9)]) ⟨hx, hb, hml, hown, hts⟩ hw (c_X11_within l Γ n G gr (nI 1) (nI 9)) (va_cwS 3 hts gX11_wrong_X11_within rfl rfl rfl (by decide +kernel) ⟨Nat.le_of_ble_eq_true rfl, Nat.le_of_ble_eq_true rfl⟩) rfl hl.1 rfl (Nat.le_of_ble_eq_true rfl) dX11_wrong_41 ⟨Nat.zero_le _, Nat.zero_le _⟩) (fun b9 => ?_) (fun b9 => ?_)
          · obtain ⟨jg, hjga, hjgb, rfl⟩ := (with_c (a := 1) (b := 9) (by first | decide | omega) (by first | decide | omega)).mp b9
            refine nr_if_ne (tgt := 52) hx hb (by decide) dX11_wrong_44 (by decide) (fun c10 => ?_) (fun c10 => absurd c10 (by decide))
            refine lv_aload_n hx hb dX11_wrong_52 rfl (lv_at hl 0 rfl) ?_
            refine nr_get (own := RX11) (C := RX11) (T := TX11) (N := 11) (v := .ref (ad Γ (co + 28))) hx hb hts hi_X11_wrong_X11 hown hw (by omega) (isO_0 hO) rfl 0 (by decide) wl_X11_wrong_1 rfl rfl dX11_wrong_53 ?_
            refine nr_get (own := RX11) (C := RX10) (T := TX10) (N := 15) (v := .int (nI (V 1))) hx hb hts hi_X11_wrong_X10 hown hw (by omega) (isV_0 hV) rfl 3 (by decide) wl_X11_wrong_2 rfl rfl dX11_wrong_56 ?_
            refine lv_bipush (v := nI 8) hx hb dX11_wrong_59 (by decide) ?_
            refine nr_icmp_lt (tgt := 69) hx hb (by omega) (by decide) dX11_wrong_61 (by decide) (fun c11 => ?_) (fun c11 => ?_)
            · refine lv_aload_n hx hb dX11_wrong_69 rfl (lv_at hl 0 rfl) ?_
              refine nr_get (own := RX11) (C := RX11) (T := TX11) (N := 11) (v := .ref (ad Γ (co + 28))) hx hb hts hi_X11_wrong_X11 hown hw (by omega) (isO_0 hO) rfl 0 (by decide) wl_X11_wrong_1 rfl rfl dX11_wrong_70 ?_
              refine nr_get (own := RX11) (C := RX10) (T := TX10) (N := 15) (v := .ref (ad Γ (co + 39))) hx hb hts hi_X11_wrong_X10 hown hw (by omega) (isV_0 hV) rfl 14 (by decide) wl_X11_wrong_3 rfl rfl dX11_wrong_73 ?_
              refine lv_iconst (v := nI 0) hx hb dX11_wrong_76 (by decide) ?_
              obtain ⟨w13, ew13⟩ : ∃ f, f = va_up V 5 0 := ⟨_, rfl⟩
              refine nr_put (own := RX11) (C := RX4) (T := TX4) (N := 2) (ty := .int) (v := .int (nI 0)) (fs' := [.ref (ad Γ (co + 43)), .int (nI (w13 5))]) hx hb hts hi_X11_wrong_X4 tyX4 tyX4_ok nmX4 hown hw hj hA hS (by omega) (isV_11 hV) rfl 1 (by decide) wl_X11_wrong_4 rfl rfl (by decide +kernel) rfl rfl (Nat.le_of_ble_eq_true rfl) (by rw [ew13]; rfl) dX11_wrong_77 (fun H locs hw hS => ?_)
              subst ew13
              obtain ⟨G12, hw, hV, hf12⟩ := nv_c11 hV (va_up V 5 0) hw (fun j h1 => va_up_ne _ _ (by assumption))
              have hO := isO_fr hO hf12 (by omega)
              have hT := isT_fr hT hf12 (by omega)
              have hRd := isRd_fr hRd hf12 (by omega)
              have hD := isV_fr hD hf12 (by omega)
              have hRw := isRw_fr hRw hf12 (by omega)
              have hGs := isGs_fr hGs hf12 (by omega)
              have hCh := isCh_fr hCh hf12 (by omega)
              have hP0 := isV_fr hP0 hf12 (by omega)
              have hP1 := isV_fr hP1 hf12 (by omega)
              have hfr := fr_tr hfr hf12 (by omega) (by omega)
              have hI5 := vI_p0 hI
              have h15 : va_up V 5 0 1 = V 1 := rfl
              refine lv_aload_n hx hb dX11_wrong_80 rfl (lv_at hl 0 rfl) ?_
              refine nr_get (own := RX11) (C := RX11) (T := TX11) (N := 11) (v := .ref (ad Γ (co + 28))) hx hb hts hi_X11_wrong_X11 hown hw (by omega) (isO_0 hO) rfl 0 (by decide) wl_X11_wrong_1 rfl rfl dX11_wrong_81 ?_
              refine lv_iload_n hx hb dX11_wrong_84 rfl (lv_at hl 1 rfl) ?_
              refine lv_iload_n hx hb dX11_wrong_85 rfl (lv_at hl 2 rfl) ?_
              refine lv_iload_n hx hb dX11_wrong_86 rfl (lv_at hl 3 rfl) ?_
              refine lv_iload hx hb dX11_wrong_87 (lv_at hl 4 rfl) ?_
              refine nr_goI (nr_runV (As := [.int (nI j), .int (nI ja), .int (nI jb), .int (nI jg)]) (C := RX10) (T := TX10) (N := 15) ⟨hx, hb, hml, hown, hts⟩ hw (by omega) (isV_0 hV) rfl (c_X10_addWrong l Γ n G12 (co + 28) (va_up V 5 0) hV (by omega) hj j ja jb jg hI5 (by omega)) (cwV 4 hts gX11_wrong_X10_addWrong rfl rfl rfl (by decide +kernel) ⟨Nat.le_of_ble_eq_true rfl, Nat.le_of_ble_eq_true rfl⟩) rfl hl.1 rfl (Nat.le_of_ble_eq_true rfl) dX11_wrong_89 ⟨Nat.zero_le _, Nat.zero_le _⟩) hw hA hS (fun z14 G14 H locs hp hw hS => ?_)
              obtain ⟨ha14, hV, hf14⟩ := hp
              have hO := isO_fr hO hf14 (by omega)
              have hT := isT_fr hT hf14 (by omega)
              have hRd := isRd_fr hRd hf14 (by omega)
              have hD := isV_fr hD hf14 (by omega)
              have hRw := isRw_fr hRw hf14 (by omega)
              have hGs := isGs_fr hGs hf14 (by omega)
              have hCh := isCh_fr hCh hf14 (by omega)
              have hP0 := isV_fr hP0 hf14 (by omega)
              have hP1 := isV_fr hP1 hf14 (by omega)
              have hfr := fr_tr hfr hf14 (by omega) (by omega)
              have hV : isV Γ G14 (co + 28) (layR (va_up V 5 0) j ja jb jg) := hV
              subst ha14
              exact nr_retI hx hb hr hlocks hw hS (Or.inr (Or.inr (⟨j, ja, jb, jg, hjb, rfl, hja_, rfl, hjb_, rfl, by assumption, hjga, hjgb, rfl, by omega, rfl, hO, hT, hRd, hD, hRw, hGs, hCh, hV, hP0, hP1, hfr⟩))) dX11_wrong_92
            · refine lv_aload_n hx hb dX11_wrong_64 rfl (lv_at hl 0 rfl) ?_
              refine nr_goI (nr_runV (As := []) (C := RX11) (T := TX11) (N := 11) ⟨hx, hb, hml, hown, hts⟩ hw (by omega) (isO_0 hO) rfl (c_X11_full l Γ n G co kp rf hO (by omega) hj) (cwV 0 hts gX11_wrong_X11_full rfl rfl rfl (by decide +kernel) ⟨Nat.le_of_ble_eq_true rfl, Nat.le_of_ble_eq_true rfl⟩) rfl hl.1 rfl (Nat.le_of_ble_eq_true rfl) dX11_wrong_65 ⟨Nat.zero_le _, Nat.zero_le _⟩) hw hA hS (fun z15 G15 H locs hp hw hS => ?_)
              obtain ⟨ha15, hO, hf15⟩ := hp
              have hT := isT_fr hT hf15 (by omega)
              have hRd := isRd_fr hRd hf15 (by omega)
              have hD := isV_fr hD hf15 (by omega)
              have hRw := isRw_fr hRw hf15 (by omega)
              have hGs := isGs_fr hGs hf15 (by omega)
              have hCh := isCh_fr hCh hf15 (by omega)
              have hV := isV_fr hV hf15 (by omega)
              have hP0 := isV_fr hP0 hf15 (by omega)
              have hP1 := isV_fr hP1 hf15 (by omega)
              have hfr := fr_tr hfr hf15 (by omega) (by omega)
              have hO : isO Γ G15 co kp (bmp rf 2) := hO
              subst ha15
              exact nr_retI hx hb hr hlocks hw hS (Or.inr (Or.inl ⟨⟨⟨j, hja, hjb, rfl⟩, ⟨ja, hja_, rfl⟩, ⟨jb, hjb_, rfl⟩, fun hh => absurd ((nI_eq (by omega) (by omega)).mp hh) (by assumption), ⟨jg, hjga, hjgb, rfl⟩⟩, by omega, rfl, hO, hT, hRd, hD, hRw, hGs, hCh, hV, hP0, hP1, hfr⟩)) dX11_wrong_68
          · have b9n : ¬ vRng (1) (9) gr := fun hh => b9 ((with_c (by first | decide | omega) (by first | decide | omega)).mpr hh)
            refine nr_if_ne (tgt := 52) hx hb (by decide) dX11_wrong_44 (by decide) (fun c16 => absurd c16 (by decide)) (fun c16 => ?_)
            refine lv_aload_n hx hb dX11_wrong_47 rfl (lv_at hl 0 rfl) ?_
            refine nr_goI (nr_runV (As := []) (C := RX11) (T := TX11) (N := 11) ⟨hx, hb, hml, hown, hts⟩ hw (by omega) (isO_0 hO) rfl (c_X11_bad l Γ n G co kp rf hO (by omega) hj) (cwV 0 hts gX11_wrong_X11_bad rfl rfl rfl (by decide +kernel) ⟨Nat.le_of_ble_eq_true rfl, Nat.le_of_ble_eq_true rfl⟩) rfl hl.1 rfl (Nat.le_of_ble_eq_true rfl) dX11_wrong_48 ⟨Nat.zero_le _, Nat.zero_le _⟩) hw hA hS (fun z17 G17 H locs hp hw hS => ?_)
            obtain ⟨ha17, hO, hf17⟩ := hp
            have hT := isT_fr hT hf17 (by omega)
            have hRd := isRd_fr hRd hf17 (by omega)
            have hD := isV_fr hD hf17 (by omega)
            have hRw := isRw_fr hRw hf17 (by omega)
            have hGs := isGs_fr hGs hf17 (by omega)
            have hCh := isCh_fr hCh hf17 (by omega)
            have hV := isV_fr hV hf17 (by omega)
            have hP0 := isV_fr hP0 hf17 (by omega)
            have hP1 := isV_fr hP1 hf17 (by omega)
            have hfr := fr_tr hfr hf17 (by omega) (by omega)
            have hO : isO Γ G17 co kp (bmp rf 0) := hO
            subst ha17
            exact nr_retI hx hb hr hlocks hw hS (Or.inl ⟨by intro hh; first | contradiction | (obtain ⟨hq1, hq2⟩ := hh; first | contradiction | (obtain ⟨hq2, hq3⟩ := hq2; first | contradiction | (obtain ⟨hq3, hq4⟩ := hq3; first | contradiction | (obtain ⟨hq4, hq5⟩ := hq4; first | contradiction | (exact hq4 (congrArg nI (by assumption))))))), rfl, hO, hT, hRd, hD, hRw, hGs, hCh, hV, hP0, hP1, hfr⟩) dX11_wrong_51
      · refine nr_if_eq (tgt := 47) hx hb (by decide) dX11_wrong_28 (by decide) (fun c18 => ?_) (fun c18 => absurd c18 (by decide))
        refine lv_aload_n hx hb dX11_wrong_47 rfl (lv_at hl 0 rfl) ?_
        refine nr_goI (nr_runV (As := []) (C := RX11) (T := TX11) (N := 11) ⟨hx, hb, hml, hown, hts⟩ hw (by omega) (isO_0 hO) rfl (c_X11_bad l Γ n G co kp rf hO (by omega) hj) (cwV 0 hts gX11_wrong_X11_bad rfl rfl rfl (by decide +kernel) ⟨Nat.le_of_ble_eq_true rfl, Nat.le_of_ble_eq_true rfl⟩) rfl hl.1 rfl (Nat.le_of_ble_eq_true rfl) dX11_wrong_48 ⟨Nat.zero_le _, Nat.zero_le _⟩) hw hA hS (fun z19 G19 H locs hp hw hS => ?_)
        obtain ⟨ha19, hO, hf19⟩ := hp
        have hT := isT_fr hT hf19 (by omega)
        have hRd := isRd_fr hRd hf19 (by omega)
        have hD := isV_fr hD hf19 (by omega)
        have hRw := isRw_fr hRw hf19 (by omega)
        have hGs := isGs_fr hGs hf19 (by omega)
        have hCh := isCh_fr hCh hf19 (by omega)
        have hV := isV_fr hV hf19 (by omega)
        have hP0 := isV_fr hP0 hf19 (by omega)
        have hP1 := isV_fr hP1 hf19 (by omega)
        have hfr := fr_tr hfr hf19 (by omega) (by omega)
        have hO : isO Γ G19 co kp (bmp rf 0) := hO
        subst ha19
        exact nr_retI hx hb hr hlocks hw hS (Or.inl ⟨by intro hh; first | contradiction | (obtain ⟨hq1, hq2⟩ := hh; first | contradiction | (obtain ⟨hq2, hq3⟩ := hq2; first | contradiction | (obtain ⟨hq3, hq4⟩ := hq3; first | contradiction | (obtain ⟨hq4, hq5⟩ := hq4; first | contradiction | (exact hq4 (congrArg nI (by assumption))))))), rfl, hO, hT, hRd, hD, hRw, hGs, hCh, hV, hP0, hP1, hfr⟩) dX11_wrong_51
    · refine nr_if_eq (tgt := 47) hx hb (by decide) dX11_wrong_17 (by decide) (fun c20 => ?_) (fun c20 => absurd c20 (by decide))
      refine lv_aload_n hx hb dX11_wrong_47 rfl (lv_at hl 0 rfl) ?_
      refine nr_goI (nr_runV (As := []) (C := RX11) (T := TX11) (N := 11) ⟨hx, hb, hml, hown, hts⟩ hw (by omega) (isO_0 hO) rfl (c_X11_bad l Γ n G co kp rf hO (by omega) hj) (cwV 0 hts gX11_wrong_X11_bad rfl rfl rfl (by decide +kernel) ⟨Nat.le_of_ble_eq_true rfl, Nat.le_of_ble_eq_true rfl⟩) rfl hl.1 rfl (Nat.le_of_ble_eq_true rfl) dX11_wrong_48 ⟨Nat.zero_le _, Nat.zero_le _⟩) hw hA hS (fun z21 G21 H locs hp hw hS => ?_)
      obtain ⟨ha21, hO, hf21⟩ := hp
      have hT := isT_fr hT hf21 (by omega)
      have hRd := isRd_fr hRd hf21 (by omega)
      have hD := isV_fr hD hf21 (by omega)
      have hRw := isRw_fr hRw hf21 (by omega)
      have hGs := isGs_fr hGs hf21 (by omega)
      have hCh := isCh_fr hCh hf21 (by omega)
      have hV := isV_fr hV hf21 (by omega)
      have hP0 := isV_fr hP0 hf21 (by omega)
      have hP1 := isV_fr hP1 hf21 (by omega)
      have hfr := fr_tr hfr hf21 (by omega) (by omega)
      have hO : isO Γ G21 co kp (bmp rf 0) := hO
      subst ha21
      exact nr_retI hx hb hr hlocks hw hS (Or.inl ⟨by intro hh; first | contradiction | (obtain ⟨hq1, hq2⟩ := hh; first | contradiction | (obtain ⟨hq2, hq3⟩ := hq2; first | contradiction | (obtain ⟨hq3, hq4⟩ := hq3; first | contradiction | (obtain ⟨hq4, hq5⟩ := hq4; first | contradiction | (exact hq4 (congrArg nI (by assumption))))))), rfl, hO, hT, hRd, hD, hRw, hGs, hCh, hV, hP0, hP1, hfr⟩) dX11_wrong_51
  · have b1n : ¬ vRng (0) (5) kind := fun hh => b1 ((with_c (by first | decide | omega) (by first | decide | omega)).mpr hh)
    refine nr_if_eq (tgt := 47) hx hb (by decide) dX11_wrong_6 (by decide) (fun c22 => ?_) (fun c22 => absurd c22 (by decide))
    refine lv_aload_n hx hb dX11_wrong_47 rfl (lv_at hl 0 rfl) ?_
    refine nr_goI (nr_runV (As := []) (C := RX11) (T := TX11) (N := 11) ⟨hx, hb, hml, hown, hts⟩ hw (by omega) (isO_0 hO) rfl (c_X11_bad l Γ n G co kp rf hO (by omega) hj) (cwV 0 hts gX11_wrong_X11_bad rfl rfl rfl (by decide +kernel) ⟨Nat.le_of_ble_eq_true rfl, Nat.le_of_ble_eq_true rfl⟩) rfl hl.1 rfl (Nat.le_of_ble_eq_true rfl) dX11_wrong_48 ⟨Nat.zero_le _, Nat.zero_le _⟩) hw hA hS (fun z23 G23 H locs hp hw hS => ?_)
    obtain ⟨ha23, hO, hf23⟩ := hp
    have hT := isT_fr hT hf23 (by omega)
    have hRd := isRd_fr hRd hf23 (by omega)
    have hD := isV_fr hD hf23 (by omega)
    have hRw := isRw_fr hRw hf23 (by omega)
    have hGs := isGs_fr hGs hf23 (by omega)
    have hCh := isCh_fr hCh hf23 (by omega)
    have hV := isV_fr hV hf23 (by omega)
    have hP0 := isV_fr hP0 hf23 (by omega)
    have hP1 := isV_fr hP1 hf23 (by omega)
    have hfr := fr_tr hfr hf23 (by omega) (by omega)
    have hO : isO Γ G23 co kp (bmp rf 0) := hO
    subst ha23
    exact nr_retI hx hb hr hlocks hw hS (Or.inl ⟨by intro hh; first | contradiction | (obtain ⟨hq1, hq2⟩ := hh; first | contradiction | (obtain ⟨hq2, hq3⟩ := hq2; first | contradiction | (obtain ⟨hq3, hq4⟩ := hq3; first | contradiction | (obtain ⟨hq4, hq5⟩ := hq4; first | contradiction | (exact hq4 (congrArg nI (by assumption))))))), rfl, hO, hT, hRd, hD, hRw, hGs, hCh, hV, hP0, hP1, hfr⟩) dX11_wrong_51
theorem wl_X11_type_1 : Cond.fieldLink RX11 27 "BellForgiven" "text" "LBellForgiven$Text;" ∈ wsX11_type := List.mem_of_getElem? (i := 1) rfl
theorem wl_X11_type_2 : Cond.fieldLink RX11 101 "BellForgiven$Text" "length" "I" ∈ wsX11_type := List.mem_of_getElem? (i := 2) rfl
theorem hi_X11_type_X11 : ∀ w ∈ u_ws RX11 TX11 11, w ∈ wsX11_type := fun w h => (List.mem_cons_of_mem _ (List.mem_append_left _ (List.mem_append_right _ h)))
theorem hi_X11_type_X9 : ∀ w ∈ u_ws RX9 TX9 6, w ∈ wsX11_type := fun w h => (List.mem_cons_of_mem _ (List.mem_append_right _ h))
set_option maxHeartbeats 4000000 in
set_option maxRecDepth 100000 in
theorem c_X11_type (l : Launch) (Γ : Gam) (n : Nat) (G : Nat → va_E) (co : Nat) (kp rf by0 tv gv Dv lf vs cv V J0 J1 : Nat → Nat) (hO : isO Γ G co kp rf) (hT : isT Γ G (co + 3) by0 tv) (hRd : isRd Γ G (co + 5) gv) (hD : isV Γ G (co + 7) Dv) (hRw : isRw Γ G (co + 23) lf) (hGs : isGs Γ G (co + 25) vs) (hCh : isCh Γ G (co + 27) cv) (hV : isV Γ G (co + 28) V) (hP0 : isV Γ G (co + 44) J0) (hP1 : isV Γ G (co + 60) J1) (hn_co : co + 76 ≤ n) (hj : winj Γ n) (ch : Int32) (hG : vG V) (hL : tv 0 ≤ 150)  : Met l yX11_type wsX11_type ({ frames := 1, cells := 0, slots := 0, locals := 22 }) (va_Pc [.ref (ad Γ (co + 0)), .int ch] (fun U => hw Γ n G U U.heap)) (wQi Γ n (fun z G2 => ((¬ vRng 0 127 ch) ∧ (z = -2) ∧ isO Γ G2 co kp (bmp rf 0) ∧ isT Γ G2 (co + 3) by0 tv ∧ isRd Γ G2 (co + 5) gv ∧ isV Γ G2 (co + 7) Dv ∧ isRw Γ G2 (co + 23) lf ∧ isGs Γ G2 (co + 25) vs ∧ isCh Γ G2 (co + 27) cv ∧ isV Γ G2 (co + 28) V ∧ isV Γ G2 (co + 44) J0 ∧ isV Γ G2 (co + 60) J1 ∧ fr G G2 (co + 0) (co + 76)) ∨ ((vRng 0 127 ch) ∧ (tv 0 = 150) ∧ (z = -4) ∧ isO Γ G2 co kp (bmp rf 2) ∧ isT Γ G2 (co + 3) by0 tv ∧ isRd Γ G2 (co + 5) gv ∧ isV Γ G2 (co + 7) Dv ∧ isRw Γ G2 (co + 23) lf ∧ isGs Γ G2 (co + 25) vs ∧ isCh Γ G2 (co + 27) cv ∧ isV Γ G2 (co + 28) V ∧ isV Γ G2 (co + 44) J0 ∧ isV Γ G2 (co + 60) J1 ∧ fr G G2 (co + 0) (co + 76)) ∨ (∃ jc : Nat, (jc ≤ 127) ∧ (ch = nI jc) ∧ (¬ tv 0 = 150) ∧ (z = nI (tv 0 + 1)) ∧ isO Γ G2 co kp rf ∧ isT Γ G2 (co + 3) (va_up by0 (tv 0) jc) (va_up tv 0 (tv 0 + 1)) ∧ isRd Γ G2 (co + 5) gv ∧ isV Γ G2 (co + 7) Dv ∧ isRw Γ G2 (co + 23) lf ∧ isGs Γ G2 (co + 25) vs ∧ isCh Γ G2 (co + 27) cv ∧ isV Γ G2 (co + 28) V ∧ isV Γ G2 (co + 44) J0 ∧ isV Γ G2 (co + 60) J1 ∧ fr G G2 (co + 0) (co + 76)))) 0 0 (wA Γ n) := by
  refine Met.ofW (cc := cX11_type) (maxL := 2) (ret := (some .int)) (by decide) rfl ?_
  intro p e s m args below meth c s₁ B hml hv
  obtain ⟨rfl, hw⟩ := hv
  have hx := B.exec
  have hb := B.bytes
  have hr := B.returns
  have hts := atoms_spec (ws := wsX11_type) B.pre
  have hown : s.vm.findClass RX11 = some m.cls := findClass_of_methodNamed B.named
  have hlocks := B.notSynchronized
  have hS : va_S (wA Γ n) s.heap s.heap [] := va_S.rf
  have hA : ∀ q, wA Γ n q → wA Γ n q := fun _ h => h
  have hl := lv_entry ([.ref (ad Γ (co + 0)), .int ch]) (n := 2) (Nat.le_of_ble_eq_true rfl)
  rw [lg_entry_eq]
  generalize (lg_sl ([.ref (ad Γ (co + 0)), .int ch]) ++ List.replicate (2 - (lg_sl ([.ref (ad Γ (co + 0)), .int ch])).length) Slot.unset).toArray = ls at hl ⊢
  have hl : lv_has ls 2 [(0, .ref (ad Γ (co + 0))), (1, .int ch)] := hl
  have hfr := fr_rf G (co + 0) (co + 76)
  have hI := hG.1
  have hB := hI.1
  have hB0 := hI.2.1
  have hB1 := hI.2.2.1
  have hB20 := hI.2.2.2.2.2.2.2.2.2
  have hBz2 := hI.2.2.2.1
  have hBz3 := hI.2.2.2.2.1
  have hBz4 := hI.2.2.2.2.2.1
  have hBz5 := hI.2.2.2.2.2.2.1
  have hBd := hB 21
  refine lv_iload_n hx hb dX11_type_0 rfl (lv_at hl 1 rfl) ?_
  refine lv_iconst (v := nI 0) hx hb dX11_type_1 (by decide) ?_
  refine lv_bipush (v := nI 127) hx hb dX11_type_2 (by decide) ?_
  refine nr_goB (P := (nI 0) ≤ ch ∧ ch ≤ (nI 127)) (nr_runS (As := [.int ch, .int (nI 0), .int (nI 127)]) ⟨hx, hb, hml, hown, hts⟩ hw (c_X11_within l Γ n G ch (nI 0) (nI 127)) (va_cwS 3 hts gX11_type_X11_within rfl rfl rfl (by decide +kernel) ⟨Nat.le_of_ble_eq_true rfl, Nat.le_of_ble_eq_true rfl⟩) rfl hl.1 rfl (Nat.le_of_ble_eq_true rfl) dX11_type_4 ⟨Nat.zero_le _, Nat.zero_le _⟩) (fun b1 => ?_) (fun b1 => ?_)
  · obtain ⟨jc, hjca, hjcb, rfl⟩ := (with_c (a := 0) (b := 127) (by first | decide | omega) (by first | decide | omega)).mp b1
    refine nr_if_ne (tgt := 15) hx hb (by decide) dX11_type_7 (by decide) (fun c2 => ?_) (fun c2 => absurd c2 (by decide))
    refine lv_aload_n hx hb dX11_type_15 rfl (lv_at hl 0 rfl) ?_
    refine nr_get (own := RX11) (C := RX11) (T := TX11) (N := 11) (v := .ref (ad Γ (co + 3))) hx hb hts hi_X11_type_X11 hown hw (by omega) (isO_0 hO) rfl 3 (by decide) wl_X11_type_1 rfl rfl dX11_type_16 ?_
    refine nr_get (own := RX11) (C := RX9) (T := TX9) (N := 6) (v := .int (nI (tv 0))) hx hb hts hi_X11_type_X9 hown hw (by omega) (isT_0 hT) rfl 1 (by decide) wl_X11_type_2 rfl rfl dX11_type_19 ?_
    refine lv_sipush (v := nI 150) hx hb dX11_type_22 (by decide) ?_
    refine nr_icmp_lt (tgt := 33) hx hb (by omega) (by decide) dX11_type_25 (by decide) (fun c3 => ?_) (fun c3 => ?_)
    · refine lv_aload_n hx hb dX11_type_33 rfl (lv_at hl 0 rfl) ?_
      refine nr_get (own := RX11) (C := RX11) (T := TX11) (N := 11) (v := .ref (ad Γ (co + 3))) hx hb hts hi_X11_type_X11 hown hw (by omega) (isO_0 hO) rfl 3 (by decide) wl_X11_type_1 rfl rfl dX11_type_34 ?_
      refine lv_iload_n hx hb dX11_type_37 rfl (lv_at hl 1 rfl) ?_
      refine nr_goI (nr_runV (As := [.int (nI jc)]) (C := RX9) (T := TX9) (N := 6) ⟨hx, hb, hml, hown, hts⟩ hw (by omega) (isT_0 hT) rfl (c_X9_add l Γ n G (co + 3) by0 tv hT (by omega) hj jc (by omega) (by omega)) (cwV 1 hts gX11_type_X9_add rfl rfl rfl (by decide +kernel) ⟨Nat.le_of_ble_eq_true rfl, Nat.le_of_ble_eq_true rfl⟩) rfl hl.1 rfl (Nat.le_of_ble_eq_true rfl) dX11_type_38 ⟨Nat.zero_le _, Nat.zero_le _⟩) hw hA hS (fun z4 G4 H locs hp hw hS => ?_)
      obtain ⟨ha4, hT, hf4⟩ := hp
      have hO := isO_fr hO hf4 (by omega)
      have hRd := isRd_fr hRd hf4 (by omega)
      have hD := isV_fr hD hf4 (by omega)
      have hRw := isRw_fr hRw hf4 (by omega)
      have hGs := isGs_fr hGs hf4 (by omega)
      have hCh := isCh_fr hCh hf4 (by omega)
      have hV := isV_fr hV hf4 (by omega)
      have hP0 := isV_fr hP0 hf4 (by omega)
      have hP1 := isV_fr hP1 hf4 (by omega)
      have hfr := fr_tr hfr hf4 (by omega) (by omega)
      have hT : isT Γ G4 (co + 3) (va_up by0 (tv 0) jc) (va_up tv 0 (tv 0 + 1)) := hT
      subst ha4
      exact nr_retI hx hb hr hlocks hw hS (Or.inr (Or.inr (⟨jc, hjcb, rfl, by omega, rfl, hO, hT, hRd, hD, hRw, hGs, hCh, hV, hP0, hP1, hfr⟩))) dX11_type_41
    · refine lv_aload_n hx hb dX11_type_28 rfl (lv_at hl 0 rfl) ?_
      refine nr_goI (nr_runV (As := []) (C := RX11) (T := TX11) (N := 11) ⟨hx, hb, hml, hown, hts⟩ hw (by omega) (isO_0 hO) rfl (c_X11_full l Γ n G co kp rf hO (by omega) hj) (cwV 0 hts gX11_type_X11_full rfl rfl rfl (by decide +kernel) ⟨Nat.le_of_ble_eq_true rfl, Nat.le_of_ble_eq_true rfl⟩) rfl hl.1 rfl (Nat.le_of_ble_eq_true rfl) dX11_type_29 ⟨Nat.zero_le _, Nat.zero_le _⟩) hw hA hS (fun z5 G5 H locs hp hw hS => ?_)
      obtain ⟨ha5, hO, hf5⟩ := hp
      have hT := isT_fr hT hf5 (by omega)
      have hRd := isRd_fr hRd hf5 (by omega)
      have hD := isV_fr hD hf5 (by omega)
      have hRw := isRw_fr hRw hf5 (by omega)
      have hGs := isGs_fr hGs hf5 (by omega)
      have hCh := isCh_fr hCh hf5 (by omega)
      have hV := isV_fr hV hf5 (by omega)
      have hP0 := isV_fr hP0 hf5 (by omega)
      have hP1 := isV_fr hP1 hf5 (by omega)
      have hfr := fr_tr hfr hf5 (by omega) (by omega)
      have hO : isO Γ G5 co kp (bmp rf 2) := hO
      subst ha5
      exact nr_retI hx hb hr hlocks hw hS (Or.inr (Or.inl ⟨⟨jc, hjca, hjcb, rfl⟩, by omega, rfl, hO, hT, hRd, hD, hRw, hGs, hCh, hV, hP0, hP1, hfr⟩)) dX11_type_32
  · have b1n : ¬ vRng (0) (127) ch := fun hh => b1 ((with_c (by first | decide | omega) (by first | decide | omega)).mpr hh)
    refine nr_if_ne (tgt := 15) hx hb (by decide) dX11_type_7 (by decide) (fun c6 => absurd c6 (by decide)) (fun c6 => ?_)
    refine lv_aload_n hx hb dX11_type_10 rfl (lv_at hl 0 rfl) ?_
    refine nr_goI (nr_runV (As := []) (C := RX11) (T := TX11) (N := 11) ⟨hx, hb, hml, hown, hts⟩ hw (by omega) (isO_0 hO) rfl (c_X11_bad l Γ n G co kp rf hO (by omega) hj) (cwV 0 hts gX11_type_X11_bad rfl rfl rfl (by decide +kernel) ⟨Nat.le_of_ble_eq_true rfl, Nat.le_of_ble_eq_true rfl⟩) rfl hl.1 rfl (Nat.le_of_ble_eq_true rfl) dX11_type_11 ⟨Nat.zero_le _, Nat.zero_le _⟩) hw hA hS (fun z7 G7 H locs hp hw hS => ?_)
    obtain ⟨ha7, hO, hf7⟩ := hp
    have hT := isT_fr hT hf7 (by omega)
    have hRd := isRd_fr hRd hf7 (by omega)
    have hD := isV_fr hD hf7 (by omega)
    have hRw := isRw_fr hRw hf7 (by omega)
    have hGs := isGs_fr hGs hf7 (by omega)
    have hCh := isCh_fr hCh hf7 (by omega)
    have hV := isV_fr hV hf7 (by omega)
    have hP0 := isV_fr hP0 hf7 (by omega)
    have hP1 := isV_fr hP1 hf7 (by omega)
    have hfr := fr_tr hfr hf7 (by omega) (by omega)
    have hO : isO Γ G7 co kp (bmp rf 0) := hO
    subst ha7
    exact nr_retI hx hb hr hlocks hw hS (Or.inl ⟨by assumption, rfl, hO, hT, hRd, hD, hRw, hGs, hCh, hV, hP0, hP1, hfr⟩) dX11_type_14
theorem wl_X11_clear_1 : Cond.fieldLink RX11 27 "BellForgiven" "text" "LBellForgiven$Text;" ∈ wsX11_clear := List.mem_of_getElem? (i := 1) rfl
theorem wl_X11_clear_2 : Cond.fieldLink RX11 101 "BellForgiven$Text" "length" "I" ∈ wsX11_clear := List.mem_of_getElem? (i := 2) rfl
theorem hi_X11_clear_X11 : ∀ w ∈ u_ws RX11 TX11 11, w ∈ wsX11_clear := fun w h => (List.mem_cons_of_mem _ (List.mem_append_left _ (List.mem_append_right _ h)))
theorem hi_X11_clear_X9 : ∀ w ∈ u_ws RX9 TX9 6, w ∈ wsX11_clear := fun w h => (List.mem_cons_of_mem _ (List.mem_append_right _ h))
set_option maxHeartbeats 4000000 in
set_option maxRecDepth 100000 in
theorem c_X11_clear (l : Launch) (Γ : Gam) (n : Nat) (G : Nat → va_E) (co : Nat) (kp rf by0 tv gv Dv lf vs cv V J0 J1 : Nat → Nat) (hO : isO Γ G co kp rf) (hT : isT Γ G (co + 3) by0 tv) (hRd : isRd Γ G (co + 5) gv) (hD : isV Γ G (co + 7) Dv) (hRw : isRw Γ G (co + 23) lf) (hGs : isGs Γ G (co + 25) vs) (hCh : isCh Γ G (co + 27) cv) (hV : isV Γ G (co + 28) V) (hP0 : isV Γ G (co + 44) J0) (hP1 : isV Γ G (co + 60) J1) (hn_co : co + 76 ≤ n) (hj : winj Γ n) (hG : vG V)  : Met l yX11_clear wsX11_clear ({ frames := 0, cells := 0, slots := 0, locals := 0 }) (va_Pc [.ref (ad Γ (co + 0))] (fun U => hw Γ n G U U.heap)) (wQi Γ n (fun z G2 => ((z = nI (tv 0)) ∧ isO Γ G2 co kp rf ∧ isT Γ G2 (co + 3) by0 (va_up tv 0 0) ∧ isRd Γ G2 (co + 5) gv ∧ isV Γ G2 (co + 7) Dv ∧ isRw Γ G2 (co + 23) lf ∧ isGs Γ G2 (co + 25) vs ∧ isCh Γ G2 (co + 27) cv ∧ isV Γ G2 (co + 28) V ∧ isV Γ G2 (co + 44) J0 ∧ isV Γ G2 (co + 60) J1 ∧ fr G G2 (co + 0) (co + 76)))) 0 0 (wA Γ n) := by
  refine Met.ofW (cc := cX11_clear) (maxL := 2) (ret := (some .int)) (by decide) rfl ?_
  intro p e s m args below meth c s₁ B hml hv
  obtain ⟨rfl, hw⟩ := hv
  have hx := B.exec
  have hb := B.bytes
  have hr := B.returns
  have hts := atoms_spec (ws := wsX11_clear) B.pre
  have hown : s.vm.findClass RX11 = some m.cls := findClass_of_methodNamed B.named
  have hlocks := B.notSynchronized
  have hS : va_S (wA Γ n) s.heap s.heap [] := va_S.rf
  have hA : ∀ q, wA Γ n q → wA Γ n q := fun _ h => h
  have hl := lv_entry ([.ref (ad Γ (co + 0))]) (n := 2) (Nat.le_of_ble_eq_true rfl)
  rw [lg_entry_eq]
  generalize (lg_sl ([.ref (ad Γ (co + 0))]) ++ List.replicate (2 - (lg_sl ([.ref (ad Γ (co + 0))])).length) Slot.unset).toArray = ls at hl ⊢
  have hl : lv_has ls 2 [(0, .ref (ad Γ (co + 0)))] := hl
  have hfr := fr_rf G (co + 0) (co + 76)
  have hI := hG.1
  have hB := hI.1
  have hB0 := hI.2.1
  have hB1 := hI.2.2.1
  have hB20 := hI.2.2.2.2.2.2.2.2.2
  have hBz2 := hI.2.2.2.1
  have hBz3 := hI.2.2.2.2.1
  have hBz4 := hI.2.2.2.2.2.1
  have hBz5 := hI.2.2.2.2.2.2.1
  have hBd := hB 21
  refine lv_aload_n hx hb dX11_clear_0 rfl (lv_at hl 0 rfl) ?_
  refine nr_get (own := RX11) (C := RX11) (T := TX11) (N := 11) (v := .ref (ad Γ (co + 3))) hx hb hts hi_X11_clear_X11 hown hw (by omega) (isO_0 hO) rfl 3 (by decide) wl_X11_clear_1 rfl rfl dX11_clear_1 ?_
  refine nr_get (own := RX11) (C := RX9) (T := TX9) (N := 6) (v := .int (nI (tv 0))) hx hb hts hi_X11_clear_X9 hown hw (by omega) (isT_0 hT) rfl 1 (by decide) wl_X11_clear_2 rfl rfl dX11_clear_4 ?_
  refine lv_istore_n (lv' := [(1, .int (nI (tv 0))), (0, .ref (ad Γ (co + 0)))]) hx hb dX11_clear_7 rfl hl (by decide) rfl (fun ls hl => ?_)
  refine lv_aload_n hx hb dX11_clear_8 rfl (lv_at hl 1 rfl) ?_
  refine nr_get (own := RX11) (C := RX11) (T := TX11) (N := 11) (v := .ref (ad Γ (co + 3))) hx hb hts hi_X11_clear_X11 hown hw (by omega) (isO_0 hO) rfl 3 (by decide) wl_X11_clear_1 rfl rfl dX11_clear_9 ?_
  refine lv_iconst (v := nI 0) hx hb dX11_clear_12 (by decide) ?_
  obtain ⟨w2, ew2⟩ : ∃ f, f = va_up tv 0 0 := ⟨_, rfl⟩
  refine nr_put (own := RX11) (C := RX9) (T := TX9) (N := 6) (ty := .int) (v := .int (nI 0)) (fs' := [.ref (ad Γ (co + 4)), .int (nI (w2 0)), .int (nI (w2 1)), .int (nI (w2 2)), .int (nI (w2 3)), .int (nI (w2 4) - nI 1)]) hx hb hts hi_X11_clear_X9 tyX9 tyX9_ok nmX9 hown hw hj hA hS (by omega) (isT_0 hT) rfl 1 (by decide) wl_X11_clear_2 rfl rfl (by decide +kernel) rfl rfl (Nat.le_of_ble_eq_true rfl) (by rw [ew2]; rfl) dX11_clear_13 (fun H locs hw hS => ?_)
  subst ew2
  obtain ⟨G1, hw, hT, hf1⟩ := nT_c0 hT (va_up tv 0 0) hw
  have hO := isO_fr hO hf1 (by omega)
  have hRd := isRd_fr hRd hf1 (by omega)
  have hD := isV_fr hD hf1 (by omega)
  have hRw := isRw_fr hRw hf1 (by omega)
  have hGs := isGs_fr hGs hf1 (by omega)
  have hCh := isCh_fr hCh hf1 (by omega)
  have hV := isV_fr hV hf1 (by omega)
  have hP0 := isV_fr hP0 hf1 (by omega)
  have hP1 := isV_fr hP1 hf1 (by omega)
  have hfr := fr_tr hfr hf1 (by omega) (by omega)
  refine lv_iload_n hx hb dX11_clear_16 rfl (lv_at hl 0 rfl) ?_
  exact nr_retI hx hb hr hlocks hw hS (⟨rfl, hO, hT, hRd, hD, hRw, hGs, hCh, hV, hP0, hP1, hfr⟩) dX11_clear_17
theorem wl_X11_days_1 : Cond.fieldLink RX11 10 "BellForgiven" "now" "LBellForgiven$Valley;" ∈ wsX11_days := List.mem_of_getElem? (i := 1) rfl
theorem wl_X11_days_2 : Cond.fieldLink RX11 128 "BellForgiven$Valley" "day" "I" ∈ wsX11_days := List.mem_of_getElem? (i := 2) rfl
theorem hi_X11_days_X11 : ∀ w ∈ u_ws RX11 TX11 11, w ∈ wsX11_days := fun w h => (List.mem_cons_of_mem _ (List.mem_append_left _ (List.mem_append_left _ (List.mem_append_right _ h))))
theorem hi_X11_days_X10 : ∀ w ∈ u_ws RX10 TX10 15, w ∈ wsX11_days := fun w h => (List.mem_cons_of_mem _ (List.mem_append_left _ (List.mem_append_right _ h)))
set_option maxHeartbeats 4000000 in
set_option maxRecDepth 100000 in
theorem c_X11_days (l : Launch) (Γ : Gam) (n : Nat) (G : Nat → va_E) (co : Nat) (kp rf by0 tv gv Dv lf vs cv V J0 J1 : Nat → Nat) (hO : isO Γ G co kp rf) (hT : isT Γ G (co + 3) by0 tv) (hRd : isRd Γ G (co + 5) gv) (hD : isV Γ G (co + 7) Dv) (hRw : isRw Γ G (co + 23) lf) (hGs : isGs Γ G (co + 25) vs) (hCh : isCh Γ G (co + 27) cv) (hV : isV Γ G (co + 28) V) (hP0 : isV Γ G (co + 44) J0) (hP1 : isV Γ G (co + 60) J1) (hn_co : co + 76 ≤ n) (hj : winj Γ n) (q : Int32) (hG : vG V)  : Met l yX11_days wsX11_days ({ frames := 3, cells := 0, slots := 0, locals := 68 }) (va_Pc [.ref (ad Γ (co + 0)), .int q] (fun U => hw Γ n G U U.heap)) (wQi Γ n (fun z G2 => ((¬ vRng 1 60 q) ∧ (z = -2) ∧ isO Γ G2 co kp (bmp rf 0) ∧ isT Γ G2 (co + 3) by0 tv ∧ isRd Γ G2 (co + 5) gv ∧ isV Γ G2 (co + 7) Dv ∧ isRw Γ G2 (co + 23) lf ∧ isGs Γ G2 (co + 25) vs ∧ isCh Γ G2 (co + 27) cv ∧ isV Γ G2 (co + 28) V ∧ isV Γ G2 (co + 44) J0 ∧ isV Γ G2 (co + 60) J1 ∧ fr G G2 (co + 0) (co + 76)) ∨ (∃ jq : Nat, (1 ≤ jq) ∧ (jq ≤ 60) ∧ (q = nI jq) ∧ (z = nI (pasV (saveR V) (min jq (999 - V 21)) 21)) ∧ isO Γ G2 co kp rf ∧ isT Γ G2 (co + 3) by0 tv ∧ isRd Γ G2 (co + 5) gv ∧ isV Γ G2 (co + 7) Dv ∧ isRw Γ G2 (co + 23) lf ∧ isGs Γ G2 (co + 25) vs ∧ isCh Γ G2 (co + 27) cv ∧ isV Γ G2 (co + 28) (pasV (saveR V) (min jq (999 - V 21))) ∧ isV Γ G2 (co + 44) J0 ∧ isV Γ G2 (co + 60) J1 ∧ fr G G2 (co + 0) (co + 76)))) 0 0 (wA Γ n) := by
  refine Met.ofW (cc := cX11_days) (maxL := 2) (ret := (some .int)) (by decide) rfl ?_
  intro p e s m args below meth c s₁ B hml hv
  obtain ⟨rfl, hw⟩ := hv
  have hx := B.exec
  have hb := B.bytes
  have hr := B.returns
  have hts := atoms_spec (ws := wsX11_days) B.pre
  have hown : s.vm.findClass RX11 = some m.cls := findClass_of_methodNamed B.named
  have hlocks := B.notSynchronized
  have hS : va_S (wA Γ n) s.heap s.heap [] := va_S.rf
  have hA : ∀ q, wA Γ n q → wA Γ n q := fun _ h => h
  have hl := lv_entry ([.ref (ad Γ (co + 0)), .int q]) (n := 2) (Nat.le_of_ble_eq_true rfl)
  rw [lg_entry_eq]
  generalize (lg_sl ([.ref (ad Γ (co + 0)), .int q]) ++ List.replicate (2 - (lg_sl ([.ref (ad Γ (co + 0)), .int q])).length) Slot.unset).toArray = ls at hl ⊢
  have hl : lv_has ls 2 [(0, .ref (ad Γ (co + 0))), (1, .int q)] := hl
  have hfr := fr_rf G (co + 0) (co + 76)
  have hI := hG.1
  have hB := hI.1
  have hB0 := hI.2.1
  have hB1 := hI.2.2.1
  have hB20 := hI.2.2.2.2.2.2.2.2.2
  have hBz2 := hI.2.2.2.1
  have hBz3 := hI.2.2.2.2.1
  have hBz4 := hI.2.2.2.2.2.1
  have hBz5 := hI.2.2.2.2.2.2.1
  have hBd := hB 21
  have h21 := hG.2.1
  have hs21 : saveR V 21 = V 21 := saveR_o (by decide) (by decide)
  have hIs := vI_save hI
  refine lv_iload_n hx hb dX11_days_0 rfl (lv_at hl 1 rfl) ?_
  refine lv_iconst (v := nI 1) hx hb dX11_days_1 (by decide) ?_
  refine lv_bipush (v := nI 60) hx hb dX11_days_2 (by decide) ?_
  refine nr_goB (P := (nI 1) ≤ q ∧ q ≤ (nI 60)) (nr_runS (As := [.int q, .int (nI 1), .int (nI 60)]) ⟨hx, hb, hml, hown, hts⟩ hw (c_X11_within l Γ n G q (nI 1) (nI 60)) (va_cwS 3 hts gX11_days_X11_within rfl rfl rfl (by decide +kernel) ⟨Nat.le_of_ble_eq_true rfl, Nat.le_of_ble_eq_true rfl⟩) rfl hl.1 rfl (Nat.le_of_ble_eq_true rfl) dX11_days_4 ⟨Nat.zero_le _, Nat.zero_le _⟩) (fun b1 => ?_) (fun b1 => ?_)
  · obtain ⟨jq, hjqa, hjqb, rfl⟩ := (with_c (a := 1) (b := 60) (by first | decide | omega) (by first | decide | omega)).mp b1
    refine nr_if_ne (tgt := 15) hx hb (by decide) dX11_days_7 (by decide) (fun c2 => ?_) (fun c2 => absurd c2 (by decide))
    refine lv_aload_n hx hb dX11_days_15 rfl (lv_at hl 0 rfl) ?_
    refine nr_get (own := RX11) (C := RX11) (T := TX11) (N := 11) (v := .ref (ad Γ (co + 28))) hx hb hts hi_X11_days_X11 hown hw (by omega) (isO_0 hO) rfl 0 (by decide) wl_X11_days_1 rfl rfl dX11_days_16 ?_
    refine nr_goV (nr_runV (As := []) (C := RX10) (T := TX10) (N := 15) ⟨hx, hb, hml, hown, hts⟩ hw (by omega) (isV_0 hV) rfl (c_X10_remember l Γ n G (co + 28) V hV (by omega) hj (by first | assumption | omega)) (cwV 0 hts gX11_days_X10_remember rfl rfl rfl (by decide +kernel) ⟨Nat.le_of_ble_eq_true rfl, Nat.le_of_ble_eq_true rfl⟩) rfl hl.1 rfl (Nat.le_of_ble_eq_true rfl) dX11_days_19 ⟨Nat.zero_le _, Nat.zero_le _⟩) hw hA hS (fun G3 H locs hp hw hS => ?_)
    obtain ⟨hV, hf3⟩ := hp
    have hO := isO_fr hO hf3 (by omega)
    have hT := isT_fr hT hf3 (by omega)
    have hRd := isRd_fr hRd hf3 (by omega)
    have hD := isV_fr hD hf3 (by omega)
    have hRw := isRw_fr hRw hf3 (by omega)
    have hGs := isGs_fr hGs hf3 (by omega)
    have hCh := isCh_fr hCh hf3 (by omega)
    have hP0 := isV_fr hP0 hf3 (by omega)
    have hP1 := isV_fr hP1 hf3 (by omega)
    have hfr := fr_tr hfr hf3 (by omega) (by omega)
    have hV : isV Γ G3 (co + 28) (saveR V) := hV
    refine lv_aload_n hx hb dX11_days_22 rfl (lv_at hl 0 rfl) ?_
    refine nr_get (own := RX11) (C := RX11) (T := TX11) (N := 11) (v := .ref (ad Γ (co + 28))) hx hb hts hi_X11_days_X11 hown hw (by omega) (isO_0 hO) rfl 0 (by decide) wl_X11_days_1 rfl rfl dX11_days_23 ?_
    refine lv_iload_n hx hb dX11_days_26 rfl (lv_at hl 1 rfl) ?_
    refine nr_goV (nr_runV (As := [.int (nI jq)]) (C := RX10) (T := TX10) (N := 15) ⟨hx, hb, hml, hown, hts⟩ hw (by omega) (isV_0 hV) rfl (c_X10_pass l Γ n G3 (co + 28) (saveR V) hV (by omega) hj jq hIs (by omega) (by omega)) (cwV 1 hts gX11_days_X10_pass rfl rfl rfl (by decide +kernel) ⟨Nat.le_of_ble_eq_true rfl, Nat.le_of_ble_eq_true rfl⟩) rfl hl.1 rfl (Nat.le_of_ble_eq_true rfl) dX11_days_27 ⟨Nat.zero_le _, Nat.zero_le _⟩) hw hA hS (fun G4 H locs hp hw hS => ?_)
    obtain ⟨hV, hf4⟩ := hp
    have hO := isO_fr hO hf4 (by omega)
    have hT := isT_fr hT hf4 (by omega)
    have hRd := isRd_fr hRd hf4 (by omega)
    have hD := isV_fr hD hf4 (by omega)
    have hRw := isRw_fr hRw hf4 (by omega)
    have hGs := isGs_fr hGs hf4 (by omega)
    have hCh := isCh_fr hCh hf4 (by omega)
    have hP0 := isV_fr hP0 hf4 (by omega)
    have hP1 := isV_fr hP1 hf4 (by omega)
    have hfr := fr_tr hfr hf4 (by omega) (by omega)
    have hV : isV Γ G4 (co + 28) (pasV (saveR V) (min jq (999 - (saveR V) 21))) := hV
    rw [hs21] at hV
    refine lv_aload_n hx hb dX11_days_30 rfl (lv_at hl 0 rfl) ?_
    refine nr_get (own := RX11) (C := RX11) (T := TX11) (N := 11) (v := .ref (ad Γ (co + 28))) hx hb hts hi_X11_days_X11 hown hw (by omega) (isO_0 hO) rfl 0 (by decide) wl_X11_days_1 rfl rfl dX11_days_31 ?_
    refine nr_get (own := RX11) (C := RX10) (T := TX10) (N := 15) (v := .int (nI ((pasV (saveR V) (min jq (999 - V 21))) 21))) hx hb hts hi_X11_days_X10 hown hw (by omega) (isV_0 hV) rfl 10 (by decide) wl_X11_days_2 rfl rfl dX11_days_34 ?_
    exact nr_retI hx hb hr hlocks hw hS (Or.inr (⟨jq, hjqa, hjqb, rfl, rfl, hO, hT, hRd, hD, hRw, hGs, hCh, hV, hP0, hP1, hfr⟩)) dX11_days_37
  · have b1n : ¬ vRng (1) (60) q := fun hh => b1 ((with_c (by first | decide | omega) (by first | decide | omega)).mpr hh)
    refine nr_if_ne (tgt := 15) hx hb (by decide) dX11_days_7 (by decide) (fun c5 => absurd c5 (by decide)) (fun c5 => ?_)
    refine lv_aload_n hx hb dX11_days_10 rfl (lv_at hl 0 rfl) ?_
    refine nr_goI (nr_runV (As := []) (C := RX11) (T := TX11) (N := 11) ⟨hx, hb, hml, hown, hts⟩ hw (by omega) (isO_0 hO) rfl (c_X11_bad l Γ n G co kp rf hO (by omega) hj) (cwV 0 hts gX11_days_X11_bad rfl rfl rfl (by decide +kernel) ⟨Nat.le_of_ble_eq_true rfl, Nat.le_of_ble_eq_true rfl⟩) rfl hl.1 rfl (Nat.le_of_ble_eq_true rfl) dX11_days_11 ⟨Nat.zero_le _, Nat.zero_le _⟩) hw hA hS (fun z6 G6 H locs hp hw hS => ?_)
    obtain ⟨ha6, hO, hf6⟩ := hp
    have hT := isT_fr hT hf6 (by omega)
    have hRd := isRd_fr hRd hf6 (by omega)
    have hD := isV_fr hD hf6 (by omega)
    have hRw := isRw_fr hRw hf6 (by omega)
    have hGs := isGs_fr hGs hf6 (by omega)
    have hCh := isCh_fr hCh hf6 (by omega)
    have hV := isV_fr hV hf6 (by omega)
    have hP0 := isV_fr hP0 hf6 (by omega)
    have hP1 := isV_fr hP1 hf6 (by omega)
    have hfr := fr_tr hfr hf6 (by omega) (by omega)
    have hO : isO Γ G6 co kp (bmp rf 0) := hO
    subst ha6
    exact nr_retI hx hb hr hlocks hw hS (Or.inl ⟨by assumption, rfl, hO, hT, hRd, hD, hRw, hGs, hCh, hV, hP0, hP1, hfr⟩) dX11_days_14
theorem wl_X11_rings_1 : Cond.fieldLink RX11 10 "BellForgiven" "now" "LBellForgiven$Valley;" ∈ wsX11_rings := List.mem_of_getElem? (i := 1) rfl
theorem hi_X11_rings_X11 : ∀ w ∈ u_ws RX11 TX11 11, w ∈ wsX11_rings := fun w h => (List.mem_cons_of_mem _ (List.mem_append_left _ (List.mem_append_left _ (List.mem_append_right _ h))))
set_option maxHeartbeats 4000000 in
set_option maxRecDepth 100000 in
theorem c_X11_rings (l : Launch) (Γ : Gam) (n : Nat) (G : Nat → va_E) (co : Nat) (kp rf by0 tv gv Dv lf vs cv V J0 J1 : Nat → Nat) (hO : isO Γ G co kp rf) (hT : isT Γ G (co + 3) by0 tv) (hRd : isRd Γ G (co + 5) gv) (hD : isV Γ G (co + 7) Dv) (hRw : isRw Γ G (co + 23) lf) (hGs : isGs Γ G (co + 25) vs) (hCh : isCh Γ G (co + 27) cv) (hV : isV Γ G (co + 28) V) (hP0 : isV Γ G (co + 44) J0) (hP1 : isV Γ G (co + 60) J1) (hn_co : co + 76 ≤ n) (hj : winj Γ n) (k : Int32) (hG : vG V)  : Met l yX11_rings wsX11_rings ({ frames := 4, cells := 0, slots := 0, locals := 95 }) (va_Pc [.ref (ad Γ (co + 0)), .int k] (fun U => hw Γ n G U U.heap)) (wQi Γ n (fun z G2 => ((¬ vBel (V 1) k) ∧ (z = -2) ∧ isO Γ G2 co kp (bmp rf 0) ∧ isT Γ G2 (co + 3) by0 tv ∧ isRd Γ G2 (co + 5) gv ∧ isV Γ G2 (co + 7) Dv ∧ isRw Γ G2 (co + 23) lf ∧ isGs Γ G2 (co + 25) vs ∧ isCh Γ G2 (co + 27) cv ∧ isV Γ G2 (co + 28) V ∧ isV Γ G2 (co + 44) J0 ∧ isV Γ G2 (co + 60) J1 ∧ fr G G2 (co + 0) (co + 76)) ∨ (∃ jk : Nat, (jk < V 1) ∧ (k = nI jk) ∧ (¬ cn V jk) ∧ (z = -3) ∧ isO Γ G2 co kp (bmp rf 1) ∧ isT Γ G2 (co + 3) by0 tv ∧ isRd Γ G2 (co + 5) gv ∧ isV Γ G2 (co + 7) Dv ∧ isRw Γ G2 (co + 23) lf ∧ isGs Γ G2 (co + 25) vs ∧ isCh Γ G2 (co + 27) cv ∧ isV Γ G2 (co + 28) V ∧ isV Γ G2 (co + 44) J0 ∧ isV Γ G2 (co + 60) J1 ∧ fr G G2 (co + 0) (co + 76)) ∨ (∃ jk : Nat, (jk < V 1) ∧ (k = nI jk) ∧ (cn V jk) ∧ (z = nI (V (6 + V (36 + jk)) + 1)) ∧ isO Γ G2 co kp rf ∧ isT Γ G2 (co + 3) by0 tv ∧ isRd Γ G2 (co + 5) gv ∧ isV Γ G2 (co + 7) Dv ∧ isRw Γ G2 (co + 23) lf ∧ isGs Γ G2 (co + 25) vs ∧ isCh Γ G2 (co + 27) cv ∧ isV Γ G2 (co + 28) (stkV (saveR V) jk) ∧ isV Γ G2 (co + 44) J0 ∧ isV Γ G2 (co + 60) J1 ∧ fr G G2 (co + 0) (co + 76)))) 0 0 (wA Γ n) := by
  refine Met.ofW (cc := cX11_rings) (maxL := 2) (ret := (some .int)) (by decide) rfl ?_
  intro p e s m args below meth c s₁ B hml hv
  obtain ⟨rfl, hw⟩ := hv
  have hx := B.exec
  have hb := B.bytes
  have hr := B.returns
  have hts := atoms_spec (ws := wsX11_rings) B.pre
  have hown : s.vm.findClass RX11 = some m.cls := findClass_of_methodNamed B.named
  have hlocks := B.notSynchronized
  have hS : va_S (wA Γ n) s.heap s.heap [] := va_S.rf
  have hA : ∀ q, wA Γ n q → wA Γ n q := fun _ h => h
  have hl := lv_entry ([.ref (ad Γ (co + 0)), .int k]) (n := 2) (Nat.le_of_ble_eq_true rfl)
  rw [lg_entry_eq]
  generalize (lg_sl ([.ref (ad Γ (co + 0)), .int k]) ++ List.replicate (2 - (lg_sl ([.ref (ad Γ (co + 0)), .int k])).length) Slot.unset).toArray = ls at hl ⊢
  have hl : lv_has ls 2 [(0, .ref (ad Γ (co + 0))), (1, .int k)] := hl
  have hfr := fr_rf G (co + 0) (co + 76)
  have hI := hG.1
  have hB := hI.1
  have hB0 := hI.2.1
  have hB1 := hI.2.2.1
  have hB20 := hI.2.2.2.2.2.2.2.2.2
  have hBz2 := hI.2.2.2.1
  have hBz3 := hI.2.2.2.2.1
  have hBz4 := hI.2.2.2.2.2.1
  have hBz5 := hI.2.2.2.2.2.2.1
  have hBd := hB 21
  have hIs := vI_save hI
  refine lv_aload_n hx hb dX11_rings_0 rfl (lv_at hl 0 rfl) ?_
  refine nr_get (own := RX11) (C := RX11) (T := TX11) (N := 11) (v := .ref (ad Γ (co + 28))) hx hb hts hi_X11_rings_X11 hown hw (by omega) (isO_0 hO) rfl 0 (by decide) wl_X11_rings_1 rfl rfl dX11_rings_1 ?_
  refine lv_iload_n hx hb dX11_rings_4 rfl (lv_at hl 1 rfl) ?_
  refine nr_goB (P := ∃ j, j < V 1 ∧ k = nI j) (nr_runV (As := [.int k]) (C := RX10) (T := TX10) (N := 15) ⟨hx, hb, hml, hown, hts⟩ hw (by omega) (isV_0 hV) rfl (c_X10_hasWrong l Γ n G (co + 28) V hV (by assumption) (by omega) k) (cwV 1 hts gX11_rings_X10_hasWrong rfl rfl rfl (by decide +kernel) ⟨Nat.le_of_ble_eq_true rfl, Nat.le_of_ble_eq_true rfl⟩) rfl hl.1 rfl (Nat.le_of_ble_eq_true rfl) dX11_rings_5 ⟨Nat.zero_le _, Nat.zero_le _⟩) (fun b1 => ?_) (fun b1 => ?_)
  · obtain ⟨jk, hjk, rfl⟩ := b1
    refine nr_if_ne (tgt := 16) hx hb (by decide) dX11_rings_8 (by decide) (fun c2 => ?_) (fun c2 => absurd c2 (by decide))
    refine lv_aload_n hx hb dX11_rings_16 rfl (lv_at hl 0 rfl) ?_
    refine nr_get (own := RX11) (C := RX11) (T := TX11) (N := 11) (v := .ref (ad Γ (co + 28))) hx hb hts hi_X11_rings_X11 hown hw (by omega) (isO_0 hO) rfl 0 (by decide) wl_X11_rings_1 rfl rfl dX11_rings_17 ?_
    refine lv_iload_n hx hb dX11_rings_20 rfl (lv_at hl 1 rfl) ?_
    refine lv_iconst (v := nI 0) hx hb dX11_rings_21 (by decide) ?_
    refine lv_iconst (v := nI 0) hx hb dX11_rings_22 (by decide) ?_
    refine lv_iconst (v := nI 0) hx hb dX11_rings_23 (by decide) ?_
    refine nr_goB (P := could V jk 0 0 0) (nr_runV (As := [.int (nI jk), .int (nI 0), .int (nI 0), .int (nI 0)]) (C := RX10) (T := TX10) (N := 15) ⟨hx, hb, hml, hown, hts⟩ hw (by omega) (isV_0 hV) rfl (c_X10_could l Γ n G (co + 28) V hV (by assumption) (by omega) jk 0 0 0 (by omega) (by omega) (by omega) (by omega)) (cwV 4 hts gX11_rings_X10_could rfl rfl rfl (by decide +kernel) ⟨Nat.le_of_ble_eq_true rfl, Nat.le_of_ble_eq_true rfl⟩) rfl hl.1 rfl (Nat.le_of_ble_eq_true rfl) dX11_rings_24 ⟨Nat.zero_le _, Nat.zero_le _⟩) (fun b3 => ?_) (fun b3 => ?_)
    · refine nr_if_ne (tgt := 35) hx hb (by decide) dX11_rings_27 (by decide) (fun c4 => ?_) (fun c4 => absurd c4 (by decide))
      refine lv_aload_n hx hb dX11_rings_35 rfl (lv_at hl 0 rfl) ?_
      refine nr_get (own := RX11) (C := RX11) (T := TX11) (N := 11) (v := .ref (ad Γ (co + 28))) hx hb hts hi_X11_rings_X11 hown hw (by omega) (isO_0 hO) rfl 0 (by decide) wl_X11_rings_1 rfl rfl dX11_rings_36 ?_
      refine nr_goV (nr_runV (As := []) (C := RX10) (T := TX10) (N := 15) ⟨hx, hb, hml, hown, hts⟩ hw (by omega) (isV_0 hV) rfl (c_X10_remember l Γ n G (co + 28) V hV (by omega) hj (by first | assumption | omega)) (cwV 0 hts gX11_rings_X10_remember rfl rfl rfl (by decide +kernel) ⟨Nat.le_of_ble_eq_true rfl, Nat.le_of_ble_eq_true rfl⟩) rfl hl.1 rfl (Nat.le_of_ble_eq_true rfl) dX11_rings_39 ⟨Nat.zero_le _, Nat.zero_le _⟩) hw hA hS (fun G5 H locs hp hw hS => ?_)
      obtain ⟨hV, hf5⟩ := hp
      have hO := isO_fr hO hf5 (by omega)
      have hT := isT_fr hT hf5 (by omega)
      have hRd := isRd_fr hRd hf5 (by omega)
      have hD := isV_fr hD hf5 (by omega)
      have hRw := isRw_fr hRw hf5 (by omega)
      have hGs := isGs_fr hGs hf5 (by omega)
      have hCh := isCh_fr hCh hf5 (by omega)
      have hP0 := isV_fr hP0 hf5 (by omega)
      have hP1 := isV_fr hP1 hf5 (by omega)
      have hfr := fr_tr hfr hf5 (by omega) (by omega)
      have hV : isV Γ G5 (co + 28) (saveR V) := hV
      have hb8 := (hG.2.2.2.1 jk hjk).1
      have hr8 := vG_r hG hb8
      have hsb : saveR V (36 + jk) = V (36 + jk) := saveR_o (by omega) (by omega)
      have hsr : saveR V (6 + V (36 + jk)) = V (6 + V (36 + jk)) := saveR_o (by omega) (by omega)
      refine lv_aload_n hx hb dX11_rings_42 rfl (lv_at hl 0 rfl) ?_
      refine nr_get (own := RX11) (C := RX11) (T := TX11) (N := 11) (v := .ref (ad Γ (co + 28))) hx hb hts hi_X11_rings_X11 hown hw (by omega) (isO_0 hO) rfl 0 (by decide) wl_X11_rings_1 rfl rfl dX11_rings_43 ?_
      refine lv_iload_n hx hb dX11_rings_46 rfl (lv_at hl 1 rfl) ?_
      refine nr_goI (nr_runV (As := [.int (nI jk)]) (C := RX10) (T := TX10) (N := 15) ⟨hx, hb, hml, hown, hts⟩ hw (by omega) (isV_0 hV) rfl (c_X10_stroke l Γ n G5 (co + 28) (saveR V) hV (by omega) hj jk hIs (by omega) (by rw [hsb, hsr]; omega)) (cwV 1 hts gX11_rings_X10_stroke rfl rfl rfl (by decide +kernel) ⟨Nat.le_of_ble_eq_true rfl, Nat.le_of_ble_eq_true rfl⟩) rfl hl.1 rfl (Nat.le_of_ble_eq_true rfl) dX11_rings_47 ⟨Nat.zero_le _, Nat.zero_le _⟩) hw hA hS (fun z6 G6 H locs hp hw hS => ?_)
      obtain ⟨ha6, hV, hf6⟩ := hp
      have hO := isO_fr hO hf6 (by omega)
      have hT := isT_fr hT hf6 (by omega)
      have hRd := isRd_fr hRd hf6 (by omega)
      have hD := isV_fr hD hf6 (by omega)
      have hRw := isRw_fr hRw hf6 (by omega)
      have hGs := isGs_fr hGs hf6 (by omega)
      have hCh := isCh_fr hCh hf6 (by omega)
      have hP0 := isV_fr hP0 hf6 (by omega)
      have hP1 := isV_fr hP1 hf6 (by omega)
      have hfr := fr_tr hfr hf6 (by omega) (by omega)
      have hV : isV Γ G6 (co + 28) (stkV (saveR V) jk) := hV
      subst ha6
      exact nr_retI hx hb hr hlocks hw hS (Or.inr (Or.inr (⟨jk, hjk, rfl, by assumption, by rw [hsb, hsr], hO, hT, hRd, hD, hRw, hGs, hCh, hV, hP0, hP1, hfr⟩))) dX11_rings_50
    · refine nr_if_ne (tgt := 35) hx hb (by decide) dX11_rings_27 (by decide) (fun c7 => absurd c7 (by decide)) (fun c7 => ?_)
      refine lv_aload_n hx hb dX11_rings_30 rfl (lv_at hl 0 rfl) ?_
      refine nr_goI (nr_runV (As := []) (C := RX11) (T := TX11) (N := 11) ⟨hx, hb, hml, hown, hts⟩ hw (by omega) (isO_0 hO) rfl (c_X11_no l Γ n G co kp rf hO (by omega) hj) (cwV 0 hts gX11_rings_X11_no rfl rfl rfl (by decide +kernel) ⟨Nat.le_of_ble_eq_true rfl, Nat.le_of_ble_eq_true rfl⟩) rfl hl.1 rfl (Nat.le_of_ble_eq_true rfl) dX11_rings_31 ⟨Nat.zero_le _, Nat.zero_le _⟩) hw hA hS (fun z8 G8 H locs hp hw hS => ?_)
      obtain ⟨ha8, hO, hf8⟩ := hp
      have hT := isT_fr hT hf8 (by omega)
      have hRd := isRd_fr hRd hf8 (by omega)
      have hD := isV_fr hD hf8 (by omega)
      have hRw := isRw_fr hRw hf8 (by omega)
      have hGs := isGs_fr hGs hf8 (by omega)
      have hCh := isCh_fr hCh hf8 (by omega)
      have hV := isV_fr hV hf8 (by omega)
      have hP0 := isV_fr hP0 hf8 (by omega)
      have hP1 := isV_fr hP1 hf8 (by omega)
      have hfr := fr_tr hfr hf8 (by omega) (by omega)
      have hO : isO Γ G8 co kp (bmp rf 1) := hO
      subst ha8
      exact nr_retI hx hb hr hlocks hw hS (Or.inr (Or.inl ⟨jk, hjk, rfl, by assumption, rfl, hO, hT, hRd, hD, hRw, hGs, hCh, hV, hP0, hP1, hfr⟩)) dX11_rings_34
  · refine nr_if_ne (tgt := 16) hx hb (by decide) dX11_rings_8 (by decide) (fun c9 => absurd c9 (by decide)) (fun c9 => ?_)
    refine lv_aload_n hx hb dX11_rings_11 rfl (lv_at hl 0 rfl) ?_
    refine nr_goI (nr_runV (As := []) (C := RX11) (T := TX11) (N := 11) ⟨hx, hb, hml, hown, hts⟩ hw (by omega) (isO_0 hO) rfl (c_X11_bad l Γ n G co kp rf hO (by omega) hj) (cwV 0 hts gX11_rings_X11_bad rfl rfl rfl (by decide +kernel) ⟨Nat.le_of_ble_eq_true rfl, Nat.le_of_ble_eq_true rfl⟩) rfl hl.1 rfl (Nat.le_of_ble_eq_true rfl) dX11_rings_12 ⟨Nat.zero_le _, Nat.zero_le _⟩) hw hA hS (fun z10 G10 H locs hp hw hS => ?_)
    obtain ⟨ha10, hO, hf10⟩ := hp
    have hT := isT_fr hT hf10 (by omega)
    have hRd := isRd_fr hRd hf10 (by omega)
    have hD := isV_fr hD hf10 (by omega)
    have hRw := isRw_fr hRw hf10 (by omega)
    have hGs := isGs_fr hGs hf10 (by omega)
    have hCh := isCh_fr hCh hf10 (by omega)
    have hV := isV_fr hV hf10 (by omega)
    have hP0 := isV_fr hP0 hf10 (by omega)
    have hP1 := isV_fr hP1 hf10 (by omega)
    have hfr := fr_tr hfr hf10 (by omega) (by omega)
    have hO : isO Γ G10 co kp (bmp rf 0) := hO
    subst ha10
    exact nr_retI hx hb hr hlocks hw hS (Or.inl ⟨by assumption, rfl, hO, hT, hRd, hD, hRw, hGs, hCh, hV, hP0, hP1, hfr⟩) dX11_rings_15
theorem wl_X11_undo_1 : Cond.fieldLink RX11 10 "BellForgiven" "now" "LBellForgiven$Valley;" ∈ wsX11_undo := List.mem_of_getElem? (i := 1) rfl
theorem wl_X11_undo_2 : Cond.fieldLink RX11 77 "BellForgiven$Valley" "past" "LBellForgiven$Past;" ∈ wsX11_undo := List.mem_of_getElem? (i := 2) rfl
theorem wl_X11_undo_3 : Cond.fieldLink RX11 81 "BellForgiven$Past" "size" "I" ∈ wsX11_undo := List.mem_of_getElem? (i := 3) rfl
theorem wl_X11_undo_4 : Cond.fieldLink RX11 128 "BellForgiven$Valley" "day" "I" ∈ wsX11_undo := List.mem_of_getElem? (i := 4) rfl
theorem hi_X11_undo_X11 : ∀ w ∈ u_ws RX11 TX11 11, w ∈ wsX11_undo := fun w h => (List.mem_cons_of_mem _ (List.mem_append_left _ (List.mem_append_left _ (List.mem_append_right _ h))))
theorem hi_X11_undo_X10 : ∀ w ∈ u_ws RX10 TX10 15, w ∈ wsX11_undo := fun w h => (List.mem_cons_of_mem _ (List.mem_append_left _ (List.mem_append_right _ h)))
theorem hi_X11_undo_X4 : ∀ w ∈ u_ws RX4 TX4 2, w ∈ wsX11_undo := fun w h => (List.mem_cons_of_mem _ (List.mem_append_right _ h))
set_option maxHeartbeats 4000000 in
set_option maxRecDepth 100000 in
theorem c_X11_undo (l : Launch) (Γ : Gam) (n : Nat) (G : Nat → va_E) (co : Nat) (kp rf by0 tv gv Dv lf vs cv V J0 J1 : Nat → Nat) (hO : isO Γ G co kp rf) (hT : isT Γ G (co + 3) by0 tv) (hRd : isRd Γ G (co + 5) gv) (hD : isV Γ G (co + 7) Dv) (hRw : isRw Γ G (co + 23) lf) (hGs : isGs Γ G (co + 25) vs) (hCh : isCh Γ G (co + 27) cv) (hV : isV Γ G (co + 28) V) (hP0 : isV Γ G (co + 44) J0) (hP1 : isV Γ G (co + 60) J1) (hn_co : co + 76 ≤ n) (hj : winj Γ n) (hG : vG V)  : Met l yX11_undo wsX11_undo ({ frames := 3, cells := 0, slots := 0, locals := 68 }) (va_Pc [.ref (ad Γ (co + 0))] (fun U => hw Γ n G U U.heap)) (wQi Γ n (fun z G2 => ((V 5 = 0) ∧ (z = -3) ∧ isO Γ G2 co kp (bmp rf 1) ∧ isT Γ G2 (co + 3) by0 tv ∧ isRd Γ G2 (co + 5) gv ∧ isV Γ G2 (co + 7) Dv ∧ isRw Γ G2 (co + 23) lf ∧ isGs Γ G2 (co + 25) vs ∧ isCh Γ G2 (co + 27) cv ∧ isV Γ G2 (co + 28) V ∧ isV Γ G2 (co + 44) J0 ∧ isV Γ G2 (co + 60) J1 ∧ fr G G2 (co + 0) (co + 76)) ∨ ((¬ V 5 = 0) ∧ (z = nI (popR V 21)) ∧ isO Γ G2 co kp rf ∧ isT Γ G2 (co + 3) by0 tv ∧ isRd Γ G2 (co + 5) gv ∧ isV Γ G2 (co + 7) Dv ∧ isRw Γ G2 (co + 23) lf ∧ isGs Γ G2 (co + 25) vs ∧ isCh Γ G2 (co + 27) cv ∧ isV Γ G2 (co + 28) (popR V) ∧ isV Γ G2 (co + 44) J0 ∧ isV Γ G2 (co + 60) J1 ∧ fr G G2 (co + 0) (co + 76)))) 0 0 (wA Γ n) := by
  refine Met.ofW (cc := cX11_undo) (maxL := 1) (ret := (some .int)) (by decide) rfl ?_
  intro p e s m args below meth c s₁ B hml hv
  obtain ⟨rfl, hw⟩ := hv
  have hx := B.exec
  have hb := B.bytes
  have hr := B.returns
  have hts := atoms_spec (ws := wsX11_undo) B.pre
  have hown : s.vm.findClass RX11 = some m.cls := findClass_of_methodNamed B.named
  have hlocks := B.notSynchronized
  have hS : va_S (wA Γ n) s.heap s.heap [] := va_S.rf
  have hA : ∀ q, wA Γ n q → wA Γ n q := fun _ h => h
  have hl := lv_entry ([.ref (ad Γ (co + 0))]) (n := 1) (Nat.le_of_ble_eq_true rfl)
  rw [lg_entry_eq]
  generalize (lg_sl ([.ref (ad Γ (co + 0))]) ++ List.replicate (1 - (lg_sl ([.ref (ad Γ (co + 0))])).length) Slot.unset).toArray = ls at hl ⊢
  have hl : lv_has ls 1 [(0, .ref (ad Γ (co + 0)))] := hl
  have hfr := fr_rf G (co + 0) (co + 76)
  have hI := hG.1
  have hB := hI.1
  have hB0 := hI.2.1
  have hB1 := hI.2.2.1
  have hB20 := hI.2.2.2.2.2.2.2.2.2
  have hBz2 := hI.2.2.2.1
  have hBz3 := hI.2.2.2.2.1
  have hBz4 := hI.2.2.2.2.2.1
  have hBz5 := hI.2.2.2.2.2.2.1
  have hBd := hB 21
  refine lv_aload_n hx hb dX11_undo_0 rfl (lv_at hl 0 rfl) ?_
  refine nr_get (own := RX11) (C := RX11) (T := TX11) (N := 11) (v := .ref (ad Γ (co + 28))) hx hb hts hi_X11_undo_X11 hown hw (by omega) (isO_0 hO) rfl 0 (by decide) wl_X11_undo_1 rfl rfl dX11_undo_1 ?_
  refine nr_get (own := RX11) (C := RX10) (T := TX10) (N := 15) (v := .ref (ad Γ (co + 39))) hx hb hts hi_X11_undo_X10 hown hw (by omega) (isV_0 hV) rfl 14 (by decide) wl_X11_undo_2 rfl rfl dX11_undo_4 ?_
  refine nr_get (own := RX11) (C := RX4) (T := TX4) (N := 2) (v := .int (nI (V 5))) hx hb hts hi_X11_undo_X4 hown hw (by omega) (isV_11 hV) rfl 1 (by decide) wl_X11_undo_3 rfl rfl dX11_undo_7 ?_
  refine nr_if_ne (tgt := 18) hx hb (by omega) dX11_undo_10 (by decide) (fun c1 => ?_) (fun c1 => ?_)
  · refine lv_aload_n hx hb dX11_undo_18 rfl (lv_at hl 0 rfl) ?_
    refine nr_get (own := RX11) (C := RX11) (T := TX11) (N := 11) (v := .ref (ad Γ (co + 28))) hx hb hts hi_X11_undo_X11 hown hw (by omega) (isO_0 hO) rfl 0 (by decide) wl_X11_undo_1 rfl rfl dX11_undo_19 ?_
    refine nr_goV (nr_runV (As := []) (C := RX10) (T := TX10) (N := 15) ⟨hx, hb, hml, hown, hts⟩ hw (by omega) (isV_0 hV) rfl (c_X10_goBack l Γ n G (co + 28) V hV (by omega) hj hI (by omega)) (cwV 0 hts gX11_undo_X10_goBack rfl rfl rfl (by decide +kernel) ⟨Nat.le_of_ble_eq_true rfl, Nat.le_of_ble_eq_true rfl⟩) rfl hl.1 rfl (Nat.le_of_ble_eq_true rfl) dX11_undo_22 ⟨Nat.zero_le _, Nat.zero_le _⟩) hw hA hS (fun G2 H locs hp hw hS => ?_)
    obtain ⟨hV, hf2⟩ := hp
    have hO := isO_fr hO hf2 (by omega)
    have hT := isT_fr hT hf2 (by omega)
    have hRd := isRd_fr hRd hf2 (by omega)
    have hD := isV_fr hD hf2 (by omega)
    have hRw := isRw_fr hRw hf2 (by omega)
    have hGs := isGs_fr hGs hf2 (by omega)
    have hCh := isCh_fr hCh hf2 (by omega)
    have hP0 := isV_fr hP0 hf2 (by omega)
    have hP1 := isV_fr hP1 hf2 (by omega)
    have hfr := fr_tr hfr hf2 (by omega) (by omega)
    have hV : isV Γ G2 (co + 28) (popR V) := hV
    refine lv_aload_n hx hb dX11_undo_25 rfl (lv_at hl 0 rfl) ?_
    refine nr_get (own := RX11) (C := RX11) (T := TX11) (N := 11) (v := .ref (ad Γ (co + 28))) hx hb hts hi_X11_undo_X11 hown hw (by omega) (isO_0 hO) rfl 0 (by decide) wl_X11_undo_1 rfl rfl dX11_undo_26 ?_
    refine nr_get (own := RX11) (C := RX10) (T := TX10) (N := 15) (v := .int (nI ((popR V) 21))) hx hb hts hi_X11_undo_X10 hown hw (by omega) (isV_0 hV) rfl 10 (by decide) wl_X11_undo_4 rfl rfl dX11_undo_29 ?_
    exact nr_retI hx hb hr hlocks hw hS (Or.inr (⟨by assumption, rfl, hO, hT, hRd, hD, hRw, hGs, hCh, hV, hP0, hP1, hfr⟩)) dX11_undo_32
  · refine lv_aload_n hx hb dX11_undo_13 rfl (lv_at hl 0 rfl) ?_
    refine nr_goI (nr_runV (As := []) (C := RX11) (T := TX11) (N := 11) ⟨hx, hb, hml, hown, hts⟩ hw (by omega) (isO_0 hO) rfl (c_X11_no l Γ n G co kp rf hO (by omega) hj) (cwV 0 hts gX11_undo_X11_no rfl rfl rfl (by decide +kernel) ⟨Nat.le_of_ble_eq_true rfl, Nat.le_of_ble_eq_true rfl⟩) rfl hl.1 rfl (Nat.le_of_ble_eq_true rfl) dX11_undo_14 ⟨Nat.zero_le _, Nat.zero_le _⟩) hw hA hS (fun z3 G3 H locs hp hw hS => ?_)
    obtain ⟨ha3, hO, hf3⟩ := hp
    have hT := isT_fr hT hf3 (by omega)
    have hRd := isRd_fr hRd hf3 (by omega)
    have hD := isV_fr hD hf3 (by omega)
    have hRw := isRw_fr hRw hf3 (by omega)
    have hGs := isGs_fr hGs hf3 (by omega)
    have hCh := isCh_fr hCh hf3 (by omega)
    have hV := isV_fr hV hf3 (by omega)
    have hP0 := isV_fr hP0 hf3 (by omega)
    have hP1 := isV_fr hP1 hf3 (by omega)
    have hfr := fr_tr hfr hf3 (by omega) (by omega)
    have hO : isO Γ G3 co kp (bmp rf 1) := hO
    subst ha3
    exact nr_retI hx hb hr hlocks hw hS (Or.inl ⟨by assumption, rfl, hO, hT, hRd, hD, hRw, hGs, hCh, hV, hP0, hP1, hfr⟩) dX11_undo_17
theorem wl_X11_of_1 : Cond.fieldLink RX11 10 "BellForgiven" "now" "LBellForgiven$Valley;" ∈ wsX11_of := List.mem_of_getElem? (i := 1) rfl
theorem wl_X11_of_2 : Cond.fieldLink RX11 147 "BellForgiven$Valley" "nature" "[I" ∈ wsX11_of := List.mem_of_getElem? (i := 2) rfl
theorem wl_X11_of_3 : Cond.fieldLink RX11 151 "BellForgiven$Valley" "rung" "[I" ∈ wsX11_of := List.mem_of_getElem? (i := 3) rfl
theorem hi_X11_of_X11 : ∀ w ∈ u_ws RX11 TX11 11, w ∈ wsX11_of := fun w h => (List.mem_cons_of_mem _ (List.mem_append_left _ (List.mem_append_right _ h)))
theorem hi_X11_of_X10 : ∀ w ∈ u_ws RX10 TX10 15, w ∈ wsX11_of := fun w h => (List.mem_cons_of_mem _ (List.mem_append_right _ h))
set_option maxHeartbeats 4000000 in
set_option maxRecDepth 100000 in
theorem c_X11_of (l : Launch) (Γ : Gam) (n : Nat) (G : Nat → va_E) (co : Nat) (kp rf by0 tv gv Dv lf vs cv V J0 J1 : Nat → Nat) (hO : isO Γ G co kp rf) (hT : isT Γ G (co + 3) by0 tv) (hRd : isRd Γ G (co + 5) gv) (hD : isV Γ G (co + 7) Dv) (hRw : isRw Γ G (co + 23) lf) (hGs : isGs Γ G (co + 25) vs) (hCh : isCh Γ G (co + 27) cv) (hV : isV Γ G (co + 28) V) (hP0 : isV Γ G (co + 44) J0) (hP1 : isV Γ G (co + 60) J1) (hn_co : co + 76 ≤ n) (hj : winj Γ n) (i what : Int32) (hG : vG V)  : Met l yX11_of wsX11_of ({ frames := 3, cells := 0, slots := 0, locals := 71 }) (va_Pc [.ref (ad Γ (co + 0)), .int i, .int what] (fun U => hw Γ n G U U.heap)) (wQi Γ n (fun z G2 => ((¬ (vBel (V 0) i ∧ vRng 0 3 what)) ∧ (z = -2) ∧ isO Γ G2 co kp (bmp rf 0) ∧ isT Γ G2 (co + 3) by0 tv ∧ isRd Γ G2 (co + 5) gv ∧ isV Γ G2 (co + 7) Dv ∧ isRw Γ G2 (co + 23) lf ∧ isGs Γ G2 (co + 25) vs ∧ isCh Γ G2 (co + 27) cv ∧ isV Γ G2 (co + 28) V ∧ isV Γ G2 (co + 44) J0 ∧ isV Γ G2 (co + 60) J1 ∧ fr G G2 (co + 0) (co + 76)) ∨ (∃ ji jw : Nat, (ji < V 0) ∧ (i = nI ji) ∧ (jw ≤ 3) ∧ (what = nI jw) ∧ (z = nI (ofC V ji jw)) ∧ isO Γ G2 co kp rf ∧ isT Γ G2 (co + 3) by0 tv ∧ isRd Γ G2 (co + 5) gv ∧ isV Γ G2 (co + 7) Dv ∧ isRw Γ G2 (co + 23) lf ∧ isGs Γ G2 (co + 25) vs ∧ isCh Γ G2 (co + 27) cv ∧ isV Γ G2 (co + 28) V ∧ isV Γ G2 (co + 44) J0 ∧ isV Γ G2 (co + 60) J1 ∧ fr G G2 (co + 0) (co + 76)))) 0 0 (wA Γ n) := by
  refine Met.ofW (cc := cX11_of) (maxL := 3) (ret := (some .int)) (by decide) rfl ?_
  intro p e s m args below meth c s₁ B hml hv
  obtain ⟨rfl, hw⟩ := hv
  have hx := B.exec
  have hb := B.bytes
  have hr := B.returns
  have hts := atoms_spec (ws := wsX11_of) B.pre
  have hown : s.vm.findClass RX11 = some m.cls := findClass_of_methodNamed B.named
  have hlocks := B.notSynchronized
  have hS : va_S (wA Γ n) s.heap s.heap [] := va_S.rf
  have hA : ∀ q, wA Γ n q → wA Γ n q := fun _ h => h
  have hl := lv_entry ([.ref (ad Γ (co + 0)), .int i, .int what]) (n := 3) (Nat.le_of_ble_eq_true rfl)
  rw [lg_entry_eq]
  generalize (lg_sl ([.ref (ad Γ (co + 0)), .int i, .int what]) ++ List.replicate (3 - (lg_sl ([.ref (ad Γ (co + 0)), .int i, .int what])).length) Slot.unset).toArray = ls at hl ⊢
  have hl : lv_has ls 3 [(0, .ref (ad Γ (co + 0))), (1, .int i), (2, .int what)] := hl
  have hfr := fr_rf G (co + 0) (co + 76)
  have hI := hG.1
  have hB := hI.1
  have hB0 := hI.2.1
  have hB1 := hI.2.2.1
  have hB20 := hI.2.2.2.2.2.2.2.2.2
  have hBz2 := hI.2.2.2.1
  have hBz3 := hI.2.2.2.2.1
  have hBz4 := hI.2.2.2.2.2.1
  have hBz5 := hI.2.2.2.2.2.2.1
  have hBd := hB 21
  refine lv_aload_n hx hb dX11_of_0 rfl (lv_at hl 0 rfl) ?_
  refine nr_get (own := RX11) (C := RX11) (T := TX11) (N := 11) (v := .ref (ad Γ (co + 28))) hx hb hts hi_X11_of_X11 hown hw (by omega) (isO_0 hO) rfl 0 (by decide) wl_X11_of_1 rfl rfl dX11_of_1 ?_
  refine lv_iload_n hx hb dX11_of_4 rfl (lv_at hl 1 rfl) ?_
  refine nr_goB (P := ∃ j, j < V 0 ∧ i = nI j) (nr_runV (As := [.int i]) (C := RX10) (T := TX10) (N := 15) ⟨hx, hb, hml, hown, hts⟩ hw (by omega) (isV_0 hV) rfl (c_X10_hasPerson l Γ n G (co + 28) V hV (by assumption) (by omega) i) (cwV 1 hts gX11_of_X10_hasPerson rfl rfl rfl (by decide +kernel) ⟨Nat.le_of_ble_eq_true rfl, Nat.le_of_ble_eq_true rfl⟩) rfl hl.1 rfl (Nat.le_of_ble_eq_true rfl) dX11_of_5 ⟨Nat.zero_le _, Nat.zero_le _⟩) (fun b1 => ?_) (fun b1 => ?_)
  · obtain ⟨ji, hji, rfl⟩ := b1
    refine nr_if_eq (tgt := 20) hx hb (by decide) dX11_of_8 (by decide) (fun c2 => absurd c2 (by decide)) (fun c2 => ?_)
    refine lv_iload_n hx hb dX11_of_11 rfl (lv_at hl 2 rfl) ?_
    refine lv_iconst (v := nI 0) hx hb dX11_of_12 (by decide) ?_
    refine lv_iconst (v := nI 3) hx hb dX11_of_13 (by decide) ?_
    refine nr_goB (P := (nI 0) ≤ what ∧ what ≤ (nI 3)) (nr_runS (As := [.int what, .int (nI 0), .int (nI 3)]) ⟨hx, hb, hml, hown, hts⟩ hw (c_X11_within l Γ n G what (nI 0) (nI 3)) (va_cwS 3 hts gX11_of_X11_within rfl rfl rfl (by decide +kernel) ⟨Nat.le_of_ble_eq_true rfl, Nat.le_of_ble_eq_true rfl⟩) rfl hl.1 rfl (Nat.le_of_ble_eq_true rfl) dX11_of_14 ⟨Nat.zero_le _, Nat.zero_le _⟩) (fun b3 => ?_) (fun b3 => ?_)
    · obtain ⟨jw, hjwa, hjwb, rfl⟩ := (with_c (a := 0) (b := 3) (by first | decide | omega) (by first | decide | omega)).mp b3
      refine nr_if_ne (tgt := 25) hx hb (by decide) dX11_of_17 (by decide) (fun c4 => ?_) (fun c4 => absurd c4 (by decide))
      refine lv_iload_n hx hb dX11_of_25 rfl (lv_at hl 2 rfl) ?_
      rcases (show jw = 0 ∨ jw = 1 ∨ jw = 2 ∨ 2 < jw by omega) with c5 | c5 | c5 | c5
      · refine nr_tabIn (j := 0) (tgt := 52) hx hb (by omega) c5 dX11_of_26 (by decide) (by decide) rfl (by decide) ?_
        refine lv_aload_n hx hb dX11_of_52 rfl (lv_at hl 0 rfl) ?_
        refine nr_get (own := RX11) (C := RX11) (T := TX11) (N := 11) (v := .ref (ad Γ (co + 28))) hx hb hts hi_X11_of_X11 hown hw (by omega) (isO_0 hO) rfl 0 (by decide) wl_X11_of_1 rfl rfl dX11_of_53 ?_
        refine nr_get (own := RX11) (C := RX10) (T := TX10) (N := 15) (v := .ref (ad Γ (co + 29))) hx hb hts hi_X11_of_X10 hown hw (by omega) (isV_0 hV) rfl 1 (by decide) wl_X11_of_2 rfl rfl dX11_of_56 ?_
        refine lv_iload_n hx hb dX11_of_59 rfl (lv_at hl 1 rfl) ?_
        refine nr_iald (x := (V (22 + ji))) hx hb hw (by omega) (isV_1 hV) rfl (by omega) (by decide) dX11_of_60 ?_
        exact nr_retI hx hb hr hlocks hw hS (Or.inr (⟨ji, jw, hji, rfl, hjwb, rfl, by refine congrArg nI ?_; unfold ofC; (repeat' split) <;> first | rfl | omega | contradiction, hO, hT, hRd, hD, hRw, hGs, hCh, hV, hP0, hP1, hfr⟩)) dX11_of_61
      · refine nr_tabIn (j := 1) (tgt := 62) hx hb (by omega) c5 dX11_of_26 (by decide) (by decide) rfl (by decide) ?_
        refine lv_aload_n hx hb dX11_of_62 rfl (lv_at hl 0 rfl) ?_
        refine nr_get (own := RX11) (C := RX11) (T := TX11) (N := 11) (v := .ref (ad Γ (co + 28))) hx hb hts hi_X11_of_X11 hown hw (by omega) (isO_0 hO) rfl 0 (by decide) wl_X11_of_1 rfl rfl dX11_of_63 ?_
        refine nr_get (own := RX11) (C := RX10) (T := TX10) (N := 15) (v := .ref (ad Γ (co + 30))) hx hb hts hi_X11_of_X10 hown hw (by omega) (isV_0 hV) rfl 2 (by decide) wl_X11_of_3 rfl rfl dX11_of_66 ?_
        refine lv_iload_n hx hb dX11_of_69 rfl (lv_at hl 1 rfl) ?_
        refine nr_iald (x := (V (6 + ji))) hx hb hw (by omega) (isV_2 hV) rfl (by omega) (by decide) dX11_of_70 ?_
        exact nr_retI hx hb hr hlocks hw hS (Or.inr (⟨ji, jw, hji, rfl, hjwb, rfl, by refine congrArg nI ?_; unfold ofC; (repeat' split) <;> first | rfl | omega | contradiction, hO, hT, hRd, hD, hRw, hGs, hCh, hV, hP0, hP1, hfr⟩)) dX11_of_71
      · refine nr_tabIn (j := 2) (tgt := 72) hx hb (by omega) c5 dX11_of_26 (by decide) (by decide) rfl (by decide) ?_
        refine lv_aload_n hx hb dX11_of_72 rfl (lv_at hl 0 rfl) ?_
        refine nr_get (own := RX11) (C := RX11) (T := TX11) (N := 11) (v := .ref (ad Γ (co + 28))) hx hb hts hi_X11_of_X11 hown hw (by omega) (isO_0 hO) rfl 0 (by decide) wl_X11_of_1 rfl rfl dX11_of_73 ?_
        refine lv_iload_n hx hb dX11_of_76 rfl (lv_at hl 1 rfl) ?_
        refine lv_iconst (v := nI 0) hx hb dX11_of_77 (by decide) ?_
        refine lv_iconst (v := nI 0) hx hb dX11_of_78 (by decide) ?_
        refine nr_goS (nr_runV (As := [.int (nI ji), .int (nI 0), .int (nI 0)]) (C := RX10) (T := TX10) (N := 15) ⟨hx, hb, hml, hown, hts⟩ hw (by omega) (isV_0 hV) rfl (c_X10_mercy l Γ n G (co + 28) V hV (by assumption) (by omega) ji 0 0 (by omega) (by omega) (by omega)) (cwV 3 hts gX11_of_X10_mercy rfl rfl rfl (by decide +kernel) ⟨Nat.le_of_ble_eq_true rfl, Nat.le_of_ble_eq_true rfl⟩) rfl hl.1 rfl (Nat.le_of_ble_eq_true rfl) dX11_of_79 ⟨Nat.zero_le _, Nat.zero_le _⟩) (fun r6 hr6 => ?_)
        obtain rfl : r6 = (nI (sM V ji 0 0)) := hr6
        exact nr_retI hx hb hr hlocks hw hS (Or.inr (⟨ji, jw, hji, rfl, hjwb, rfl, by refine congrArg nI ?_; unfold ofC; (repeat' split) <;> first | rfl | omega | contradiction, hO, hT, hRd, hD, hRw, hGs, hCh, hV, hP0, hP1, hfr⟩)) dX11_of_82
      · refine nr_tabOut (tgt := 83) hx hb (by omega) dX11_of_26 (by omega) (by decide) ?_
        refine lv_aload_n hx hb dX11_of_83 rfl (lv_at hl 0 rfl) ?_
        refine nr_get (own := RX11) (C := RX11) (T := TX11) (N := 11) (v := .ref (ad Γ (co + 28))) hx hb hts hi_X11_of_X11 hown hw (by omega) (isO_0 hO) rfl 0 (by decide) wl_X11_of_1 rfl rfl dX11_of_84 ?_
        refine lv_iload_n hx hb dX11_of_87 rfl (lv_at hl 1 rfl) ?_
        refine nr_goB (P := guiltyP V ji) (nr_runV (As := [.int (nI ji)]) (C := RX10) (T := TX10) (N := 15) ⟨hx, hb, hml, hown, hts⟩ hw (by omega) (isV_0 hV) rfl (c_X10_isGuilty l Γ n G (co + 28) V hV (by assumption) (by omega) ji (by omega)) (cwV 1 hts gX11_of_X10_isGuilty rfl rfl rfl (by decide +kernel) ⟨Nat.le_of_ble_eq_true rfl, Nat.le_of_ble_eq_true rfl⟩) rfl hl.1 rfl (Nat.le_of_ble_eq_true rfl) dX11_of_88 ⟨Nat.zero_le _, Nat.zero_le _⟩) (fun b7 => ?_) (fun b7 => ?_)
        · refine nr_if_eq (tgt := 98) hx hb (by decide) dX11_of_91 (by decide) (fun c8 => absurd c8 (by decide)) (fun c8 => ?_)
          refine lv_iconst (v := nI 1) hx hb dX11_of_94 (by decide) ?_
          refine lv_goto (tgt := 99) hx hb dX11_of_95 (by decide) ?_
          exact nr_retI hx hb hr hlocks hw hS (Or.inr (⟨ji, jw, hji, rfl, hjwb, rfl, by refine congrArg nI ?_; unfold ofC; (repeat' split) <;> first | rfl | omega | contradiction, hO, hT, hRd, hD, hRw, hGs, hCh, hV, hP0, hP1, hfr⟩)) dX11_of_99
        · refine nr_if_eq (tgt := 98) hx hb (by decide) dX11_of_91 (by decide) (fun c9 => ?_) (fun c9 => absurd c9 (by decide))
          refine lv_iconst (v := nI 0) hx hb dX11_of_98 (by decide) ?_
          exact nr_retI hx hb hr hlocks hw hS (Or.inr (⟨ji, jw, hji, rfl, hjwb, rfl, by refine congrArg nI ?_; unfold ofC; (repeat' split) <;> first | rfl | omega | contradiction, hO, hT, hRd, hD, hRw, hGs, hCh, hV, hP0, hP1, hfr⟩)) dX11_of_99
    · have b3n : ¬ vRng (0) (3) what := fun hh => b3 ((with_c (by first | decide | omega) (by first | decide | omega)).mpr hh)
      refine nr_if_ne (tgt := 25) hx hb (by decide) dX11_of_17 (by decide) (fun c10 => absurd c10 (by decide)) (fun c10 => ?_)
      refine lv_aload_n hx hb dX11_of_20 rfl (lv_at hl 0 rfl) ?_
      refine nr_goI (nr_runV (As := []) (C := RX11) (T := TX11) (N := 11) ⟨hx, hb, hml, hown, hts⟩ hw (by omega) (isO_0 hO) rfl (c_X11_bad l Γ n G co kp rf hO (by omega) hj) (cwV 0 hts gX11_of_X11_bad rfl rfl rfl (by decide +kernel) ⟨Nat.le_of_ble_eq_true rfl, Nat.le_of_ble_eq_true rfl⟩) rfl hl.1 rfl (Nat.le_of_ble_eq_true rfl) dX11_of_21 ⟨Nat.zero_le _, Nat.zero_le _⟩) hw hA hS (fun z11 G11 H locs hp hw hS => ?_)
      obtain ⟨ha11, hO, hf11⟩ := hp
      have hT := isT_fr hT hf11 (by omega)
      have hRd := isRd_fr hRd hf11 (by omega)
      have hD := isV_fr hD hf11 (by omega)
      have hRw := isRw_fr hRw hf11 (by omega)
      have hGs := isGs_fr hGs hf11 (by omega)
      have hCh := isCh_fr hCh hf11 (by omega)
      have hV := isV_fr hV hf11 (by omega)
      have hP0 := isV_fr hP0 hf11 (by omega)
      have hP1 := isV_fr hP1 hf11 (by omega)
      have hfr := fr_tr hfr hf11 (by omega) (by omega)
      have hO : isO Γ G11 co kp (bmp rf 0) := hO
      subst ha11
      exact nr_retI hx hb hr hlocks hw hS (Or.inl ⟨by intro hh; first | contradiction | (obtain ⟨hq1, hq2⟩ := hh; first | contradiction | (obtain ⟨hq2, hq3⟩ := hq2; first | contradiction | (obtain ⟨hq3, hq4⟩ := hq3; first | contradiction | (obtain ⟨hq4, hq5⟩ := hq4; first | contradiction | (exact hq4 (congrArg nI (by assumption))))))), rfl, hO, hT, hRd, hD, hRw, hGs, hCh, hV, hP0, hP1, hfr⟩) dX11_of_24
  · refine nr_if_eq (tgt := 20) hx hb (by decide) dX11_of_8 (by decide) (fun c12 => ?_) (fun c12 => absurd c12 (by decide))
    refine lv_aload_n hx hb dX11_of_20 rfl (lv_at hl 0 rfl) ?_
    refine nr_goI (nr_runV (As := []) (C := RX11) (T := TX11) (N := 11) ⟨hx, hb, hml, hown, hts⟩ hw (by omega) (isO_0 hO) rfl (c_X11_bad l Γ n G co kp rf hO (by omega) hj) (cwV 0 hts gX11_of_X11_bad rfl rfl rfl (by decide +kernel) ⟨Nat.le_of_ble_eq_true rfl, Nat.le_of_ble_eq_true rfl⟩) rfl hl.1 rfl (Nat.le_of_ble_eq_true rfl) dX11_of_21 ⟨Nat.zero_le _, Nat.zero_le _⟩) hw hA hS (fun z13 G13 H locs hp hw hS => ?_)
    obtain ⟨ha13, hO, hf13⟩ := hp
    have hT := isT_fr hT hf13 (by omega)
    have hRd := isRd_fr hRd hf13 (by omega)
    have hD := isV_fr hD hf13 (by omega)
    have hRw := isRw_fr hRw hf13 (by omega)
    have hGs := isGs_fr hGs hf13 (by omega)
    have hCh := isCh_fr hCh hf13 (by omega)
    have hV := isV_fr hV hf13 (by omega)
    have hP0 := isV_fr hP0 hf13 (by omega)
    have hP1 := isV_fr hP1 hf13 (by omega)
    have hfr := fr_tr hfr hf13 (by omega) (by omega)
    have hO : isO Γ G13 co kp (bmp rf 0) := hO
    subst ha13
    exact nr_retI hx hb hr hlocks hw hS (Or.inl ⟨by intro hh; first | contradiction | (obtain ⟨hq1, hq2⟩ := hh; first | contradiction | (obtain ⟨hq2, hq3⟩ := hq2; first | contradiction | (obtain ⟨hq3, hq4⟩ := hq3; first | contradiction | (obtain ⟨hq4, hq5⟩ := hq4; first | contradiction | (exact hq4 (congrArg nI (by assumption))))))), rfl, hO, hT, hRd, hD, hRw, hGs, hCh, hV, hP0, hP1, hfr⟩) dX11_of_24
theorem wl_X11_about_1 : Cond.fieldLink RX11 10 "BellForgiven" "now" "LBellForgiven$Valley;" ∈ wsX11_about := List.mem_of_getElem? (i := 1) rfl
theorem hi_X11_about_X11 : ∀ w ∈ u_ws RX11 TX11 11, w ∈ wsX11_about := fun w h => (List.mem_cons_of_mem _ (List.mem_append_left _ (List.mem_append_right _ h)))
set_option maxHeartbeats 4000000 in
set_option maxRecDepth 100000 in
theorem c_X11_about (l : Launch) (Γ : Gam) (n : Nat) (G : Nat → va_E) (co : Nat) (kp rf by0 tv gv Dv lf vs cv V J0 J1 : Nat → Nat) (hO : isO Γ G co kp rf) (hT : isT Γ G (co + 3) by0 tv) (hRd : isRd Γ G (co + 5) gv) (hD : isV Γ G (co + 7) Dv) (hRw : isRw Γ G (co + 23) lf) (hGs : isGs Γ G (co + 25) vs) (hCh : isCh Γ G (co + 27) cv) (hV : isV Γ G (co + 28) V) (hP0 : isV Γ G (co + 44) J0) (hP1 : isV Γ G (co + 60) J1) (hn_co : co + 76 ≤ n) (hj : winj Γ n) (k what : Int32) (hG : vG V)  : Met l yX11_about wsX11_about ({ frames := 4, cells := 0, slots := 0, locals := 89 }) (va_Pc [.ref (ad Γ (co + 0)), .int k, .int what] (fun U => hw Γ n G U U.heap)) (wQi Γ n (fun z G2 => ((¬ (vBel (V 1) k ∧ vRng 0 6 what)) ∧ (z = -2) ∧ isO Γ G2 co kp (bmp rf 0) ∧ isT Γ G2 (co + 3) by0 tv ∧ isRd Γ G2 (co + 5) gv ∧ isV Γ G2 (co + 7) Dv ∧ isRw Γ G2 (co + 23) lf ∧ isGs Γ G2 (co + 25) vs ∧ isCh Γ G2 (co + 27) cv ∧ isV Γ G2 (co + 28) V ∧ isV Γ G2 (co + 44) J0 ∧ isV Γ G2 (co + 60) J1 ∧ fr G G2 (co + 0) (co + 76)) ∨ (∃ jk jw : Nat, (jk < V 1) ∧ (k = nI jk) ∧ (jw ≤ 6) ∧ (what = nI jw) ∧ (z = nI (sTold V jk jw)) ∧ isO Γ G2 co kp rf ∧ isT Γ G2 (co + 3) by0 tv ∧ isRd Γ G2 (co + 5) gv ∧ isV Γ G2 (co + 7) Dv ∧ isRw Γ G2 (co + 23) lf ∧ isGs Γ G2 (co + 25) vs ∧ isCh Γ G2 (co + 27) cv ∧ isV Γ G2 (co + 28) V ∧ isV Γ G2 (co + 44) J0 ∧ isV Γ G2 (co + 60) J1 ∧ fr G G2 (co + 0) (co + 76)))) 0 0 (wA Γ n) := by
  refine Met.ofW (cc := cX11_about) (maxL := 3) (ret := (some .int)) (by decide) rfl ?_
  intro p e s m args below meth c s₁ B hml hv
  obtain ⟨rfl, hw⟩ := hv
  have hx := B.exec
  have hb := B.bytes
  have hr := B.returns
  have hts := atoms_spec (ws := wsX11_about) B.pre
  have hown : s.vm.findClass RX11 = some m.cls := findClass_of_methodNamed B.named
  have hlocks := B.notSynchronized
  have hS : va_S (wA Γ n) s.heap s.heap [] := va_S.rf
  have hA : ∀ q, wA Γ n q → wA Γ n q := fun _ h => h
  have hl := lv_entry ([.ref (ad Γ (co + 0)), .int k, .int what]) (n := 3) (Nat.le_of_ble_eq_true rfl)
  rw [lg_entry_eq]
  generalize (lg_sl ([.ref (ad Γ (co + 0)), .int k, .int what]) ++ List.replicate (3 - (lg_sl ([.ref (ad Γ (co + 0)), .int k, .int what])).length) Slot.unset).toArray = ls at hl ⊢
  have hl : lv_has ls 3 [(0, .ref (ad Γ (co + 0))), (1, .int k), (2, .int what)] := hl
  have hfr := fr_rf G (co + 0) (co + 76)
  have hI := hG.1
  have hB := hI.1
  have hB0 := hI.2.1
  have hB1 := hI.2.2.1
  have hB20 := hI.2.2.2.2.2.2.2.2.2
  have hBz2 := hI.2.2.2.1
  have hBz3 := hI.2.2.2.2.1
  have hBz4 := hI.2.2.2.2.2.1
  have hBz5 := hI.2.2.2.2.2.2.1
  have hBd := hB 21
  refine lv_aload_n hx hb dX11_about_0 rfl (lv_at hl 0 rfl) ?_
  refine nr_get (own := RX11) (C := RX11) (T := TX11) (N := 11) (v := .ref (ad Γ (co + 28))) hx hb hts hi_X11_about_X11 hown hw (by omega) (isO_0 hO) rfl 0 (by decide) wl_X11_about_1 rfl rfl dX11_about_1 ?_
  refine lv_iload_n hx hb dX11_about_4 rfl (lv_at hl 1 rfl) ?_
  refine nr_goB (P := ∃ j, j < V 1 ∧ k = nI j) (nr_runV (As := [.int k]) (C := RX10) (T := TX10) (N := 15) ⟨hx, hb, hml, hown, hts⟩ hw (by omega) (isV_0 hV) rfl (c_X10_hasWrong l Γ n G (co + 28) V hV (by assumption) (by omega) k) (cwV 1 hts gX11_about_X10_hasWrong rfl rfl rfl (by decide +kernel) ⟨Nat.le_of_ble_eq_true rfl, Nat.le_of_ble_eq_true rfl⟩) rfl hl.1 rfl (Nat.le_of_ble_eq_true rfl) dX11_about_5 ⟨Nat.zero_le _, Nat.zero_le _⟩) (fun b1 => ?_) (fun b1 => ?_)
  · obtain ⟨jk, hjk, rfl⟩ := b1
    refine nr_if_eq (tgt := 21) hx hb (by decide) dX11_about_8 (by decide) (fun c2 => absurd c2 (by decide)) (fun c2 => ?_)
    refine lv_iload_n hx hb dX11_about_11 rfl (lv_at hl 2 rfl) ?_
    refine lv_iconst (v := nI 0) hx hb dX11_about_12 (by decide) ?_
    refine lv_bipush (v := nI 6) hx hb dX11_about_13 (by decide) ?_
    refine nr_goB (P := (nI 0) ≤ what ∧ what ≤ (nI 6)) (nr_runS (As := [.int what, .int (nI 0), .int (nI 6)]) ⟨hx, hb, hml, hown, hts⟩ hw (c_X11_within l Γ n G what (nI 0) (nI 6)) (va_cwS 3 hts gX11_about_X11_within rfl rfl rfl (by decide +kernel) ⟨Nat.le_of_ble_eq_true rfl, Nat.le_of_ble_eq_true rfl⟩) rfl hl.1 rfl (Nat.le_of_ble_eq_true rfl) dX11_about_15 ⟨Nat.zero_le _, Nat.zero_le _⟩) (fun b3 => ?_) (fun b3 => ?_)
    · obtain ⟨jw, hjwa, hjwb, rfl⟩ := (with_c (a := 0) (b := 6) (by first | decide | omega) (by first | decide | omega)).mp b3
      refine nr_if_ne (tgt := 26) hx hb (by decide) dX11_about_18 (by decide) (fun c4 => ?_) (fun c4 => absurd c4 (by decide))
      refine lv_aload_n hx hb dX11_about_26 rfl (lv_at hl 0 rfl) ?_
      refine nr_get (own := RX11) (C := RX11) (T := TX11) (N := 11) (v := .ref (ad Γ (co + 28))) hx hb hts hi_X11_about_X11 hown hw (by omega) (isO_0 hO) rfl 0 (by decide) wl_X11_about_1 rfl rfl dX11_about_27 ?_
      refine lv_iload_n hx hb dX11_about_30 rfl (lv_at hl 1 rfl) ?_
      refine lv_iload_n hx hb dX11_about_31 rfl (lv_at hl 2 rfl) ?_
      refine nr_goS (nr_runV (As := [.int (nI jk), .int (nI jw)]) (C := RX10) (T := TX10) (N := 15) ⟨hx, hb, hml, hown, hts⟩ hw (by omega) (isV_0 hV) rfl (c_X10_told l Γ n G (co + 28) V hV (by assumption) (by omega) jk jw (by omega) (by omega)) (cwV 2 hts gX11_about_X10_told rfl rfl rfl (by decide +kernel) ⟨Nat.le_of_ble_eq_true rfl, Nat.le_of_ble_eq_true rfl⟩) rfl hl.1 rfl (Nat.le_of_ble_eq_true rfl) dX11_about_32 ⟨Nat.zero_le _, Nat.zero_le _⟩) (fun r5 hr5 => ?_)
      obtain rfl : r5 = (nI (sTold V jk jw)) := hr5
      exact nr_retI hx hb hr hlocks hw hS (Or.inr (⟨jk, jw, hjk, rfl, hjwb, rfl, rfl, hO, hT, hRd, hD, hRw, hGs, hCh, hV, hP0, hP1, hfr⟩)) dX11_about_35
    · have b3n : ¬ vRng (0) (6) what := fun hh => b3 ((with_c (by first | decide | omega) (by first | decide | omega)).mpr hh)
      refine nr_if_ne (tgt := 26) hx hb (by decide) dX11_about_18 (by decide) (fun c6 => absurd c6 (by decide)) (fun c6 => ?_)
      refine lv_aload_n hx hb dX11_about_21 rfl (lv_at hl 0 rfl) ?_
      refine nr_goI (nr_runV (As := []) (C := RX11) (T := TX11) (N := 11) ⟨hx, hb, hml, hown, hts⟩ hw (by omega) (isO_0 hO) rfl (c_X11_bad l Γ n G co kp rf hO (by omega) hj) (cwV 0 hts gX11_about_X11_bad rfl rfl rfl (by decide +kernel) ⟨Nat.le_of_ble_eq_true rfl, Nat.le_of_ble_eq_true rfl⟩) rfl hl.1 rfl (Nat.le_of_ble_eq_true rfl) dX11_about_22 ⟨Nat.zero_le _, Nat.zero_le _⟩) hw hA hS (fun z7 G7 H locs hp hw hS => ?_)
      obtain ⟨ha7, hO, hf7⟩ := hp
      have hT := isT_fr hT hf7 (by omega)
      have hRd := isRd_fr hRd hf7 (by omega)
      have hD := isV_fr hD hf7 (by omega)
      have hRw := isRw_fr hRw hf7 (by omega)
      have hGs := isGs_fr hGs hf7 (by omega)
      have hCh := isCh_fr hCh hf7 (by omega)
      have hV := isV_fr hV hf7 (by omega)
      have hP0 := isV_fr hP0 hf7 (by omega)
      have hP1 := isV_fr hP1 hf7 (by omega)
      have hfr := fr_tr hfr hf7 (by omega) (by omega)
      have hO : isO Γ G7 co kp (bmp rf 0) := hO
      subst ha7
      exact nr_retI hx hb hr hlocks hw hS (Or.inl ⟨by intro hh; first | contradiction | (obtain ⟨hq1, hq2⟩ := hh; first | contradiction | (obtain ⟨hq2, hq3⟩ := hq2; first | contradiction | (obtain ⟨hq3, hq4⟩ := hq3; first | contradiction | (obtain ⟨hq4, hq5⟩ := hq4; first | contradiction | (exact hq4 (congrArg nI (by assumption))))))), rfl, hO, hT, hRd, hD, hRw, hGs, hCh, hV, hP0, hP1, hfr⟩) dX11_about_25
  · refine nr_if_eq (tgt := 21) hx hb (by decide) dX11_about_8 (by decide) (fun c8 => ?_) (fun c8 => absurd c8 (by decide))
    refine lv_aload_n hx hb dX11_about_21 rfl (lv_at hl 0 rfl) ?_
    refine nr_goI (nr_runV (As := []) (C := RX11) (T := TX11) (N := 11) ⟨hx, hb, hml, hown, hts⟩ hw (by omega) (isO_0 hO) rfl (c_X11_bad l Γ n G co kp rf hO (by omega) hj) (cwV 0 hts gX11_about_X11_bad rfl rfl rfl (by decide +kernel) ⟨Nat.le_of_ble_eq_true rfl, Nat.le_of_ble_eq_true rfl⟩) rfl hl.1 rfl (Nat.le_of_ble_eq_true rfl) dX11_about_22 ⟨Nat.zero_le _, Nat.zero_le _⟩) hw hA hS (fun z9 G9 H locs hp hw hS => ?_)
    obtain ⟨ha9, hO, hf9⟩ := hp
    have hT := isT_fr hT hf9 (by omega)
    have hRd := isRd_fr hRd hf9 (by omega)
    have hD := isV_fr hD hf9 (by omega)
    have hRw := isRw_fr hRw hf9 (by omega)
    have hGs := isGs_fr hGs hf9 (by omega)
    have hCh := isCh_fr hCh hf9 (by omega)
    have hV := isV_fr hV hf9 (by omega)
    have hP0 := isV_fr hP0 hf9 (by omega)
    have hP1 := isV_fr hP1 hf9 (by omega)
    have hfr := fr_tr hfr hf9 (by omega) (by omega)
    have hO : isO Γ G9 co kp (bmp rf 0) := hO
    subst ha9
    exact nr_retI hx hb hr hlocks hw hS (Or.inl ⟨by intro hh; first | contradiction | (obtain ⟨hq1, hq2⟩ := hh; first | contradiction | (obtain ⟨hq2, hq3⟩ := hq2; first | contradiction | (obtain ⟨hq3, hq4⟩ := hq3; first | contradiction | (obtain ⟨hq4, hq5⟩ := hq4; first | contradiction | (exact hq4 (congrArg nI (by assumption))))))), rfl, hO, hT, hRd, hD, hRw, hGs, hCh, hV, hP0, hP1, hfr⟩) dX11_about_25
theorem wl_X11_may_1 : Cond.fieldLink RX11 10 "BellForgiven" "now" "LBellForgiven$Valley;" ∈ wsX11_may := List.mem_of_getElem? (i := 1) rfl
theorem hi_X11_may_X11 : ∀ w ∈ u_ws RX11 TX11 11, w ∈ wsX11_may := fun w h => (List.mem_cons_of_mem _ (List.mem_append_left _ (List.mem_append_right _ h)))
set_option maxHeartbeats 4000000 in
set_option maxRecDepth 100000 in
theorem c_X11_may (l : Launch) (Γ : Gam) (n : Nat) (G : Nat → va_E) (co : Nat) (kp rf by0 tv gv Dv lf vs cv V J0 J1 : Nat → Nat) (hO : isO Γ G co kp rf) (hT : isT Γ G (co + 3) by0 tv) (hRd : isRd Γ G (co + 5) gv) (hD : isV Γ G (co + 7) Dv) (hRw : isRw Γ G (co + 23) lf) (hGs : isGs Γ G (co + 25) vs) (hCh : isCh Γ G (co + 27) cv) (hV : isV Γ G (co + 28) V) (hP0 : isV Γ G (co + 44) J0) (hP1 : isV Γ G (co + 60) J1) (hn_co : co + 76 ≤ n) (hj : winj Γ n) (hG : vG V)  : Met l yX11_may wsX11_may ({ frames := 5, cells := 0, slots := 0, locals := 117 }) (va_Pc [.ref (ad Γ (co + 0))] (fun U => hw Γ n G U U.heap)) (wQi Γ n (fun z G2 => ((z = nI (bitsOf (fun k => could V k 0 0 0) (V 1))) ∧ isO Γ G2 co kp rf ∧ isT Γ G2 (co + 3) by0 tv ∧ isRd Γ G2 (co + 5) gv ∧ isV Γ G2 (co + 7) Dv ∧ isRw Γ G2 (co + 23) lf ∧ isGs Γ G2 (co + 25) vs ∧ isCh Γ G2 (co + 27) cv ∧ isV Γ G2 (co + 28) V ∧ isV Γ G2 (co + 44) J0 ∧ isV Γ G2 (co + 60) J1 ∧ fr G G2 (co + 0) (co + 76)))) 0 0 (wA Γ n) := by
  refine Met.ofW (cc := cX11_may) (maxL := 1) (ret := (some .int)) (by decide) rfl ?_
  intro p e s m args below meth c s₁ B hml hv
  obtain ⟨rfl, hw⟩ := hv
  have hx := B.exec
  have hb := B.bytes
  have hr := B.returns
  have hts := atoms_spec (ws := wsX11_may) B.pre
  have hown : s.vm.findClass RX11 = some m.cls := findClass_of_methodNamed B.named
  have hlocks := B.notSynchronized
  have hS : va_S (wA Γ n) s.heap s.heap [] := va_S.rf
  have hA : ∀ q, wA Γ n q → wA Γ n q := fun _ h => h
  have hl := lv_entry ([.ref (ad Γ (co + 0))]) (n := 1) (Nat.le_of_ble_eq_true rfl)
  rw [lg_entry_eq]
  generalize (lg_sl ([.ref (ad Γ (co + 0))]) ++ List.replicate (1 - (lg_sl ([.ref (ad Γ (co + 0))])).length) Slot.unset).toArray = ls at hl ⊢
  have hl : lv_has ls 1 [(0, .ref (ad Γ (co + 0)))] := hl
  have hfr := fr_rf G (co + 0) (co + 76)
  have hI := hG.1
  have hB := hI.1
  have hB0 := hI.2.1
  have hB1 := hI.2.2.1
  have hB20 := hI.2.2.2.2.2.2.2.2.2
  have hBz2 := hI.2.2.2.1
  have hBz3 := hI.2.2.2.2.1
  have hBz4 := hI.2.2.2.2.2.1
  have hBz5 := hI.2.2.2.2.2.2.1
  have hBd := hB 21
  refine lv_aload_n hx hb dX11_may_0 rfl (lv_at hl 0 rfl) ?_
  refine nr_get (own := RX11) (C := RX11) (T := TX11) (N := 11) (v := .ref (ad Γ (co + 28))) hx hb hts hi_X11_may_X11 hown hw (by omega) (isO_0 hO) rfl 0 (by decide) wl_X11_may_1 rfl rfl dX11_may_1 ?_
  refine nr_goS (nr_runS (As := [.ref (ad Γ (co + 28))]) ⟨hx, hb, hml, hown, hts⟩ hw (c_X8_possible l Γ n G (co + 28) V hV (by assumption) (by omega)) (va_cwS 1 hts gX11_may_X8_possible rfl rfl rfl (by decide +kernel) ⟨Nat.le_of_ble_eq_true rfl, Nat.le_of_ble_eq_true rfl⟩) rfl hl.1 rfl (Nat.le_of_ble_eq_true rfl) dX11_may_4 ⟨Nat.zero_le _, Nat.zero_le _⟩) (fun r1 hr1 => ?_)
  obtain rfl : r1 = (nI (bitsOf (fun k => could V k 0 0 0) (V 1))) := hr1
  exact nr_retI hx hb hr hlocks hw hS (⟨rfl, hO, hT, hRd, hD, hRw, hGs, hCh, hV, hP0, hP1, hfr⟩) dX11_may_7
theorem wl_X11_peal_1 : Cond.fieldLink RX11 10 "BellForgiven" "now" "LBellForgiven$Valley;" ∈ wsX11_peal := List.mem_of_getElem? (i := 1) rfl
theorem hi_X11_peal_X11 : ∀ w ∈ u_ws RX11 TX11 11, w ∈ wsX11_peal := fun w h => (List.mem_cons_of_mem _ (List.mem_append_left _ (List.mem_append_right _ h)))
set_option maxHeartbeats 4000000 in
set_option maxRecDepth 100000 in
theorem c_X11_peal (l : Launch) (Γ : Gam) (n : Nat) (G : Nat → va_E) (co : Nat) (kp rf by0 tv gv Dv lf vs cv V J0 J1 : Nat → Nat) (hO : isO Γ G co kp rf) (hT : isT Γ G (co + 3) by0 tv) (hRd : isRd Γ G (co + 5) gv) (hD : isV Γ G (co + 7) Dv) (hRw : isRw Γ G (co + 23) lf) (hGs : isGs Γ G (co + 25) vs) (hCh : isCh Γ G (co + 27) cv) (hV : isV Γ G (co + 28) V) (hP0 : isV Γ G (co + 44) J0) (hP1 : isV Γ G (co + 60) J1) (hn_co : co + 76 ≤ n) (hj : winj Γ n) (hG : vG V)  : Met l yX11_peal wsX11_peal ({ frames := 5, cells := 0, slots := 0, locals := 120 }) (va_Pc [.ref (ad Γ (co + 0))] (fun U => hw Γ n G U U.heap)) (wQi Γ n (fun z G2 => ((z = nI (clo V 0 (V 1))) ∧ isO Γ G2 co kp rf ∧ isT Γ G2 (co + 3) by0 tv ∧ isRd Γ G2 (co + 5) gv ∧ isV Γ G2 (co + 7) Dv ∧ isRw Γ G2 (co + 23) lf ∧ isGs Γ G2 (co + 25) vs ∧ isCh Γ G2 (co + 27) cv ∧ isV Γ G2 (co + 28) V ∧ isV Γ G2 (co + 44) J0 ∧ isV Γ G2 (co + 60) J1 ∧ fr G G2 (co + 0) (co + 76)))) 0 0 (wA Γ n) := by
  refine Met.ofW (cc := cX11_peal) (maxL := 1) (ret := (some .int)) (by decide) rfl ?_
  intro p e s m args below meth c s₁ B hml hv
  obtain ⟨rfl, hw⟩ := hv
  have hx := B.exec
  have hb := B.bytes
  have hr := B.returns
  have hts := atoms_spec (ws := wsX11_peal) B.pre
  have hown : s.vm.findClass RX11 = some m.cls := findClass_of_methodNamed B.named
  have hlocks := B.notSynchronized
  have hS : va_S (wA Γ n) s.heap s.heap [] := va_S.rf
  have hA : ∀ q, wA Γ n q → wA Γ n q := fun _ h => h
  have hl := lv_entry ([.ref (ad Γ (co + 0))]) (n := 1) (Nat.le_of_ble_eq_true rfl)
  rw [lg_entry_eq]
  generalize (lg_sl ([.ref (ad Γ (co + 0))]) ++ List.replicate (1 - (lg_sl ([.ref (ad Γ (co + 0))])).length) Slot.unset).toArray = ls at hl ⊢
  have hl : lv_has ls 1 [(0, .ref (ad Γ (co + 0)))] := hl
  have hfr := fr_rf G (co + 0) (co + 76)
  have hI := hG.1
  have hB := hI.1
  have hB0 := hI.2.1
  have hB1 := hI.2.2.1
  have hB20 := hI.2.2.2.2.2.2.2.2.2
  have hBz2 := hI.2.2.2.1
  have hBz3 := hI.2.2.2.2.1
  have hBz4 := hI.2.2.2.2.2.1
  have hBz5 := hI.2.2.2.2.2.2.1
  have hBd := hB 21
  refine lv_aload_n hx hb dX11_peal_0 rfl (lv_at hl 0 rfl) ?_
  refine nr_get (own := RX11) (C := RX11) (T := TX11) (N := 11) (v := .ref (ad Γ (co + 28))) hx hb hts hi_X11_peal_X11 hown hw (by omega) (isO_0 hO) rfl 0 (by decide) wl_X11_peal_1 rfl rfl dX11_peal_1 ?_
  refine lv_iconst (v := nI 0) hx hb dX11_peal_4 (by decide) ?_
  refine nr_goS (nr_runS (As := [.ref (ad Γ (co + 28)), .int (nI 0)]) ⟨hx, hb, hml, hown, hts⟩ hw (c_X8_allWithout l Γ n G (co + 28) V hV (by assumption) (by omega) 0 (by omega)) (va_cwS 2 hts gX11_peal_X8_allWithout rfl rfl rfl (by decide +kernel) ⟨Nat.le_of_ble_eq_true rfl, Nat.le_of_ble_eq_true rfl⟩) rfl hl.1 rfl (Nat.le_of_ble_eq_true rfl) dX11_peal_5 ⟨Nat.zero_le _, Nat.zero_le _⟩) (fun r1 hr1 => ?_)
  obtain rfl : r1 = (nI (clo V 0 (V 1))) := hr1
  exact nr_retI hx hb hr hlocks hw hS (⟨rfl, hO, hT, hRd, hD, hRw, hGs, hCh, hV, hP0, hP1, hfr⟩) dX11_peal_8
theorem wl_X11_when_1 : Cond.fieldLink RX11 10 "BellForgiven" "now" "LBellForgiven$Valley;" ∈ wsX11_when := List.mem_of_getElem? (i := 1) rfl
theorem hi_X11_when_X11 : ∀ w ∈ u_ws RX11 TX11 11, w ∈ wsX11_when := fun w h => (List.mem_cons_of_mem _ (List.mem_append_left _ (List.mem_append_right _ h)))
set_option maxHeartbeats 4000000 in
set_option maxRecDepth 100000 in
theorem c_X11_when (l : Launch) (Γ : Gam) (n : Nat) (G : Nat → va_E) (co : Nat) (kp rf by0 tv gv Dv lf vs cv V J0 J1 : Nat → Nat) (hO : isO Γ G co kp rf) (hT : isT Γ G (co + 3) by0 tv) (hRd : isRd Γ G (co + 5) gv) (hD : isV Γ G (co + 7) Dv) (hRw : isRw Γ G (co + 23) lf) (hGs : isGs Γ G (co + 25) vs) (hCh : isCh Γ G (co + 27) cv) (hV : isV Γ G (co + 28) V) (hP0 : isV Γ G (co + 44) J0) (hP1 : isV Γ G (co + 60) J1) (hn_co : co + 76 ≤ n) (hj : winj Γ n) (k : Int32) (hG : vG V)  : Met l yX11_when wsX11_when ({ frames := 5, cells := 0, slots := 0, locals := 117 }) (va_Pc [.ref (ad Γ (co + 0)), .int k] (fun U => hw Γ n G U U.heap)) (wQi Γ n (fun z G2 => ((¬ vBel (V 1) k) ∧ (z = -2) ∧ isO Γ G2 co kp (bmp rf 0) ∧ isT Γ G2 (co + 3) by0 tv ∧ isRd Γ G2 (co + 5) gv ∧ isV Γ G2 (co + 7) Dv ∧ isRw Γ G2 (co + 23) lf ∧ isGs Γ G2 (co + 25) vs ∧ isCh Γ G2 (co + 27) cv ∧ isV Γ G2 (co + 28) V ∧ isV Γ G2 (co + 44) J0 ∧ isV Γ G2 (co + 60) J1 ∧ fr G G2 (co + 0) (co + 76)) ∨ (∃ jk : Nat, (jk < V 1) ∧ (k = nI jk) ∧ (whenR V jk z) ∧ isO Γ G2 co kp rf ∧ isT Γ G2 (co + 3) by0 tv ∧ isRd Γ G2 (co + 5) gv ∧ isV Γ G2 (co + 7) Dv ∧ isRw Γ G2 (co + 23) lf ∧ isGs Γ G2 (co + 25) vs ∧ isCh Γ G2 (co + 27) cv ∧ isV Γ G2 (co + 28) V ∧ isV Γ G2 (co + 44) J0 ∧ isV Γ G2 (co + 60) J1 ∧ fr G G2 (co + 0) (co + 76)))) 0 0 (wA Γ n) := by
  refine Met.ofW (cc := cX11_when) (maxL := 2) (ret := (some .int)) (by decide) rfl ?_
  intro p e s m args below meth c s₁ B hml hv
  obtain ⟨rfl, hw⟩ := hv
  have hx := B.exec
  have hb := B.bytes
  have hr := B.returns
  have hts := atoms_spec (ws := wsX11_when) B.pre
  have hown : s.vm.findClass RX11 = some m.cls := findClass_of_methodNamed B.named
  have hlocks := B.notSynchronized
  have hS : va_S (wA Γ n) s.heap s.heap [] := va_S.rf
  have hA : ∀ q, wA Γ n q → wA Γ n q := fun _ h => h
  have hl := lv_entry ([.ref (ad Γ (co + 0)), .int k]) (n := 2) (Nat.le_of_ble_eq_true rfl)
  rw [lg_entry_eq]
  generalize (lg_sl ([.ref (ad Γ (co + 0)), .int k]) ++ List.replicate (2 - (lg_sl ([.ref (ad Γ (co + 0)), .int k])).length) Slot.unset).toArray = ls at hl ⊢
  have hl : lv_has ls 2 [(0, .ref (ad Γ (co + 0))), (1, .int k)] := hl
  have hfr := fr_rf G (co + 0) (co + 76)
  have hI := hG.1
  have hB := hI.1
  have hB0 := hI.2.1
  have hB1 := hI.2.2.1
  have hB20 := hI.2.2.2.2.2.2.2.2.2
  have hBz2 := hI.2.2.2.1
  have hBz3 := hI.2.2.2.2.1
  have hBz4 := hI.2.2.2.2.2.1
  have hBz5 := hI.2.2.2.2.2.2.1
  have hBd := hB 21
  refine lv_aload_n hx hb dX11_when_0 rfl (lv_at hl 0 rfl) ?_
  refine nr_get (own := RX11) (C := RX11) (T := TX11) (N := 11) (v := .ref (ad Γ (co + 28))) hx hb hts hi_X11_when_X11 hown hw (by omega) (isO_0 hO) rfl 0 (by decide) wl_X11_when_1 rfl rfl dX11_when_1 ?_
  refine lv_iload_n hx hb dX11_when_4 rfl (lv_at hl 1 rfl) ?_
  refine nr_goB (P := ∃ j, j < V 1 ∧ k = nI j) (nr_runV (As := [.int k]) (C := RX10) (T := TX10) (N := 15) ⟨hx, hb, hml, hown, hts⟩ hw (by omega) (isV_0 hV) rfl (c_X10_hasWrong l Γ n G (co + 28) V hV (by assumption) (by omega) k) (cwV 1 hts gX11_when_X10_hasWrong rfl rfl rfl (by decide +kernel) ⟨Nat.le_of_ble_eq_true rfl, Nat.le_of_ble_eq_true rfl⟩) rfl hl.1 rfl (Nat.le_of_ble_eq_true rfl) dX11_when_5 ⟨Nat.zero_le _, Nat.zero_le _⟩) (fun b1 => ?_) (fun b1 => ?_)
  · obtain ⟨jk, hjk, rfl⟩ := b1
    refine nr_if_eq (tgt := 22) hx hb (by decide) dX11_when_8 (by decide) (fun c2 => absurd c2 (by decide)) (fun c2 => ?_)
    refine lv_aload_n hx hb dX11_when_11 rfl (lv_at hl 0 rfl) ?_
    refine nr_get (own := RX11) (C := RX11) (T := TX11) (N := 11) (v := .ref (ad Γ (co + 28))) hx hb hts hi_X11_when_X11 hown hw (by omega) (isO_0 hO) rfl 0 (by decide) wl_X11_when_1 rfl rfl dX11_when_12 ?_
    refine lv_iload_n hx hb dX11_when_15 rfl (lv_at hl 1 rfl) ?_
    refine nr_goS (nr_runS (As := [.ref (ad Γ (co + 28)), .int (nI jk)]) ⟨hx, hb, hml, hown, hts⟩ hw (c_X8_daysUntil l Γ n G (co + 28) V hV (by assumption) (by omega) jk (by omega)) (va_cwS 2 hts gX11_when_X8_daysUntil rfl rfl rfl (by decide +kernel) ⟨Nat.le_of_ble_eq_true rfl, Nat.le_of_ble_eq_true rfl⟩) rfl hl.1 rfl (Nat.le_of_ble_eq_true rfl) dX11_when_16 ⟨Nat.zero_le _, Nat.zero_le _⟩) (fun r3 hr3 => ?_)
    refine lv_goto (tgt := 26) hx hb dX11_when_19 (by decide) ?_
    exact nr_retI hx hb hr hlocks hw hS (Or.inr (⟨jk, hjk, rfl, by first | rfl | assumption, hO, hT, hRd, hD, hRw, hGs, hCh, hV, hP0, hP1, hfr⟩)) dX11_when_26
  · refine nr_if_eq (tgt := 22) hx hb (by decide) dX11_when_8 (by decide) (fun c4 => ?_) (fun c4 => absurd c4 (by decide))
    refine lv_aload_n hx hb dX11_when_22 rfl (lv_at hl 0 rfl) ?_
    refine nr_goI (nr_runV (As := []) (C := RX11) (T := TX11) (N := 11) ⟨hx, hb, hml, hown, hts⟩ hw (by omega) (isO_0 hO) rfl (c_X11_bad l Γ n G co kp rf hO (by omega) hj) (cwV 0 hts gX11_when_X11_bad rfl rfl rfl (by decide +kernel) ⟨Nat.le_of_ble_eq_true rfl, Nat.le_of_ble_eq_true rfl⟩) rfl hl.1 rfl (Nat.le_of_ble_eq_true rfl) dX11_when_23 ⟨Nat.zero_le _, Nat.zero_le _⟩) hw hA hS (fun z5 G5 H locs hp hw hS => ?_)
    obtain ⟨ha5, hO, hf5⟩ := hp
    have hT := isT_fr hT hf5 (by omega)
    have hRd := isRd_fr hRd hf5 (by omega)
    have hD := isV_fr hD hf5 (by omega)
    have hRw := isRw_fr hRw hf5 (by omega)
    have hGs := isGs_fr hGs hf5 (by omega)
    have hCh := isCh_fr hCh hf5 (by omega)
    have hV := isV_fr hV hf5 (by omega)
    have hP0 := isV_fr hP0 hf5 (by omega)
    have hP1 := isV_fr hP1 hf5 (by omega)
    have hfr := fr_tr hfr hf5 (by omega) (by omega)
    have hO : isO Γ G5 co kp (bmp rf 0) := hO
    subst ha5
    exact nr_retI hx hb hr hlocks hw hS (Or.inl ⟨by assumption, rfl, hO, hT, hRd, hD, hRw, hGs, hCh, hV, hP0, hP1, hfr⟩) dX11_when_26
theorem wl_X11_hush_1 : Cond.fieldLink RX11 10 "BellForgiven" "now" "LBellForgiven$Valley;" ∈ wsX11_hush := List.mem_of_getElem? (i := 1) rfl
theorem hi_X11_hush_X11 : ∀ w ∈ u_ws RX11 TX11 11, w ∈ wsX11_hush := fun w h => (List.mem_cons_of_mem _ (List.mem_append_left _ (List.mem_append_right _ h)))
set_option maxHeartbeats 4000000 in
set_option maxRecDepth 100000 in
theorem c_X11_hush (l : Launch) (Γ : Gam) (n : Nat) (G : Nat → va_E) (co : Nat) (kp rf by0 tv gv Dv lf vs cv V J0 J1 : Nat → Nat) (hO : isO Γ G co kp rf) (hT : isT Γ G (co + 3) by0 tv) (hRd : isRd Γ G (co + 5) gv) (hD : isV Γ G (co + 7) Dv) (hRw : isRw Γ G (co + 23) lf) (hGs : isGs Γ G (co + 25) vs) (hCh : isCh Γ G (co + 27) cv) (hV : isV Γ G (co + 28) V) (hP0 : isV Γ G (co + 44) J0) (hP1 : isV Γ G (co + 60) J1) (hn_co : co + 76 ≤ n) (hj : winj Γ n) (k : Int32) (hG : vG V)  : Met l yX11_hush wsX11_hush ({ frames := 6, cells := 0, slots := 0, locals := 145 }) (va_Pc [.ref (ad Γ (co + 0)), .int k] (fun U => hw Γ n G U U.heap)) (wQi Γ n (fun z G2 => ((¬ vBel (V 1) k) ∧ (z = -2) ∧ isO Γ G2 co kp (bmp rf 0) ∧ isT Γ G2 (co + 3) by0 tv ∧ isRd Γ G2 (co + 5) gv ∧ isV Γ G2 (co + 7) Dv ∧ isRw Γ G2 (co + 23) lf ∧ isGs Γ G2 (co + 25) vs ∧ isCh Γ G2 (co + 27) cv ∧ isV Γ G2 (co + 28) V ∧ isV Γ G2 (co + 44) J0 ∧ isV Γ G2 (co + 60) J1 ∧ fr G G2 (co + 0) (co + 76)) ∨ (∃ jk : Nat, (jk < V 1) ∧ (k = nI jk) ∧ (silR V jk z) ∧ isO Γ G2 co kp rf ∧ isT Γ G2 (co + 3) by0 tv ∧ isRd Γ G2 (co + 5) gv ∧ isV Γ G2 (co + 7) Dv ∧ isRw Γ G2 (co + 23) lf ∧ isGs Γ G2 (co + 25) vs ∧ isCh Γ G2 (co + 27) cv ∧ isV Γ G2 (co + 28) V ∧ isV Γ G2 (co + 44) J0 ∧ isV Γ G2 (co + 60) J1 ∧ fr G G2 (co + 0) (co + 76)))) 0 0 (wA Γ n) := by
  refine Met.ofW (cc := cX11_hush) (maxL := 2) (ret := (some .int)) (by decide) rfl ?_
  intro p e s m args below meth c s₁ B hml hv
  obtain ⟨rfl, hw⟩ := hv
  have hx := B.exec
  have hb := B.bytes
  have hr := B.returns
  have hts := atoms_spec (ws := wsX11_hush) B.pre
  have hown : s.vm.findClass RX11 = some m.cls := findClass_of_methodNamed B.named
  have hlocks := B.notSynchronized
  have hS : va_S (wA Γ n) s.heap s.heap [] := va_S.rf
  have hA : ∀ q, wA Γ n q → wA Γ n q := fun _ h => h
  have hl := lv_entry ([.ref (ad Γ (co + 0)), .int k]) (n := 2) (Nat.le_of_ble_eq_true rfl)
  rw [lg_entry_eq]
  generalize (lg_sl ([.ref (ad Γ (co + 0)), .int k]) ++ List.replicate (2 - (lg_sl ([.ref (ad Γ (co + 0)), .int k])).length) Slot.unset).toArray = ls at hl ⊢
  have hl : lv_has ls 2 [(0, .ref (ad Γ (co + 0))), (1, .int k)] := hl
  have hfr := fr_rf G (co + 0) (co + 76)
  have hI := hG.1
  have hB := hI.1
  have hB0 := hI.2.1
  have hB1 := hI.2.2.1
  have hB20 := hI.2.2.2.2.2.2.2.2.2
  have hBz2 := hI.2.2.2.1
  have hBz3 := hI.2.2.2.2.1
  have hBz4 := hI.2.2.2.2.2.1
  have hBz5 := hI.2.2.2.2.2.2.1
  have hBd := hB 21
  refine lv_aload_n hx hb dX11_hush_0 rfl (lv_at hl 0 rfl) ?_
  refine nr_get (own := RX11) (C := RX11) (T := TX11) (N := 11) (v := .ref (ad Γ (co + 28))) hx hb hts hi_X11_hush_X11 hown hw (by omega) (isO_0 hO) rfl 0 (by decide) wl_X11_hush_1 rfl rfl dX11_hush_1 ?_
  refine lv_iload_n hx hb dX11_hush_4 rfl (lv_at hl 1 rfl) ?_
  refine nr_goB (P := ∃ j, j < V 1 ∧ k = nI j) (nr_runV (As := [.int k]) (C := RX10) (T := TX10) (N := 15) ⟨hx, hb, hml, hown, hts⟩ hw (by omega) (isV_0 hV) rfl (c_X10_hasWrong l Γ n G (co + 28) V hV (by assumption) (by omega) k) (cwV 1 hts gX11_hush_X10_hasWrong rfl rfl rfl (by decide +kernel) ⟨Nat.le_of_ble_eq_true rfl, Nat.le_of_ble_eq_true rfl⟩) rfl hl.1 rfl (Nat.le_of_ble_eq_true rfl) dX11_hush_5 ⟨Nat.zero_le _, Nat.zero_le _⟩) (fun b1 => ?_) (fun b1 => ?_)
  · obtain ⟨jk, hjk, rfl⟩ := b1
    refine nr_if_eq (tgt := 22) hx hb (by decide) dX11_hush_8 (by decide) (fun c2 => absurd c2 (by decide)) (fun c2 => ?_)
    refine lv_aload_n hx hb dX11_hush_11 rfl (lv_at hl 0 rfl) ?_
    refine nr_get (own := RX11) (C := RX11) (T := TX11) (N := 11) (v := .ref (ad Γ (co + 28))) hx hb hts hi_X11_hush_X11 hown hw (by omega) (isO_0 hO) rfl 0 (by decide) wl_X11_hush_1 rfl rfl dX11_hush_12 ?_
    refine lv_iload_n hx hb dX11_hush_15 rfl (lv_at hl 1 rfl) ?_
    refine nr_goS (nr_runS (As := [.ref (ad Γ (co + 28)), .int (nI jk)]) ⟨hx, hb, hml, hown, hts⟩ hw (c_X8_silence l Γ n G (co + 28) V hV (by assumption) (by omega) jk (by omega)) (va_cwS 2 hts gX11_hush_X8_silence rfl rfl rfl (by decide +kernel) ⟨Nat.le_of_ble_eq_true rfl, Nat.le_of_ble_eq_true rfl⟩) rfl hl.1 rfl (Nat.le_of_ble_eq_true rfl) dX11_hush_16 ⟨Nat.zero_le _, Nat.zero_le _⟩) (fun r3 hr3 => ?_)
    refine lv_goto (tgt := 26) hx hb dX11_hush_19 (by decide) ?_
    exact nr_retI hx hb hr hlocks hw hS (Or.inr (⟨jk, hjk, rfl, by first | rfl | assumption, hO, hT, hRd, hD, hRw, hGs, hCh, hV, hP0, hP1, hfr⟩)) dX11_hush_26
  · refine nr_if_eq (tgt := 22) hx hb (by decide) dX11_hush_8 (by decide) (fun c4 => ?_) (fun c4 => absurd c4 (by decide))
    refine lv_aload_n hx hb dX11_hush_22 rfl (lv_at hl 0 rfl) ?_
    refine nr_goI (nr_runV (As := []) (C := RX11) (T := TX11) (N := 11) ⟨hx, hb, hml, hown, hts⟩ hw (by omega) (isO_0 hO) rfl (c_X11_bad l Γ n G co kp rf hO (by omega) hj) (cwV 0 hts gX11_hush_X11_bad rfl rfl rfl (by decide +kernel) ⟨Nat.le_of_ble_eq_true rfl, Nat.le_of_ble_eq_true rfl⟩) rfl hl.1 rfl (Nat.le_of_ble_eq_true rfl) dX11_hush_23 ⟨Nat.zero_le _, Nat.zero_le _⟩) hw hA hS (fun z5 G5 H locs hp hw hS => ?_)
    obtain ⟨ha5, hO, hf5⟩ := hp
    have hT := isT_fr hT hf5 (by omega)
    have hRd := isRd_fr hRd hf5 (by omega)
    have hD := isV_fr hD hf5 (by omega)
    have hRw := isRw_fr hRw hf5 (by omega)
    have hGs := isGs_fr hGs hf5 (by omega)
    have hCh := isCh_fr hCh hf5 (by omega)
    have hV := isV_fr hV hf5 (by omega)
    have hP0 := isV_fr hP0 hf5 (by omega)
    have hP1 := isV_fr hP1 hf5 (by omega)
    have hfr := fr_tr hfr hf5 (by omega) (by omega)
    have hO : isO Γ G5 co kp (bmp rf 0) := hO
    subst ha5
    exact nr_retI hx hb hr hlocks hw hS (Or.inl ⟨by assumption, rfl, hO, hT, hRd, hD, hRw, hGs, hCh, hV, hP0, hP1, hfr⟩) dX11_hush_26
theorem wl_X11_round_1 : Cond.fieldLink RX11 10 "BellForgiven" "now" "LBellForgiven$Valley;" ∈ wsX11_round := List.mem_of_getElem? (i := 1) rfl
theorem hi_X11_round_X11 : ∀ w ∈ u_ws RX11 TX11 11, w ∈ wsX11_round := fun w h => (List.mem_cons_of_mem _ (List.mem_append_left _ (List.mem_append_right _ h)))
set_option maxHeartbeats 4000000 in
set_option maxRecDepth 100000 in
theorem c_X11_round (l : Launch) (Γ : Gam) (n : Nat) (G : Nat → va_E) (co : Nat) (kp rf by0 tv gv Dv lf vs cv V J0 J1 : Nat → Nat) (hO : isO Γ G co kp rf) (hT : isT Γ G (co + 3) by0 tv) (hRd : isRd Γ G (co + 5) gv) (hD : isV Γ G (co + 7) Dv) (hRw : isRw Γ G (co + 23) lf) (hGs : isGs Γ G (co + 25) vs) (hCh : isCh Γ G (co + 27) cv) (hV : isV Γ G (co + 28) V) (hP0 : isV Γ G (co + 44) J0) (hP1 : isV Γ G (co + 60) J1) (hn_co : co + 76 ≤ n) (hj : winj Γ n) (k : Int32) (hG : vG V)  : Met l yX11_round wsX11_round ({ frames := 3, cells := 0, slots := 0, locals := 67 }) (va_Pc [.ref (ad Γ (co + 0)), .int k] (fun U => hw Γ n G U U.heap)) (wQi Γ n (fun z G2 => ((¬ vBel (V 0) k) ∧ (z = -2) ∧ isO Γ G2 co kp (bmp rf 0) ∧ isT Γ G2 (co + 3) by0 tv ∧ isRd Γ G2 (co + 5) gv ∧ isV Γ G2 (co + 7) Dv ∧ isRw Γ G2 (co + 23) lf ∧ isGs Γ G2 (co + 25) vs ∧ isCh Γ G2 (co + 27) cv ∧ isV Γ G2 (co + 28) V ∧ isV Γ G2 (co + 44) J0 ∧ isV Γ G2 (co + 60) J1 ∧ fr G G2 (co + 0) (co + 76)) ∨ (∃ jk : Nat, (jk < V 0) ∧ (k = nI jk) ∧ (ringR V jk (V 0) z) ∧ isO Γ G2 co kp rf ∧ isT Γ G2 (co + 3) by0 tv ∧ isRd Γ G2 (co + 5) gv ∧ isV Γ G2 (co + 7) Dv ∧ isRw Γ G2 (co + 23) lf ∧ isGs Γ G2 (co + 25) vs ∧ isCh Γ G2 (co + 27) cv ∧ isV Γ G2 (co + 28) V ∧ isV Γ G2 (co + 44) J0 ∧ isV Γ G2 (co + 60) J1 ∧ fr G G2 (co + 0) (co + 76)))) 0 0 (wA Γ n) := by
  refine Met.ofW (cc := cX11_round) (maxL := 2) (ret := (some .int)) (by decide) rfl ?_
  intro p e s m args below meth c s₁ B hml hv
  obtain ⟨rfl, hw⟩ := hv
  have hx := B.exec
  have hb := B.bytes
  have hr := B.returns
  have hts := atoms_spec (ws := wsX11_round) B.pre
  have hown : s.vm.findClass RX11 = some m.cls := findClass_of_methodNamed B.named
  have hlocks := B.notSynchronized
  have hS : va_S (wA Γ n) s.heap s.heap [] := va_S.rf
  have hA : ∀ q, wA Γ n q → wA Γ n q := fun _ h => h
  have hl := lv_entry ([.ref (ad Γ (co + 0)), .int k]) (n := 2) (Nat.le_of_ble_eq_true rfl)
  rw [lg_entry_eq]
  generalize (lg_sl ([.ref (ad Γ (co + 0)), .int k]) ++ List.replicate (2 - (lg_sl ([.ref (ad Γ (co + 0)), .int k])).length) Slot.unset).toArray = ls at hl ⊢
  have hl : lv_has ls 2 [(0, .ref (ad Γ (co + 0))), (1, .int k)] := hl
  have hfr := fr_rf G (co + 0) (co + 76)
  have hI := hG.1
  have hB := hI.1
  have hB0 := hI.2.1
  have hB1 := hI.2.2.1
  have hB20 := hI.2.2.2.2.2.2.2.2.2
  have hBz2 := hI.2.2.2.1
  have hBz3 := hI.2.2.2.2.1
  have hBz4 := hI.2.2.2.2.2.1
  have hBz5 := hI.2.2.2.2.2.2.1
  have hBd := hB 21
  refine lv_aload_n hx hb dX11_round_0 rfl (lv_at hl 0 rfl) ?_
  refine nr_get (own := RX11) (C := RX11) (T := TX11) (N := 11) (v := .ref (ad Γ (co + 28))) hx hb hts hi_X11_round_X11 hown hw (by omega) (isO_0 hO) rfl 0 (by decide) wl_X11_round_1 rfl rfl dX11_round_1 ?_
  refine lv_iload_n hx hb dX11_round_4 rfl (lv_at hl 1 rfl) ?_
  refine nr_goB (P := ∃ j, j < V 0 ∧ k = nI j) (nr_runV (As := [.int k]) (C := RX10) (T := TX10) (N := 15) ⟨hx, hb, hml, hown, hts⟩ hw (by omega) (isV_0 hV) rfl (c_X10_hasPerson l Γ n G (co + 28) V hV (by assumption) (by omega) k) (cwV 1 hts gX11_round_X10_hasPerson rfl rfl rfl (by decide +kernel) ⟨Nat.le_of_ble_eq_true rfl, Nat.le_of_ble_eq_true rfl⟩) rfl hl.1 rfl (Nat.le_of_ble_eq_true rfl) dX11_round_5 ⟨Nat.zero_le _, Nat.zero_le _⟩) (fun b1 => ?_) (fun b1 => ?_)
  · obtain ⟨jk, hjk, rfl⟩ := b1
    refine nr_if_eq (tgt := 22) hx hb (by decide) dX11_round_8 (by decide) (fun c2 => absurd c2 (by decide)) (fun c2 => ?_)
    refine lv_aload_n hx hb dX11_round_11 rfl (lv_at hl 0 rfl) ?_
    refine nr_get (own := RX11) (C := RX11) (T := TX11) (N := 11) (v := .ref (ad Γ (co + 28))) hx hb hts hi_X11_round_X11 hown hw (by omega) (isO_0 hO) rfl 0 (by decide) wl_X11_round_1 rfl rfl dX11_round_12 ?_
    refine lv_iload_n hx hb dX11_round_15 rfl (lv_at hl 1 rfl) ?_
    refine nr_goS (nr_runS (As := [.ref (ad Γ (co + 28)), .int (nI jk)]) ⟨hx, hb, hml, hown, hts⟩ hw (c_X8_ring l Γ n G (co + 28) V hV (by assumption) (by omega) jk (by omega)) (va_cwS 2 hts gX11_round_X8_ring rfl rfl rfl (by decide +kernel) ⟨Nat.le_of_ble_eq_true rfl, Nat.le_of_ble_eq_true rfl⟩) rfl hl.1 rfl (Nat.le_of_ble_eq_true rfl) dX11_round_16 ⟨Nat.zero_le _, Nat.zero_le _⟩) (fun r3 hr3 => ?_)
    refine lv_goto (tgt := 26) hx hb dX11_round_19 (by decide) ?_
    exact nr_retI hx hb hr hlocks hw hS (Or.inr (⟨jk, hjk, rfl, by first | rfl | assumption, hO, hT, hRd, hD, hRw, hGs, hCh, hV, hP0, hP1, hfr⟩)) dX11_round_26
  · refine nr_if_eq (tgt := 22) hx hb (by decide) dX11_round_8 (by decide) (fun c4 => ?_) (fun c4 => absurd c4 (by decide))
    refine lv_aload_n hx hb dX11_round_22 rfl (lv_at hl 0 rfl) ?_
    refine nr_goI (nr_runV (As := []) (C := RX11) (T := TX11) (N := 11) ⟨hx, hb, hml, hown, hts⟩ hw (by omega) (isO_0 hO) rfl (c_X11_bad l Γ n G co kp rf hO (by omega) hj) (cwV 0 hts gX11_round_X11_bad rfl rfl rfl (by decide +kernel) ⟨Nat.le_of_ble_eq_true rfl, Nat.le_of_ble_eq_true rfl⟩) rfl hl.1 rfl (Nat.le_of_ble_eq_true rfl) dX11_round_23 ⟨Nat.zero_le _, Nat.zero_le _⟩) hw hA hS (fun z5 G5 H locs hp hw hS => ?_)
    obtain ⟨ha5, hO, hf5⟩ := hp
    have hT := isT_fr hT hf5 (by omega)
    have hRd := isRd_fr hRd hf5 (by omega)
    have hD := isV_fr hD hf5 (by omega)
    have hRw := isRw_fr hRw hf5 (by omega)
    have hGs := isGs_fr hGs hf5 (by omega)
    have hCh := isCh_fr hCh hf5 (by omega)
    have hV := isV_fr hV hf5 (by omega)
    have hP0 := isV_fr hP0 hf5 (by omega)
    have hP1 := isV_fr hP1 hf5 (by omega)
    have hfr := fr_tr hfr hf5 (by omega) (by omega)
    have hO : isO Γ G5 co kp (bmp rf 0) := hO
    subst ha5
    exact nr_retI hx hb hr hlocks hw hS (Or.inl ⟨by assumption, rfl, hO, hT, hRd, hD, hRw, hGs, hCh, hV, hP0, hP1, hfr⟩) dX11_round_26
theorem wl_X11_tell_1 : Cond.fieldLink RX11 10 "BellForgiven" "now" "LBellForgiven$Valley;" ∈ wsX11_tell := List.mem_of_getElem? (i := 1) rfl
theorem hi_X11_tell_X11 : ∀ w ∈ u_ws RX11 TX11 11, w ∈ wsX11_tell := fun w h => (List.mem_cons_of_mem _ (List.mem_append_left _ (List.mem_append_left _ (List.mem_append_right _ h))))
set_option maxHeartbeats 4000000 in
set_option maxRecDepth 100000 in
theorem c_X11_tell (l : Launch) (Γ : Gam) (n : Nat) (G : Nat → va_E) (co : Nat) (kp rf by0 tv gv Dv lf vs cv V J0 J1 : Nat → Nat) (hO : isO Γ G co kp rf) (hT : isT Γ G (co + 3) by0 tv) (hRd : isRd Γ G (co + 5) gv) (hD : isV Γ G (co + 7) Dv) (hRw : isRw Γ G (co + 23) lf) (hGs : isGs Γ G (co + 25) vs) (hCh : isCh Γ G (co + 27) cv) (hV : isV Γ G (co + 28) V) (hP0 : isV Γ G (co + 44) J0) (hP1 : isV Γ G (co + 60) J1) (hn_co : co + 76 ≤ n) (hj : winj Γ n) (k : Int32) (hG : vG V)  : Met l yX11_tell wsX11_tell ({ frames := 5, cells := 0, slots := 0, locals := 120 }) (va_Pc [.ref (ad Γ (co + 0)), .int k] (fun U => hw Γ n G U U.heap)) (wQi Γ n (fun z G2 => ((¬ vBel (V 1) k) ∧ (z = -2) ∧ isO Γ G2 co kp (bmp rf 0) ∧ isT Γ G2 (co + 3) by0 tv ∧ isRd Γ G2 (co + 5) gv ∧ isV Γ G2 (co + 7) Dv ∧ isRw Γ G2 (co + 23) lf ∧ isGs Γ G2 (co + 25) vs ∧ isCh Γ G2 (co + 27) cv ∧ isV Γ G2 (co + 28) V ∧ isV Γ G2 (co + 44) J0 ∧ isV Γ G2 (co + 60) J1 ∧ fr G G2 (co + 0) (co + 76)) ∨ (∃ jk : Nat, (jk < V 1) ∧ (k = nI jk) ∧ (tellR V jk z) ∧ isO Γ G2 co kp rf ∧ isT Γ G2 (co + 3) by0 tv ∧ isRd Γ G2 (co + 5) gv ∧ isV Γ G2 (co + 7) Dv ∧ isRw Γ G2 (co + 23) lf ∧ isGs Γ G2 (co + 25) vs ∧ isCh Γ G2 (co + 27) cv ∧ isV Γ G2 (co + 28) V ∧ isV Γ G2 (co + 44) J0 ∧ isV Γ G2 (co + 60) J1 ∧ fr G G2 (co + 0) (co + 76)))) 0 0 (wA Γ n) := by
  refine Met.ofW (cc := cX11_tell) (maxL := 2) (ret := (some .int)) (by decide) rfl ?_
  intro p e s m args below meth c s₁ B hml hv
  obtain ⟨rfl, hw⟩ := hv
  have hx := B.exec
  have hb := B.bytes
  have hr := B.returns
  have hts := atoms_spec (ws := wsX11_tell) B.pre
  have hown : s.vm.findClass RX11 = some m.cls := findClass_of_methodNamed B.named
  have hlocks := B.notSynchronized
  have hS : va_S (wA Γ n) s.heap s.heap [] := va_S.rf
  have hA : ∀ q, wA Γ n q → wA Γ n q := fun _ h => h
  have hl := lv_entry ([.ref (ad Γ (co + 0)), .int k]) (n := 2) (Nat.le_of_ble_eq_true rfl)
  rw [lg_entry_eq]
  generalize (lg_sl ([.ref (ad Γ (co + 0)), .int k]) ++ List.replicate (2 - (lg_sl ([.ref (ad Γ (co + 0)), .int k])).length) Slot.unset).toArray = ls at hl ⊢
  have hl : lv_has ls 2 [(0, .ref (ad Γ (co + 0))), (1, .int k)] := hl
  have hfr := fr_rf G (co + 0) (co + 76)
  have hI := hG.1
  have hB := hI.1
  have hB0 := hI.2.1
  have hB1 := hI.2.2.1
  have hB20 := hI.2.2.2.2.2.2.2.2.2
  have hBz2 := hI.2.2.2.1
  have hBz3 := hI.2.2.2.2.1
  have hBz4 := hI.2.2.2.2.2.1
  have hBz5 := hI.2.2.2.2.2.2.1
  have hBd := hB 21
  refine lv_aload_n hx hb dX11_tell_0 rfl (lv_at hl 0 rfl) ?_
  refine nr_get (own := RX11) (C := RX11) (T := TX11) (N := 11) (v := .ref (ad Γ (co + 28))) hx hb hts hi_X11_tell_X11 hown hw (by omega) (isO_0 hO) rfl 0 (by decide) wl_X11_tell_1 rfl rfl dX11_tell_1 ?_
  refine lv_iload_n hx hb dX11_tell_4 rfl (lv_at hl 1 rfl) ?_
  refine nr_goB (P := ∃ j, j < V 1 ∧ k = nI j) (nr_runV (As := [.int k]) (C := RX10) (T := TX10) (N := 15) ⟨hx, hb, hml, hown, hts⟩ hw (by omega) (isV_0 hV) rfl (c_X10_hasWrong l Γ n G (co + 28) V hV (by assumption) (by omega) k) (cwV 1 hts gX11_tell_X10_hasWrong rfl rfl rfl (by decide +kernel) ⟨Nat.le_of_ble_eq_true rfl, Nat.le_of_ble_eq_true rfl⟩) rfl hl.1 rfl (Nat.le_of_ble_eq_true rfl) dX11_tell_5 ⟨Nat.zero_le _, Nat.zero_le _⟩) (fun b1 => ?_) (fun b1 => ?_)
  · obtain ⟨jk, hjk, rfl⟩ := b1
    refine nr_if_eq (tgt := 22) hx hb (by decide) dX11_tell_8 (by decide) (fun c2 => absurd c2 (by decide)) (fun c2 => ?_)
    refine lv_aload_n hx hb dX11_tell_11 rfl (lv_at hl 0 rfl) ?_
    refine nr_get (own := RX11) (C := RX11) (T := TX11) (N := 11) (v := .ref (ad Γ (co + 28))) hx hb hts hi_X11_tell_X11 hown hw (by omega) (isO_0 hO) rfl 0 (by decide) wl_X11_tell_1 rfl rfl dX11_tell_12 ?_
    refine lv_iload_n hx hb dX11_tell_15 rfl (lv_at hl 1 rfl) ?_
    refine nr_goS (nr_runS (As := [.ref (ad Γ (co + 28)), .int (nI jk)]) ⟨hx, hb, hml, hown, hts⟩ hw (c_X1_nextSight l Γ n G (co + 28) V hV (by assumption) (by omega) jk (by omega)) (va_cwS 2 hts gX11_tell_X1_nextSight rfl rfl rfl (by decide +kernel) ⟨Nat.le_of_ble_eq_true rfl, Nat.le_of_ble_eq_true rfl⟩) rfl hl.1 rfl (Nat.le_of_ble_eq_true rfl) dX11_tell_16 ⟨Nat.zero_le _, Nat.zero_le _⟩) (fun r3 hr3 => ?_)
    refine lv_goto (tgt := 26) hx hb dX11_tell_19 (by decide) ?_
    exact nr_retI hx hb hr hlocks hw hS (Or.inr (⟨jk, hjk, rfl, by first | rfl | assumption, hO, hT, hRd, hD, hRw, hGs, hCh, hV, hP0, hP1, hfr⟩)) dX11_tell_26
  · refine nr_if_eq (tgt := 22) hx hb (by decide) dX11_tell_8 (by decide) (fun c4 => ?_) (fun c4 => absurd c4 (by decide))
    refine lv_aload_n hx hb dX11_tell_22 rfl (lv_at hl 0 rfl) ?_
    refine nr_goI (nr_runV (As := []) (C := RX11) (T := TX11) (N := 11) ⟨hx, hb, hml, hown, hts⟩ hw (by omega) (isO_0 hO) rfl (c_X11_bad l Γ n G co kp rf hO (by omega) hj) (cwV 0 hts gX11_tell_X11_bad rfl rfl rfl (by decide +kernel) ⟨Nat.le_of_ble_eq_true rfl, Nat.le_of_ble_eq_true rfl⟩) rfl hl.1 rfl (Nat.le_of_ble_eq_true rfl) dX11_tell_23 ⟨Nat.zero_le _, Nat.zero_le _⟩) hw hA hS (fun z5 G5 H locs hp hw hS => ?_)
    obtain ⟨ha5, hO, hf5⟩ := hp
    have hT := isT_fr hT hf5 (by omega)
    have hRd := isRd_fr hRd hf5 (by omega)
    have hD := isV_fr hD hf5 (by omega)
    have hRw := isRw_fr hRw hf5 (by omega)
    have hGs := isGs_fr hGs hf5 (by omega)
    have hCh := isCh_fr hCh hf5 (by omega)
    have hV := isV_fr hV hf5 (by omega)
    have hP0 := isV_fr hP0 hf5 (by omega)
    have hP1 := isV_fr hP1 hf5 (by omega)
    have hfr := fr_tr hfr hf5 (by omega) (by omega)
    have hO : isO Γ G5 co kp (bmp rf 0) := hO
    subst ha5
    exact nr_retI hx hb hr hlocks hw hS (Or.inl ⟨by assumption, rfl, hO, hT, hRd, hD, hRw, hGs, hCh, hV, hP0, hP1, hfr⟩) dX11_tell_26
theorem wl_X11_is_1 : Cond.fieldLink RX11 10 "BellForgiven" "now" "LBellForgiven$Valley;" ∈ wsX11_is := List.mem_of_getElem? (i := 1) rfl
theorem hi_X11_is_X11 : ∀ w ∈ u_ws RX11 TX11 11, w ∈ wsX11_is := fun w h => (List.mem_cons_of_mem _ (List.mem_append_left _ (List.mem_append_left _ (List.mem_append_right _ h))))
set_option maxHeartbeats 4000000 in
set_option maxRecDepth 100000 in
theorem c_X11_is (l : Launch) (Γ : Gam) (n : Nat) (G : Nat → va_E) (co : Nat) (kp rf by0 tv gv Dv lf vs cv V J0 J1 : Nat → Nat) (hO : isO Γ G co kp rf) (hT : isT Γ G (co + 3) by0 tv) (hRd : isRd Γ G (co + 5) gv) (hD : isV Γ G (co + 7) Dv) (hRw : isRw Γ G (co + 23) lf) (hGs : isGs Γ G (co + 25) vs) (hCh : isCh Γ G (co + 27) cv) (hV : isV Γ G (co + 28) V) (hP0 : isV Γ G (co + 44) J0) (hP1 : isV Γ G (co + 60) J1) (hn_co : co + 76 ≤ n) (hj : winj Γ n) (k : Int32) (hG : vG V)  : Met l yX11_is wsX11_is ({ frames := 3, cells := 0, slots := 0, locals := 69 }) (va_Pc [.ref (ad Γ (co + 0)), .int k] (fun U => hw Γ n G U U.heap)) (wQi Γ n (fun z G2 => ((¬ vBel (V 1) k) ∧ (z = -2) ∧ isO Γ G2 co kp (bmp rf 0) ∧ isT Γ G2 (co + 3) by0 tv ∧ isRd Γ G2 (co + 5) gv ∧ isV Γ G2 (co + 7) Dv ∧ isRw Γ G2 (co + 23) lf ∧ isGs Γ G2 (co + 25) vs ∧ isCh Γ G2 (co + 27) cv ∧ isV Γ G2 (co + 28) V ∧ isV Γ G2 (co + 44) J0 ∧ isV Γ G2 (co + 60) J1 ∧ fr G G2 (co + 0) (co + 76)) ∨ (∃ jk : Nat, (jk < V 1) ∧ (k = nI jk) ∧ (z = nI (wkinds V jk)) ∧ isO Γ G2 co kp rf ∧ isT Γ G2 (co + 3) by0 tv ∧ isRd Γ G2 (co + 5) gv ∧ isV Γ G2 (co + 7) Dv ∧ isRw Γ G2 (co + 23) lf ∧ isGs Γ G2 (co + 25) vs ∧ isCh Γ G2 (co + 27) cv ∧ isV Γ G2 (co + 28) V ∧ isV Γ G2 (co + 44) J0 ∧ isV Γ G2 (co + 60) J1 ∧ fr G G2 (co + 0) (co + 76)))) 0 0 (wA Γ n) := by
  refine Met.ofW (cc := cX11_is) (maxL := 2) (ret := (some .int)) (by decide) rfl ?_
  intro p e s m args below meth c s₁ B hml hv
  obtain ⟨rfl, hw⟩ := hv
  have hx := B.exec
  have hb := B.bytes
  have hr := B.returns
  have hts := atoms_spec (ws := wsX11_is) B.pre
  have hown : s.vm.findClass RX11 = some m.cls := findClass_of_methodNamed B.named
  have hlocks := B.notSynchronized
  have hS : va_S (wA Γ n) s.heap s.heap [] := va_S.rf
  have hA : ∀ q, wA Γ n q → wA Γ n q := fun _ h => h
  have hl := lv_entry ([.ref (ad Γ (co + 0)), .int k]) (n := 2) (Nat.le_of_ble_eq_true rfl)
  rw [lg_entry_eq]
  generalize (lg_sl ([.ref (ad Γ (co + 0)), .int k]) ++ List.replicate (2 - (lg_sl ([.ref (ad Γ (co + 0)), .int k])).length) Slot.unset).toArray = ls at hl ⊢
  have hl : lv_has ls 2 [(0, .ref (ad Γ (co + 0))), (1, .int k)] := hl
  have hfr := fr_rf G (co + 0) (co + 76)
  have hI := hG.1
  have hB := hI.1
  have hB0 := hI.2.1
  have hB1 := hI.2.2.1
  have hB20 := hI.2.2.2.2.2.2.2.2.2
  have hBz2 := hI.2.2.2.1
  have hBz3 := hI.2.2.2.2.1
  have hBz4 := hI.2.2.2.2.2.1
  have hBz5 := hI.2.2.2.2.2.2.1
  have hBd := hB 21
  refine lv_aload_n hx hb dX11_is_0 rfl (lv_at hl 0 rfl) ?_
  refine nr_get (own := RX11) (C := RX11) (T := TX11) (N := 11) (v := .ref (ad Γ (co + 28))) hx hb hts hi_X11_is_X11 hown hw (by omega) (isO_0 hO) rfl 0 (by decide) wl_X11_is_1 rfl rfl dX11_is_1 ?_
  refine lv_iload_n hx hb dX11_is_4 rfl (lv_at hl 1 rfl) ?_
  refine nr_goB (P := ∃ j, j < V 1 ∧ k = nI j) (nr_runV (As := [.int k]) (C := RX10) (T := TX10) (N := 15) ⟨hx, hb, hml, hown, hts⟩ hw (by omega) (isV_0 hV) rfl (c_X10_hasWrong l Γ n G (co + 28) V hV (by assumption) (by omega) k) (cwV 1 hts gX11_is_X10_hasWrong rfl rfl rfl (by decide +kernel) ⟨Nat.le_of_ble_eq_true rfl, Nat.le_of_ble_eq_true rfl⟩) rfl hl.1 rfl (Nat.le_of_ble_eq_true rfl) dX11_is_5 ⟨Nat.zero_le _, Nat.zero_le _⟩) (fun b1 => ?_) (fun b1 => ?_)
  · obtain ⟨jk, hjk, rfl⟩ := b1
    refine nr_if_eq (tgt := 22) hx hb (by decide) dX11_is_8 (by decide) (fun c2 => absurd c2 (by decide)) (fun c2 => ?_)
    refine lv_aload_n hx hb dX11_is_11 rfl (lv_at hl 0 rfl) ?_
    refine nr_get (own := RX11) (C := RX11) (T := TX11) (N := 11) (v := .ref (ad Γ (co + 28))) hx hb hts hi_X11_is_X11 hown hw (by omega) (isO_0 hO) rfl 0 (by decide) wl_X11_is_1 rfl rfl dX11_is_12 ?_
    refine lv_iload_n hx hb dX11_is_15 rfl (lv_at hl 1 rfl) ?_
    refine nr_goS (nr_runS (As := [.ref (ad Γ (co + 28)), .int (nI jk)]) ⟨hx, hb, hml, hown, hts⟩ hw (c_X1_wrongKinds l Γ n G (co + 28) V hV (by assumption) (by omega) jk (by omega)) (va_cwS 2 hts gX11_is_X1_wrongKinds rfl rfl rfl (by decide +kernel) ⟨Nat.le_of_ble_eq_true rfl, Nat.le_of_ble_eq_true rfl⟩) rfl hl.1 rfl (Nat.le_of_ble_eq_true rfl) dX11_is_16 ⟨Nat.zero_le _, Nat.zero_le _⟩) (fun r3 hr3 => ?_)
    obtain rfl : r3 = (nI (wkinds V jk)) := hr3
    refine lv_goto (tgt := 26) hx hb dX11_is_19 (by decide) ?_
    exact nr_retI hx hb hr hlocks hw hS (Or.inr (⟨jk, hjk, rfl, by first | rfl | assumption, hO, hT, hRd, hD, hRw, hGs, hCh, hV, hP0, hP1, hfr⟩)) dX11_is_26
  · refine nr_if_eq (tgt := 22) hx hb (by decide) dX11_is_8 (by decide) (fun c4 => ?_) (fun c4 => absurd c4 (by decide))
    refine lv_aload_n hx hb dX11_is_22 rfl (lv_at hl 0 rfl) ?_
    refine nr_goI (nr_runV (As := []) (C := RX11) (T := TX11) (N := 11) ⟨hx, hb, hml, hown, hts⟩ hw (by omega) (isO_0 hO) rfl (c_X11_bad l Γ n G co kp rf hO (by omega) hj) (cwV 0 hts gX11_is_X11_bad rfl rfl rfl (by decide +kernel) ⟨Nat.le_of_ble_eq_true rfl, Nat.le_of_ble_eq_true rfl⟩) rfl hl.1 rfl (Nat.le_of_ble_eq_true rfl) dX11_is_23 ⟨Nat.zero_le _, Nat.zero_le _⟩) hw hA hS (fun z5 G5 H locs hp hw hS => ?_)
    obtain ⟨ha5, hO, hf5⟩ := hp
    have hT := isT_fr hT hf5 (by omega)
    have hRd := isRd_fr hRd hf5 (by omega)
    have hD := isV_fr hD hf5 (by omega)
    have hRw := isRw_fr hRw hf5 (by omega)
    have hGs := isGs_fr hGs hf5 (by omega)
    have hCh := isCh_fr hCh hf5 (by omega)
    have hV := isV_fr hV hf5 (by omega)
    have hP0 := isV_fr hP0 hf5 (by omega)
    have hP1 := isV_fr hP1 hf5 (by omega)
    have hfr := fr_tr hfr hf5 (by omega) (by omega)
    have hO : isO Γ G5 co kp (bmp rf 0) := hO
    subst ha5
    exact nr_retI hx hb hr hlocks hw hS (Or.inl ⟨by assumption, rfl, hO, hT, hRd, hD, hRw, hGs, hCh, hV, hP0, hP1, hfr⟩) dX11_is_26
theorem wl_X11_kinds_1 : Cond.fieldLink RX11 10 "BellForgiven" "now" "LBellForgiven$Valley;" ∈ wsX11_kinds := List.mem_of_getElem? (i := 1) rfl
theorem hi_X11_kinds_X11 : ∀ w ∈ u_ws RX11 TX11 11, w ∈ wsX11_kinds := fun w h => (List.mem_cons_of_mem _ (List.mem_append_left _ (List.mem_append_left _ (List.mem_append_right _ h))))
set_option maxHeartbeats 4000000 in
set_option maxRecDepth 100000 in
theorem c_X11_kinds (l : Launch) (Γ : Gam) (n : Nat) (G : Nat → va_E) (co : Nat) (kp rf by0 tv gv Dv lf vs cv V J0 J1 : Nat → Nat) (hO : isO Γ G co kp rf) (hT : isT Γ G (co + 3) by0 tv) (hRd : isRd Γ G (co + 5) gv) (hD : isV Γ G (co + 7) Dv) (hRw : isRw Γ G (co + 23) lf) (hGs : isGs Γ G (co + 25) vs) (hCh : isCh Γ G (co + 27) cv) (hV : isV Γ G (co + 28) V) (hP0 : isV Γ G (co + 44) J0) (hP1 : isV Γ G (co + 60) J1) (hn_co : co + 76 ≤ n) (hj : winj Γ n) (k : Int32) (hG : vG V)  : Met l yX11_kinds wsX11_kinds ({ frames := 3, cells := 0, slots := 0, locals := 70 }) (va_Pc [.ref (ad Γ (co + 0)), .int k] (fun U => hw Γ n G U U.heap)) (wQi Γ n (fun z G2 => ((¬ vBel (V 0) k) ∧ (z = -2) ∧ isO Γ G2 co kp (bmp rf 0) ∧ isT Γ G2 (co + 3) by0 tv ∧ isRd Γ G2 (co + 5) gv ∧ isV Γ G2 (co + 7) Dv ∧ isRw Γ G2 (co + 23) lf ∧ isGs Γ G2 (co + 25) vs ∧ isCh Γ G2 (co + 27) cv ∧ isV Γ G2 (co + 28) V ∧ isV Γ G2 (co + 44) J0 ∧ isV Γ G2 (co + 60) J1 ∧ fr G G2 (co + 0) (co + 76)) ∨ (∃ jk : Nat, (jk < V 0) ∧ (k = nI jk) ∧ (z = nI (pkinds V jk)) ∧ isO Γ G2 co kp rf ∧ isT Γ G2 (co + 3) by0 tv ∧ isRd Γ G2 (co + 5) gv ∧ isV Γ G2 (co + 7) Dv ∧ isRw Γ G2 (co + 23) lf ∧ isGs Γ G2 (co + 25) vs ∧ isCh Γ G2 (co + 27) cv ∧ isV Γ G2 (co + 28) V ∧ isV Γ G2 (co + 44) J0 ∧ isV Γ G2 (co + 60) J1 ∧ fr G G2 (co + 0) (co + 76)))) 0 0 (wA Γ n) := by
  refine Met.ofW (cc := cX11_kinds) (maxL := 2) (ret := (some .int)) (by decide) rfl ?_
  intro p e s m args below meth c s₁ B hml hv
  obtain ⟨rfl, hw⟩ := hv
  have hx := B.exec
  have hb := B.bytes
  have hr := B.returns
  have hts := atoms_spec (ws := wsX11_kinds) B.pre
  have hown : s.vm.findClass RX11 = some m.cls := findClass_of_methodNamed B.named
  have hlocks := B.notSynchronized
  have hS : va_S (wA Γ n) s.heap s.heap [] := va_S.rf
  have hA : ∀ q, wA Γ n q → wA Γ n q := fun _ h => h
  have hl := lv_entry ([.ref (ad Γ (co + 0)), .int k]) (n := 2) (Nat.le_of_ble_eq_true rfl)
  rw [lg_entry_eq]
  generalize (lg_sl ([.ref (ad Γ (co + 0)), .int k]) ++ List.replicate (2 - (lg_sl ([.ref (ad Γ (co + 0)), .int k])).length) Slot.unset).toArray = ls at hl ⊢
  have hl : lv_has ls 2 [(0, .ref (ad Γ (co + 0))), (1, .int k)] := hl
  have hfr := fr_rf G (co + 0) (co + 76)
  have hI := hG.1
  have hB := hI.1
  have hB0 := hI.2.1
  have hB1 := hI.2.2.1
  have hB20 := hI.2.2.2.2.2.2.2.2.2
  have hBz2 := hI.2.2.2.1
  have hBz3 := hI.2.2.2.2.1
  have hBz4 := hI.2.2.2.2.2.1
  have hBz5 := hI.2.2.2.2.2.2.1
  have hBd := hB 21
  refine lv_aload_n hx hb dX11_kinds_0 rfl (lv_at hl 0 rfl) ?_
  refine nr_get (own := RX11) (C := RX11) (T := TX11) (N := 11) (v := .ref (ad Γ (co + 28))) hx hb hts hi_X11_kinds_X11 hown hw (by omega) (isO_0 hO) rfl 0 (by decide) wl_X11_kinds_1 rfl rfl dX11_kinds_1 ?_
  refine lv_iload_n hx hb dX11_kinds_4 rfl (lv_at hl 1 rfl) ?_
  refine nr_goB (P := ∃ j, j < V 0 ∧ k = nI j) (nr_runV (As := [.int k]) (C := RX10) (T := TX10) (N := 15) ⟨hx, hb, hml, hown, hts⟩ hw (by omega) (isV_0 hV) rfl (c_X10_hasPerson l Γ n G (co + 28) V hV (by assumption) (by omega) k) (cwV 1 hts gX11_kinds_X10_hasPerson rfl rfl rfl (by decide +kernel) ⟨Nat.le_of_ble_eq_true rfl, Nat.le_of_ble_eq_true rfl⟩) rfl hl.1 rfl (Nat.le_of_ble_eq_true rfl) dX11_kinds_5 ⟨Nat.zero_le _, Nat.zero_le _⟩) (fun b1 => ?_) (fun b1 => ?_)
  · obtain ⟨jk, hjk, rfl⟩ := b1
    refine nr_if_eq (tgt := 22) hx hb (by decide) dX11_kinds_8 (by decide) (fun c2 => absurd c2 (by decide)) (fun c2 => ?_)
    refine lv_aload_n hx hb dX11_kinds_11 rfl (lv_at hl 0 rfl) ?_
    refine nr_get (own := RX11) (C := RX11) (T := TX11) (N := 11) (v := .ref (ad Γ (co + 28))) hx hb hts hi_X11_kinds_X11 hown hw (by omega) (isO_0 hO) rfl 0 (by decide) wl_X11_kinds_1 rfl rfl dX11_kinds_12 ?_
    refine lv_iload_n hx hb dX11_kinds_15 rfl (lv_at hl 1 rfl) ?_
    refine nr_goS (nr_runS (As := [.ref (ad Γ (co + 28)), .int (nI jk)]) ⟨hx, hb, hml, hown, hts⟩ hw (c_X1_peopleKinds l Γ n G (co + 28) V hV (by assumption) (by omega) jk (by omega)) (va_cwS 2 hts gX11_kinds_X1_peopleKinds rfl rfl rfl (by decide +kernel) ⟨Nat.le_of_ble_eq_true rfl, Nat.le_of_ble_eq_true rfl⟩) rfl hl.1 rfl (Nat.le_of_ble_eq_true rfl) dX11_kinds_16 ⟨Nat.zero_le _, Nat.zero_le _⟩) (fun r3 hr3 => ?_)
    obtain rfl : r3 = (nI (pkinds V jk)) := hr3
    refine lv_goto (tgt := 26) hx hb dX11_kinds_19 (by decide) ?_
    exact nr_retI hx hb hr hlocks hw hS (Or.inr (⟨jk, hjk, rfl, by first | rfl | assumption, hO, hT, hRd, hD, hRw, hGs, hCh, hV, hP0, hP1, hfr⟩)) dX11_kinds_26
  · refine nr_if_eq (tgt := 22) hx hb (by decide) dX11_kinds_8 (by decide) (fun c4 => ?_) (fun c4 => absurd c4 (by decide))
    refine lv_aload_n hx hb dX11_kinds_22 rfl (lv_at hl 0 rfl) ?_
    refine nr_goI (nr_runV (As := []) (C := RX11) (T := TX11) (N := 11) ⟨hx, hb, hml, hown, hts⟩ hw (by omega) (isO_0 hO) rfl (c_X11_bad l Γ n G co kp rf hO (by omega) hj) (cwV 0 hts gX11_kinds_X11_bad rfl rfl rfl (by decide +kernel) ⟨Nat.le_of_ble_eq_true rfl, Nat.le_of_ble_eq_true rfl⟩) rfl hl.1 rfl (Nat.le_of_ble_eq_true rfl) dX11_kinds_23 ⟨Nat.zero_le _, Nat.zero_le _⟩) hw hA hS (fun z5 G5 H locs hp hw hS => ?_)
    obtain ⟨ha5, hO, hf5⟩ := hp
    have hT := isT_fr hT hf5 (by omega)
    have hRd := isRd_fr hRd hf5 (by omega)
    have hD := isV_fr hD hf5 (by omega)
    have hRw := isRw_fr hRw hf5 (by omega)
    have hGs := isGs_fr hGs hf5 (by omega)
    have hCh := isCh_fr hCh hf5 (by omega)
    have hV := isV_fr hV hf5 (by omega)
    have hP0 := isV_fr hP0 hf5 (by omega)
    have hP1 := isV_fr hP1 hf5 (by omega)
    have hfr := fr_tr hfr hf5 (by omega) (by omega)
    have hO : isO Γ G5 co kp (bmp rf 0) := hO
    subst ha5
    exact nr_retI hx hb hr hlocks hw hS (Or.inl ⟨by assumption, rfl, hO, hT, hRd, hD, hRw, hGs, hCh, hV, hP0, hP1, hfr⟩) dX11_kinds_26
theorem wl_X11_seen_1 : Cond.fieldLink RX11 10 "BellForgiven" "now" "LBellForgiven$Valley;" ∈ wsX11_seen := List.mem_of_getElem? (i := 1) rfl
theorem wl_X11_seen_2 : Cond.fieldLink RX11 188 "BellForgiven$Valley" "seen" "LBellForgiven$Rows;" ∈ wsX11_seen := List.mem_of_getElem? (i := 2) rfl
theorem hi_X11_seen_X11 : ∀ w ∈ u_ws RX11 TX11 11, w ∈ wsX11_seen := fun w h => (List.mem_cons_of_mem _ (List.mem_append_left _ (List.mem_append_left _ (List.mem_append_right _ h))))
theorem hi_X11_seen_X10 : ∀ w ∈ u_ws RX10 TX10 15, w ∈ wsX11_seen := fun w h => (List.mem_cons_of_mem _ (List.mem_append_left _ (List.mem_append_right _ h)))
set_option maxHeartbeats 4000000 in
set_option maxRecDepth 100000 in
theorem c_X11_seen (l : Launch) (Γ : Gam) (n : Nat) (G : Nat → va_E) (co : Nat) (kp rf by0 tv gv Dv lf vs cv V J0 J1 : Nat → Nat) (hO : isO Γ G co kp rf) (hT : isT Γ G (co + 3) by0 tv) (hRd : isRd Γ G (co + 5) gv) (hD : isV Γ G (co + 7) Dv) (hRw : isRw Γ G (co + 23) lf) (hGs : isGs Γ G (co + 25) vs) (hCh : isCh Γ G (co + 27) cv) (hV : isV Γ G (co + 28) V) (hP0 : isV Γ G (co + 44) J0) (hP1 : isV Γ G (co + 60) J1) (hn_co : co + 76 ≤ n) (hj : winj Γ n) (k d lm off : Int32) (hG : vG V)  : Met l yX11_seen wsX11_seen ({ frames := 2, cells := 0, slots := 0, locals := 43 }) (va_Pc [.ref (ad Γ (co + 0)), .int k, .int d, .int lm, .int off] (fun U => hw Γ n G U U.heap)) (wQi Γ n (fun z G2 => ((¬ (vBel (V 1) k ∧ vRng 0 99 d ∧ vRng 0 40 lm ∧ vRng 0 1 off)) ∧ (z = -2) ∧ isO Γ G2 co kp (bmp rf 0) ∧ isT Γ G2 (co + 3) by0 tv ∧ isRd Γ G2 (co + 5) gv ∧ isV Γ G2 (co + 7) Dv ∧ isRw Γ G2 (co + 23) lf ∧ isGs Γ G2 (co + 25) vs ∧ isCh Γ G2 (co + 27) cv ∧ isV Γ G2 (co + 28) V ∧ isV Γ G2 (co + 44) J0 ∧ isV Γ G2 (co + 60) J1 ∧ fr G G2 (co + 0) (co + 76)) ∨ ((vBel (V 1) k ∧ vRng 0 99 d ∧ vRng 0 40 lm ∧ vRng 0 1 off) ∧ (V 2 = 5) ∧ (z = -4) ∧ isO Γ G2 co kp (bmp rf 2) ∧ isT Γ G2 (co + 3) by0 tv ∧ isRd Γ G2 (co + 5) gv ∧ isV Γ G2 (co + 7) Dv ∧ isRw Γ G2 (co + 23) lf ∧ isGs Γ G2 (co + 25) vs ∧ isCh Γ G2 (co + 27) cv ∧ isV Γ G2 (co + 28) V ∧ isV Γ G2 (co + 44) J0 ∧ isV Γ G2 (co + 60) J1 ∧ fr G G2 (co + 0) (co + 76)) ∨ (∃ jk jd jlm joff : Nat, (jk < V 1) ∧ (k = nI jk) ∧ (0 ≤ jd) ∧ (jd ≤ 99) ∧ (d = nI jd) ∧ (0 ≤ jlm) ∧ (jlm ≤ 40) ∧ (lm = nI jlm) ∧ (0 ≤ joff) ∧ (joff ≤ 1) ∧ (off = nI joff) ∧ (¬ V 2 = 5) ∧ (z = nI (V 2 + 1)) ∧ isO Γ G2 co kp rf ∧ isT Γ G2 (co + 3) by0 tv ∧ isRd Γ G2 (co + 5) gv ∧ isV Γ G2 (co + 7) Dv ∧ isRw Γ G2 (co + 23) lf ∧ isGs Γ G2 (co + 25) vs ∧ isCh Γ G2 (co + 27) cv ∧ isV Γ G2 (co + 28) (addV V 2 60 jk jd jlm joff) ∧ isV Γ G2 (co + 44) J0 ∧ isV Γ G2 (co + 60) J1 ∧ fr G G2 (co + 0) (co + 76)))) 0 0 (wA Γ n) := by
  refine Met.ofW (cc := cX11_seen) (maxL := 5) (ret := (some .int)) (by decide) rfl ?_
  intro p e s m args below meth c s₁ B hml hv
  obtain ⟨rfl, hw⟩ := hv
  have hx := B.exec
  have hb := B.bytes
  have hr := B.returns
  have hts := atoms_spec (ws := wsX11_seen) B.pre
  have hown : s.vm.findClass RX11 = some m.cls := findClass_of_methodNamed B.named
  have hlocks := B.notSynchronized
  have hS : va_S (wA Γ n) s.heap s.heap [] := va_S.rf
  have hA : ∀ q, wA Γ n q → wA Γ n q := fun _ h => h
  have hl := lv_entry ([.ref (ad Γ (co + 0)), .int k, .int d, .int lm, .int off]) (n := 5) (Nat.le_of_ble_eq_true rfl)
  rw [lg_entry_eq]
  generalize (lg_sl ([.ref (ad Γ (co + 0)), .int k, .int d, .int lm, .int off]) ++ List.replicate (5 - (lg_sl ([.ref (ad Γ (co + 0)), .int k, .int d, .int lm, .int off])).length) Slot.unset).toArray = ls at hl ⊢
  have hl : lv_has ls 5 [(0, .ref (ad Γ (co + 0))), (1, .int k), (2, .int d), (3, .int lm), (4, .int off)] := hl
  have hfr := fr_rf G (co + 0) (co + 76)
  have hI := hG.1
  have hB := hI.1
  have hB0 := hI.2.1
  have hB1 := hI.2.2.1
  have hB20 := hI.2.2.2.2.2.2.2.2.2
  have hBz2 := hI.2.2.2.1
  have hBz3 := hI.2.2.2.2.1
  have hBz4 := hI.2.2.2.2.2.1
  have hBz5 := hI.2.2.2.2.2.2.1
  have hBd := hB 21
  refine lv_aload_n hx hb dX11_seen_0 rfl (lv_at hl 0 rfl) ?_
  refine nr_get (own := RX11) (C := RX11) (T := TX11) (N := 11) (v := .ref (ad Γ (co + 28))) hx hb hts hi_X11_seen_X11 hown hw (by omega) (isO_0 hO) rfl 0 (by decide) wl_X11_seen_1 rfl rfl dX11_seen_1 ?_
  refine lv_iload_n hx hb dX11_seen_4 rfl (lv_at hl 1 rfl) ?_
  refine nr_goB (P := ∃ j, j < V 1 ∧ k = nI j) (nr_runV (As := [.int k]) (C := RX10) (T := TX10) (N := 15) ⟨hx, hb, hml, hown, hts⟩ hw (by omega) (isV_0 hV) rfl (c_X10_hasWrong l Γ n G (co + 28) V hV (by assumption) (by omega) k) (cwV 1 hts gX11_seen_X10_hasWrong rfl rfl rfl (by decide +kernel) ⟨Nat.le_of_ble_eq_true rfl, Nat.le_of_ble_eq_true rfl⟩) rfl hl.1 rfl (Nat.le_of_ble_eq_true rfl) dX11_seen_5 ⟨Nat.zero_le _, Nat.zero_le _⟩) (fun b1 => ?_) (fun b1 => ?_)
  · obtain ⟨jk, hjk, rfl⟩ := b1
    refine nr_if_eq (tgt := 41) hx hb (by decide) dX11_seen_8 (by decide) (fun c2 => absurd c2 (by decide)) (fun c2 => ?_)
    refine lv_iload_n hx hb dX11_seen_11 rfl (lv_at hl 2 rfl) ?_
    refine lv_iconst (v := nI 0) hx hb dX11_seen_12 (by decide) ?_
    refine lv_bipush (v := nI 99) hx hb dX11_seen_13 (by decide) ?_
    refine nr_goB (P := (nI 0) ≤ d ∧ d ≤ (nI 99)) (nr_runS (As := [.int d, .int (nI 0), .int (nI 99)]) ⟨hx, hb, hml, hown, hts⟩ hw (c_X11_within l Γ n G d (nI 0) (nI 99)) (va_cwS 3 hts gX11_seen_X11_within rfl rfl rfl (by decide +kernel) ⟨Nat.le_of_ble_eq_true rfl, Nat.le_of_ble_eq_true rfl⟩) rfl hl.1 rfl (Nat.le_of_ble_eq_true rfl) dX11_seen_15 ⟨Nat.zero_le _, Nat.zero_le _⟩) (fun b3 => ?_) (fun b3 => ?_)
    · obtain ⟨jd, hjda, hjdb, rfl⟩ := (with_c (a := 0) (b := 99) (by first | decide | omega) (by first | decide | omega)).mp b3
      refine nr_if_eq (tgt := 41) hx hb (by decide) dX11_seen_18 (by decide) (fun c4 => absurd c4 (by decide)) (fun c4 => ?_)
      refine lv_iload_n hx hb dX11_seen_21 rfl (lv_at hl 3 rfl) ?_
      refine lv_iconst (v := nI 0) hx hb dX11_seen_22 (by decide) ?_
      refine lv_bipush (v := nI 40) hx hb dX11_seen_23 (by decide) ?_
      refine nr_goB (P := (nI 0) ≤ lm ∧ lm ≤ (nI 40)) (nr_runS (As := [.int lm, .int (nI 0), .int (nI 40)]) ⟨hx, hb, hml, hown, hts⟩ hw (c_X11_within l Γ n G lm (nI 0) (nI 40)) (va_cwS 3 hts gX11_seen_X11_within rfl rfl rfl (by decide +kernel) ⟨Nat.le_of_ble_eq_true rfl, Nat.le_of_ble_eq_true rfl⟩) rfl hl.1 rfl (Nat.le_of_ble_eq_true rfl) dX11_seen_25 ⟨Nat.zero_le _, Nat.zero_le _⟩) (fun b5 => ?_) (fun b5 => ?_)
      · obtain ⟨jlm, hjlma, hjlmb, rfl⟩ := (with_c (a := 0) (b := 40) (by first | decide | omega) (by first | decide | omega)).mp b5
        refine nr_if_eq (tgt := 41) hx hb (by decide) dX11_seen_28 (by decide) (fun c6 => absurd c6 (by decide)) (fun c6 => ?_)
        refine lv_iload hx hb dX11_seen_31 (lv_at hl 4 rfl) ?_
        refine lv_iconst (v := nI 0) hx hb dX11_seen_33 (by decide) ?_
        refine lv_iconst (v := nI 1) hx hb dX11_seen_34 (by decide) ?_
        refine nr_goB (P := (nI 0) ≤ off ∧ off ≤ (nI 1)) (nr_runS (As := [.int off, .int (nI 0), .int (nI 1)]) ⟨hx, hb, hml, hown, hts⟩ hw (c_X11_within l Γ n G off (nI 0) (nI 1)) (va_cwS 3 hts gX11_seen_X11_within rfl rfl rfl (by decide +kernel) ⟨Nat.le_of_ble_eq_true rfl, Nat.le_of_ble_eq_true rfl⟩) rfl hl.1 rfl (Nat.le_of_ble_eq_true rfl) dX11_seen_35 ⟨Nat.zero_le _, Nat.zero_le _⟩) (fun b7 => ?_) (fun b7 => ?_)
        · obtain ⟨joff, hjoffa, hjoffb, rfl⟩ := (with_c (a := 0) (b := 1) (by first | decide | omega) (by first | decide | omega)).mp b7
          refine nr_if_ne (tgt := 46) hx hb (by decide) dX11_seen_38 (by decide) (fun c8 => ?_) (fun c8 => absurd c8 (by decide))
          refine lv_aload_n hx hb dX11_seen_46 rfl (lv_at hl 0 rfl) ?_
          refine nr_get (own := RX11) (C := RX11) (T := TX11) (N := 11) (v := .ref (ad Γ (co + 28))) hx hb hts hi_X11_seen_X11 hown hw (by omega) (isO_0 hO) rfl 0 (by decide) wl_X11_seen_1 rfl rfl dX11_seen_47 ?_
          refine nr_get (own := RX11) (C := RX10) (T := TX10) (N := 15) (v := .ref (ad Γ (co + 36))) hx hb hts hi_X11_seen_X10 hown hw (by omega) (isV_0 hV) rfl 11 (by decide) wl_X11_seen_2 rfl rfl dX11_seen_50 ?_
          refine nr_goB (P := 5 ≤ V 2) (nr_runV (As := []) (C := RX7) (T := TX7) (N := 3) ⟨hx, hb, hml, hown, hts⟩ hw (by omega) (isV_8 hV) rfl (c_X7_isFull l Γ n G (co + 36) (co + 40) 60 20 5 (V 2) V (isV_8 hV) (isV_12 hV) (by omega) (by omega) (show vI V from by assumption).1 (by decide) (by decide) (show vI V from by assumption).2.2.2.1 (by decide)) (cwV 0 hts gX11_seen_X7_isFull rfl rfl rfl (by decide +kernel) ⟨Nat.le_of_ble_eq_true rfl, Nat.le_of_ble_eq_true rfl⟩) rfl hl.1 rfl (Nat.le_of_ble_eq_true rfl) dX11_seen_53 ⟨Nat.zero_le _, Nat.zero_le _⟩) (fun b9 => ?_) (fun b9 => ?_)
          · refine nr_if_eq (tgt := 66) hx hb (by decide) dX11_seen_56 (by decide) (fun c10 => absurd c10 (by decide)) (fun c10 => ?_)
            refine lv_aload_n hx hb dX11_seen_59 rfl (lv_at hl 0 rfl) ?_
            refine nr_goI (nr_runV (As := []) (C := RX11) (T := TX11) (N := 11) ⟨hx, hb, hml, hown, hts⟩ hw (by omega) (isO_0 hO) rfl (c_X11_full l Γ n G co kp rf hO (by omega) hj) (cwV 0 hts gX11_seen_X11_full rfl rfl rfl (by decide +kernel) ⟨Nat.le_of_ble_eq_true rfl, Nat.le_of_ble_eq_true rfl⟩) rfl hl.1 rfl (Nat.le_of_ble_eq_true rfl) dX11_seen_60 ⟨Nat.zero_le _, Nat.zero_le _⟩) hw hA hS (fun z11 G11 H locs hp hw hS => ?_)
            obtain ⟨ha11, hO, hf11⟩ := hp
            have hT := isT_fr hT hf11 (by omega)
            have hRd := isRd_fr hRd hf11 (by omega)
            have hD := isV_fr hD hf11 (by omega)
            have hRw := isRw_fr hRw hf11 (by omega)
            have hGs := isGs_fr hGs hf11 (by omega)
            have hCh := isCh_fr hCh hf11 (by omega)
            have hV := isV_fr hV hf11 (by omega)
            have hP0 := isV_fr hP0 hf11 (by omega)
            have hP1 := isV_fr hP1 hf11 (by omega)
            have hfr := fr_tr hfr hf11 (by omega) (by omega)
            have hO : isO Γ G11 co kp (bmp rf 2) := hO
            subst ha11
            refine lv_goto (tgt := 81) hx hb dX11_seen_63 (by decide) ?_
            exact nr_retI hx hb hr hlocks hw hS (Or.inr (Or.inl ⟨⟨⟨jk, hjk, rfl⟩, ⟨jd, hjda, hjdb, rfl⟩, ⟨jlm, hjlma, hjlmb, rfl⟩, ⟨joff, hjoffa, hjoffb, rfl⟩⟩, by omega, rfl, hO, hT, hRd, hD, hRw, hGs, hCh, hV, hP0, hP1, hfr⟩)) dX11_seen_81
          · refine nr_if_eq (tgt := 66) hx hb (by decide) dX11_seen_56 (by decide) (fun c12 => ?_) (fun c12 => absurd c12 (by decide))
            refine lv_aload_n hx hb dX11_seen_66 rfl (lv_at hl 0 rfl) ?_
            refine nr_get (own := RX11) (C := RX11) (T := TX11) (N := 11) (v := .ref (ad Γ (co + 28))) hx hb hts hi_X11_seen_X11 hown hw (by omega) (isO_0 hO) rfl 0 (by decide) wl_X11_seen_1 rfl rfl dX11_seen_67 ?_
            refine nr_get (own := RX11) (C := RX10) (T := TX10) (N := 15) (v := .ref (ad Γ (co + 36))) hx hb hts hi_X11_seen_X10 hown hw (by omega) (isV_0 hV) rfl 11 (by decide) wl_X11_seen_2 rfl rfl dX11_seen_70 ?_
            refine lv_iload_n hx hb dX11_seen_73 rfl (lv_at hl 1 rfl) ?_
            refine lv_iload_n hx hb dX11_seen_74 rfl (lv_at hl 2 rfl) ?_
            refine lv_iload_n hx hb dX11_seen_75 rfl (lv_at hl 3 rfl) ?_
            refine lv_iload hx hb dX11_seen_76 (lv_at hl 4 rfl) ?_
            refine nr_goI (nr_runV (As := [.int (nI jk), .int (nI jd), .int (nI jlm), .int (nI joff)]) (C := RX7) (T := TX7) (N := 3) ⟨hx, hb, hml, hown, hts⟩ hw (by omega) (isV_8 hV) rfl (c_X7_add_r8 l Γ n G (co + 28) V hV (by omega) hj jk jd jlm joff hI (by omega)) (cwV 4 hts gX11_seen_X7_add rfl rfl rfl (by decide +kernel) ⟨Nat.le_of_ble_eq_true rfl, Nat.le_of_ble_eq_true rfl⟩) rfl hl.1 rfl (Nat.le_of_ble_eq_true rfl) dX11_seen_78 ⟨Nat.zero_le _, Nat.zero_le _⟩) hw hA hS (fun z13 G13 H locs hp hw hS => ?_)
            obtain ⟨ha13, hV, hf13⟩ := hp
            have hO := isO_fr hO hf13 (by omega)
            have hT := isT_fr hT hf13 (by omega)
            have hRd := isRd_fr hRd hf13 (by omega)
            have hD := isV_fr hD hf13 (by omega)
            have hRw := isRw_fr hRw hf13 (by omega)
            have hGs := isGs_fr hGs hf13 (by omega)
            have hCh := isCh_fr hCh hf13 (by omega)
            have hP0 := isV_fr hP0 hf13 (by omega)
            have hP1 := isV_fr hP1 hf13 (by omega)
            have hfr := fr_tr hfr hf13 (by omega) (by omega)
            have hV : isV Γ G13 (co + 28) (addV V 2 60 jk jd jlm joff) := hV
            subst ha13
            exact nr_retI hx hb hr hlocks hw hS (Or.inr (Or.inr (⟨jk, jd, jlm, joff, hjk, rfl, hjda, hjdb, rfl, hjlma, hjlmb, rfl, hjoffa, hjoffb, rfl, by omega, rfl, hO, hT, hRd, hD, hRw, hGs, hCh, hV, hP0, hP1, hfr⟩))) dX11_seen_81
        · have b7n : ¬ vRng (0) (1) off := fun hh => b7 ((with_c (by first | decide | omega) (by first | decide | omega)).mpr hh)
          refine nr_if_ne (tgt := 46) hx hb (by decide) dX11_seen_38 (by decide) (fun c14 => absurd c14 (by decide)) (fun c14 => ?_)
          refine lv_aload_n hx hb dX11_seen_41 rfl (lv_at hl 0 rfl) ?_
          refine nr_goI (nr_runV (As := []) (C := RX11) (T := TX11) (N := 11) ⟨hx, hb, hml, hown, hts⟩ hw (by omega) (isO_0 hO) rfl (c_X11_bad l Γ n G co kp rf hO (by omega) hj) (cwV 0 hts gX11_seen_X11_bad rfl rfl rfl (by decide +kernel) ⟨Nat.le_of_ble_eq_true rfl, Nat.le_of_ble_eq_true rfl⟩) rfl hl.1 rfl (Nat.le_of_ble_eq_true rfl) dX11_seen_42 ⟨Nat.zero_le _, Nat.zero_le _⟩) hw hA hS (fun z15 G15 H locs hp hw hS => ?_)
          obtain ⟨ha15, hO, hf15⟩ := hp
          have hT := isT_fr hT hf15 (by omega)
          have hRd := isRd_fr hRd hf15 (by omega)
          have hD := isV_fr hD hf15 (by omega)
          have hRw := isRw_fr hRw hf15 (by omega)
          have hGs := isGs_fr hGs hf15 (by omega)
          have hCh := isCh_fr hCh hf15 (by omega)
          have hV := isV_fr hV hf15 (by omega)
          have hP0 := isV_fr hP0 hf15 (by omega)
          have hP1 := isV_fr hP1 hf15 (by omega)
          have hfr := fr_tr hfr hf15 (by omega) (by omega)
          have hO : isO Γ G15 co kp (bmp rf 0) := hO
          subst ha15
          exact nr_retI hx hb hr hlocks hw hS (Or.inl ⟨by intro hh; first | contradiction | (obtain ⟨hq1, hq2⟩ := hh; first | contradiction | (obtain ⟨hq2, hq3⟩ := hq2; first | contradiction | (obtain ⟨hq3, hq4⟩ := hq3; first | contradiction | (obtain ⟨hq4, hq5⟩ := hq4; first | contradiction | (exact hq4 (congrArg nI (by assumption))))))), rfl, hO, hT, hRd, hD, hRw, hGs, hCh, hV, hP0, hP1, hfr⟩) dX11_seen_45
      · have b5n : ¬ vRng (0) (40) lm := fun hh => b5 ((with_c (by first | decide | omega) (by first | decide | omega)).mpr hh)
        refine nr_if_eq (tgt := 41) hx hb (by decide) dX11_seen_28 (by decide) (fun c16 => ?_) (fun c16 => absurd c16 (by decide))
        refine lv_aload_n hx hb dX11_seen_41 rfl (lv_at hl 0 rfl) ?_
        refine nr_goI (nr_runV (As := []) (C := RX11) (T := TX11) (N := 11) ⟨hx, hb, hml, hown, hts⟩ hw (by omega) (isO_0 hO) rfl (c_X11_bad l Γ n G co kp rf hO (by omega) hj) (cwV 0 hts gX11_seen_X11_bad rfl rfl rfl (by decide +kernel) ⟨Nat.le_of_ble_eq_true rfl, Nat.le_of_ble_eq_true rfl⟩) rfl hl.1 rfl (Nat.le_of_ble_eq_true rfl) dX11_seen_42 ⟨Nat.zero_le _, Nat.zero_le _⟩) hw hA hS (fun z17 G17 H locs hp hw hS => ?_)
        obtain ⟨ha17, hO, hf17⟩ := hp
        have hT := isT_fr hT hf17 (by omega)
        have hRd := isRd_fr hRd hf17 (by omega)
        have hD := isV_fr hD hf17 (by omega)
        have hRw := isRw_fr hRw hf17 (by omega)
        have hGs := isGs_fr hGs hf17 (by omega)
        have hCh := isCh_fr hCh hf17 (by omega)
        have hV := isV_fr hV hf17 (by omega)
        have hP0 := isV_fr hP0 hf17 (by omega)
        have hP1 := isV_fr hP1 hf17 (by omega)
        have hfr := fr_tr hfr hf17 (by omega) (by omega)
        have hO : isO Γ G17 co kp (bmp rf 0) := hO
        subst ha17
        exact nr_retI hx hb hr hlocks hw hS (Or.inl ⟨by intro hh; first | contradiction | (obtain ⟨hq1, hq2⟩ := hh; first | contradiction | (obtain ⟨hq2, hq3⟩ := hq2; first | contradiction | (obtain ⟨hq3, hq4⟩ := hq3; first | contradiction | (obtain ⟨hq4, hq5⟩ := hq4; first | contradiction | (exact hq4 (congrArg nI (by assumption))))))), rfl, hO, hT, hRd, hD, hRw, hGs, hCh, hV, hP0, hP1, hfr⟩) dX11_seen_45
    · have b3n : ¬ vRng (0) (99) d := fun hh => b3 ((with_c (by first | decide | omega) (by first | decide | omega)).mpr hh)
      refine nr_if_eq (tgt := 41) hx hb (by decide) dX11_seen_18 (by decide) (fun c18 => ?_) (fun c18 => absurd c18 (by decide))
      refine lv_aload_n hx hb dX11_seen_41 rfl (lv_at hl 0 rfl) ?_
      refine nr_goI (nr_runV (As := []) (C := RX11) (T := TX11) (N := 11) ⟨hx, hb, hml, hown, hts⟩ hw (by omega) (isO_0 hO) rfl (c_X11_bad l Γ n G co kp rf hO (by omega) hj) (cwV 0 hts gX11_seen_X11_bad rfl rfl rfl (by decide +kernel) ⟨Nat.le_of_ble_eq_true rfl, Nat.le_of_ble_eq_true rfl⟩) rfl hl.1 rfl (Nat.le_of_ble_eq_true rfl) dX11_seen_42 ⟨Nat.zero_le _, Nat.zero_le _⟩) hw hA hS (fun z19 G19 H locs hp hw hS => ?_)
      obtain ⟨ha19, hO, hf19⟩ := hp
      have hT := isT_fr hT hf19 (by omega)
      have hRd := isRd_fr hRd hf19 (by omega)
      have hD := isV_fr hD hf19 (by omega)
      have hRw := isRw_fr hRw hf19 (by omega)
      have hGs := isGs_fr hGs hf19 (by omega)
      have hCh := isCh_fr hCh hf19 (by omega)
      have hV := isV_fr hV hf19 (by omega)
      have hP0 := isV_fr hP0 hf19 (by omega)
      have hP1 := isV_fr hP1 hf19 (by omega)
      have hfr := fr_tr hfr hf19 (by omega) (by omega)
      have hO : isO Γ G19 co kp (bmp rf 0) := hO
      subst ha19
      exact nr_retI hx hb hr hlocks hw hS (Or.inl ⟨by intro hh; first | contradiction | (obtain ⟨hq1, hq2⟩ := hh; first | contradiction | (obtain ⟨hq2, hq3⟩ := hq2; first | contradiction | (obtain ⟨hq3, hq4⟩ := hq3; first | contradiction | (obtain ⟨hq4, hq5⟩ := hq4; first | contradiction | (exact hq4 (congrArg nI (by assumption))))))), rfl, hO, hT, hRd, hD, hRw, hGs, hCh, hV, hP0, hP1, hfr⟩) dX11_seen_45
  · refine nr_if_eq (tgt := 41) hx hb (by decide) dX11_seen_8 (by decide) (fun c20 => ?_) (fun c20 => absurd c20 (by decide))
    refine lv_aload_n hx hb dX11_seen_41 rfl (lv_at hl 0 rfl) ?_
    refine nr_goI (nr_runV (As := []) (C := RX11) (T := TX11) (N := 11) ⟨hx, hb, hml, hown, hts⟩ hw (by omega) (isO_0 hO) rfl (c_X11_bad l Γ n G co kp rf hO (by omega) hj) (cwV 0 hts gX11_seen_X11_bad rfl rfl rfl (by decide +kernel) ⟨Nat.le_of_ble_eq_true rfl, Nat.le_of_ble_eq_true rfl⟩) rfl hl.1 rfl (Nat.le_of_ble_eq_true rfl) dX11_seen_42 ⟨Nat.zero_le _, Nat.zero_le _⟩) hw hA hS (fun z21 G21 H locs hp hw hS => ?_)
    obtain ⟨ha21, hO, hf21⟩ := hp
    have hT := isT_fr hT hf21 (by omega)
    have hRd := isRd_fr hRd hf21 (by omega)
    have hD := isV_fr hD hf21 (by omega)
    have hRw := isRw_fr hRw hf21 (by omega)
    have hGs := isGs_fr hGs hf21 (by omega)
    have hCh := isCh_fr hCh hf21 (by omega)
    have hV := isV_fr hV hf21 (by omega)
    have hP0 := isV_fr hP0 hf21 (by omega)
    have hP1 := isV_fr hP1 hf21 (by omega)
    have hfr := fr_tr hfr hf21 (by omega) (by omega)
    have hO : isO Γ G21 co kp (bmp rf 0) := hO
    subst ha21
    exact nr_retI hx hb hr hlocks hw hS (Or.inl ⟨by intro hh; first | contradiction | (obtain ⟨hq1, hq2⟩ := hh; first | contradiction | (obtain ⟨hq2, hq3⟩ := hq2; first | contradiction | (obtain ⟨hq3, hq4⟩ := hq3; first | contradiction | (obtain ⟨hq4, hq5⟩ := hq4; first | contradiction | (exact hq4 (congrArg nI (by assumption))))))), rfl, hO, hT, hRd, hD, hRw, hGs, hCh, hV, hP0, hP1, hfr⟩) dX11_seen_45
theorem wl_X11_note_1 : Cond.fieldLink RX11 10 "BellForgiven" "now" "LBellForgiven$Valley;" ∈ wsX11_note := List.mem_of_getElem? (i := 1) rfl
theorem wl_X11_note_2 : Cond.fieldLink RX11 217 "BellForgiven$Valley" "notes" "LBellForgiven$Rows;" ∈ wsX11_note := List.mem_of_getElem? (i := 2) rfl
theorem hi_X11_note_X11 : ∀ w ∈ u_ws RX11 TX11 11, w ∈ wsX11_note := fun w h => (List.mem_cons_of_mem _ (List.mem_append_left _ (List.mem_append_left _ (List.mem_append_right _ h))))
theorem hi_X11_note_X10 : ∀ w ∈ u_ws RX10 TX10 15, w ∈ wsX11_note := fun w h => (List.mem_cons_of_mem _ (List.mem_append_left _ (List.mem_append_right _ h)))
set_option maxHeartbeats 4000000 in
set_option maxRecDepth 100000 in
theorem c_X11_note (l : Launch) (Γ : Gam) (n : Nat) (G : Nat → va_E) (co : Nat) (kp rf by0 tv gv Dv lf vs cv V J0 J1 : Nat → Nat) (hO : isO Γ G co kp rf) (hT : isT Γ G (co + 3) by0 tv) (hRd : isRd Γ G (co + 5) gv) (hD : isV Γ G (co + 7) Dv) (hRw : isRw Γ G (co + 23) lf) (hGs : isGs Γ G (co + 25) vs) (hCh : isCh Γ G (co + 27) cv) (hV : isV Γ G (co + 28) V) (hP0 : isV Γ G (co + 44) J0) (hP1 : isV Γ G (co + 60) J1) (hn_co : co + 76 ≤ n) (hj : winj Γ n) (k g d x1 : Int32) (hG : vG V)  : Met l yX11_note wsX11_note ({ frames := 2, cells := 0, slots := 0, locals := 43 }) (va_Pc [.ref (ad Γ (co + 0)), .int k, .int g, .int d, .int x1] (fun U => hw Γ n G U U.heap)) (wQi Γ n (fun z G2 => ((¬ (vBel (V 1) k ∧ vRng 1 9 g ∧ vRng 0 99 d ∧ vRng 0 40 x1)) ∧ (z = -2) ∧ isO Γ G2 co kp (bmp rf 0) ∧ isT Γ G2 (co + 3) by0 tv ∧ isRd Γ G2 (co + 5) gv ∧ isV Γ G2 (co + 7) Dv ∧ isRw Γ G2 (co + 23) lf ∧ isGs Γ G2 (co + 25) vs ∧ isCh Γ G2 (co + 27) cv ∧ isV Γ G2 (co + 28) V ∧ isV Γ G2 (co + 44) J0 ∧ isV Γ G2 (co + 60) J1 ∧ fr G G2 (co + 0) (co + 76)) ∨ ((vBel (V 1) k ∧ vRng 1 9 g ∧ vRng 0 99 d ∧ vRng 0 40 x1) ∧ (V 3 = 6) ∧ (z = -4) ∧ isO Γ G2 co kp (bmp rf 2) ∧ isT Γ G2 (co + 3) by0 tv ∧ isRd Γ G2 (co + 5) gv ∧ isV Γ G2 (co + 7) Dv ∧ isRw Γ G2 (co + 23) lf ∧ isGs Γ G2 (co + 25) vs ∧ isCh Γ G2 (co + 27) cv ∧ isV Γ G2 (co + 28) V ∧ isV Γ G2 (co + 44) J0 ∧ isV Γ G2 (co + 60) J1 ∧ fr G G2 (co + 0) (co + 76)) ∨ (∃ jk jg jd jx1 : Nat, (jk < V 1) ∧ (k = nI jk) ∧ (1 ≤ jg) ∧ (jg ≤ 9) ∧ (g = nI jg) ∧ (0 ≤ jd) ∧ (jd ≤ 99) ∧ (d = nI jd) ∧ (0 ≤ jx1) ∧ (jx1 ≤ 40) ∧ (x1 = nI jx1) ∧ (¬ V 3 = 6) ∧ (z = nI (V 3 + 1)) ∧ isO Γ G2 co kp rf ∧ isT Γ G2 (co + 3) by0 tv ∧ isRd Γ G2 (co + 5) gv ∧ isV Γ G2 (co + 7) Dv ∧ isRw Γ G2 (co + 23) lf ∧ isGs Γ G2 (co + 25) vs ∧ isCh Γ G2 (co + 27) cv ∧ isV Γ G2 (co + 28) (addV V 3 80 jk jg jd jx1) ∧ isV Γ G2 (co + 44) J0 ∧ isV Γ G2 (co + 60) J1 ∧ fr G G2 (co + 0) (co + 76)))) 0 0 (wA Γ n) := by
  refine Met.ofW (cc := cX11_note) (maxL := 5) (ret := (some .int)) (by decide) rfl ?_
  intro p e s m args below meth c s₁ B hml hv
  obtain ⟨rfl, hw⟩ := hv
  have hx := B.exec
  have hb := B.bytes
  have hr := B.returns
  have hts := atoms_spec (ws := wsX11_note) B.pre
  have hown : s.vm.findClass RX11 = some m.cls := findClass_of_methodNamed B.named
  have hlocks := B.notSynchronized
  have hS : va_S (wA Γ n) s.heap s.heap [] := va_S.rf
  have hA : ∀ q, wA Γ n q → wA Γ n q := fun _ h => h
  have hl := lv_entry ([.ref (ad Γ (co + 0)), .int k, .int g, .int d, .int x1]) (n := 5) (Nat.le_of_ble_eq_true rfl)
  rw [lg_entry_eq]
  generalize (lg_sl ([.ref (ad Γ (co + 0)), .int k, .int g, .int d, .int x1]) ++ List.replicate (5 - (lg_sl ([.ref (ad Γ (co + 0)), .int k, .int g, .int d, .int x1])).length) Slot.unset).toArray = ls at hl ⊢
  have hl : lv_has ls 5 [(0, .ref (ad Γ (co + 0))), (1, .int k), (2, .int g), (3, .int d), (4, .int x1)] := hl
  have hfr := fr_rf G (co + 0) (co + 76)
  have hI := hG.1
  have hB := hI.1
  have hB0 := hI.2.1
  have hB1 := hI.2.2.1
  have hB20 := hI.2.2.2.2.2.2.2.2.2
  have hBz2 := hI.2.2.2.1
  have hBz3 := hI.2.2.2.2.1
  have hBz4 := hI.2.2.2.2.2.1
  have hBz5 := hI.2.2.2.2.2.2.1
  have hBd := hB 21
  refine lv_aload_n hx hb dX11_note_0 rfl (lv_at hl 0 rfl) ?_
  refine nr_get (own := RX11) (C := RX11) (T := TX11) (N := 11) (v := .ref (ad Γ (co + 28))) hx hb hts hi_X11_note_X11 hown hw (by omega) (isO_0 hO) rfl 0 (by decide) wl_X11_note_1 rfl rfl dX11_note_1 ?_
  refine lv_iload_n hx hb dX11_note_4 rfl (lv_at hl 1 rfl) ?_
  refine nr_goB (P := ∃ j, j < V 1 ∧ k = nI j) (nr_runV (As := [.int k]) (C := RX10) (T := TX10) (N := 15) ⟨hx, hb, hml, hown, hts⟩ hw (by omega) (isV_0 hV) rfl (c_X10_hasWrong l Γ n G (co + 28) V hV (by assumption) (by omega) k) (cwV 1 hts gX11_note_X10_hasWrong rfl rfl rfl (by decide +kernel) ⟨Nat.le_of_ble_eq_true rfl, Nat.le_of_ble_eq_true rfl⟩) rfl hl.1 rfl (Nat.le_of_ble_eq_true rfl) dX11_note_5 ⟨Nat.zero_le _, Nat.zero_le _⟩) (fun b1 => ?_) (fun b1 => ?_)
  · obtain ⟨jk, hjk, rfl⟩ := b1
    refine nr_if_eq (tgt := 42) hx hb (by decide) dX11_note_8 (by decide) (fun c2 => absurd c2 (by decide)) (fun c2 => ?_)
    refine lv_iload_n hx hb dX11_note_11 rfl (lv_at hl 2 rfl) ?_
    refine lv_iconst (v := nI 1) hx hb dX11_note_12 (by decide) ?_
    refine lv_bipush (v := nI 9) hx hb dX11_note_13 (by decide) ?_
    refine nr_goB (P := (nI 1) ≤ g ∧ g ≤ (nI 9)) (nr_runS (As := [.int g, .int (nI 1), .int (nI 9)]) ⟨hx, hb, hml, hown, hts⟩ hw (c_X11_within l Γ n G g (nI 1) (nI 9)) (va_cwS 3 hts gX11_note_X11_within rfl rfl rfl (by decide +kernel) ⟨Nat.le_of_ble_eq_true rfl, Nat.le_of_ble_eq_true rfl⟩) rfl hl.1 rfl (Nat.le_of_ble_eq_true rfl) dX11_note_15 ⟨Nat.zero_le _, Nat.zero_le _⟩) (fun b3 => ?_) (fun b3 => ?_)
    · obtain ⟨jg, hjga, hjgb, rfl⟩ := (with_c (a := 1) (b := 9) (by first | decide | omega) (by first | decide | omega)).mp b3
      refine nr_if_eq (tgt := 42) hx hb (by decide) dX11_note_18 (by decide) (fun c4 => absurd c4 (by decide)) (fun c4 => ?_)
      refine lv_iload_n hx hb dX11_note_21 rfl (lv_at hl 3 rfl) ?_
      refine lv_iconst (v := nI 0) hx hb dX11_note_22 (by decide) ?_
      refine lv_bipush (v := nI 99) hx hb dX11_note_23 (by decide) ?_
      refine nr_goB (P := (nI 0) ≤ d ∧ d ≤ (nI 99)) (nr_runS (As := [.int d, .int (nI 0), .int (nI 99)]) ⟨hx, hb, hml, hown, hts⟩ hw (c_X11_within l Γ n G d (nI 0) (nI 99)) (va_cwS 3 hts gX11_note_X11_within rfl rfl rfl (by decide +kernel) ⟨Nat.le_of_ble_eq_true rfl, Nat.le_of_ble_eq_true rfl⟩) rfl hl.1 rfl (Nat.le_of_ble_eq_true rfl) dX11_note_25 ⟨Nat.zero_le _, Nat.zero_le _⟩) (fun b5 => ?_) (fun b5 => ?_)
      · obtain ⟨jd, hjda, hjdb, rfl⟩ := (with_c (a := 0) (b := 99) (by first | decide | omega) (by first | decide | omega)).mp b5
        refine nr_if_eq (tgt := 42) hx hb (by decide) dX11_note_28 (by decide) (fun c6 => absurd c6 (by decide)) (fun c6 => ?_)
        refine lv_iload hx hb dX11_note_31 (lv_at hl 4 rfl) ?_
        refine lv_iconst (v := nI 0) hx hb dX11_note_33 (by decide) ?_
        refine lv_bipush (v := nI 40) hx hb dX11_note_34 (by decide) ?_
        refine nr_goB (P := (nI 0) ≤ x1 ∧ x1 ≤ (nI 40)) (nr_runS (As := [.int x1, .int (nI 0), .int (nI 40)]) ⟨hx, hb, hml, hown, hts⟩ hw (c_X11_within l Γ n G x1 (nI 0) (nI 40)) (va_cwS 3 hts gX11_note_X11_within rfl rfl rfl (by decide +kernel) ⟨Nat.le_of_ble_eq_true rfl, Nat.le_of_ble_eq_true rfl⟩) rfl hl.1 rfl (Nat.le_of_ble_eq_true rfl) dX11_note_36 ⟨Nat.zero_le _, Nat.zero_le _⟩) (fun b7 => ?_) (fun b7 => ?_)
        · obtain ⟨jx1, hjx1a, hjx1b, rfl⟩ := (with_c (a := 0) (b := 40) (by first | decide | omega) (by first | decide | omega)).mp b7
          refine nr_if_ne (tgt := 47) hx hb (by decide) dX11_note_39 (by decide) (fun c8 => ?_) (fun c8 => absurd c8 (by decide))
          refine lv_aload_n hx hb dX11_note_47 rfl (lv_at hl 0 rfl) ?_
          refine nr_get (own := RX11) (C := RX11) (T := TX11) (N := 11) (v := .ref (ad Γ (co + 28))) hx hb hts hi_X11_note_X11 hown hw (by omega) (isO_0 hO) rfl 0 (by decide) wl_X11_note_1 rfl rfl dX11_note_48 ?_
          refine nr_get (own := RX11) (C := RX10) (T := TX10) (N := 15) (v := .ref (ad Γ (co + 37))) hx hb hts hi_X11_note_X10 hown hw (by omega) (isV_0 hV) rfl 12 (by decide) wl_X11_note_2 rfl rfl dX11_note_51 ?_
          refine nr_goB (P := 6 ≤ V 3) (nr_runV (As := []) (C := RX7) (T := TX7) (N := 3) ⟨hx, hb, hml, hown, hts⟩ hw (by omega) (isV_9 hV) rfl (c_X7_isFull l Γ n G (co + 37) (co + 41) 80 24 6 (V 3) V (isV_9 hV) (isV_13 hV) (by omega) (by omega) (show vI V from by assumption).1 (by decide) (by decide) (show vI V from by assumption).2.2.2.2.1 (by decide)) (cwV 0 hts gX11_note_X7_isFull rfl rfl rfl (by decide +kernel) ⟨Nat.le_of_ble_eq_true rfl, Nat.le_of_ble_eq_true rfl⟩) rfl hl.1 rfl (Nat.le_of_ble_eq_true rfl) dX11_note_54 ⟨Nat.zero_le _, Nat.zero_le _⟩) (fun b9 => ?_) (fun b9 => ?_)
          · refine nr_if_eq (tgt := 67) hx hb (by decide) dX11_note_57 (by decide) (fun c10 => absurd c10 (by decide)) (fun c10 => ?_)
            refine lv_aload_n hx hb dX11_note_60 rfl (lv_at hl 0 rfl) ?_
            refine nr_goI (nr_runV (As := []) (C := RX11) (T := TX11) (N := 11) ⟨hx, hb, hml, hown, hts⟩ hw (by omega) (isO_0 hO) rfl (c_X11_full l Γ n G co kp rf hO (by omega) hj) (cwV 0 hts gX11_note_X11_full rfl rfl rfl (by decide +kernel) ⟨Nat.le_of_ble_eq_true rfl, Nat.le_of_ble_eq_true rfl⟩) rfl hl.1 rfl (Nat.le_of_ble_eq_true rfl) dX11_note_61 ⟨Nat.zero_le _, Nat.zero_le _⟩) hw hA hS (fun z11 G11 H locs hp hw hS => ?_)
            obtain ⟨ha11, hO, hf11⟩ := hp
            have hT := isT_fr hT hf11 (by omega)
            have hRd := isRd_fr hRd hf11 (by omega)
            have hD := isV_fr hD hf11 (by omega)
            have hRw := isRw_fr hRw hf11 (by omega)
            have hGs := isGs_fr hGs hf11 (by omega)
            have hCh := isCh_fr hCh hf11 (by omega)
            have hV := isV_fr hV hf11 (by omega)
            have hP0 := isV_fr hP0 hf11 (by omega)
            have hP1 := isV_fr hP1 hf11 (by omega)
            have hfr := fr_tr hfr hf11 (by omega) (by omega)
            have hO : isO Γ G11 co kp (bmp rf 2) := hO
            subst ha11
            refine lv_goto (tgt := 82) hx hb dX11_note_64 (by decide) ?_
            exact nr_retI hx hb hr hlocks hw hS (Or.inr (Or.inl ⟨⟨⟨jk, hjk, rfl⟩, ⟨jg, hjga, hjgb, rfl⟩, ⟨jd, hjda, hjdb, rfl⟩, ⟨jx1, hjx1a, hjx1b, rfl⟩⟩, by omega, rfl, hO, hT, hRd, hD, hRw, hGs, hCh, hV, hP0, hP1, hfr⟩)) dX11_note_82
          · refine nr_if_eq (tgt := 67) hx hb (by decide) dX11_note_57 (by decide) (fun c12 => ?_) (fun c12 => absurd c12 (by decide))
            refine lv_aload_n hx hb dX11_note_67 rfl (lv_at hl 0 rfl) ?_
            refine nr_get (own := RX11) (C := RX11) (T := TX11) (N := 11) (v := .ref (ad Γ (co + 28))) hx hb hts hi_X11_note_X11 hown hw (by omega) (isO_0 hO) rfl 0 (by decide) wl_X11_note_1 rfl rfl dX11_note_68 ?_
            refine nr_get (own := RX11) (C := RX10) (T := TX10) (N := 15) (v := .ref (ad Γ (co + 37))) hx hb hts hi_X11_note_X10 hown hw (by omega) (isV_0 hV) rfl 12 (by decide) wl_X11_note_2 rfl rfl dX11_note_71 ?_
            refine lv_iload_n hx hb dX11_note_74 rfl (lv_at hl 1 rfl) ?_
            refine lv_iload_n hx hb dX11_note_75 rfl (lv_at hl 2 rfl) ?_
            refine lv_iload_n hx hb dX11_note_76 rfl (lv_at hl 3 rfl) ?_
            refine lv_iload hx hb dX11_note_77 (lv_at hl 4 rfl) ?_
            refine nr_goI (nr_runV (As := [.int (nI jk), .int (nI jg), .int (nI jd), .int (nI jx1)]) (C := RX7) (T := TX7) (N := 3) ⟨hx, hb, hml, hown, hts⟩ hw (by omega) (isV_9 hV) rfl (c_X7_add_r9 l Γ n G (co + 28) V hV (by omega) hj jk jg jd jx1 hI (by omega)) (cwV 4 hts gX11_note_X7_add rfl rfl rfl (by decide +kernel) ⟨Nat.le_of_ble_eq_true rfl, Nat.le_of_ble_eq_true rfl⟩) rfl hl.1 rfl (Nat.le_of_ble_eq_true rfl) dX11_note_79 ⟨Nat.zero_le _, Nat.zero_le _⟩) hw hA hS (fun z13 G13 H locs hp hw hS => ?_)
            obtain ⟨ha13, hV, hf13⟩ := hp
            have hO := isO_fr hO hf13 (by omega)
            have hT := isT_fr hT hf13 (by omega)
            have hRd := isRd_fr hRd hf13 (by omega)
            have hD := isV_fr hD hf13 (by omega)
            have hRw := isRw_fr hRw hf13 (by omega)
            have hGs := isGs_fr hGs hf13 (by omega)
            have hCh := isCh_fr hCh hf13 (by omega)
            have hP0 := isV_fr hP0 hf13 (by omega)
            have hP1 := isV_fr hP1 hf13 (by omega)
            have hfr := fr_tr hfr hf13 (by omega) (by omega)
            have hV : isV Γ G13 (co + 28) (addV V 3 80 jk jg jd jx1) := hV
            subst ha13
            exact nr_retI hx hb hr hlocks hw hS (Or.inr (Or.inr (⟨jk, jg, jd, jx1, hjk, rfl, hjga, hjgb, rfl, hjda, hjdb, rfl, hjx1a, hjx1b, rfl, by omega, rfl, hO, hT, hRd, hD, hRw, hGs, hCh, hV, hP0, hP1, hfr⟩))) dX11_note_82
        · have b7n : ¬ vRng (0) (40) x1 := fun hh => b7 ((with_c (by first | decide | omega) (by first | decide | omega)).mpr hh)
          refine nr_if_ne (tgt := 47) hx hb (by decide) dX11_note_39 (by decide) (fun c14 => absurd c14 (by decide)) (fun c14 => ?_)
          refine lv_aload_n hx hb dX11_note_42 rfl (lv_at hl 0 rfl) ?_
          refine nr_goI (nr_runV (As := []) (C := RX11) (T := TX11) (N := 11) ⟨hx, hb, hml, hown, hts⟩ hw (by omega) (isO_0 hO) rfl (c_X11_bad l Γ n G co kp rf hO (by omega) hj) (cwV 0 hts gX11_note_X11_bad rfl rfl rfl (by decide +kernel) ⟨Nat.le_of_ble_eq_true rfl, Nat.le_of_ble_eq_true rfl⟩) rfl hl.1 rfl (Nat.le_of_ble_eq_true rfl) dX11_note_43 ⟨Nat.zero_le _, Nat.zero_le _⟩) hw hA hS (fun z15 G15 H locs hp hw hS => ?_)
          obtain ⟨ha15, hO, hf15⟩ := hp
          have hT := isT_fr hT hf15 (by omega)
          have hRd := isRd_fr hRd hf15 (by omega)
          have hD := isV_fr hD hf15 (by omega)
          have hRw := isRw_fr hRw hf15 (by omega)
          have hGs := isGs_fr hGs hf15 (by omega)
          have hCh := isCh_fr hCh hf15 (by omega)
          have hV := isV_fr hV hf15 (by omega)
          have hP0 := isV_fr hP0 hf15 (by omega)
          have hP1 := isV_fr hP1 hf15 (by omega)
          have hfr := fr_tr hfr hf15 (by omega) (by omega)
          have hO : isO Γ G15 co kp (bmp rf 0) := hO
          subst ha15
          exact nr_retI hx hb hr hlocks hw hS (Or.inl ⟨by intro hh; first | contradiction | (obtain ⟨hq1, hq2⟩ := hh; first | contradiction | (obtain ⟨hq2, hq3⟩ := hq2; first | contradiction | (obtain ⟨hq3, hq4⟩ := hq3; first | contradiction | (obtain ⟨hq4, hq5⟩ := hq4; first | contradiction | (exact hq4 (congrArg nI (by assumption))))))), rfl, hO, hT, hRd, hD, hRw, hGs, hCh, hV, hP0, hP1, hfr⟩) dX11_note_46
      · have b5n : ¬ vRng (0) (99) d := fun hh => b5 ((with_c (by first | decide | omega) (by first | decide | omega)).mpr hh)
        refine nr_if_eq (tgt := 42) hx hb (by decide) dX11_note_28 (by decide) (fun c16 => ?_) (fun c16 => absurd c16 (by decide))
        refine lv_aload_n hx hb dX11_note_42 rfl (lv_at hl 0 rfl) ?_
        refine nr_goI (nr_runV (As := []) (C := RX11) (T := TX11) (N := 11) ⟨hx, hb, hml, hown, hts⟩ hw (by omega) (isO_0 hO) rfl (c_X11_bad l Γ n G co kp rf hO (by omega) hj) (cwV 0 hts gX11_note_X11_bad rfl rfl rfl (by decide +kernel) ⟨Nat.le_of_ble_eq_true rfl, Nat.le_of_ble_eq_true rfl⟩) rfl hl.1 rfl (Nat.le_of_ble_eq_true rfl) dX11_note_43 ⟨Nat.zero_le _, Nat.zero_le _⟩) hw hA hS (fun z17 G17 H locs hp hw hS => ?_)
        obtain ⟨ha17, hO, hf17⟩ := hp
        have hT := isT_fr hT hf17 (by omega)
        have hRd := isRd_fr hRd hf17 (by omega)
        have hD := isV_fr hD hf17 (by omega)
        have hRw := isRw_fr hRw hf17 (by omega)
        have hGs := isGs_fr hGs hf17 (by omega)
        have hCh := isCh_fr hCh hf17 (by omega)
        have hV := isV_fr hV hf17 (by omega)
        have hP0 := isV_fr hP0 hf17 (by omega)
        have hP1 := isV_fr hP1 hf17 (by omega)
        have hfr := fr_tr hfr hf17 (by omega) (by omega)
        have hO : isO Γ G17 co kp (bmp rf 0) := hO
        subst ha17
        exact nr_retI hx hb hr hlocks hw hS (Or.inl ⟨by intro hh; first | contradiction | (obtain ⟨hq1, hq2⟩ := hh; first | contradiction | (obtain ⟨hq2, hq3⟩ := hq2; first | contradiction | (obtain ⟨hq3, hq4⟩ := hq3; first | contradiction | (obtain ⟨hq4, hq5⟩ := hq4; first | contradiction | (exact hq4 (congrArg nI (by assumption))))))), rfl, hO, hT, hRd, hD, hRw, hGs, hCh, hV, hP0, hP1, hfr⟩) dX11_note_46
    · have b3n : ¬ vRng (1) (9) g := fun hh => b3 ((with_c (by first | decide | omega) (by first | decide | omega)).mpr hh)
      refine nr_if_eq (tgt := 42) hx hb (by decide) dX11_note_18 (by decide) (fun c18 => ?_) (fun c18 => absurd c18 (by decide))
      refine lv_aload_n hx hb dX11_note_42 rfl (lv_at hl 0 rfl) ?_
      refine nr_goI (nr_runV (As := []) (C := RX11) (T := TX11) (N := 11) ⟨hx, hb, hml, hown, hts⟩ hw (by omega) (isO_0 hO) rfl (c_X11_bad l Γ n G co kp rf hO (by omega) hj) (cwV 0 hts gX11_note_X11_bad rfl rfl rfl (by decide +kernel) ⟨Nat.le_of_ble_eq_true rfl, Nat.le_of_ble_eq_true rfl⟩) rfl hl.1 rfl (Nat.le_of_ble_eq_true rfl) dX11_note_43 ⟨Nat.zero_le _, Nat.zero_le _⟩) hw hA hS (fun z19 G19 H locs hp hw hS => ?_)
      obtain ⟨ha19, hO, hf19⟩ := hp
      have hT := isT_fr hT hf19 (by omega)
      have hRd := isRd_fr hRd hf19 (by omega)
      have hD := isV_fr hD hf19 (by omega)
      have hRw := isRw_fr hRw hf19 (by omega)
      have hGs := isGs_fr hGs hf19 (by omega)
      have hCh := isCh_fr hCh hf19 (by omega)
      have hV := isV_fr hV hf19 (by omega)
      have hP0 := isV_fr hP0 hf19 (by omega)
      have hP1 := isV_fr hP1 hf19 (by omega)
      have hfr := fr_tr hfr hf19 (by omega) (by omega)
      have hO : isO Γ G19 co kp (bmp rf 0) := hO
      subst ha19
      exact nr_retI hx hb hr hlocks hw hS (Or.inl ⟨by intro hh; first | contradiction | (obtain ⟨hq1, hq2⟩ := hh; first | contradiction | (obtain ⟨hq2, hq3⟩ := hq2; first | contradiction | (obtain ⟨hq3, hq4⟩ := hq3; first | contradiction | (obtain ⟨hq4, hq5⟩ := hq4; first | contradiction | (exact hq4 (congrArg nI (by assumption))))))), rfl, hO, hT, hRd, hD, hRw, hGs, hCh, hV, hP0, hP1, hfr⟩) dX11_note_46
  · refine nr_if_eq (tgt := 42) hx hb (by decide) dX11_note_8 (by decide) (fun c20 => ?_) (fun c20 => absurd c20 (by decide))
    refine lv_aload_n hx hb dX11_note_42 rfl (lv_at hl 0 rfl) ?_
    refine nr_goI (nr_runV (As := []) (C := RX11) (T := TX11) (N := 11) ⟨hx, hb, hml, hown, hts⟩ hw (by omega) (isO_0 hO) rfl (c_X11_bad l Γ n G co kp rf hO (by omega) hj) (cwV 0 hts gX11_note_X11_bad rfl rfl rfl (by decide +kernel) ⟨Nat.le_of_ble_eq_true rfl, Nat.le_of_ble_eq_true rfl⟩) rfl hl.1 rfl (Nat.le_of_ble_eq_true rfl) dX11_note_43 ⟨Nat.zero_le _, Nat.zero_le _⟩) hw hA hS (fun z21 G21 H locs hp hw hS => ?_)
    obtain ⟨ha21, hO, hf21⟩ := hp
    have hT := isT_fr hT hf21 (by omega)
    have hRd := isRd_fr hRd hf21 (by omega)
    have hD := isV_fr hD hf21 (by omega)
    have hRw := isRw_fr hRw hf21 (by omega)
    have hGs := isGs_fr hGs hf21 (by omega)
    have hCh := isCh_fr hCh hf21 (by omega)
    have hV := isV_fr hV hf21 (by omega)
    have hP0 := isV_fr hP0 hf21 (by omega)
    have hP1 := isV_fr hP1 hf21 (by omega)
    have hfr := fr_tr hfr hf21 (by omega) (by omega)
    have hO : isO Γ G21 co kp (bmp rf 0) := hO
    subst ha21
    exact nr_retI hx hb hr hlocks hw hS (Or.inl ⟨by intro hh; first | contradiction | (obtain ⟨hq1, hq2⟩ := hh; first | contradiction | (obtain ⟨hq2, hq3⟩ := hq2; first | contradiction | (obtain ⟨hq3, hq4⟩ := hq3; first | contradiction | (obtain ⟨hq4, hq5⟩ := hq4; first | contradiction | (exact hq4 (congrArg nI (by assumption))))))), rfl, hO, hT, hRd, hD, hRw, hGs, hCh, hV, hP0, hP1, hfr⟩) dX11_note_46
theorem wl_X11_mark_1 : Cond.fieldLink RX11 10 "BellForgiven" "now" "LBellForgiven$Valley;" ∈ wsX11_mark := List.mem_of_getElem? (i := 1) rfl
theorem wl_X11_mark_2 : Cond.fieldLink RX11 220 "BellForgiven$Valley" "marks" "LBellForgiven$Rows;" ∈ wsX11_mark := List.mem_of_getElem? (i := 2) rfl
theorem hi_X11_mark_X11 : ∀ w ∈ u_ws RX11 TX11 11, w ∈ wsX11_mark := fun w h => (List.mem_cons_of_mem _ (List.mem_append_left _ (List.mem_append_left _ (List.mem_append_right _ h))))
theorem hi_X11_mark_X10 : ∀ w ∈ u_ws RX10 TX10 15, w ∈ wsX11_mark := fun w h => (List.mem_cons_of_mem _ (List.mem_append_left _ (List.mem_append_right _ h)))
set_option maxHeartbeats 4000000 in
set_option maxRecDepth 100000 in
theorem c_X11_mark (l : Launch) (Γ : Gam) (n : Nat) (G : Nat → va_E) (co : Nat) (kp rf by0 tv gv Dv lf vs cv V J0 J1 : Nat → Nat) (hO : isO Γ G co kp rf) (hT : isT Γ G (co + 3) by0 tv) (hRd : isRd Γ G (co + 5) gv) (hD : isV Γ G (co + 7) Dv) (hRw : isRw Γ G (co + 23) lf) (hGs : isGs Γ G (co + 25) vs) (hCh : isCh Γ G (co + 27) cv) (hV : isV Γ G (co + 28) V) (hP0 : isV Γ G (co + 44) J0) (hP1 : isV Γ G (co + 60) J1) (hn_co : co + 76 ≤ n) (hj : winj Γ n) (i r t x1 : Int32) (hG : vG V)  : Met l yX11_mark wsX11_mark ({ frames := 2, cells := 0, slots := 0, locals := 43 }) (va_Pc [.ref (ad Γ (co + 0)), .int i, .int r, .int t, .int x1] (fun U => hw Γ n G U U.heap)) (wQi Γ n (fun z G2 => ((¬ (vBel (V 0) i ∧ vRng 0 9 r ∧ vRng 0 99 t ∧ vRng 0 60 x1)) ∧ (z = -2) ∧ isO Γ G2 co kp (bmp rf 0) ∧ isT Γ G2 (co + 3) by0 tv ∧ isRd Γ G2 (co + 5) gv ∧ isV Γ G2 (co + 7) Dv ∧ isRw Γ G2 (co + 23) lf ∧ isGs Γ G2 (co + 25) vs ∧ isCh Γ G2 (co + 27) cv ∧ isV Γ G2 (co + 28) V ∧ isV Γ G2 (co + 44) J0 ∧ isV Γ G2 (co + 60) J1 ∧ fr G G2 (co + 0) (co + 76)) ∨ ((vBel (V 0) i ∧ vRng 0 9 r ∧ vRng 0 99 t ∧ vRng 0 60 x1) ∧ (V 4 = 6) ∧ (z = -4) ∧ isO Γ G2 co kp (bmp rf 2) ∧ isT Γ G2 (co + 3) by0 tv ∧ isRd Γ G2 (co + 5) gv ∧ isV Γ G2 (co + 7) Dv ∧ isRw Γ G2 (co + 23) lf ∧ isGs Γ G2 (co + 25) vs ∧ isCh Γ G2 (co + 27) cv ∧ isV Γ G2 (co + 28) V ∧ isV Γ G2 (co + 44) J0 ∧ isV Γ G2 (co + 60) J1 ∧ fr G G2 (co + 0) (co + 76)) ∨ (∃ ji jr jt jx1 : Nat, (ji < V 0) ∧ (i = nI ji) ∧ (0 ≤ jr) ∧ (jr ≤ 9) ∧ (r = nI jr) ∧ (0 ≤ jt) ∧ (jt ≤ 99) ∧ (t = nI jt) ∧ (0 ≤ jx1) ∧ (jx1 ≤ 60) ∧ (x1 = nI jx1) ∧ (¬ V 4 = 6) ∧ (z = nI (V 4 + 1)) ∧ isO Γ G2 co kp rf ∧ isT Γ G2 (co + 3) by0 tv ∧ isRd Γ G2 (co + 5) gv ∧ isV Γ G2 (co + 7) Dv ∧ isRw Γ G2 (co + 23) lf ∧ isGs Γ G2 (co + 25) vs ∧ isCh Γ G2 (co + 27) cv ∧ isV Γ G2 (co + 28) (addV V 4 104 ji jr jt jx1) ∧ isV Γ G2 (co + 44) J0 ∧ isV Γ G2 (co + 60) J1 ∧ fr G G2 (co + 0) (co + 76)))) 0 0 (wA Γ n) := by
  refine Met.ofW (cc := cX11_mark) (maxL := 5) (ret := (some .int)) (by decide) rfl ?_
  intro p e s m args below meth c s₁ B hml hv
  obtain ⟨rfl, hw⟩ := hv
  have hx := B.exec
  have hb := B.bytes
  have hr := B.returns
  have hts := atoms_spec (ws := wsX11_mark) B.pre
  have hown : s.vm.findClass RX11 = some m.cls := findClass_of_methodNamed B.named
  have hlocks := B.notSynchronized
  have hS : va_S (wA Γ n) s.heap s.heap [] := va_S.rf
  have hA : ∀ q, wA Γ n q → wA Γ n q := fun _ h => h
  have hl := lv_entry ([.ref (ad Γ (co + 0)), .int i, .int r, .int t, .int x1]) (n := 5) (Nat.le_of_ble_eq_true rfl)
  rw [lg_entry_eq]
  generalize (lg_sl ([.ref (ad Γ (co + 0)), .int i, .int r, .int t, .int x1]) ++ List.replicate (5 - (lg_sl ([.ref (ad Γ (co + 0)), .int i, .int r, .int t, .int x1])).length) Slot.unset).toArray = ls at hl ⊢
  have hl : lv_has ls 5 [(0, .ref (ad Γ (co + 0))), (1, .int i), (2, .int r), (3, .int t), (4, .int x1)] := hl
  have hfr := fr_rf G (co + 0) (co + 76)
  have hI := hG.1
  have hB := hI.1
  have hB0 := hI.2.1
  have hB1 := hI.2.2.1
  have hB20 := hI.2.2.2.2.2.2.2.2.2
  have hBz2 := hI.2.2.2.1
  have hBz3 := hI.2.2.2.2.1
  have hBz4 := hI.2.2.2.2.2.1
  have hBz5 := hI.2.2.2.2.2.2.1
  have hBd := hB 21
  refine lv_aload_n hx hb dX11_mark_0 rfl (lv_at hl 0 rfl) ?_
  refine nr_get (own := RX11) (C := RX11) (T := TX11) (N := 11) (v := .ref (ad Γ (co + 28))) hx hb hts hi_X11_mark_X11 hown hw (by omega) (isO_0 hO) rfl 0 (by decide) wl_X11_mark_1 rfl rfl dX11_mark_1 ?_
  refine lv_iload_n hx hb dX11_mark_4 rfl (lv_at hl 1 rfl) ?_
  refine nr_goB (P := ∃ j, j < V 0 ∧ i = nI j) (nr_runV (As := [.int i]) (C := RX10) (T := TX10) (N := 15) ⟨hx, hb, hml, hown, hts⟩ hw (by omega) (isV_0 hV) rfl (c_X10_hasPerson l Γ n G (co + 28) V hV (by assumption) (by omega) i) (cwV 1 hts gX11_mark_X10_hasPerson rfl rfl rfl (by decide +kernel) ⟨Nat.le_of_ble_eq_true rfl, Nat.le_of_ble_eq_true rfl⟩) rfl hl.1 rfl (Nat.le_of_ble_eq_true rfl) dX11_mark_5 ⟨Nat.zero_le _, Nat.zero_le _⟩) (fun b1 => ?_) (fun b1 => ?_)
  · obtain ⟨ji, hji, rfl⟩ := b1
    refine nr_if_eq (tgt := 42) hx hb (by decide) dX11_mark_8 (by decide) (fun c2 => absurd c2 (by decide)) (fun c2 => ?_)
    refine lv_iload_n hx hb dX11_mark_11 rfl (lv_at hl 2 rfl) ?_
    refine lv_iconst (v := nI 0) hx hb dX11_mark_12 (by decide) ?_
    refine lv_bipush (v := nI 9) hx hb dX11_mark_13 (by decide) ?_
    refine nr_goB (P := (nI 0) ≤ r ∧ r ≤ (nI 9)) (nr_runS (As := [.int r, .int (nI 0), .int (nI 9)]) ⟨hx, hb, hml, hown, hts⟩ hw (c_X11_within l Γ n G r (nI 0) (nI 9)) (va_cwS 3 hts gX11_mark_X11_within rfl rfl rfl (by decide +kernel) ⟨Nat.le_of_ble_eq_true rfl, Nat.le_of_ble_eq_true rfl⟩) rfl hl.1 rfl (Nat.le_of_ble_eq_true rfl) dX11_mark_15 ⟨Nat.zero_le _, Nat.zero_le _⟩) (fun b3 => ?_) (fun b3 => ?_)
    · obtain ⟨jr, hjra, hjrb, rfl⟩ := (with_c (a := 0) (b := 9) (by first | decide | omega) (by first | decide | omega)).mp b3
      refine nr_if_eq (tgt := 42) hx hb (by decide) dX11_mark_18 (by decide) (fun c4 => absurd c4 (by decide)) (fun c4 => ?_)
      refine lv_iload_n hx hb dX11_mark_21 rfl (lv_at hl 3 rfl) ?_
      refine lv_iconst (v := nI 0) hx hb dX11_mark_22 (by decide) ?_
      refine lv_bipush (v := nI 99) hx hb dX11_mark_23 (by decide) ?_
      refine nr_goB (P := (nI 0) ≤ t ∧ t ≤ (nI 99)) (nr_runS (As := [.int t, .int (nI 0), .int (nI 99)]) ⟨hx, hb, hml, hown, hts⟩ hw (c_X11_within l Γ n G t (nI 0) (nI 99)) (va_cwS 3 hts gX11_mark_X11_within rfl rfl rfl (by decide +kernel) ⟨Nat.le_of_ble_eq_true rfl, Nat.le_of_ble_eq_true rfl⟩) rfl hl.1 rfl (Nat.le_of_ble_eq_true rfl) dX11_mark_25 ⟨Nat.zero_le _, Nat.zero_le _⟩) (fun b5 => ?_) (fun b5 => ?_)
      · obtain ⟨jt, hjta, hjtb, rfl⟩ := (with_c (a := 0) (b := 99) (by first | decide | omega) (by first | decide | omega)).mp b5
        refine nr_if_eq (tgt := 42) hx hb (by decide) dX11_mark_28 (by decide) (fun c6 => absurd c6 (by decide)) (fun c6 => ?_)
        refine lv_iload hx hb dX11_mark_31 (lv_at hl 4 rfl) ?_
        refine lv_iconst (v := nI 0) hx hb dX11_mark_33 (by decide) ?_
        refine lv_bipush (v := nI 60) hx hb dX11_mark_34 (by decide) ?_
        refine nr_goB (P := (nI 0) ≤ x1 ∧ x1 ≤ (nI 60)) (nr_runS (As := [.int x1, .int (nI 0), .int (nI 60)]) ⟨hx, hb, hml, hown, hts⟩ hw (c_X11_within l Γ n G x1 (nI 0) (nI 60)) (va_cwS 3 hts gX11_mark_X11_within rfl rfl rfl (by decide +kernel) ⟨Nat.le_of_ble_eq_true rfl, Nat.le_of_ble_eq_true rfl⟩) rfl hl.1 rfl (Nat.le_of_ble_eq_true rfl) dX11_mark_36 ⟨Nat.zero_le _, Nat.zero_le _⟩) (fun b7 => ?_) (fun b7 => ?_)
        · obtain ⟨jx1, hjx1a, hjx1b, rfl⟩ := (with_c (a := 0) (b := 60) (by first | decide | omega) (by first | decide | omega)).mp b7
          refine nr_if_ne (tgt := 47) hx hb (by decide) dX11_mark_39 (by decide) (fun c8 => ?_) (fun c8 => absurd c8 (by decide))
          refine lv_aload_n hx hb dX11_mark_47 rfl (lv_at hl 0 rfl) ?_
          refine nr_get (own := RX11) (C := RX11) (T := TX11) (N := 11) (v := .ref (ad Γ (co + 28))) hx hb hts hi_X11_mark_X11 hown hw (by omega) (isO_0 hO) rfl 0 (by decide) wl_X11_mark_1 rfl rfl dX11_mark_48 ?_
          refine nr_get (own := RX11) (C := RX10) (T := TX10) (N := 15) (v := .ref (ad Γ (co + 38))) hx hb hts hi_X11_mark_X10 hown hw (by omega) (isV_0 hV) rfl 13 (by decide) wl_X11_mark_2 rfl rfl dX11_mark_51 ?_
          refine nr_goB (P := 6 ≤ V 4) (nr_runV (As := []) (C := RX7) (T := TX7) (N := 3) ⟨hx, hb, hml, hown, hts⟩ hw (by omega) (isV_10 hV) rfl (c_X7_isFull l Γ n G (co + 38) (co + 42) 104 24 6 (V 4) V (isV_10 hV) (isV_14 hV) (by omega) (by omega) (show vI V from by assumption).1 (by decide) (by decide) (show vI V from by assumption).2.2.2.2.2.1 (by decide)) (cwV 0 hts gX11_mark_X7_isFull rfl rfl rfl (by decide +kernel) ⟨Nat.le_of_ble_eq_true rfl, Nat.le_of_ble_eq_true rfl⟩) rfl hl.1 rfl (Nat.le_of_ble_eq_true rfl) dX11_mark_54 ⟨Nat.zero_le _, Nat.zero_le _⟩) (fun b9 => ?_) (fun b9 => ?_)
          · refine nr_if_eq (tgt := 67) hx hb (by decide) dX11_mark_57 (by decide) (fun c10 => absurd c10 (by decide)) (fun c10 => ?_)
            refine lv_aload_n hx hb dX11_mark_60 rfl (lv_at hl 0 rfl) ?_
            refine nr_goI (nr_runV (As := []) (C := RX11) (T := TX11) (N := 11) ⟨hx, hb, hml, hown, hts⟩ hw (by omega) (isO_0 hO) rfl (c_X11_full l Γ n G co kp rf hO (by omega) hj) (cwV 0 hts gX11_mark_X11_full rfl rfl rfl (by decide +kernel) ⟨Nat.le_of_ble_eq_true rfl, Nat.le_of_ble_eq_true rfl⟩) rfl hl.1 rfl (Nat.le_of_ble_eq_true rfl) dX11_mark_61 ⟨Nat.zero_le _, Nat.zero_le _⟩) hw hA hS (fun z11 G11 H locs hp hw hS => ?_)
            obtain ⟨ha11, hO, hf11⟩ := hp
            have hT := isT_fr hT hf11 (by omega)
            have hRd := isRd_fr hRd hf11 (by omega)
            have hD := isV_fr hD hf11 (by omega)
            have hRw := isRw_fr hRw hf11 (by omega)
            have hGs := isGs_fr hGs hf11 (by omega)
            have hCh := isCh_fr hCh hf11 (by omega)
            have hV := isV_fr hV hf11 (by omega)
            have hP0 := isV_fr hP0 hf11 (by omega)
            have hP1 := isV_fr hP1 hf11 (by omega)
            have hfr := fr_tr hfr hf11 (by omega) (by omega)
            have hO : isO Γ G11 co kp (bmp rf 2) := hO
            subst ha11
            refine lv_goto (tgt := 82) hx hb dX11_mark_64 (by decide) ?_
            exact nr_retI hx hb hr hlocks hw hS (Or.inr (Or.inl ⟨⟨⟨ji, hji, rfl⟩, ⟨jr, hjra, hjrb, rfl⟩, ⟨jt, hjta, hjtb, rfl⟩, ⟨jx1, hjx1a, hjx1b, rfl⟩⟩, by omega, rfl, hO, hT, hRd, hD, hRw, hGs, hCh, hV, hP0, hP1, hfr⟩)) dX11_mark_82
          · refine nr_if_eq (tgt := 67) hx hb (by decide) dX11_mark_57 (by decide) (fun c12 => ?_) (fun c12 => absurd c12 (by decide))
            refine lv_aload_n hx hb dX11_mark_67 rfl (lv_at hl 0 rfl) ?_
            refine nr_get (own := RX11) (C := RX11) (T := TX11) (N := 11) (v := .ref (ad Γ (co + 28))) hx hb hts hi_X11_mark_X11 hown hw (by omega) (isO_0 hO) rfl 0 (by decide) wl_X11_mark_1 rfl rfl dX11_mark_68 ?_
            refine nr_get (own := RX11) (C := RX10) (T := TX10) (N := 15) (v := .ref (ad Γ (co + 38))) hx hb hts hi_X11_mark_X10 hown hw (by omega) (isV_0 hV) rfl 13 (by decide) wl_X11_mark_2 rfl rfl dX11_mark_71 ?_
            refine lv_iload_n hx hb dX11_mark_74 rfl (lv_at hl 1 rfl) ?_
            refine lv_iload_n hx hb dX11_mark_75 rfl (lv_at hl 2 rfl) ?_
            refine lv_iload_n hx hb dX11_mark_76 rfl (lv_at hl 3 rfl) ?_
            refine lv_iload hx hb dX11_mark_77 (lv_at hl 4 rfl) ?_
            refine nr_goI (nr_runV (As := [.int (nI ji), .int (nI jr), .int (nI jt), .int (nI jx1)]) (C := RX7) (T := TX7) (N := 3) ⟨hx, hb, hml, hown, hts⟩ hw (by omega) (isV_10 hV) rfl (c_X7_add_r10 l Γ n G (co + 28) V hV (by omega) hj ji jr jt jx1 hI (by omega)) (cwV 4 hts gX11_mark_X7_add rfl rfl rfl (by decide +kernel) ⟨Nat.le_of_ble_eq_true rfl, Nat.le_of_ble_eq_true rfl⟩) rfl hl.1 rfl (Nat.le_of_ble_eq_true rfl) dX11_mark_79 ⟨Nat.zero_le _, Nat.zero_le _⟩) hw hA hS (fun z13 G13 H locs hp hw hS => ?_)
            obtain ⟨ha13, hV, hf13⟩ := hp
            have hO := isO_fr hO hf13 (by omega)
            have hT := isT_fr hT hf13 (by omega)
            have hRd := isRd_fr hRd hf13 (by omega)
            have hD := isV_fr hD hf13 (by omega)
            have hRw := isRw_fr hRw hf13 (by omega)
            have hGs := isGs_fr hGs hf13 (by omega)
            have hCh := isCh_fr hCh hf13 (by omega)
            have hP0 := isV_fr hP0 hf13 (by omega)
            have hP1 := isV_fr hP1 hf13 (by omega)
            have hfr := fr_tr hfr hf13 (by omega) (by omega)
            have hV : isV Γ G13 (co + 28) (addV V 4 104 ji jr jt jx1) := hV
            subst ha13
            exact nr_retI hx hb hr hlocks hw hS (Or.inr (Or.inr (⟨ji, jr, jt, jx1, hji, rfl, hjra, hjrb, rfl, hjta, hjtb, rfl, hjx1a, hjx1b, rfl, by omega, rfl, hO, hT, hRd, hD, hRw, hGs, hCh, hV, hP0, hP1, hfr⟩))) dX11_mark_82
        · have b7n : ¬ vRng (0) (60) x1 := fun hh => b7 ((with_c (by first | decide | omega) (by first | decide | omega)).mpr hh)
          refine nr_if_ne (tgt := 47) hx hb (by decide) dX11_mark_39 (by decide) (fun c14 => absurd c14 (by decide)) (fun c14 => ?_)
          refine lv_aload_n hx hb dX11_mark_42 rfl (lv_at hl 0 rfl) ?_
          refine nr_goI (nr_runV (As := []) (C := RX11) (T := TX11) (N := 11) ⟨hx, hb, hml, hown, hts⟩ hw (by omega) (isO_0 hO) rfl (c_X11_bad l Γ n G co kp rf hO (by omega) hj) (cwV 0 hts gX11_mark_X11_bad rfl rfl rfl (by decide +kernel) ⟨Nat.le_of_ble_eq_true rfl, Nat.le_of_ble_eq_true rfl⟩) rfl hl.1 rfl (Nat.le_of_ble_eq_true rfl) dX11_mark_43 ⟨Nat.zero_le _, Nat.zero_le _⟩) hw hA hS (fun z15 G15 H locs hp hw hS => ?_)
          obtain ⟨ha15, hO, hf15⟩ := hp
          have hT := isT_fr hT hf15 (by omega)
          have hRd := isRd_fr hRd hf15 (by omega)
          have hD := isV_fr hD hf15 (by omega)
          have hRw := isRw_fr hRw hf15 (by omega)
          have hGs := isGs_fr hGs hf15 (by omega)
          have hCh := isCh_fr hCh hf15 (by omega)
          have hV := isV_fr hV hf15 (by omega)
          have hP0 := isV_fr hP0 hf15 (by omega)
          have hP1 := isV_fr hP1 hf15 (by omega)
          have hfr := fr_tr hfr hf15 (by omega) (by omega)
          have hO : isO Γ G15 co kp (bmp rf 0) := hO
          subst ha15
          exact nr_retI hx hb hr hlocks hw hS (Or.inl ⟨by intro hh; first | contradiction | (obtain ⟨hq1, hq2⟩ := hh; first | contradiction | (obtain ⟨hq2, hq3⟩ := hq2; first | contradiction | (obtain ⟨hq3, hq4⟩ := hq3; first | contradiction | (obtain ⟨hq4, hq5⟩ := hq4; first | contradiction | (exact hq4 (congrArg nI (by assumption))))))), rfl, hO, hT, hRd, hD, hRw, hGs, hCh, hV, hP0, hP1, hfr⟩) dX11_mark_46
      · have b5n : ¬ vRng (0) (99) t := fun hh => b5 ((with_c (by first | decide | omega) (by first | decide | omega)).mpr hh)
        refine nr_if_eq (tgt := 42) hx hb (by decide) dX11_mark_28 (by decide) (fun c16 => ?_) (fun c16 => absurd c16 (by decide))
        refine lv_aload_n hx hb dX11_mark_42 rfl (lv_at hl 0 rfl) ?_
        refine nr_goI (nr_runV (As := []) (C := RX11) (T := TX11) (N := 11) ⟨hx, hb, hml, hown, hts⟩ hw (by omega) (isO_0 hO) rfl (c_X11_bad l Γ n G co kp rf hO (by omega) hj) (cwV 0 hts gX11_mark_X11_bad rfl rfl rfl (by decide +kernel) ⟨Nat.le_of_ble_eq_true rfl, Nat.le_of_ble_eq_true rfl⟩) rfl hl.1 rfl (Nat.le_of_ble_eq_true rfl) dX11_mark_43 ⟨Nat.zero_le _, Nat.zero_le _⟩) hw hA hS (fun z17 G17 H locs hp hw hS => ?_)
        obtain ⟨ha17, hO, hf17⟩ := hp
        have hT := isT_fr hT hf17 (by omega)
        have hRd := isRd_fr hRd hf17 (by omega)
        have hD := isV_fr hD hf17 (by omega)
        have hRw := isRw_fr hRw hf17 (by omega)
        have hGs := isGs_fr hGs hf17 (by omega)
        have hCh := isCh_fr hCh hf17 (by omega)
        have hV := isV_fr hV hf17 (by omega)
        have hP0 := isV_fr hP0 hf17 (by omega)
        have hP1 := isV_fr hP1 hf17 (by omega)
        have hfr := fr_tr hfr hf17 (by omega) (by omega)
        have hO : isO Γ G17 co kp (bmp rf 0) := hO
        subst ha17
        exact nr_retI hx hb hr hlocks hw hS (Or.inl ⟨by intro hh; first | contradiction | (obtain ⟨hq1, hq2⟩ := hh; first | contradiction | (obtain ⟨hq2, hq3⟩ := hq2; first | contradiction | (obtain ⟨hq3, hq4⟩ := hq3; first | contradiction | (obtain ⟨hq4, hq5⟩ := hq4; first | contradiction | (exact hq4 (congrArg nI (by assumption))))))), rfl, hO, hT, hRd, hD, hRw, hGs, hCh, hV, hP0, hP1, hfr⟩) dX11_mark_46
    · have b3n : ¬ vRng (0) (9) r := fun hh => b3 ((with_c (by first | decide | omega) (by first | decide | omega)).mpr hh)
      refine nr_if_eq (tgt := 42) hx hb (by decide) dX11_mark_18 (by decide) (fun c18 => ?_) (fun c18 => absurd c18 (by decide))
      refine lv_aload_n hx hb dX11_mark_42 rfl (lv_at hl 0 rfl) ?_
      refine nr_goI (nr_runV (As := []) (C := RX11) (T := TX11) (N := 11) ⟨hx, hb, hml, hown, hts⟩ hw (by omega) (isO_0 hO) rfl (c_X11_bad l Γ n G co kp rf hO (by omega) hj) (cwV 0 hts gX11_mark_X11_bad rfl rfl rfl (by decide +kernel) ⟨Nat.le_of_ble_eq_true rfl, Nat.le_of_ble_eq_true rfl⟩) rfl hl.1 rfl (Nat.le_of_ble_eq_true rfl) dX11_mark_43 ⟨Nat.zero_le _, Nat.zero_le _⟩) hw hA hS (fun z19 G19 H locs hp hw hS => ?_)
      obtain ⟨ha19, hO, hf19⟩ := hp
      have hT := isT_fr hT hf19 (by omega)
      have hRd := isRd_fr hRd hf19 (by omega)
      have hD := isV_fr hD hf19 (by omega)
      have hRw := isRw_fr hRw hf19 (by omega)
      have hGs := isGs_fr hGs hf19 (by omega)
      have hCh := isCh_fr hCh hf19 (by omega)
      have hV := isV_fr hV hf19 (by omega)
      have hP0 := isV_fr hP0 hf19 (by omega)
      have hP1 := isV_fr hP1 hf19 (by omega)
      have hfr := fr_tr hfr hf19 (by omega) (by omega)
      have hO : isO Γ G19 co kp (bmp rf 0) := hO
      subst ha19
      exact nr_retI hx hb hr hlocks hw hS (Or.inl ⟨by intro hh; first | contradiction | (obtain ⟨hq1, hq2⟩ := hh; first | contradiction | (obtain ⟨hq2, hq3⟩ := hq2; first | contradiction | (obtain ⟨hq3, hq4⟩ := hq3; first | contradiction | (obtain ⟨hq4, hq5⟩ := hq4; first | contradiction | (exact hq4 (congrArg nI (by assumption))))))), rfl, hO, hT, hRd, hD, hRw, hGs, hCh, hV, hP0, hP1, hfr⟩) dX11_mark_46
  · refine nr_if_eq (tgt := 42) hx hb (by decide) dX11_mark_8 (by decide) (fun c20 => ?_) (fun c20 => absurd c20 (by decide))
    refine lv_aload_n hx hb dX11_mark_42 rfl (lv_at hl 0 rfl) ?_
    refine nr_goI (nr_runV (As := []) (C := RX11) (T := TX11) (N := 11) ⟨hx, hb, hml, hown, hts⟩ hw (by omega) (isO_0 hO) rfl (c_X11_bad l Γ n G co kp rf hO (by omega) hj) (cwV 0 hts gX11_mark_X11_bad rfl rfl rfl (by decide +kernel) ⟨Nat.le_of_ble_eq_true rfl, Nat.le_of_ble_eq_true rfl⟩) rfl hl.1 rfl (Nat.le_of_ble_eq_true rfl) dX11_mark_43 ⟨Nat.zero_le _, Nat.zero_le _⟩) hw hA hS (fun z21 G21 H locs hp hw hS => ?_)
    obtain ⟨ha21, hO, hf21⟩ := hp
    have hT := isT_fr hT hf21 (by omega)
    have hRd := isRd_fr hRd hf21 (by omega)
    have hD := isV_fr hD hf21 (by omega)
    have hRw := isRw_fr hRw hf21 (by omega)
    have hGs := isGs_fr hGs hf21 (by omega)
    have hCh := isCh_fr hCh hf21 (by omega)
    have hV := isV_fr hV hf21 (by omega)
    have hP0 := isV_fr hP0 hf21 (by omega)
    have hP1 := isV_fr hP1 hf21 (by omega)
    have hfr := fr_tr hfr hf21 (by omega) (by omega)
    have hO : isO Γ G21 co kp (bmp rf 0) := hO
    subst ha21
    exact nr_retI hx hb hr hlocks hw hS (Or.inl ⟨by intro hh; first | contradiction | (obtain ⟨hq1, hq2⟩ := hh; first | contradiction | (obtain ⟨hq2, hq3⟩ := hq2; first | contradiction | (obtain ⟨hq3, hq4⟩ := hq3; first | contradiction | (obtain ⟨hq4, hq5⟩ := hq4; first | contradiction | (exact hq4 (congrArg nI (by assumption))))))), rfl, hO, hT, hRd, hD, hRw, hGs, hCh, hV, hP0, hP1, hfr⟩) dX11_mark_46
