section SZ
def runF (P : Nat → Prop) [DecidablePred P] : Nat → Nat → Nat
  | 0, a => a
  | f + 1, a => if P a then runF P f (a + 1) else a
/-- from a on as long as P holds, at most to L -/
def runL (P : Nat → Prop) [DecidablePred P] (L a : Nat) : Nat := runF P (L - a) a
theorem runL_stop {P : Nat → Prop} [DecidablePred P] {L a : Nat} (hp : L ≤ a ∨ ¬ P a) : runL P L a = a := by
  unfold runL
  cases h : L - a with
  | zero => rfl
  | succ f =>
    unfold runF
    rw [if_neg]
    rcases hp with q | q
    · omega
    · exact q
theorem runL_go {P : Nat → Prop} [DecidablePred P] {L a : Nat} (h : a < L) (hp : P a) : runL P L (a + 1) = runL P L a := by
  unfold runL
  rw [show L - a = (L - (a + 1)) + 1 by omega]
  show _ = runF P ((L - (a + 1)) + 1) a
  conv => rhs; unfold runF
  rw [if_pos hp]
theorem runF_b {P : Nat → Prop} [DecidablePred P] : ∀ (f a : Nat), a ≤ runF P f a ∧ runF P f a ≤ a + f ∧ ∀ j, a ≤ j → j < runF P f a → P j
  | 0, a => ⟨Nat.le_refl _, Nat.le_refl _, fun j h1 h2 => absurd h2 (Nat.not_lt.mpr h1)⟩
  | f + 1, a => by
    obtain ⟨h1, h2, h3⟩ := runF_b (P := P) f (a + 1)
    unfold runF
    split
    · refine ⟨by omega, by omega, fun j g1 g2 => ?_⟩
      rcases Nat.lt_or_eq_of_le g1 with q | q
      · exact h3 j q g2
      · rw [← q]; assumption
    · exact ⟨Nat.le_refl _, by omega, fun j g1 g2 => absurd g2 (Nat.not_lt.mpr g1)⟩
theorem runL_b {P : Nat → Prop} [DecidablePred P] {L a : Nat} (h : a ≤ L) : a ≤ runL P L a ∧ runL P L a ≤ L ∧ ∀ j, a ≤ j → j < runL P L a → P j := by
  obtain ⟨h1, h2, h3⟩ := runF_b (P := P) (L - a) a
  exact ⟨h1, by unfold runL; omega, h3⟩
abbrev isSm (c : Nat) : Prop := 97 ≤ c ∧ c ≤ 122
abbrev isFg (c : Nat) : Prop := 48 ≤ c ∧ c ≤ 57
abbrev spP (T : Nat → Nat) (j : Nat) : Prop := T j = 32
abbrev smP (T : Nat → Nat) (j : Nat) : Prop := isSm (T j)
abbrev fgP (T : Nat → Nat) (j : Nat) : Prop := isFg (T j)
def tokS (T : Nat → Nat) (L a : Nat) : Nat := runL (spP T) L a
def tokE (T : Nat → Nat) (L x : Nat) : Nat := if x < L then (if isSm (T x) then runL (smP T) L x else if isFg (T x) then runL (fgP T) L x else x + 1) else x
def tokK (T : Nat → Nat) (L x : Nat) : Nat := if x < L then (if isSm (T x) then 1 else if isFg (T x) then (if 2 < tokE T L x - x then 4 else 2) else if T x = 59 then 3 else 4) else 0
def valF (T : Nat → Nat) (x : Nat) : Nat → Nat
  | 0 => 0
  | k + 1 => 10 * valF T x k + T (x + k) - 48
def tokV (T : Nat → Nat) (L x : Nat) : Nat := if x < L ∧ ¬ isSm (T x) ∧ isFg (T x) then valF T x (min 2 (tokE T L x - x)) else 0
def nT (T : Nat → Nat) (L x : Nat) : Nat := tokS T L (tokE T L x)
theorem tokS_b {T : Nat → Nat} {L a : Nat} (h : a ≤ L) : a ≤ tokS T L a ∧ tokS T L a ≤ L := ⟨(runL_b h).1, (runL_b h).2.1⟩
theorem tokE_b {T : Nat → Nat} {L x : Nat} (h : x ≤ L) : x ≤ tokE T L x ∧ tokE T L x ≤ L ∧ (x < L → x < tokE T L x) := by
  unfold tokE
  have h1 := runL_b (P := smP T) h
  have h2 := runL_b (P := fgP T) h
  split
  · split
    · rename_i a b
      have h3 := runL_go (P := smP T) a b
      have h4 := runL_b (P := smP T) (L := L) (a := x + 1) (by omega)
      omega
    · split
      · rename_i a b c
        have h3 := runL_go (P := fgP T) a c
        have h4 := runL_b (P := fgP T) (L := L) (a := x + 1) (by omega)
        omega
      · omega
  · omega
theorem nT_b {T : Nat → Nat} {L x : Nat} (h : x ≤ L) : x ≤ nT T L x ∧ nT T L x ≤ L ∧ (x < L → x < nT T L x) := by
  have h1 := tokE_b (T := T) h
  have h2 := tokS_b (T := T) h1.2.1
  unfold nT
  omega
theorem tokK_le (T : Nat → Nat) (L x : Nat) : tokK T L x ≤ 4 := by
  unfold tokK; (repeat' split) <;> omega
theorem tokV_le (T : Nat → Nat) (L x : Nat) : tokV T L x ≤ 99 := by
  unfold tokV
  split
  · rename_i h
    have hE : tokE T L x = runL (fgP T) L x := by unfold tokE; rw [if_pos h.1, if_neg h.2.1, if_pos h.2.2]
    have h3 := (runL_b (P := fgP T) (L := L) (a := x) (by omega)).2.2
    rw [← hE] at h3
    generalize tokE T L x = e9 at h3 ⊢
    rcases (show min 2 (e9 - x) = 0 ∨ min 2 (e9 - x) = 1 ∨ min 2 (e9 - x) = 2 by omega) with q | q | q <;> rw [q]
    · exact Nat.zero_le _
    · have := (h3 x (by omega) (by omega)).2
      simp only [valF, Nat.add_zero]
      omega
    · have := (h3 x (by omega) (by omega)).2
      have := (h3 (x + 1) (by omega) (by omega)).2
      simp only [valF, Nat.add_zero]
      omega
  · omega
/-- the reference stands at the token that begins at iv 1 -/
def lkAt (T : Nat → Nat) (L : Nat) (iv : Nat → Nat) : Prop := iv 0 = L ∧ iv 1 ≤ L ∧ iv 2 = tokE T L (iv 1) - iv 1 ∧ iv 3 = tokK T L (iv 1) ∧ iv 4 = tokV T L (iv 1)
def lkP (T : Nat → Nat) (L a : Nat) (iv iv2 : Nat → Nat) : Prop := lkAt T L iv2 ∧ iv2 1 = tokS T L a ∧ iv2 5 = iv 5 ∧ iv2 6 = iv 6
def lkN (T : Nat → Nat) (L : Nat) (iv iv2 : Nat → Nat) : Prop := lkAt T L iv2 ∧ iv2 1 = nT T L (iv 1) ∧ iv2 5 = iv 5 ∧ iv2 6 = iv 6
theorem lk_f {T : Nat → Nat} {L : Nat} {iv : Nat → Nat} (h : lkAt T L iv) : iv 0 = L ∧ iv 1 ≤ L ∧ iv 1 + iv 2 ≤ L ∧ iv 3 ≤ 4 ∧ iv 4 ≤ 99 := by
  obtain ⟨h1, h2, h3, h4, h5⟩ := h
  have h6 := tokE_b (T := T) h2
  have h7 := tokK_le T L (iv 1)
  have h8 := tokV_le T L (iv 1)
  omega
theorem lk_e {T : Nat → Nat} {L : Nat} {iv : Nat → Nat} (h : lkAt T L iv) : iv 1 + iv 2 = tokE T L (iv 1) := by
  obtain ⟨h1, h2, h3, h4, h5⟩ := h
  have h6 := tokE_b (T := T) h2
  omega
end SZ
section SZ2
variable {p : Program} {l : Launch} {e : Env} {R : Room} {s : State} {m : MethodId} {args : Array Value} {below : List Frame} {meth : Method} {c : Code} {H : Heap} {locs : List Loc} {cells slots : Nat} {Q : State → Prop} {Γ : Gam} {n : Nat}
/-- a place where ways meet: what is said there once, is used by each -/
theorem nr_join {σ : Type} (pc : Nat) (Gf : σ → Nat → va_E) (I : σ → List (Nat × Value) → Prop) {nL : Nat} {A : Nat → Prop} {H0 : Heap} {pc0 : Nat} {ls0 : Array Slot} {st0 : List Value}
    (J : ∀ (x : σ) (lv : List (Nat × Value)) (ls : Array Slot) (H : Heap) (locs : List Loc), hw Γ n (Gf x) s H → va_S A H0 H locs → lv_has ls nL lv → I x lv → W p l e R s m args below meth c H locs cells slots Q (F0 m pc ls []))
    (K : (∀ (x : σ) (lv : List (Nat × Value)) (ls : Array Slot) (H : Heap) (locs : List Loc), hw Γ n (Gf x) s H → va_S A H0 H locs → lv_has ls nL lv → I x lv → W p l e R s m args below meth c H locs cells slots Q (F0 m pc ls [])) → W p l e R s m args below meth c H locs cells slots Q (F0 m pc0 ls0 st0)) : W p l e R s m args below meth c H locs cells slots Q (F0 m pc0 ls0 st0) := K J
end SZ2
theorem wl_X12_isSmall_1 : Cond.constantLong RX12 225 (97) ∈ wsX12_isSmall := List.mem_of_getElem? (i := 1) rfl
theorem wl_X12_isSmall_2 : Cond.constantLong RX12 227 (122) ∈ wsX12_isSmall := List.mem_of_getElem? (i := 2) rfl
set_option maxHeartbeats 4000000 in
set_option maxRecDepth 100000 in
theorem c_X12_isSmall (l : Launch) (Γ : Gam) (n : Nat) (G : Nat → va_E) (q : Nat) (hq : q < 2147483648)  : Met l yX12_isSmall wsX12_isSmall ({ frames := 1, cells := 0, slots := 0, locals := 25 }) (va_Pc [.int (nI q)] (fun U => hw Γ n G U U.heap)) (vp_Si (bp (97 ≤ q ∧ q ≤ 122))) 0 0 (fun _ => False) := by
  refine Met.ofW (cc := cX12_isSmall) (maxL := 1) (ret := (some .boolean)) (by decide) rfl ?_
  intro p e s m args below meth c s₁ B hml hv
  obtain ⟨rfl, hw⟩ := hv
  have hx := B.exec
  have hb := B.bytes
  have hr := B.returns
  have hts := atoms_spec (ws := wsX12_isSmall) B.pre
  have hown : s.vm.findClass RX12 = some m.cls := findClass_of_methodNamed B.named
  have hlocks := B.notSynchronized
  have hl := lv_entry ([.int (nI q)]) (n := 1) (Nat.le_of_ble_eq_true rfl)
  rw [lg_entry_eq]
  generalize (lg_sl ([.int (nI q)]) ++ List.replicate (1 - (lg_sl ([.int (nI q)])).length) Slot.unset).toArray = ls at hl ⊢
  have hl : lv_has ls 1 [(0, .int (nI q))] := hl
  refine lv_iload_n hx hb dX12_isSmall_0 rfl (lv_at hl 0 rfl) ?_
  refine lv_i2l (v := lN q) hx hb dX12_isSmall_1 (nI_l (by omega)) ?_
  refine nr_ldc2 (k := 97) hx hb hown (hts _ wl_X12_isSmall_1) (by decide) dX12_isSmall_2 ?_
  refine nr_ldc2 (k := 122) hx hb hown (hts _ wl_X12_isSmall_2) (by decide) dX12_isSmall_5 ?_
  refine nr_goB (P := (lN 97) ≤ (lN q) ∧ (lN q) ≤ (lN 122)) (nr_runS (As := [.long (lN q), .long (lN 97), .long (lN 122)]) ⟨hx, hb, hml, hown, hts⟩ hw (c_X12_in l Γ n G (lN q) (lN 97) (lN 122)) (va_cwS 3 hts gX12_isSmall_X12_in rfl rfl rfl (by decide +kernel) ⟨Nat.le_of_ble_eq_true rfl, Nat.le_of_ble_eq_true rfl⟩) rfl hl.1 rfl (Nat.le_of_ble_eq_true rfl) dX12_isSmall_8 ⟨Nat.zero_le _, Nat.zero_le _⟩) (fun b1 => ?_) (fun b1 => ?_)
  · exact nr_retB hx hb hr hlocks (Or.inl ⟨⟨(pk_lLE (by decide) (by omega)).mp b1.1, (pk_lLE (by omega) (by decide)).mp b1.2⟩, rfl⟩) rfl dX12_isSmall_11
  · exact nr_retB hx hb hr hlocks (Or.inr ⟨fun hh => b1 ⟨(pk_lLE (by decide) (by omega)).mpr hh.1, (pk_lLE (by omega) (by decide)).mpr hh.2⟩, rfl⟩) rfl dX12_isSmall_11
theorem wl_X12_isFigure_1 : Cond.constantLong RX12 229 (48) ∈ wsX12_isFigure := List.mem_of_getElem? (i := 1) rfl
theorem wl_X12_isFigure_2 : Cond.constantLong RX12 231 (57) ∈ wsX12_isFigure := List.mem_of_getElem? (i := 2) rfl
set_option maxHeartbeats 4000000 in
set_option maxRecDepth 100000 in
theorem c_X12_isFigure (l : Launch) (Γ : Gam) (n : Nat) (G : Nat → va_E) (q : Nat) (hq : q < 2147483648)  : Met l yX12_isFigure wsX12_isFigure ({ frames := 1, cells := 0, slots := 0, locals := 25 }) (va_Pc [.int (nI q)] (fun U => hw Γ n G U U.heap)) (vp_Si (bp (48 ≤ q ∧ q ≤ 57))) 0 0 (fun _ => False) := by
  refine Met.ofW (cc := cX12_isFigure) (maxL := 1) (ret := (some .boolean)) (by decide) rfl ?_
  intro p e s m args below meth c s₁ B hml hv
  obtain ⟨rfl, hw⟩ := hv
  have hx := B.exec
  have hb := B.bytes
  have hr := B.returns
  have hts := atoms_spec (ws := wsX12_isFigure) B.pre
  have hown : s.vm.findClass RX12 = some m.cls := findClass_of_methodNamed B.named
  have hlocks := B.notSynchronized
  have hl := lv_entry ([.int (nI q)]) (n := 1) (Nat.le_of_ble_eq_true rfl)
  rw [lg_entry_eq]
  generalize (lg_sl ([.int (nI q)]) ++ List.replicate (1 - (lg_sl ([.int (nI q)])).length) Slot.unset).toArray = ls at hl ⊢
  have hl : lv_has ls 1 [(0, .int (nI q))] := hl
  refine lv_iload_n hx hb dX12_isFigure_0 rfl (lv_at hl 0 rfl) ?_
  refine lv_i2l (v := lN q) hx hb dX12_isFigure_1 (nI_l (by omega)) ?_
  refine nr_ldc2 (k := 48) hx hb hown (hts _ wl_X12_isFigure_1) (by decide) dX12_isFigure_2 ?_
  refine nr_ldc2 (k := 57) hx hb hown (hts _ wl_X12_isFigure_2) (by decide) dX12_isFigure_5 ?_
  refine nr_goB (P := (lN 48) ≤ (lN q) ∧ (lN q) ≤ (lN 57)) (nr_runS (As := [.long (lN q), .long (lN 48), .long (lN 57)]) ⟨hx, hb, hml, hown, hts⟩ hw (c_X12_in l Γ n G (lN q) (lN 48) (lN 57)) (va_cwS 3 hts gX12_isFigure_X12_in rfl rfl rfl (by decide +kernel) ⟨Nat.le_of_ble_eq_true rfl, Nat.le_of_ble_eq_true rfl⟩) rfl hl.1 rfl (Nat.le_of_ble_eq_true rfl) dX12_isFigure_8 ⟨Nat.zero_le _, Nat.zero_le _⟩) (fun b1 => ?_) (fun b1 => ?_)
  · exact nr_retB hx hb hr hlocks (Or.inl ⟨⟨(pk_lLE (by decide) (by omega)).mp b1.1, (pk_lLE (by omega) (by decide)).mp b1.2⟩, rfl⟩) rfl dX12_isFigure_11
  · exact nr_retB hx hb hr hlocks (Or.inr ⟨fun hh => b1 ⟨(pk_lLE (by decide) (by omega)).mpr hh.1, (pk_lLE (by omega) (by decide)).mpr hh.2⟩, rfl⟩) rfl dX12_isFigure_11
theorem wl_X12_lookAt_1 : Cond.fieldLink RX12 233 "BellForgivenModel" "tokenAt" "I" ∈ wsX12_lookAt := List.mem_of_getElem? (i := 1) rfl
theorem wl_X12_lookAt_2 : Cond.fieldLink RX12 221 "BellForgivenModel" "bytesLong" "I" ∈ wsX12_lookAt := List.mem_of_getElem? (i := 2) rfl
theorem wl_X12_lookAt_3 : Cond.fieldLink RX12 42 "BellForgivenModel" "bytes" "[I" ∈ wsX12_lookAt := List.mem_of_getElem? (i := 3) rfl
theorem wl_X12_lookAt_4 : Cond.fieldLink RX12 236 "BellForgivenModel" "tokenLong" "I" ∈ wsX12_lookAt := List.mem_of_getElem? (i := 4) rfl
theorem wl_X12_lookAt_5 : Cond.fieldLink RX12 239 "BellForgivenModel" "token" "I" ∈ wsX12_lookAt := List.mem_of_getElem? (i := 5) rfl
theorem wl_X12_lookAt_6 : Cond.fieldLink RX12 242 "BellForgivenModel" "value" "I" ∈ wsX12_lookAt := List.mem_of_getElem? (i := 6) rfl
theorem hi_X12_lookAt_X12 : ∀ w ∈ u_ws RX12 TX12 19, w ∈ wsX12_lookAt := fun w h => (List.mem_cons_of_mem _ (List.mem_append_right _ h))
set_option maxHeartbeats 4000000 in
set_option maxRecDepth 100000 in
theorem c_X12_lookAt (l : Launch) (Γ : Gam) (n : Nat) (G : Nat → va_E) (mo : Nat) (R K kp rf ca rc hd fw tl by0 an vl iv : Nat → Nat) (hM : isM Γ G mo R K kp rf ca rc hd fw tl by0 an vl iv) (hmo : mo + 13 ≤ n) (hI : vI R) (hj : winj Γ n) (q : Nat) (hq : q ≤ iv 0) (hL : iv 0 ≤ 150) (hbt : ∀ j, by0 j ≤ 127)  : Met l yX12_lookAt wsX12_lookAt ({ frames := 2, cells := 0, slots := 0, locals := 45 }) (va_Pc [.ref (ad Γ (mo + 0)), .int (nI q)] (fun U => hw Γ n G U U.heap)) (wQv Γ n (fun G2 => ∃ iv2 : Nat → Nat, (lkP by0 (iv 0) q iv iv2) ∧ isM Γ G2 mo R K kp rf ca rc hd fw tl by0 an vl iv2 ∧ fr G G2 mo (mo + 13))) 0 0 (wA Γ n) := by
  refine Met.ofW (cc := cX12_lookAt) (maxL := 5) (ret := none) (by decide) rfl ?_
  intro p e s m args below meth c s₁ B hml hv
  obtain ⟨rfl, hw⟩ := hv
  have hx := B.exec
  have hb := B.bytes
  have hr := B.returns
  have hts := atoms_spec (ws := wsX12_lookAt) B.pre
  have hown : s.vm.findClass RX12 = some m.cls := findClass_of_methodNamed B.named
  have hlocks := B.notSynchronized
  have hS : va_S (wA Γ n) s.heap s.heap [] := va_S.rf
  have hA : ∀ q, wA Γ n q → wA Γ n q := fun _ h => h
  have hl := lv_entry ([.ref (ad Γ (mo + 0)), .int (nI q)]) (n := 5) (Nat.le_of_ble_eq_true rfl)
  rw [lg_entry_eq]
  generalize (lg_sl ([.ref (ad Γ (mo + 0)), .int (nI q)]) ++ List.replicate (5 - (lg_sl ([.ref (ad Γ (mo + 0)), .int (nI q)])).length) Slot.unset).toArray = ls at hl ⊢
  have hl : lv_has ls 5 [(0, .ref (ad Γ (mo + 0))), (1, .int (nI q))] := hl
  have hfr := fr_rf G mo (mo + 13)
  have hB := hI.1
  have hB0 := hI.2.1
  have hB1 := hI.2.2.1
  have hB20 := hI.2.2.2.2.2.2.2.2.2
  have hBz2 := hI.2.2.2.1
  have hBz3 := hI.2.2.2.2.1
  have hBz4 := hI.2.2.2.2.2.1
  have hBz5 := hI.2.2.2.2.2.2.1
  have hby := hI.2.2.2.2.2.2.2.1
  have hto := hI.2.2.2.2.2.2.2.2.1
  refine nr_join (Γ := Γ) (n := n) (nL := 5) (A := wA Γ n) (H0 := s.heap) (σ := (Nat → va_E) × Nat × (Nat → Nat)) 43 (fun x => x.1) (fun x lv => lv = [(0, .ref (ad Γ (mo + 0))), (1, .int (nI q))] ∧ isM Γ x.1 mo R K kp rf ca rc hd fw tl by0 an vl x.2.2 ∧ fr G x.1 mo (mo + 13) ∧ (x.2.2 0 = iv 0) ∧ (x.2.2 1 = x.2.1) ∧ (x.2.2 5 = iv 5) ∧ (x.2.2 6 = iv 6) ∧ (x.2.1 ≤ iv 0) ∧ (tokS by0 (iv 0) q = x.2.1)) ?_ (fun ih43 => ?_)
  · intro x lv ls H locs hw hS hl hI
    obtain ⟨Gj43, sx, ivL43⟩ := x
    obtain ⟨rfl, hM, hfr, hu0, hu1, hu5, hu6, hx2, hS9⟩ := hI
    try dsimp only at hM hfr hu0 hu1 hu5 hu6 hx2 hS9 hw hl
    refine lv_aload_n hx hb dX12_lookAt_43 rfl (lv_at hl 0 rfl) ?_
    refine lv_iconst (v := nI 0) hx hb dX12_lookAt_44 (by decide) ?_
    obtain ⟨iv1, eiv1⟩ : ∃ f, f = va_up ivL43 2 0 := ⟨_, rfl⟩
    have hiv1_0 : iv1 0 = iv 0 := by rw [eiv1]; exact (va_up_ne _ _ (by decide)).trans hu0
    have hiv1_1 : iv1 1 = sx := by rw [eiv1]; exact (va_up_ne _ _ (by decide)).trans hu1
    have hiv1_2 : iv1 2 = 0 := by rw [eiv1]; exact va_up_self _ _ _
    have hiv1_3 : iv1 3 = ivL43 3 := by rw [eiv1]; exact va_up_ne _ _ (by decide)
    have hiv1_4 : iv1 4 = ivL43 4 := by rw [eiv1]; exact va_up_ne _ _ (by decide)
    have hiv1_5 : iv1 5 = iv 5 := by rw [eiv1]; exact (va_up_ne _ _ (by decide)).trans hu5
    have hiv1_6 : iv1 6 = iv 6 := by rw [eiv1]; exact (va_up_ne _ _ (by decide)).trans hu6
    refine nr_put (own := RX12) (C := RX12) (T := TX12) (N := 19) (ty := .int) (v := .int (nI 0)) (fs' := [.ref (ad Γ (mo + 1)), .ref (ad Γ (mo + 2)), .ref (ad Γ (mo + 3)), .ref (ad Γ (mo + 4)), .long (lN (iv1 5)), .long (lN (iv1 6)), .ref (ad Γ (mo + 5)), .ref (ad Γ (mo + 6)), .ref (ad Γ (mo + 7)), .ref (ad Γ (mo + 8)), .ref (ad Γ (mo + 9)), .ref (ad Γ (mo + 10)), .int (nI (iv1 0)), .int (nI (iv1 1)), .int (nI (iv1 2)), .int (nI (iv1 3)), .int (nI (iv1 4)), .ref (ad Γ (mo + 11)), .ref (ad Γ (mo + 12))]) hx hb hts hi_X12_lookAt_X12 tyX12 tyX12_ok nmX12 hown hw hj hA hS (by omega) (isM_0 hM) rfl 14 (by decide) wl_X12_lookAt_4 rfl rfl (by decide +kernel) rfl rfl (Nat.le_of_ble_eq_true rfl) (by rw [eiv1]; rfl) dX12_lookAt_45 (fun H locs hw hS => ?_)
    have hM := isM_s0 hM iv1
    have hfr := fr_up hfr (i := mo + 0) (by omega) (by omega) (.inr (9, [.ref (ad Γ (mo + 1)), .ref (ad Γ (mo + 2)), .ref (ad Γ (mo + 3)), .ref (ad Γ (mo + 4)), .long (lN (iv1 5)), .long (lN (iv1 6)), .ref (ad Γ (mo + 5)), .ref (ad Γ (mo + 6)), .ref (ad Γ (mo + 7)), .ref (ad Γ (mo + 8)), .ref (ad Γ (mo + 9)), .ref (ad Γ (mo + 10)), .int (nI (iv1 0)), .int (nI (iv1 1)), .int (nI (iv1 2)), .int (nI (iv1 3)), .int (nI (iv1 4)), .ref (ad Γ (mo + 11)), .ref (ad Γ (mo + 12))]))
    generalize va_up Gj43 (mo + 0) (.inr (9, [.ref (ad Γ (mo + 1)), .ref (ad Γ (mo + 2)), .ref (ad Γ (mo + 3)), .ref (ad Γ (mo + 4)), .long (lN (iv1 5)), .long (lN (iv1 6)), .ref (ad Γ (mo + 5)), .ref (ad Γ (mo + 6)), .ref (ad Γ (mo + 7)), .ref (ad Γ (mo + 8)), .ref (ad Γ (mo + 9)), .ref (ad Γ (mo + 10)), .int (nI (iv1 0)), .int (nI (iv1 1)), .int (nI (iv1 2)), .int (nI (iv1 3)), .int (nI (iv1 4)), .ref (ad Γ (mo + 11)), .ref (ad Γ (mo + 12))])) = G2 at hw hM hfr
    refine lv_aload_n hx hb dX12_lookAt_48 rfl (lv_at hl 0 rfl) ?_
    refine lv_iconst (v := nI 0) hx hb dX12_lookAt_49 (by decide) ?_
    obtain ⟨iv3, eiv3⟩ : ∃ f, f = va_up iv1 3 0 := ⟨_, rfl⟩
    have hiv3_0 : iv3 0 = iv 0 := by rw [eiv3]; exact (va_up_ne _ _ (by decide)).trans hiv1_0
    have hiv3_1 : iv3 1 = sx := by rw [eiv3]; exact (va_up_ne _ _ (by decide)).trans hiv1_1
    have hiv3_2 : iv3 2 = 0 := by rw [eiv3]; exact (va_up_ne _ _ (by decide)).trans hiv1_2
    have hiv3_3 : iv3 3 = 0 := by rw [eiv3]; exact va_up_self _ _ _
    have hiv3_4 : iv3 4 = ivL43 4 := by rw [eiv3]; exact (va_up_ne _ _ (by decide)).trans hiv1_4
    have hiv3_5 : iv3 5 = iv 5 := by rw [eiv3]; exact (va_up_ne _ _ (by decide)).trans hiv1_5
    have hiv3_6 : iv3 6 = iv 6 := by rw [eiv3]; exact (va_up_ne _ _ (by decide)).trans hiv1_6
    refine nr_put (own := RX12) (C := RX12) (T := TX12) (N := 19) (ty := .int) (v := .int (nI 0)) (fs' := [.ref (ad Γ (mo + 1)), .ref (ad Γ (mo + 2)), .ref (ad Γ (mo + 3)), .ref (ad Γ (mo + 4)), .long (lN (iv3 5)), .long (lN (iv3 6)), .ref (ad Γ (mo + 5)), .ref (ad Γ (mo + 6)), .ref (ad Γ (mo + 7)), .ref (ad Γ (mo + 8)), .ref (ad Γ (mo + 9)), .ref (ad Γ (mo + 10)), .int (nI (iv3 0)), .int (nI (iv3 1)), .int (nI (iv3 2)), .int (nI (iv3 3)), .int (nI (iv3 4)), .ref (ad Γ (mo + 11)), .ref (ad Γ (mo + 12))]) hx hb hts hi_X12_lookAt_X12 tyX12 tyX12_ok nmX12 hown hw hj hA hS (by omega) (isM_0 hM) rfl 15 (by decide) wl_X12_lookAt_5 rfl rfl (by decide +kernel) rfl rfl (Nat.le_of_ble_eq_true rfl) (by rw [eiv3]; rfl) dX12_lookAt_50 (fun H locs hw hS => ?_)
    have hM := isM_s0 hM iv3
    have hfr := fr_up hfr (i := mo + 0) (by omega) (by omega) (.inr (9, [.ref (ad Γ (mo + 1)), .ref (ad Γ (mo + 2)), .ref (ad Γ (mo + 3)), .ref (ad Γ (mo + 4)), .long (lN (iv3 5)), .long (lN (iv3 6)), .ref (ad Γ (mo + 5)), .ref (ad Γ (mo + 6)), .ref (ad Γ (mo + 7)), .ref (ad Γ (mo + 8)), .ref (ad Γ (mo + 9)), .ref (ad Γ (mo + 10)), .int (nI (iv3 0)), .int (nI (iv3 1)), .int (nI (iv3 2)), .int (nI (iv3 3)), .int (nI (iv3 4)), .ref (ad Γ (mo + 11)), .ref (ad Γ (mo + 12))]))
    generalize va_up G2 (mo + 0) (.inr (9, [.ref (ad Γ (mo + 1)), .ref (ad Γ (mo + 2)), .ref (ad Γ (mo + 3)), .ref (ad Γ (mo + 4)), .long (lN (iv3 5)), .long (lN (iv3 6)), .ref (ad Γ (mo + 5)), .ref (ad Γ (mo + 6)), .ref (ad Γ (mo + 7)), .ref (ad Γ (mo + 8)), .ref (ad Γ (mo + 9)), .ref (ad Γ (mo + 10)), .int (nI (iv3 0)), .int (nI (iv3 1)), .int (nI (iv3 2)), .int (nI (iv3 3)), .int (nI (iv3 4)), .ref (ad Γ (mo + 11)), .ref (ad Γ (mo + 12))])) = G4 at hw hM hfr
    refine lv_aload_n hx hb dX12_lookAt_53 rfl (lv_at hl 0 rfl) ?_
    refine lv_iconst (v := nI 0) hx hb dX12_lookAt_54 (by decide) ?_
    obtain ⟨iv5, eiv5⟩ : ∃ f, f = va_up iv3 4 0 := ⟨_, rfl⟩
    have hiv5_0 : iv5 0 = iv 0 := by rw [eiv5]; exact (va_up_ne _ _ (by decide)).trans hiv3_0
    have hiv5_1 : iv5 1 = sx := by rw [eiv5]; exact (va_up_ne _ _ (by decide)).trans hiv3_1
    have hiv5_2 : iv5 2 = 0 := by rw [eiv5]; exact (va_up_ne _ _ (by decide)).trans hiv3_2
    have hiv5_3 : iv5 3 = 0 := by rw [eiv5]; exact (va_up_ne _ _ (by decide)).trans hiv3_3
    have hiv5_4 : iv5 4 = 0 := by rw [eiv5]; exact va_up_self _ _ _
    have hiv5_5 : iv5 5 = iv 5 := by rw [eiv5]; exact (va_up_ne _ _ (by decide)).trans hiv3_5
    have hiv5_6 : iv5 6 = iv 6 := by rw [eiv5]; exact (va_up_ne _ _ (by decide)).trans hiv3_6
    refine nr_put (own := RX12) (C := RX12) (T := TX12) (N := 19) (ty := .int) (v := .int (nI 0)) (fs' := [.ref (ad Γ (mo + 1)), .ref (ad Γ (mo + 2)), .ref (ad Γ (mo + 3)), .ref (ad Γ (mo + 4)), .long (lN (iv5 5)), .long (lN (iv5 6)), .ref (ad Γ (mo + 5)), .ref (ad Γ (mo + 6)), .ref (ad Γ (mo + 7)), .ref (ad Γ (mo + 8)), .ref (ad Γ (mo + 9)), .ref (ad Γ (mo + 10)), .int (nI (iv5 0)), .int (nI (iv5 1)), .int (nI (iv5 2)), .int (nI (iv5 3)), .int (nI (iv5 4)), .ref (ad Γ (mo + 11)), .ref (ad Γ (mo + 12))]) hx hb hts hi_X12_lookAt_X12 tyX12 tyX12_ok nmX12 hown hw hj hA hS (by omega) (isM_0 hM) rfl 16 (by decide) wl_X12_lookAt_6 rfl rfl (by decide +kernel) rfl rfl (Nat.le_of_ble_eq_true rfl) (by rw [eiv5]; rfl) dX12_lookAt_55 (fun H locs hw hS => ?_)
    have hM := isM_s0 hM iv5
    have hfr := fr_up hfr (i := mo + 0) (by omega) (by omega) (.inr (9, [.ref (ad Γ (mo + 1)), .ref (ad Γ (mo + 2)), .ref (ad Γ (mo + 3)), .ref (ad Γ (mo + 4)), .long (lN (iv5 5)), .long (lN (iv5 6)), .ref (ad Γ (mo + 5)), .ref (ad Γ (mo + 6)), .ref (ad Γ (mo + 7)), .ref (ad Γ (mo + 8)), .ref (ad Γ (mo + 9)), .ref (ad Γ (mo + 10)), .int (nI (iv5 0)), .int (nI (iv5 1)), .int (nI (iv5 2)), .int (nI (iv5 3)), .int (nI (iv5 4)), .ref (ad Γ (mo + 11)), .ref (ad Γ (mo + 12))]))
    generalize va_up G4 (mo + 0) (.inr (9, [.ref (ad Γ (mo + 1)), .ref (ad Γ (mo + 2)), .ref (ad Γ (mo + 3)), .ref (ad Γ (mo + 4)), .long (lN (iv5 5)), .long (lN (iv5 6)), .ref (ad Γ (mo + 5)), .ref (ad Γ (mo + 6)), .ref (ad Γ (mo + 7)), .ref (ad Γ (mo + 8)), .ref (ad Γ (mo + 9)), .ref (ad Γ (mo + 10)), .int (nI (iv5 0)), .int (nI (iv5 1)), .int (nI (iv5 2)), .int (nI (iv5 3)), .int (nI (iv5 4)), .ref (ad Γ (mo + 11)), .ref (ad Γ (mo + 12))])) = G6 at hw hM hfr
    refine lv_aload_n hx hb dX12_lookAt_58 rfl (lv_at hl 0 rfl) ?_
    refine nr_get (own := RX12) (C := RX12) (T := TX12) (N := 19) (v := .int (nI sx)) hx hb hts hi_X12_lookAt_X12 hown hw (by omega) (isM_0 hM) rfl 13 (by decide) wl_X12_lookAt_1 rfl (congrArg (fun z => some (Value.int (nI z))) hiv5_1) dX12_lookAt_59 ?_
    refine lv_aload_n hx hb dX12_lookAt_62 rfl (lv_at hl 0 rfl) ?_
    refine nr_get (own := RX12) (C := RX12) (T := TX12) (N := 19) (v := .int (nI (iv 0))) hx hb hts hi_X12_lookAt_X12 hown hw (by omega) (isM_0 hM) rfl 12 (by decide) wl_X12_lookAt_2 rfl (congrArg (fun z => some (Value.int (nI z))) hiv5_0) dX12_lookAt_63 ?_
    refine nr_icmp_ne (tgt := 70) hx hb (by omega) (by omega) dX12_lookAt_66 (by decide) (fun c7 => ?_) (fun c7 => ?_)
    · refine nr_join (Γ := Γ) (n := n) (nL := 5) (A := wA Γ n) (H0 := s.heap) (σ := (Nat → va_E) × Nat × Nat × Nat × (Nat → Nat)) 274 (fun x => x.1) (fun x lv => lv = [(0, .ref (ad Γ (mo + 0)))] ∧ isM Γ x.1 mo R K kp rf ca rc hd fw tl by0 an vl x.2.2.2.2 ∧ fr G x.1 mo (mo + 13) ∧ (x.2.2.2.2 0 = iv 0) ∧ (x.2.2.2.2 1 = sx) ∧ (x.2.2.2.2 2 = x.2.1) ∧ (x.2.2.2.2 3 = x.2.2.1) ∧ (x.2.2.2.2 4 = x.2.2.2.1) ∧ (x.2.2.2.2 5 = iv 5) ∧ (x.2.2.2.2 6 = iv 6) ∧ (tokE by0 (iv 0) sx = sx + x.2.1) ∧ (tokK by0 (iv 0) sx = if x.2.2.1 = 2 then (if 2 < x.2.1 then 4 else 2) else x.2.2.1) ∧ (tokV by0 (iv 0) sx = x.2.2.2.1) ∧ (x.2.2.1 ≤ 4) ∧ (x.2.1 ≤ 150)) ?_ (fun ih274 => ?_)
      · intro x lv ls H locs hw hS hl hI
        obtain ⟨Gj274, y, t3, v4, ivL274⟩ := x
        obtain ⟨rfl, hM, hfr, ht0, ht1, ht2, ht3, ht4, ht5, ht6, hE, hK, hV, ht34, hy150⟩ := hI
        try dsimp only at hM hfr ht0 ht1 ht2 ht3 ht4 ht5 ht6 hE hK hV ht34 hy150 hw hl
        refine lv_aload_n hx hb dX12_lookAt_274 rfl (lv_at hl 0 rfl) ?_
        refine lv_aload_n hx hb dX12_lookAt_275 rfl (lv_at hl 0 rfl) ?_
        refine nr_get (own := RX12) (C := RX12) (T := TX12) (N := 19) (v := .int (nI t3)) hx hb hts hi_X12_lookAt_X12 hown hw (by omega) (isM_0 hM) rfl 15 (by decide) wl_X12_lookAt_5 rfl (congrArg (fun z => some (Value.int (nI z))) ht3) dX12_lookAt_276 ?_
        refine lv_iconst (v := nI 2) hx hb dX12_lookAt_279 (by decide) ?_
        refine nr_icmp_ne (tgt := 295) hx hb (by omega) (by decide) dX12_lookAt_280 (by decide) (fun c8 => ?_) (fun c8 => ?_)
        · refine lv_aload_n hx hb dX12_lookAt_295 rfl (lv_at hl 0 rfl) ?_
          refine nr_get (own := RX12) (C := RX12) (T := TX12) (N := 19) (v := .int (nI t3)) hx hb hts hi_X12_lookAt_X12 hown hw (by omega) (isM_0 hM) rfl 15 (by decide) wl_X12_lookAt_5 rfl (congrArg (fun z => some (Value.int (nI z))) ht3) dX12_lookAt_296 ?_
          obtain ⟨iv9, eiv9⟩ : ∃ f, f = va_up ivL274 3 t3 := ⟨_, rfl⟩
          have hiv9_0 : iv9 0 = iv 0 := by rw [eiv9]; exact (va_up_ne _ _ (by decide)).trans ht0
          have hiv9_1 : iv9 1 = sx := by rw [eiv9]; exact (va_up_ne _ _ (by decide)).trans ht1
          have hiv9_2 : iv9 2 = y := by rw [eiv9]; exact (va_up_ne _ _ (by decide)).trans ht2
          have hiv9_3 : iv9 3 = t3 := by rw [eiv9]; exact va_up_self _ _ _
          have hiv9_4 : iv9 4 = v4 := by rw [eiv9]; exact (va_up_ne _ _ (by decide)).trans ht4
          have hiv9_5 : iv9 5 = iv 5 := by rw [eiv9]; exact (va_up_ne _ _ (by decide)).trans ht5
          have hiv9_6 : iv9 6 = iv 6 := by rw [eiv9]; exact (va_up_ne _ _ (by decide)).trans ht6
          refine nr_put (own := RX12) (C := RX12) (T := TX12) (N := 19) (ty := .int) (v := .int (nI t3)) (fs' := [.ref (ad Γ (mo + 1)), .ref (ad Γ (mo + 2)), .ref (ad Γ (mo + 3)), .ref (ad Γ (mo + 4)), .long (lN (iv9 5)), .long (lN (iv9 6)), .ref (ad Γ (mo + 5)), .ref (ad Γ (mo + 6)), .ref (ad Γ (mo + 7)), .ref (ad Γ (mo + 8)), .ref (ad Γ (mo + 9)), .ref (ad Γ (mo + 10)), .int (nI (iv9 0)), .int (nI (iv9 1)), .int (nI (iv9 2)), .int (nI (iv9 3)), .int (nI (iv9 4)), .ref (ad Γ (mo + 11)), .ref (ad Γ (mo + 12))]) hx hb hts hi_X12_lookAt_X12 tyX12 tyX12_ok nmX12 hown hw hj hA hS (by omega) (isM_0 hM) rfl 15 (by decide) wl_X12_lookAt_5 rfl rfl (by decide +kernel) rfl rfl (Nat.le_of_ble_eq_true rfl) (by rw [eiv9]; rfl) dX12_lookAt_299 (fun H locs hw hS => ?_)
          have hM := isM_s0 hM iv9
          have hfr := fr_up hfr (i := mo + 0) (by omega) (by omega) (.inr (9, [.ref (ad Γ (mo + 1)), .ref (ad Γ (mo + 2)), .ref (ad Γ (mo + 3)), .ref (ad Γ (mo + 4)), .long (lN (iv9 5)), .long (lN (iv9 6)), .ref (ad Γ (mo + 5)), .ref (ad Γ (mo + 6)), .ref (ad Γ (mo + 7)), .ref (ad Γ (mo + 8)), .ref (ad Γ (mo + 9)), .ref (ad Γ (mo + 10)), .int (nI (iv9 0)), .int (nI (iv9 1)), .int (nI (iv9 2)), .int (nI (iv9 3)), .int (nI (iv9 4)), .ref (ad Γ (mo + 11)), .ref (ad Γ (mo + 12))]))
          generalize va_up Gj274 (mo + 0) (.inr (9, [.ref (ad Γ (mo + 1)), .ref (ad Γ (mo + 2)), .ref (ad Γ (mo + 3)), .ref (ad Γ (mo + 4)), .long (lN (iv9 5)), .long (lN (iv9 6)), .ref (ad Γ (mo + 5)), .ref (ad Γ (mo + 6)), .ref (ad Γ (mo + 7)), .ref (ad Γ (mo + 8)), .ref (ad Γ (mo + 9)), .ref (ad Γ (mo + 10)), .int (nI (iv9 0)), .int (nI (iv9 1)), .int (nI (iv9 2)), .int (nI (iv9 3)), .int (nI (iv9 4)), .ref (ad Γ (mo + 11)), .ref (ad Γ (mo + 12))])) = G10 at hw hM hfr
          have hK2 : tokK by0 (iv 0) sx = t3 := by rw [hK]; (repeat' split) <;> omega
          exact nr_retV hx hb hr hlocks hw hS (⟨_, ⟨⟨by omega, by omega, by rw [show iv9 1 = sx by omega, hE]; omega, by rw [show iv9 1 = sx by omega, hK2]; omega, by rw [show iv9 1 = sx by omega, hV]; omega⟩, by rw [hS9]; omega, by omega, by omega⟩, hM, hfr⟩) dX12_lookAt_302
        · refine lv_aload_n hx hb dX12_lookAt_283 rfl (lv_at hl 0 rfl) ?_
          refine nr_get (own := RX12) (C := RX12) (T := TX12) (N := 19) (v := .int (nI y)) hx hb hts hi_X12_lookAt_X12 hown hw (by omega) (isM_0 hM) rfl 14 (by decide) wl_X12_lookAt_4 rfl (congrArg (fun z => some (Value.int (nI z))) ht2) dX12_lookAt_284 ?_
          refine lv_iconst (v := nI 2) hx hb dX12_lookAt_287 (by decide) ?_
          refine nr_icmp_le (tgt := 295) hx hb (by omega) (by decide) dX12_lookAt_288 (by decide) (fun c11 => ?_) (fun c11 => ?_)
          · refine lv_aload_n hx hb dX12_lookAt_295 rfl (lv_at hl 0 rfl) ?_
            refine nr_get (own := RX12) (C := RX12) (T := TX12) (N := 19) (v := .int (nI t3)) hx hb hts hi_X12_lookAt_X12 hown hw (by omega) (isM_0 hM) rfl 15 (by decide) wl_X12_lookAt_5 rfl (congrArg (fun z => some (Value.int (nI z))) ht3) dX12_lookAt_296 ?_
            obtain ⟨iv12, eiv12⟩ : ∃ f, f = va_up ivL274 3 t3 := ⟨_, rfl⟩
            have hiv12_0 : iv12 0 = iv 0 := by rw [eiv12]; exact (va_up_ne _ _ (by decide)).trans ht0
            have hiv12_1 : iv12 1 = sx := by rw [eiv12]; exact (va_up_ne _ _ (by decide)).trans ht1
            have hiv12_2 : iv12 2 = y := by rw [eiv12]; exact (va_up_ne _ _ (by decide)).trans ht2
            have hiv12_3 : iv12 3 = t3 := by rw [eiv12]; exact va_up_self _ _ _
            have hiv12_4 : iv12 4 = v4 := by rw [eiv12]; exact (va_up_ne _ _ (by decide)).trans ht4
            have hiv12_5 : iv12 5 = iv 5 := by rw [eiv12]; exact (va_up_ne _ _ (by decide)).trans ht5
            have hiv12_6 : iv12 6 = iv 6 := by rw [eiv12]; exact (va_up_ne _ _ (by decide)).trans ht6
            refine nr_put (own := RX12) (C := RX12) (T := TX12) (N := 19) (ty := .int) (v := .int (nI t3)) (fs' := [.ref (ad Γ (mo + 1)), .ref (ad Γ (mo + 2)), .ref (ad Γ (mo + 3)), .ref (ad Γ (mo + 4)), .long (lN (iv12 5)), .long (lN (iv12 6)), .ref (ad Γ (mo + 5)), .ref (ad Γ (mo + 6)), .ref (ad Γ (mo + 7)), .ref (ad Γ (mo + 8)), .ref (ad Γ (mo + 9)), .ref (ad Γ (mo + 10)), .int (nI (iv12 0)), .int (nI (iv12 1)), .int (nI (iv12 2)), .int (nI (iv12 3)), .int (nI (iv12 4)), .ref (ad Γ (mo + 11)), .ref (ad Γ (mo + 12))]) hx hb hts hi_X12_lookAt_X12 tyX12 tyX12_ok nmX12 hown hw hj hA hS (by omega) (isM_0 hM) rfl 15 (by decide) wl_X12_lookAt_5 rfl rfl (by decide +kernel) rfl rfl (Nat.le_of_ble_eq_true rfl) (by rw [eiv12]; rfl) dX12_lookAt_299 (fun H locs hw hS => ?_)
            have hM := isM_s0 hM iv12
            have hfr := fr_up hfr (i := mo + 0) (by omega) (by omega) (.inr (9, [.ref (ad Γ (mo + 1)), .ref (ad Γ (mo + 2)), .ref (ad Γ (mo + 3)), .ref (ad Γ (mo + 4)), .long (lN (iv12 5)), .long (lN (iv12 6)), .ref (ad Γ (mo + 5)), .ref (ad Γ (mo + 6)), .ref (ad Γ (mo + 7)), .ref (ad Γ (mo + 8)), .ref (ad Γ (mo + 9)), .ref (ad Γ (mo + 10)), .int (nI (iv12 0)), .int (nI (iv12 1)), .int (nI (iv12 2)), .int (nI (iv12 3)), .int (nI (iv12 4)), .ref (ad Γ (mo + 11)), .ref (ad Γ (mo + 12))]))
            generalize va_up Gj274 (mo + 0) (.inr (9, [.ref (ad Γ (mo + 1)), .ref (ad Γ (mo + 2)), .ref (ad Γ (mo + 3)), .ref (ad Γ (mo + 4)), .long (lN (iv12 5)), .long (lN (iv12 6)), .ref (ad Γ (mo + 5)), .ref (ad Γ (mo + 6)), .ref (ad Γ (mo + 7)), .ref (ad Γ (mo + 8)), .ref (ad Γ (mo + 9)), .ref (ad Γ (mo + 10)), .int (nI (iv12 0)), .int (nI (iv12 1)), .int (nI (iv12 2)), .int (nI (iv12 3)), .int (nI (iv12 4)), .ref (ad Γ (mo + 11)), .ref (ad Γ (mo + 12))])) = G13 at hw hM hfr
            have hK2 : tokK by0 (iv 0) sx = t3 := by rw [hK]; (repeat' split) <;> omega
            exact nr_retV hx hb hr hlocks hw hS (⟨_, ⟨⟨by omega, by omega, by rw [show iv12 1 = sx by omega, hE]; omega, by rw [show iv12 1 = sx by omega, hK2]; omega, by rw [show iv12 1 = sx by omega, hV]; omega⟩, by rw [hS9]; omega, by omega, by omega⟩, hM, hfr⟩) dX12_lookAt_302
          · refine lv_iconst (v := nI 4) hx hb dX12_lookAt_291 (by decide) ?_
            refine lv_goto (tgt := 299) hx hb dX12_lookAt_292 (by decide) ?_
            obtain ⟨iv14, eiv14⟩ : ∃ f, f = va_up ivL274 3 4 := ⟨_, rfl⟩
            have hiv14_0 : iv14 0 = iv 0 := by rw [eiv14]; exact (va_up_ne _ _ (by decide)).trans ht0
            have hiv14_1 : iv14 1 = sx := by rw [eiv14]; exact (va_up_ne _ _ (by decide)).trans ht1
            have hiv14_2 : iv14 2 = y := by rw [eiv14]; exact (va_up_ne _ _ (by decide)).trans ht2
            have hiv14_3 : iv14 3 = 4 := by rw [eiv14]; exact va_up_self _ _ _
            have hiv14_4 : iv14 4 = v4 := by rw [eiv14]; exact (va_up_ne _ _ (by decide)).trans ht4
            have hiv14_5 : iv14 5 = iv 5 := by rw [eiv14]; exact (va_up_ne _ _ (by decide)).trans ht5
            have hiv14_6 : iv14 6 = iv 6 := by rw [eiv14]; exact (va_up_ne _ _ (by decide)).trans ht6
            refine nr_put (own := RX12) (C := RX12) (T := TX12) (N := 19) (ty := .int) (v := .int (nI 4)) (fs' := [.ref (ad Γ (mo + 1)), .ref (ad Γ (mo + 2)), .ref (ad Γ (mo + 3)), .ref (ad Γ (mo + 4)), .long (lN (iv14 5)), .long (lN (iv14 6)), .ref (ad Γ (mo + 5)), .ref (ad Γ (mo + 6)), .ref (ad Γ (mo + 7)), .ref (ad Γ (mo + 8)), .ref (ad Γ (mo + 9)), .ref (ad Γ (mo + 10)), .int (nI (iv14 0)), .int (nI (iv14 1)), .int (nI (iv14 2)), .int (nI (iv14 3)), .int (nI (iv14 4)), .ref (ad Γ (mo + 11)), .ref (ad Γ (mo + 12))]) hx hb hts hi_X12_lookAt_X12 tyX12 tyX12_ok nmX12 hown hw hj hA hS (by omega) (isM_0 hM) rfl 15 (by decide) wl_X12_lookAt_5 rfl rfl (by decide +kernel) rfl rfl (Nat.le_of_ble_eq_true rfl) (by rw [eiv14]; rfl) dX12_lookAt_299 (fun H locs hw hS => ?_)
            have hM := isM_s0 hM iv14
            have hfr := fr_up hfr (i := mo + 0) (by omega) (by omega) (.inr (9, [.ref (ad Γ (mo + 1)), .ref (ad Γ (mo + 2)), .ref (ad Γ (mo + 3)), .ref (ad Γ (mo + 4)), .long (lN (iv14 5)), .long (lN (iv14 6)), .ref (ad Γ (mo + 5)), .ref (ad Γ (mo + 6)), .ref (ad Γ (mo + 7)), .ref (ad Γ (mo + 8)), .ref (ad Γ (mo + 9)), .ref (ad Γ (mo + 10)), .int (nI (iv14 0)), .int (nI (iv14 1)), .int (nI (iv14 2)), .int (nI (iv14 3)), .int (nI (iv14 4)), .ref (ad Γ (mo + 11)), .ref (ad Γ (mo + 12))]))
            generalize va_up Gj274 (mo + 0) (.inr (9, [.ref (ad Γ (mo + 1)), .ref (ad Γ (mo + 2)), .ref (ad Γ (mo + 3)), .ref (ad Γ (mo + 4)), .long (lN (iv14 5)), .long (lN (iv14 6)), .ref (ad Γ (mo + 5)), .ref (ad Γ (mo + 6)), .ref (ad Γ (mo + 7)), .ref (ad Γ (mo + 8)), .ref (ad Γ (mo + 9)), .ref (ad Γ (mo + 10)), .int (nI (iv14 0)), .int (nI (iv14 1)), .int (nI (iv14 2)), .int (nI (iv14 3)), .int (nI (iv14 4)), .ref (ad Γ (mo + 11)), .ref (ad Γ (mo + 12))])) = G15 at hw hM hfr
            have hK2 : tokK by0 (iv 0) sx = 4 := by rw [hK]; (repeat' split) <;> omega
            exact nr_retV hx hb hr hlocks hw hS (⟨_, ⟨⟨by omega, by omega, by rw [show iv14 1 = sx by omega, hE]; omega, by rw [show iv14 1 = sx by omega, hK2]; omega, by rw [show iv14 1 = sx by omega, hV]; omega⟩, by rw [hS9]; omega, by omega, by omega⟩, hM, hfr⟩) dX12_lookAt_302
      refine lv_aload_n hx hb dX12_lookAt_70 rfl (lv_at hl 0 rfl) ?_
      refine nr_get (own := RX12) (C := RX12) (T := TX12) (N := 19) (v := .ref (ad Γ (mo + 10))) hx hb hts hi_X12_lookAt_X12 hown hw (by omega) (isM_0 hM) rfl 11 (by decide) wl_X12_lookAt_3 rfl rfl dX12_lookAt_71 ?_
      refine lv_aload_n hx hb dX12_lookAt_74 rfl (lv_at hl 0 rfl) ?_
      refine nr_get (own := RX12) (C := RX12) (T := TX12) (N := 19) (v := .int (nI sx)) hx hb hts hi_X12_lookAt_X12 hown hw (by omega) (isM_0 hM) rfl 13 (by decide) wl_X12_lookAt_1 rfl (congrArg (fun z => some (Value.int (nI z))) hiv5_1) dX12_lookAt_75 ?_
      refine nr_iald (x := (by0 sx)) hx hb hw (by omega) (isM_10 hM) (rfl) (by omega) (by decide) dX12_lookAt_78 ?_
      have hL16 := hbt (sx)
      refine lv_istore_n (lv' := [(2, .int (nI (by0 sx))), (0, .ref (ad Γ (mo + 0))), (1, .int (nI q))]) hx hb dX12_lookAt_79 rfl hl (by decide) rfl (fun ls hl => ?_)
      refine lv_aload_n hx hb dX12_lookAt_80 rfl (lv_at hl 1 rfl) ?_
      refine lv_iload_n hx hb dX12_lookAt_81 rfl (lv_at hl 0 rfl) ?_
      refine nr_goB (P := 97 ≤ (by0 sx) ∧ (by0 sx) ≤ 122) (nr_runS (As := [.int (nI (by0 sx))]) ⟨hx, hb, hml, hown, hts⟩ hw (c_X12_isSmall l Γ n G6 (by0 sx) (by omega)) (va_cwS 1 hts gX12_lookAt_X12_isSmall rfl rfl rfl (by decide +kernel) ⟨Nat.le_of_ble_eq_true rfl, Nat.le_of_ble_eq_true rfl⟩) rfl hl.1 rfl (Nat.le_of_ble_eq_true rfl) dX12_lookAt_82 ⟨Nat.zero_le _, Nat.zero_le _⟩) (fun b17 => ?_) (fun b17 => ?_)
      · refine nr_if_eq (tgt := 92) hx hb (by decide) dX12_lookAt_85 (by decide) (fun c18 => absurd c18 (by decide)) (fun c18 => ?_)
        refine lv_iconst (v := nI 1) hx hb dX12_lookAt_88 (by decide) ?_
        refine lv_goto (tgt := 114) hx hb dX12_lookAt_89 (by decide) ?_
        obtain ⟨iv19, eiv19⟩ : ∃ f, f = va_up iv5 3 1 := ⟨_, rfl⟩
        have hiv19_0 : iv19 0 = iv 0 := by rw [eiv19]; exact (va_up_ne _ _ (by decide)).trans hiv5_0
        have hiv19_1 : iv19 1 = sx := by rw [eiv19]; exact (va_up_ne _ _ (by decide)).trans hiv5_1
        have hiv19_2 : iv19 2 = 0 := by rw [eiv19]; exact (va_up_ne _ _ (by decide)).trans hiv5_2
        have hiv19_3 : iv19 3 = 1 := by rw [eiv19]; exact va_up_self _ _ _
        have hiv19_4 : iv19 4 = 0 := by rw [eiv19]; exact (va_up_ne _ _ (by decide)).trans hiv5_4
        have hiv19_5 : iv19 5 = iv 5 := by rw [eiv19]; exact (va_up_ne _ _ (by decide)).trans hiv5_5
        have hiv19_6 : iv19 6 = iv 6 := by rw [eiv19]; exact (va_up_ne _ _ (by decide)).trans hiv5_6
        refine nr_put (own := RX12) (C := RX12) (T := TX12) (N := 19) (ty := .int) (v := .int (nI 1)) (fs' := [.ref (ad Γ (mo + 1)), .ref (ad Γ (mo + 2)), .ref (ad Γ (mo + 3)), .ref (ad Γ (mo + 4)), .long (lN (iv19 5)), .long (lN (iv19 6)), .ref (ad Γ (mo + 5)), .ref (ad Γ (mo + 6)), .ref (ad Γ (mo + 7)), .ref (ad Γ (mo + 8)), .ref (ad Γ (mo + 9)), .ref (ad Γ (mo + 10)), .int (nI (iv19 0)), .int (nI (iv19 1)), .int (nI (iv19 2)), .int (nI (iv19 3)), .int (nI (iv19 4)), .ref (ad Γ (mo + 11)), .ref (ad Γ (mo + 12))]) hx hb hts hi_X12_lookAt_X12 tyX12 tyX12_ok nmX12 hown hw hj hA hS (by omega) (isM_0 hM) rfl 15 (by decide) wl_X12_lookAt_5 rfl rfl (by decide +kernel) rfl rfl (Nat.le_of_ble_eq_true rfl) (by rw [eiv19]; rfl) dX12_lookAt_114 (fun H locs hw hS => ?_)
        have hM := isM_s0 hM iv19
        have hfr := fr_up hfr (i := mo + 0) (by omega) (by omega) (.inr (9, [.ref (ad Γ (mo + 1)), .ref (ad Γ (mo + 2)), .ref (ad Γ (mo + 3)), .ref (ad Γ (mo + 4)), .long (lN (iv19 5)), .long (lN (iv19 6)), .ref (ad Γ (mo + 5)), .ref (ad Γ (mo + 6)), .ref (ad Γ (mo + 7)), .ref (ad Γ (mo + 8)), .ref (ad Γ (mo + 9)), .ref (ad Γ (mo + 10)), .int (nI (iv19 0)), .int (nI (iv19 1)), .int (nI (iv19 2)), .int (nI (iv19 3)), .int (nI (iv19 4)), .ref (ad Γ (mo + 11)), .ref (ad Γ (mo + 12))]))
        generalize va_up G6 (mo + 0) (.inr (9, [.ref (ad Γ (mo + 1)), .ref (ad Γ (mo + 2)), .ref (ad Γ (mo + 3)), .ref (ad Γ (mo + 4)), .long (lN (iv19 5)), .long (lN (iv19 6)), .ref (ad Γ (mo + 5)), .ref (ad Γ (mo + 6)), .ref (ad Γ (mo + 7)), .ref (ad Γ (mo + 8)), .ref (ad Γ (mo + 9)), .ref (ad Γ (mo + 10)), .int (nI (iv19 0)), .int (nI (iv19 1)), .int (nI (iv19 2)), .int (nI (iv19 3)), .int (nI (iv19 4)), .ref (ad Γ (mo + 11)), .ref (ad Γ (mo + 12))])) = G20 at hw hM hfr
        refine lv_aload_n hx hb dX12_lookAt_117 rfl (lv_at hl 1 rfl) ?_
        refine lv_iconst (v := nI 1) hx hb dX12_lookAt_118 (by decide) ?_
        obtain ⟨iv21, eiv21⟩ : ∃ f, f = va_up iv19 2 1 := ⟨_, rfl⟩
        have hiv21_0 : iv21 0 = iv 0 := by rw [eiv21]; exact (va_up_ne _ _ (by decide)).trans hiv19_0
        have hiv21_1 : iv21 1 = sx := by rw [eiv21]; exact (va_up_ne _ _ (by decide)).trans hiv19_1
        have hiv21_2 : iv21 2 = 1 := by rw [eiv21]; exact va_up_self _ _ _
        have hiv21_3 : iv21 3 = 1 := by rw [eiv21]; exact (va_up_ne _ _ (by decide)).trans hiv19_3
        have hiv21_4 : iv21 4 = 0 := by rw [eiv21]; exact (va_up_ne _ _ (by decide)).trans hiv19_4
        have hiv21_5 : iv21 5 = iv 5 := by rw [eiv21]; exact (va_up_ne _ _ (by decide)).trans hiv19_5
        have hiv21_6 : iv21 6 = iv 6 := by rw [eiv21]; exact (va_up_ne _ _ (by decide)).trans hiv19_6
        refine nr_put (own := RX12) (C := RX12) (T := TX12) (N := 19) (ty := .int) (v := .int (nI 1)) (fs' := [.ref (ad Γ (mo + 1)), .ref (ad Γ (mo + 2)), .ref (ad Γ (mo + 3)), .ref (ad Γ (mo + 4)), .long (lN (iv21 5)), .long (lN (iv21 6)), .ref (ad Γ (mo + 5)), .ref (ad Γ (mo + 6)), .ref (ad Γ (mo + 7)), .ref (ad Γ (mo + 8)), .ref (ad Γ (mo + 9)), .ref (ad Γ (mo + 10)), .int (nI (iv21 0)), .int (nI (iv21 1)), .int (nI (iv21 2)), .int (nI (iv21 3)), .int (nI (iv21 4)), .ref (ad Γ (mo + 11)), .ref (ad Γ (mo + 12))]) hx hb hts hi_X12_lookAt_X12 tyX12 tyX12_ok nmX12 hown hw hj hA hS (by omega) (isM_0 hM) rfl 14 (by decide) wl_X12_lookAt_4 rfl rfl (by decide +kernel) rfl rfl (Nat.le_of_ble_eq_true rfl) (by rw [eiv21]; rfl) dX12_lookAt_119 (fun H locs hw hS => ?_)
        have hM := isM_s0 hM iv21
        have hfr := fr_up hfr (i := mo + 0) (by omega) (by omega) (.inr (9, [.ref (ad Γ (mo + 1)), .ref (ad Γ (mo + 2)), .ref (ad Γ (mo + 3)), .ref (ad Γ (mo + 4)), .long (lN (iv21 5)), .long (lN (iv21 6)), .ref (ad Γ (mo + 5)), .ref (ad Γ (mo + 6)), .ref (ad Γ (mo + 7)), .ref (ad Γ (mo + 8)), .ref (ad Γ (mo + 9)), .ref (ad Γ (mo + 10)), .int (nI (iv21 0)), .int (nI (iv21 1)), .int (nI (iv21 2)), .int (nI (iv21 3)), .int (nI (iv21 4)), .ref (ad Γ (mo + 11)), .ref (ad Γ (mo + 12))]))
        generalize va_up G20 (mo + 0) (.inr (9, [.ref (ad Γ (mo + 1)), .ref (ad Γ (mo + 2)), .ref (ad Γ (mo + 3)), .ref (ad Γ (mo + 4)), .long (lN (iv21 5)), .long (lN (iv21 6)), .ref (ad Γ (mo + 5)), .ref (ad Γ (mo + 6)), .ref (ad Γ (mo + 7)), .ref (ad Γ (mo + 8)), .ref (ad Γ (mo + 9)), .ref (ad Γ (mo + 10)), .int (nI (iv21 0)), .int (nI (iv21 1)), .int (nI (iv21 2)), .int (nI (iv21 3)), .int (nI (iv21 4)), .ref (ad Γ (mo + 11)), .ref (ad Γ (mo + 12))])) = G22 at hw hM hfr
        refine lv_aload_n hx hb dX12_lookAt_122 rfl (lv_at hl 1 rfl) ?_
        refine nr_get (own := RX12) (C := RX12) (T := TX12) (N := 19) (v := .int (nI 1)) hx hb hts hi_X12_lookAt_X12 hown hw (by omega) (isM_0 hM) rfl 15 (by decide) wl_X12_lookAt_5 rfl (congrArg (fun z => some (Value.int (nI z))) hiv21_3) dX12_lookAt_123 ?_
        refine lv_iconst (v := nI 3) hx hb dX12_lookAt_126 (by decide) ?_
        refine nr_icmp_ge (tgt := 134) hx hb (by decide) (by decide) dX12_lookAt_127 (by decide) (fun c23 => absurd c23 (by decide)) (fun c23 => ?_)
        refine lv_iconst (v := nI 1) hx hb dX12_lookAt_130 (by decide) ?_
        refine lv_goto (tgt := 135) hx hb dX12_lookAt_131 (by decide) ?_
        refine lv_istore_n (lv' := [(3, .int (nI 1)), (2, .int (nI (by0 sx))), (0, .ref (ad Γ (mo + 0))), (1, .int (nI q))]) hx hb dX12_lookAt_135 rfl hl (by decide) rfl (fun ls hl => ?_)
        refine nr_lpI (σ := (Nat → va_E) × Nat × Nat × (Nat → Nat)) 136 (fun x => x.1) (fun x lv => lv = [(0, .ref (ad Γ (mo + 0))), (1, .int (nI q)), (2, .int (nI (by0 sx))), (3, .int (nI x.2.2.1))] ∧ isM Γ x.1 mo R K kp rf ca rc hd fw tl by0 an vl x.2.2.2 ∧ fr G x.1 mo (mo + 13) ∧ (x.2.2.2 0 = iv 0) ∧ (x.2.2.2 1 = sx) ∧ (x.2.2.2 2 = x.2.1) ∧ (x.2.2.2 3 = 1) ∧ (x.2.2.2 4 = 0) ∧ (x.2.2.2 5 = iv 5) ∧ (x.2.2.2 6 = iv 6) ∧ (1 ≤ x.2.1) ∧ (sx + x.2.1 ≤ iv 0) ∧ (runL (smP by0) (iv 0) (sx + x.2.1) = runL (smP by0) (iv 0) sx) ∧ (x.2.2.1 = 0 → ¬ smP by0 (sx + x.2.1)) ∧ (x.2.2.1 ≤ 1)) (fun x => 2 * (iv 0 - (sx + x.2.1)) + x.2.2.1) (G22, 1, 1, iv21) hw hS (lv_sub hl [2, 3, 1, 0] rfl) ⟨rfl, hM, hfr, by (try dsimp only); omega, by (try dsimp only); omega, by (try dsimp only); omega, by (try dsimp only); omega, by (try dsimp only); omega, by (try dsimp only); omega, by (try dsimp only); omega, by (try dsimp only); omega, by (try dsimp only); omega, by (try dsimp only); exact (runL_go (by omega) (by assumption)), by (try dsimp only); omega, by (try dsimp only); omega⟩ ?_
        intro x lv ls H locs hw hS hl hI ih136
        obtain ⟨Gl136, y, gz, ivL136⟩ := x
        obtain ⟨rfl, hM, hfr, hv0, hv1, hv2, hv3, hv4, hv5, hv6, hy1, hy2, hrn, hgz, hgz1⟩ := hI
        try dsimp only at hM hfr hv0 hv1 hv2 hv3 hv4 hv5 hv6 hy1 hy2 hrn hgz hgz1 hw hl ih136
        refine lv_iload_n hx hb dX12_lookAt_136 rfl (lv_at hl 3 rfl) ?_
        refine nr_if_eq (tgt := 215) hx hb (by omega) dX12_lookAt_137 (by decide) (fun c24 => ?_) (fun c24 => ?_)
        · refine lv_iconst (v := nI 0) hx hb dX12_lookAt_215 (by decide) ?_
          refine lv_istore (lv' := [(4, .int (nI 0)), (0, .ref (ad Γ (mo + 0))), (1, .int (nI q)), (2, .int (nI (by0 sx))), (3, .int (nI gz))]) hx hb dX12_lookAt_216 hl (by decide) rfl (fun ls hl => ?_)
          refine lv_iload hx hb dX12_lookAt_218 (lv_at hl 0 rfl) ?_
          refine lv_aload_n hx hb dX12_lookAt_220 rfl (lv_at hl 1 rfl) ?_
          refine nr_get (own := RX12) (C := RX12) (T := TX12) (N := 19) (v := .int (nI y)) hx hb hts hi_X12_lookAt_X12 hown hw (by omega) (isM_0 hM) rfl 14 (by decide) wl_X12_lookAt_4 rfl (congrArg (fun z => some (Value.int (nI z))) hv2) dX12_lookAt_221 ?_
          refine nr_icmp_ge (tgt := 274) hx hb (by decide) (by omega) dX12_lookAt_224 (by decide) (fun c25 => ?_) (fun c25 => ?_)
          · exact ih274 (Gl136, y, 1, 0, ivL136) _ _ _ _ hw hS (lv_sub hl [1] rfl) ⟨rfl, hM, hfr, by (try dsimp only); omega, by (try dsimp only); omega, by (try dsimp only); omega, by (try dsimp only); omega, by (try dsimp only); omega, by (try dsimp only); omega, by (try dsimp only); omega, by (try dsimp only); unfold tokE; rw [if_pos (by omega), if_pos (by assumption), ← hrn]; exact runL_stop (by first | exact Or.inl (by omega) | exact Or.inr (hgz (by omega))), by (try dsimp only); have hE := (show tokE by0 (iv 0) sx = sx + y from by unfold tokE; rw [if_pos (by omega), if_pos (by assumption), ← hrn]; exact runL_stop (by first | exact Or.inl (by omega) | exact Or.inr (hgz (by omega)))); unfold tokK; rw [if_pos (by omega), if_pos (by assumption)]; simp, by (try dsimp only); have hE := (show tokE by0 (iv 0) sx = sx + y from by unfold tokE; rw [if_pos (by omega), if_pos (by assumption), ← hrn]; exact runL_stop (by first | exact Or.inl (by omega) | exact Or.inr (hgz (by omega)))); unfold tokV; rw [if_neg (fun z => absurd (by assumption) z.2.1)]; omega, by (try dsimp only); omega, by (try dsimp only); omega⟩
          · refine lv_iload hx hb dX12_lookAt_227 (lv_at hl 0 rfl) ?_
            refine lv_iconst (v := nI 2) hx hb dX12_lookAt_229 (by decide) ?_
            refine nr_icmp_ge (tgt := 274) hx hb (by decide) (by decide) dX12_lookAt_230 (by decide) (fun c26 => absurd c26 (by decide)) (fun c26 => ?_)
            refine lv_aload_n hx hb dX12_lookAt_233 rfl (lv_at hl 1 rfl) ?_
            refine nr_get (own := RX12) (C := RX12) (T := TX12) (N := 19) (v := .int (nI 1)) hx hb hts hi_X12_lookAt_X12 hown hw (by omega) (isM_0 hM) rfl 15 (by decide) wl_X12_lookAt_5 rfl (congrArg (fun z => some (Value.int (nI z))) hv3) dX12_lookAt_234 ?_
            refine lv_iconst (v := nI 2) hx hb dX12_lookAt_237 (by decide) ?_
            refine nr_icmp_ne (tgt := 274) hx hb (by decide) (by decide) dX12_lookAt_238 (by decide) (fun c27 => ?_) (fun c27 => absurd c27 (by decide))
            exact ih274 (Gl136, y, 1, 0, ivL136) _ _ _ _ hw hS (lv_sub hl [1] rfl) ⟨rfl, hM, hfr, by (try dsimp only); omega, by (try dsimp only); omega, by (try dsimp only); omega, by (try dsimp only); omega, by (try dsimp only); omega, by (try dsimp only); omega, by (try dsimp only); omega, by (try dsimp only); unfold tokE; rw [if_pos (by omega), if_pos (by assumption), ← hrn]; exact runL_stop (by first | exact Or.inl (by omega) | exact Or.inr (hgz (by omega))), by (try dsimp only); have hE := (show tokE by0 (iv 0) sx = sx + y from by unfold tokE; rw [if_pos (by omega), if_pos (by assumption), ← hrn]; exact runL_stop (by first | exact Or.inl (by omega) | exact Or.inr (hgz (by omega)))); unfold tokK; rw [if_pos (by omega), if_pos (by assumption)]; simp, by (try dsimp only); have hE := (show tokE by0 (iv 0) sx = sx + y from by unfold tokE; rw [if_pos (by omega), if_pos (by assumption), ← hrn]; exact runL_stop (by first | exact Or.inl (by omega) | exact Or.inr (hgz (by omega)))); unfold tokV; rw [if_neg (fun z => absurd (by assumption) z.2.1)]; omega, by (try dsimp only); omega, by (try dsimp only); omega⟩
        · refine lv_aload_n hx hb dX12_lookAt_140 rfl (lv_at hl 0 rfl) ?_
          refine nr_get (own := RX12) (C := RX12) (T := TX12) (N := 19) (v := .int (nI sx)) hx hb hts hi_X12_lookAt_X12 hown hw (by omega) (isM_0 hM) rfl 13 (by decide) wl_X12_lookAt_1 rfl (congrArg (fun z => some (Value.int (nI z))) hv1) dX12_lookAt_141 ?_
          refine lv_aload_n hx hb dX12_lookAt_144 rfl (lv_at hl 0 rfl) ?_
          refine nr_get (own := RX12) (C := RX12) (T := TX12) (N := 19) (v := .int (nI y)) hx hb hts hi_X12_lookAt_X12 hown hw (by omega) (isM_0 hM) rfl 14 (by decide) wl_X12_lookAt_4 rfl (congrArg (fun z => some (Value.int (nI z))) hv2) dX12_lookAt_145 ?_
          refine nr_iadd hx hb dX12_lookAt_148 ?_
          refine lv_aload_n hx hb dX12_lookAt_149 rfl (lv_at hl 0 rfl) ?_
          refine nr_get (own := RX12) (C := RX12) (T := TX12) (N := 19) (v := .int (nI (iv 0))) hx hb hts hi_X12_lookAt_X12 hown hw (by omega) (isM_0 hM) rfl 12 (by decide) wl_X12_lookAt_2 rfl (congrArg (fun z => some (Value.int (nI z))) hv0) dX12_lookAt_150 ?_
          refine nr_icmp_ge (tgt := 215) hx hb (by omega) (by omega) dX12_lookAt_153 (by decide) (fun c28 => ?_) (fun c28 => ?_)
          · refine lv_iconst (v := nI 0) hx hb dX12_lookAt_215 (by decide) ?_
            refine lv_istore (lv' := [(4, .int (nI 0)), (0, .ref (ad Γ (mo + 0))), (1, .int (nI q)), (2, .int (nI (by0 sx))), (3, .int (nI gz))]) hx hb dX12_lookAt_216 hl (by decide) rfl (fun ls hl => ?_)
            refine lv_iload hx hb dX12_lookAt_218 (lv_at hl 0 rfl) ?_
            refine lv_aload_n hx hb dX12_lookAt_220 rfl (lv_at hl 1 rfl) ?_
            refine nr_get (own := RX12) (C := RX12) (T := TX12) (N := 19) (v := .int (nI y)) hx hb hts hi_X12_lookAt_X12 hown hw (by omega) (isM_0 hM) rfl 14 (by decide) wl_X12_lookAt_4 rfl (congrArg (fun z => some (Value.int (nI z))) hv2) dX12_lookAt_221 ?_
            refine nr_icmp_ge (tgt := 274) hx hb (by decide) (by omega) dX12_lookAt_224 (by decide) (fun c29 => ?_) (fun c29 => ?_)
            · exact ih274 (Gl136, y, 1, 0, ivL136) _ _ _ _ hw hS (lv_sub hl [1] rfl) ⟨rfl, hM, hfr, by (try dsimp only); omega, by (try dsimp only); omega, by (try dsimp only); omega, by (try dsimp only); omega, by (try dsimp only); omega, by (try dsimp only); omega, by (try dsimp only); omega, by (try dsimp only); unfold tokE; rw [if_pos (by omega), if_pos (by assumption), ← hrn]; exact runL_stop (by first | exact Or.inl (by omega) | exact Or.inr (hgz (by omega))), by (try dsimp only); have hE := (show tokE by0 (iv 0) sx = sx + y from by unfold tokE; rw [if_pos (by omega), if_pos (by assumption), ← hrn]; exact runL_stop (by first | exact Or.inl (by omega) | exact Or.inr (hgz (by omega)))); unfold tokK; rw [if_pos (by omega), if_pos (by assumption)]; simp, by (try dsimp only); have hE := (show tokE by0 (iv 0) sx = sx + y from by unfold tokE; rw [if_pos (by omega), if_pos (by assumption), ← hrn]; exact runL_stop (by first | exact Or.inl (by omega) | exact Or.inr (hgz (by omega)))); unfold tokV; rw [if_neg (fun z => absurd (by assumption) z.2.1)]; omega, by (try dsimp only); omega, by (try dsimp only); omega⟩
            · refine lv_iload hx hb dX12_lookAt_227 (lv_at hl 0 rfl) ?_
              refine lv_iconst (v := nI 2) hx hb dX12_lookAt_229 (by decide) ?_
              refine nr_icmp_ge (tgt := 274) hx hb (by decide) (by decide) dX12_lookAt_230 (by decide) (fun c30 => absurd c30 (by decide)) (fun c30 => ?_)
              refine lv_aload_n hx hb dX12_lookAt_233 rfl (lv_at hl 1 rfl) ?_
              refine nr_get (own := RX12) (C := RX12) (T := TX12) (N := 19) (v := .int (nI 1)) hx hb hts hi_X12_lookAt_X12 hown hw (by omega) (isM_0 hM) rfl 15 (by decide) wl_X12_lookAt_5 rfl (congrArg (fun z => some (Value.int (nI z))) hv3) dX12_lookAt_234 ?_
              refine lv_iconst (v := nI 2) hx hb dX12_lookAt_237 (by decide) ?_
              refine nr_icmp_ne (tgt := 274) hx hb (by decide) (by decide) dX12_lookAt_238 (by decide) (fun c31 => ?_) (fun c31 => absurd c31 (by decide))
              exact ih274 (Gl136, y, 1, 0, ivL136) _ _ _ _ hw hS (lv_sub hl [1] rfl) ⟨rfl, hM, hfr, by (try dsimp only); omega, by (try dsimp only); omega, by (try dsimp only); omega, by (try dsimp only); omega, by (try dsimp only); omega, by (try dsimp only); omega, by (try dsimp only); omega, by (try dsimp only); unfold tokE; rw [if_pos (by omega), if_pos (by assumption), ← hrn]; exact runL_stop (by first | exact Or.inl (by omega) | exact Or.inr (hgz (by omega))), by (try dsimp only); have hE := (show tokE by0 (iv 0) sx = sx + y from by unfold tokE; rw [if_pos (by omega), if_pos (by assumption), ← hrn]; exact runL_stop (by first | exact Or.inl (by omega) | exact Or.inr (hgz (by omega)))); unfold tokK; rw [if_pos (by omega), if_pos (by assumption)]; simp, by (try dsimp only); have hE := (show tokE by0 (iv 0) sx = sx + y from by unfold tokE; rw [if_pos (by omega), if_pos (by assumption), ← hrn]; exact runL_stop (by first | exact Or.inl (by omega) | exact Or.inr (hgz (by omega)))); unfold tokV; rw [if_neg (fun z => absurd (by assumption) z.2.1)]; omega, by (try dsimp only); omega, by (try dsimp only); omega⟩
          · refine lv_aload_n hx hb dX12_lookAt_156 rfl (lv_at hl 0 rfl) ?_
            refine nr_get (own := RX12) (C := RX12) (T := TX12) (N := 19) (v := .ref (ad Γ (mo + 10))) hx hb hts hi_X12_lookAt_X12 hown hw (by omega) (isM_0 hM) rfl 11 (by decide) wl_X12_lookAt_3 rfl rfl dX12_lookAt_157 ?_
            refine lv_aload_n hx hb dX12_lookAt_160 rfl (lv_at hl 0 rfl) ?_
            refine nr_get (own := RX12) (C := RX12) (T := TX12) (N := 19) (v := .int (nI sx)) hx hb hts hi_X12_lookAt_X12 hown hw (by omega) (isM_0 hM) rfl 13 (by decide) wl_X12_lookAt_1 rfl (congrArg (fun z => some (Value.int (nI z))) hv1) dX12_lookAt_161 ?_
            refine lv_aload_n hx hb dX12_lookAt_164 rfl (lv_at hl 0 rfl) ?_
            refine nr_get (own := RX12) (C := RX12) (T := TX12) (N := 19) (v := .int (nI y)) hx hb hts hi_X12_lookAt_X12 hown hw (by omega) (isM_0 hM) rfl 14 (by decide) wl_X12_lookAt_4 rfl (congrArg (fun z => some (Value.int (nI z))) hv2) dX12_lookAt_165 ?_
            refine nr_iadd hx hb dX12_lookAt_168 ?_
            refine nr_iald (x := (by0 (sx + y))) hx hb hw (by omega) (isM_10 hM) rfl (by omega) (by decide) dX12_lookAt_169 ?_
            have hL32 := hbt (sx + y)
            refine lv_istore (lv' := [(4, .int (nI (by0 (sx + y)))), (0, .ref (ad Γ (mo + 0))), (1, .int (nI q)), (2, .int (nI (by0 sx))), (3, .int (nI gz))]) hx hb dX12_lookAt_170 hl (by decide) rfl (fun ls hl => ?_)
            refine lv_aload_n hx hb dX12_lookAt_172 rfl (lv_at hl 1 rfl) ?_
            refine nr_get (own := RX12) (C := RX12) (T := TX12) (N := 19) (v := .int (nI 1)) hx hb hts hi_X12_lookAt_X12 hown hw (by omega) (isM_0 hM) rfl 15 (by decide) wl_X12_lookAt_5 rfl (congrArg (fun z => some (Value.int (nI z))) hv3) dX12_lookAt_173 ?_
            refine lv_iconst (v := nI 1) hx hb dX12_lookAt_176 (by decide) ?_
            refine nr_icmp_ne (tgt := 188) hx hb (by decide) (by decide) dX12_lookAt_177 (by decide) (fun c33 => absurd c33 (by decide)) (fun c33 => ?_)
            refine lv_iload hx hb dX12_lookAt_180 (lv_at hl 0 rfl) ?_
            refine nr_goB (P := 97 ≤ (by0 (sx + y)) ∧ (by0 (sx + y)) ≤ 122) (nr_runS (As := [.int (nI (by0 (sx + y)))]) ⟨hx, hb, hml, hown, hts⟩ hw (c_X12_isSmall l Γ n Gl136 (by0 (sx + y)) (by omega)) (va_cwS 1 hts gX12_lookAt_X12_isSmall rfl rfl rfl (by decide +kernel) ⟨Nat.le_of_ble_eq_true rfl, Nat.le_of_ble_eq_true rfl⟩) rfl hl.1 rfl (Nat.le_of_ble_eq_true rfl) dX12_lookAt_182 ⟨Nat.zero_le _, Nat.zero_le _⟩) (fun b34 => ?_) (fun b34 => ?_)
            · refine lv_goto (tgt := 193) hx hb dX12_lookAt_185 (by decide) ?_
              refine lv_istore_n (lv' := [(3, .int (nI 1)), (4, .int (nI (by0 (sx + y)))), (0, .ref (ad Γ (mo + 0))), (1, .int (nI q)), (2, .int (nI (by0 sx)))]) hx hb dX12_lookAt_193 rfl hl (by decide) rfl (fun ls hl => ?_)
              refine lv_aload_n hx hb dX12_lookAt_194 rfl (lv_at hl 2 rfl) ?_
              refine lv_dup hx hb dX12_lookAt_195 rfl ?_
              refine nr_get (own := RX12) (C := RX12) (T := TX12) (N := 19) (v := .int (nI y)) hx hb hts hi_X12_lookAt_X12 hown hw (by omega) (isM_0 hM) rfl 14 (by decide) wl_X12_lookAt_4 rfl (congrArg (fun z => some (Value.int (nI z))) hv2) dX12_lookAt_196 ?_
              refine lv_iload_n hx hb dX12_lookAt_199 rfl (lv_at hl 0 rfl) ?_
              refine nr_if_eq (tgt := 207) hx hb (by decide) dX12_lookAt_200 (by decide) (fun c35 => absurd c35 (by decide)) (fun c35 => ?_)
              refine lv_iconst (v := nI 1) hx hb dX12_lookAt_203 (by decide) ?_
              refine lv_goto (tgt := 208) hx hb dX12_lookAt_204 (by decide) ?_
              refine nr_iadd hx hb dX12_lookAt_208 ?_
              obtain ⟨iv36, eiv36⟩ : ∃ f, f = va_up ivL136 2 (y + 1) := ⟨_, rfl⟩
              have hiv36_0 : iv36 0 = iv 0 := by rw [eiv36]; exact (va_up_ne _ _ (by decide)).trans hv0
              have hiv36_1 : iv36 1 = sx := by rw [eiv36]; exact (va_up_ne _ _ (by decide)).trans hv1
              have hiv36_2 : iv36 2 = y + 1 := by rw [eiv36]; exact va_up_self _ _ _
              have hiv36_3 : iv36 3 = 1 := by rw [eiv36]; exact (va_up_ne _ _ (by decide)).trans hv3
              have hiv36_4 : iv36 4 = 0 := by rw [eiv36]; exact (va_up_ne _ _ (by decide)).trans hv4
              have hiv36_5 : iv36 5 = iv 5 := by rw [eiv36]; exact (va_up_ne _ _ (by decide)).trans hv5
              have hiv36_6 : iv36 6 = iv 6 := by rw [eiv36]; exact (va_up_ne _ _ (by decide)).trans hv6
              refine nr_put (own := RX12) (C := RX12) (T := TX12) (N := 19) (ty := .int) (v := .int (nI (y + 1))) (fs' := [.ref (ad Γ (mo + 1)), .ref (ad Γ (mo + 2)), .ref (ad Γ (mo + 3)), .ref (ad Γ (mo + 4)), .long (lN (iv36 5)), .long (lN (iv36 6)), .ref (ad Γ (mo + 5)), .ref (ad Γ (mo + 6)), .ref (ad Γ (mo + 7)), .ref (ad Γ (mo + 8)), .ref (ad Γ (mo + 9)), .ref (ad Γ (mo + 10)), .int (nI (iv36 0)), .int (nI (iv36 1)), .int (nI (iv36 2)), .int (nI (iv36 3)), .int (nI (iv36 4)), .ref (ad Γ (mo + 11)), .ref (ad Γ (mo + 12))]) hx hb hts hi_X12_lookAt_X12 tyX12 tyX12_ok nmX12 hown hw hj hA hS (by omega) (isM_0 hM) rfl 14 (by decide) wl_X12_lookAt_4 rfl rfl (by decide +kernel) rfl rfl (Nat.le_of_ble_eq_true rfl) (by rw [eiv36]; rfl) dX12_lookAt_209 (fun H locs hw hS => ?_)
              have hM := isM_s0 hM iv36
              have hfr := fr_up hfr (i := mo + 0) (by omega) (by omega) (.inr (9, [.ref (ad Γ (mo + 1)), .ref (ad Γ (mo + 2)), .ref (ad Γ (mo + 3)), .ref (ad Γ (mo + 4)), .long (lN (iv36 5)), .long (lN (iv36 6)), .ref (ad Γ (mo + 5)), .ref (ad Γ (mo + 6)), .ref (ad Γ (mo + 7)), .ref (ad Γ (mo + 8)), .ref (ad Γ (mo + 9)), .ref (ad Γ (mo + 10)), .int (nI (iv36 0)), .int (nI (iv36 1)), .int (nI (iv36 2)), .int (nI (iv36 3)), .int (nI (iv36 4)), .ref (ad Γ (mo + 11)), .ref (ad Γ (mo + 12))]))
              generalize va_up Gl136 (mo + 0) (.inr (9, [.ref (ad Γ (mo + 1)), .ref (ad Γ (mo + 2)), .ref (ad Γ (mo + 3)), .ref (ad Γ (mo + 4)), .long (lN (iv36 5)), .long (lN (iv36 6)), .ref (ad Γ (mo + 5)), .ref (ad Γ (mo + 6)), .ref (ad Γ (mo + 7)), .ref (ad Γ (mo + 8)), .ref (ad Γ (mo + 9)), .ref (ad Γ (mo + 10)), .int (nI (iv36 0)), .int (nI (iv36 1)), .int (nI (iv36 2)), .int (nI (iv36 3)), .int (nI (iv36 4)), .ref (ad Γ (mo + 11)), .ref (ad Γ (mo + 12))])) = G37 at hw hM hfr
              refine lv_goto (tgt := 136) hx hb dX12_lookAt_212 (by decide) ?_
              exact ih136 (G37, y + 1, 1, iv36) _ _ _ _ hw hS (lv_sub hl [2, 3, 4, 0] rfl) ⟨rfl, hM, hfr, by (try dsimp only); omega, by (try dsimp only); omega, by (try dsimp only); omega, by (try dsimp only); omega, by (try dsimp only); omega, by (try dsimp only); omega, by (try dsimp only); omega, by (try dsimp only); omega, by (try dsimp only); omega, by (try dsimp only); first | exact hrn | (rw [← hrn]; exact runL_go (by omega) (by assumption)), by (try dsimp only); first | (intro z; exact absurd z (by decide)) | (intro _; assumption), by (try dsimp only); omega⟩ (by (try dsimp only); omega)
            · refine lv_goto (tgt := 193) hx hb dX12_lookAt_185 (by decide) ?_
              refine lv_istore_n (lv' := [(3, .int (nI 0)), (4, .int (nI (by0 (sx + y)))), (0, .ref (ad Γ (mo + 0))), (1, .int (nI q)), (2, .int (nI (by0 sx)))]) hx hb dX12_lookAt_193 rfl hl (by decide) rfl (fun ls hl => ?_)
              refine lv_aload_n hx hb dX12_lookAt_194 rfl (lv_at hl 2 rfl) ?_
              refine lv_dup hx hb dX12_lookAt_195 rfl ?_
              refine nr_get (own := RX12) (C := RX12) (T := TX12) (N := 19) (v := .int (nI y)) hx hb hts hi_X12_lookAt_X12 hown hw (by omega) (isM_0 hM) rfl 14 (by decide) wl_X12_lookAt_4 rfl (congrArg (fun z => some (Value.int (nI z))) hv2) dX12_lookAt_196 ?_
              refine lv_iload_n hx hb dX12_lookAt_199 rfl (lv_at hl 0 rfl) ?_
              refine nr_if_eq (tgt := 207) hx hb (by decide) dX12_lookAt_200 (by decide) (fun c38 => ?_) (fun c38 => absurd c38 (by decide))
              refine lv_iconst (v := nI 0) hx hb dX12_lookAt_207 (by decide) ?_
              refine nr_iadd hx hb dX12_lookAt_208 ?_
              obtain ⟨iv39, eiv39⟩ : ∃ f, f = va_up ivL136 2 (y + 0) := ⟨_, rfl⟩
              have hiv39_0 : iv39 0 = iv 0 := by rw [eiv39]; exact (va_up_ne _ _ (by decide)).trans hv0
              have hiv39_1 : iv39 1 = sx := by rw [eiv39]; exact (va_up_ne _ _ (by decide)).trans hv1
              have hiv39_2 : iv39 2 = y + 0 := by rw [eiv39]; exact va_up_self _ _ _
              have hiv39_3 : iv39 3 = 1 := by rw [eiv39]; exact (va_up_ne _ _ (by decide)).trans hv3
              have hiv39_4 : iv39 4 = 0 := by rw [eiv39]; exact (va_up_ne _ _ (by decide)).trans hv4
              have hiv39_5 : iv39 5 = iv 5 := by rw [eiv39]; exact (va_up_ne _ _ (by decide)).trans hv5
              have hiv39_6 : iv39 6 = iv 6 := by rw [eiv39]; exact (va_up_ne _ _ (by decide)).trans hv6
              refine nr_put (own := RX12) (C := RX12) (T := TX12) (N := 19) (ty := .int) (v := .int (nI (y + 0))) (fs' := [.ref (ad Γ (mo + 1)), .ref (ad Γ (mo + 2)), .ref (ad Γ (mo + 3)), .ref (ad Γ (mo + 4)), .long (lN (iv39 5)), .long (lN (iv39 6)), .ref (ad Γ (mo + 5)), .ref (ad Γ (mo + 6)), .ref (ad Γ (mo + 7)), .ref (ad Γ (mo + 8)), .ref (ad Γ (mo + 9)), .ref (ad Γ (mo + 10)), .int (nI (iv39 0)), .int (nI (iv39 1)), .int (nI (iv39 2)), .int (nI (iv39 3)), .int (nI (iv39 4)), .ref (ad Γ (mo + 11)), .ref (ad Γ (mo + 12))]) hx hb hts hi_X12_lookAt_X12 tyX12 tyX12_ok nmX12 hown hw hj hA hS (by omega) (isM_0 hM) rfl 14 (by decide) wl_X12_lookAt_4 rfl rfl (by decide +kernel) rfl rfl (Nat.le_of_ble_eq_true rfl) (by rw [eiv39]; rfl) dX12_lookAt_209 (fun H locs hw hS => ?_)
              have hM := isM_s0 hM iv39
              have hfr := fr_up hfr (i := mo + 0) (by omega) (by omega) (.inr (9, [.ref (ad Γ (mo + 1)), .ref (ad Γ (mo + 2)), .ref (ad Γ (mo + 3)), .ref (ad Γ (mo + 4)), .long (lN (iv39 5)), .long (lN (iv39 6)), .ref (ad Γ (mo + 5)), .ref (ad Γ (mo + 6)), .ref (ad Γ (mo + 7)), .ref (ad Γ (mo + 8)), .ref (ad Γ (mo + 9)), .ref (ad Γ (mo + 10)), .int (nI (iv39 0)), .int (nI (iv39 1)), .int (nI (iv39 2)), .int (nI (iv39 3)), .int (nI (iv39 4)), .ref (ad Γ (mo + 11)), .ref (ad Γ (mo + 12))]))
              generalize va_up Gl136 (mo + 0) (.inr (9, [.ref (ad Γ (mo + 1)), .ref (ad Γ (mo + 2)), .ref (ad Γ (mo + 3)), .ref (ad Γ (mo + 4)), .long (lN (iv39 5)), .long (lN (iv39 6)), .ref (ad Γ (mo + 5)), .ref (ad Γ (mo + 6)), .ref (ad Γ (mo + 7)), .ref (ad Γ (mo + 8)), .ref (ad Γ (mo + 9)), .ref (ad Γ (mo + 10)), .int (nI (iv39 0)), .int (nI (iv39 1)), .int (nI (iv39 2)), .int (nI (iv39 3)), .int (nI (iv39 4)), .ref (ad Γ (mo + 11)), .ref (ad Γ (mo + 12))])) = G40 at hw hM hfr
              refine lv_goto (tgt := 136) hx hb dX12_lookAt_212 (by decide) ?_
              exact ih136 (G40, y + 0, 0, iv39) _ _ _ _ hw hS (lv_sub hl [2, 3, 4, 0] rfl) ⟨rfl, hM, hfr, by (try dsimp only); omega, by (try dsimp only); omega, by (try dsimp only); omega, by (try dsimp only); omega, by (try dsimp only); omega, by (try dsimp only); omega, by (try dsimp only); omega, by (try dsimp only); omega, by (try dsimp only); omega, by (try dsimp only); first | exact hrn | (rw [← hrn]; exact runL_go (by omega) (by assumption)), by (try dsimp only); first | (intro z; exact absurd z (by decide)) | (intro _; assumption), by (try dsimp only); omega⟩ (by (try dsimp only); omega)
      · refine nr_if_eq (tgt := 92) hx hb (by decide) dX12_lookAt_85 (by decide) (fun c41 => ?_) (fun c41 => absurd c41 (by decide))
        refine lv_iload_n hx hb dX12_lookAt_92 rfl (lv_at hl 0 rfl) ?_
        refine nr_goB (P := 48 ≤ (by0 sx) ∧ (by0 sx) ≤ 57) (nr_runS (As := [.int (nI (by0 sx))]) ⟨hx, hb, hml, hown, hts⟩ hw (c_X12_isFigure l Γ n G6 (by0 sx) (by omega)) (va_cwS 1 hts gX12_lookAt_X12_isFigure rfl rfl rfl (by decide +kernel) ⟨Nat.le_of_ble_eq_true rfl, Nat.le_of_ble_eq_true rfl⟩) rfl hl.1 rfl (Nat.le_of_ble_eq_true rfl) dX12_lookAt_93 ⟨Nat.zero_le _, Nat.zero_le _⟩) (fun b42 => ?_) (fun b42 => ?_)
        · refine nr_if_eq (tgt := 103) hx hb (by decide) dX12_lookAt_96 (by decide) (fun c43 => absurd c43 (by decide)) (fun c43 => ?_)
          refine lv_iconst (v := nI 2) hx hb dX12_lookAt_99 (by decide) ?_
          refine lv_goto (tgt := 114) hx hb dX12_lookAt_100 (by decide) ?_
          obtain ⟨iv44, eiv44⟩ : ∃ f, f = va_up iv5 3 2 := ⟨_, rfl⟩
          have hiv44_0 : iv44 0 = iv 0 := by rw [eiv44]; exact (va_up_ne _ _ (by decide)).trans hiv5_0
          have hiv44_1 : iv44 1 = sx := by rw [eiv44]; exact (va_up_ne _ _ (by decide)).trans hiv5_1
          have hiv44_2 : iv44 2 = 0 := by rw [eiv44]; exact (va_up_ne _ _ (by decide)).trans hiv5_2
          have hiv44_3 : iv44 3 = 2 := by rw [eiv44]; exact va_up_self _ _ _
          have hiv44_4 : iv44 4 = 0 := by rw [eiv44]; exact (va_up_ne _ _ (by decide)).trans hiv5_4
          have hiv44_5 : iv44 5 = iv 5 := by rw [eiv44]; exact (va_up_ne _ _ (by decide)).trans hiv5_5
          have hiv44_6 : iv44 6 = iv 6 := by rw [eiv44]; exact (va_up_ne _ _ (by decide)).trans hiv5_6
          refine nr_put (own := RX12) (C := RX12) (T := TX12) (N := 19) (ty := .int) (v := .int (nI 2)) (fs' := [.ref (ad Γ (mo + 1)), .ref (ad Γ (mo + 2)), .ref (ad Γ (mo + 3)), .ref (ad Γ (mo + 4)), .long (lN (iv44 5)), .long (lN (iv44 6)), .ref (ad Γ (mo + 5)), .ref (ad Γ (mo + 6)), .ref (ad Γ (mo + 7)), .ref (ad Γ (mo + 8)), .ref (ad Γ (mo + 9)), .ref (ad Γ (mo + 10)), .int (nI (iv44 0)), .int (nI (iv44 1)), .int (nI (iv44 2)), .int (nI (iv44 3)), .int (nI (iv44 4)), .ref (ad Γ (mo + 11)), .ref (ad Γ (mo + 12))]) hx hb hts hi_X12_lookAt_X12 tyX12 tyX12_ok nmX12 hown hw hj hA hS (by omega) (isM_0 hM) rfl 15 (by decide) wl_X12_lookAt_5 rfl rfl (by decide +kernel) rfl rfl (Nat.le_of_ble_eq_true rfl) (by rw [eiv44]; rfl) dX12_lookAt_114 (fun H locs hw hS => ?_)
          have hM := isM_s0 hM iv44
          have hfr := fr_up hfr (i := mo + 0) (by omega) (by omega) (.inr (9, [.ref (ad Γ (mo + 1)), .ref (ad Γ (mo + 2)), .ref (ad Γ (mo + 3)), .ref (ad Γ (mo + 4)), .long (lN (iv44 5)), .long (lN (iv44 6)), .ref (ad Γ (mo + 5)), .ref (ad Γ (mo + 6)), .ref (ad Γ (mo + 7)), .ref (ad Γ (mo + 8)), .ref (ad Γ (mo + 9)), .ref (ad Γ (mo + 10)), .int (nI (iv44 0)), .int (nI (iv44 1)), .int (nI (iv44 2)), .int (nI (iv44 3)), .int (nI (iv44 4)), .ref (ad Γ (mo + 11)), .ref (ad Γ (mo + 12))]))
          generalize va_up G6 (mo + 0) (.inr (9, [.ref (ad Γ (mo + 1)), .ref (ad Γ (mo + 2)), .ref (ad Γ (mo + 3)), .ref (ad Γ (mo + 4)), .long (lN (iv44 5)), .long (lN (iv44 6)), .ref (ad Γ (mo + 5)), .ref (ad Γ (mo + 6)), .ref (ad Γ (mo + 7)), .ref (ad Γ (mo + 8)), .ref (ad Γ (mo + 9)), .ref (ad Γ (mo + 10)), .int (nI (iv44 0)), .int (nI (iv44 1)), .int (nI (iv44 2)), .int (nI (iv44 3)), .int (nI (iv44 4)), .ref (ad Γ (mo + 11)), .ref (ad Γ (mo + 12))])) = G45 at hw hM hfr
          refine lv_aload_n hx hb dX12_lookAt_117 rfl (lv_at hl 1 rfl) ?_
          refine lv_iconst (v := nI 1) hx hb dX12_lookAt_118 (by decide) ?_
          obtain ⟨iv46, eiv46⟩ : ∃ f, f = va_up iv44 2 1 := ⟨_, rfl⟩
          have hiv46_0 : iv46 0 = iv 0 := by rw [eiv46]; exact (va_up_ne _ _ (by decide)).trans hiv44_0
          have hiv46_1 : iv46 1 = sx := by rw [eiv46]; exact (va_up_ne _ _ (by decide)).trans hiv44_1
          have hiv46_2 : iv46 2 = 1 := by rw [eiv46]; exact va_up_self _ _ _
          have hiv46_3 : iv46 3 = 2 := by rw [eiv46]; exact (va_up_ne _ _ (by decide)).trans hiv44_3
          have hiv46_4 : iv46 4 = 0 := by rw [eiv46]; exact (va_up_ne _ _ (by decide)).trans hiv44_4
          have hiv46_5 : iv46 5 = iv 5 := by rw [eiv46]; exact (va_up_ne _ _ (by decide)).trans hiv44_5
          have hiv46_6 : iv46 6 = iv 6 := by rw [eiv46]; exact (va_up_ne _ _ (by decide)).trans hiv44_6
          refine nr_put (own := RX12) (C := RX12) (T := TX12) (N := 19) (ty := .int) (v := .int (nI 1)) (fs' := [.ref (ad Γ (mo + 1)), .ref (ad Γ (mo + 2)), .ref (ad Γ (mo + 3)), .ref (ad Γ (mo + 4)), .long (lN (iv46 5)), .long (lN (iv46 6)), .ref (ad Γ (mo + 5)), .ref (ad Γ (mo + 6)), .ref (ad Γ (mo + 7)), .ref (ad Γ (mo + 8)), .ref (ad Γ (mo + 9)), .ref (ad Γ (mo + 10)), .int (nI (iv46 0)), .int (nI (iv46 1)), .int (nI (iv46 2)), .int (nI (iv46 3)), .int (nI (iv46 4)), .ref (ad Γ (mo + 11)), .ref (ad Γ (mo + 12))]) hx hb hts hi_X12_lookAt_X12 tyX12 tyX12_ok nmX12 hown hw hj hA hS (by omega) (isM_0 hM) rfl 14 (by decide) wl_X12_lookAt_4 rfl rfl (by decide +kernel) rfl rfl (Nat.le_of_ble_eq_true rfl) (by rw [eiv46]; rfl) dX12_lookAt_119 (fun H locs hw hS => ?_)
          have hM := isM_s0 hM iv46
          have hfr := fr_up hfr (i := mo + 0) (by omega) (by omega) (.inr (9, [.ref (ad Γ (mo + 1)), .ref (ad Γ (mo + 2)), .ref (ad Γ (mo + 3)), .ref (ad Γ (mo + 4)), .long (lN (iv46 5)), .long (lN (iv46 6)), .ref (ad Γ (mo + 5)), .ref (ad Γ (mo + 6)), .ref (ad Γ (mo + 7)), .ref (ad Γ (mo + 8)), .ref (ad Γ (mo + 9)), .ref (ad Γ (mo + 10)), .int (nI (iv46 0)), .int (nI (iv46 1)), .int (nI (iv46 2)), .int (nI (iv46 3)), .int (nI (iv46 4)), .ref (ad Γ (mo + 11)), .ref (ad Γ (mo + 12))]))
          generalize va_up G45 (mo + 0) (.inr (9, [.ref (ad Γ (mo + 1)), .ref (ad Γ (mo + 2)), .ref (ad Γ (mo + 3)), .ref (ad Γ (mo + 4)), .long (lN (iv46 5)), .long (lN (iv46 6)), .ref (ad Γ (mo + 5)), .ref (ad Γ (mo + 6)), .ref (ad Γ (mo + 7)), .ref (ad Γ (mo + 8)), .ref (ad Γ (mo + 9)), .ref (ad Γ (mo + 10)), .int (nI (iv46 0)), .int (nI (iv46 1)), .int (nI (iv46 2)), .int (nI (iv46 3)), .int (nI (iv46 4)), .ref (ad Γ (mo + 11)), .ref (ad Γ (mo + 12))])) = G47 at hw hM hfr
          refine lv_aload_n hx hb dX12_lookAt_122 rfl (lv_at hl 1 rfl) ?_
          refine nr_get (own := RX12) (C := RX12) (T := TX12) (N := 19) (v := .int (nI 2)) hx hb hts hi_X12_lookAt_X12 hown hw (by omega) (isM_0 hM) rfl 15 (by decide) wl_X12_lookAt_5 rfl (congrArg (fun z => some (Value.int (nI z))) hiv46_3) dX12_lookAt_123 ?_
          refine lv_iconst (v := nI 3) hx hb dX12_lookAt_126 (by decide) ?_
          refine nr_icmp_ge (tgt := 134) hx hb (by decide) (by decide) dX12_lookAt_127 (by decide) (fun c48 => absurd c48 (by decide)) (fun c48 => ?_)
          refine lv_iconst (v := nI 1) hx hb dX12_lookAt_130 (by decide) ?_
          refine lv_goto (tgt := 135) hx hb dX12_lookAt_131 (by decide) ?_
          refine lv_istore_n (lv' := [(3, .int (nI 1)), (2, .int (nI (by0 sx))), (0, .ref (ad Γ (mo + 0))), (1, .int (nI q))]) hx hb dX12_lookAt_135 rfl hl (by decide) rfl (fun ls hl => ?_)
          refine nr_lpI (σ := (Nat → va_E) × Nat × Nat × (Nat → Nat)) 136 (fun x => x.1) (fun x lv => lv = [(0, .ref (ad Γ (mo + 0))), (1, .int (nI q)), (2, .int (nI (by0 sx))), (3, .int (nI x.2.2.1))] ∧ isM Γ x.1 mo R K kp rf ca rc hd fw tl by0 an vl x.2.2.2 ∧ fr G x.1 mo (mo + 13) ∧ (x.2.2.2 0 = iv 0) ∧ (x.2.2.2 1 = sx) ∧ (x.2.2.2 2 = x.2.1) ∧ (x.2.2.2 3 = 2) ∧ (x.2.2.2 4 = 0) ∧ (x.2.2.2 5 = iv 5) ∧ (x.2.2.2 6 = iv 6) ∧ (1 ≤ x.2.1) ∧ (sx + x.2.1 ≤ iv 0) ∧ (runL (fgP by0) (iv 0) (sx + x.2.1) = runL (fgP by0) (iv 0) sx) ∧ (x.2.2.1 = 0 → ¬ fgP by0 (sx + x.2.1)) ∧ (x.2.2.1 ≤ 1) ∧ (∀ j, j < x.2.1 → isFg (by0 (sx + j)))) (fun x => 2 * (iv 0 - (sx + x.2.1)) + x.2.2.1) (G47, 1, 1, iv46) hw hS (lv_sub hl [2, 3, 1, 0] rfl) ⟨rfl, hM, hfr, by (try dsimp only); omega, by (try dsimp only); omega, by (try dsimp only); omega, by (try dsimp only); omega, by (try dsimp only); omega, by (try dsimp only); omega, by (try dsimp only); omega, by (try dsimp only); omega, by (try dsimp only); omega, by (try dsimp only); exact (runL_go (by omega) (by assumption)), by (try dsimp only); omega, by (try dsimp only); omega, by (try dsimp only); exact (fun j hj => by rw [show sx + j = sx by omega]; assumption)⟩ ?_
          intro x lv ls H locs hw hS hl hI ih136
          obtain ⟨Gl136, y, gz, ivL136⟩ := x
          obtain ⟨rfl, hM, hfr, hv0, hv1, hv2, hv3, hv4, hv5, hv6, hy1, hy2, hrn, hgz, hgz1, hdg⟩ := hI
          try dsimp only at hM hfr hv0 hv1 hv2 hv3 hv4 hv5 hv6 hy1 hy2 hrn hgz hgz1 hdg hw hl ih136
          refine lv_iload_n hx hb dX12_lookAt_136 rfl (lv_at hl 3 rfl) ?_
          refine nr_if_eq (tgt := 215) hx hb (by omega) dX12_lookAt_137 (by decide) (fun c49 => ?_) (fun c49 => ?_)
          · refine lv_iconst (v := nI 0) hx hb dX12_lookAt_215 (by decide) ?_
            refine lv_istore (lv' := [(4, .int (nI 0)), (0, .ref (ad Γ (mo + 0))), (1, .int (nI q)), (2, .int (nI (by0 sx))), (3, .int (nI gz))]) hx hb dX12_lookAt_216 hl (by decide) rfl (fun ls hl => ?_)
            refine nr_lpI (σ := (Nat → va_E) × Nat × Nat × (Nat → Nat)) 218 (fun x => x.1) (fun x lv => lv = [(0, .ref (ad Γ (mo + 0))), (1, .int (nI q)), (2, .int (nI (by0 sx))), (3, .int (nI gz)), (4, .int (nI x.2.2.1))] ∧ isM Γ x.1 mo R K kp rf ca rc hd fw tl by0 an vl x.2.2.2 ∧ fr G x.1 mo (mo + 13) ∧ (x.2.2.2 0 = iv 0) ∧ (x.2.2.2 1 = sx) ∧ (x.2.2.2 2 = y) ∧ (x.2.2.2 3 = 2) ∧ (x.2.2.2 4 = x.2.1) ∧ (x.2.2.2 5 = iv 5) ∧ (x.2.2.2 6 = iv 6) ∧ (x.2.2.1 ≤ 2) ∧ (x.2.2.1 ≤ y) ∧ (x.2.1 = valF by0 sx x.2.2.1) ∧ (x.2.1 ≤ 99)) (fun x => 2 - x.2.2.1) (Gl136, 0, 0, ivL136) hw hS (lv_sub hl [1, 2, 3, 4, 0] rfl) ⟨rfl, hM, hfr, by (try dsimp only); omega, by (try dsimp only); omega, by (try dsimp only); omega, by (try dsimp only); omega, by (try dsimp only); omega, by (try dsimp only); omega, by (try dsimp only); omega, by (try dsimp only); omega, by (try dsimp only); omega, rfl, by (try dsimp only); omega⟩ ?_
            intro x lv ls H locs hw hS hl hI ih218
            obtain ⟨Gl218, vv, k, ivL218⟩ := x
            obtain ⟨rfl, hM, hfr, hw0, hw1, hw2, hw3, hw4, hw5, hw6, hk2, hky, hvv, hv99⟩ := hI
            try dsimp only at hM hfr hw0 hw1 hw2 hw3 hw4 hw5 hw6 hk2 hky hvv hv99 hw hl ih218
            have hdk := fun z => hdg k z
            refine lv_iload hx hb dX12_lookAt_218 (lv_at hl 4 rfl) ?_
            refine lv_aload_n hx hb dX12_lookAt_220 rfl (lv_at hl 0 rfl) ?_
            refine nr_get (own := RX12) (C := RX12) (T := TX12) (N := 19) (v := .int (nI y)) hx hb hts hi_X12_lookAt_X12 hown hw (by omega) (isM_0 hM) rfl 14 (by decide) wl_X12_lookAt_4 rfl (congrArg (fun z => some (Value.int (nI z))) hw2) dX12_lookAt_221 ?_
            refine nr_icmp_ge (tgt := 274) hx hb (by omega) (by omega) dX12_lookAt_224 (by decide) (fun c50 => ?_) (fun c50 => ?_)
            · exact ih274 (Gl218, y, 2, vv, ivL218) _ _ _ _ hw hS (lv_sub hl [0] rfl) ⟨rfl, hM, hfr, by (try dsimp only); omega, by (try dsimp only); omega, by (try dsimp only); omega, by (try dsimp only); omega, by (try dsimp only); omega, by (try dsimp only); omega, by (try dsimp only); omega, by (try dsimp only); unfold tokE; rw [if_pos (by omega), if_neg (by assumption), if_pos (by assumption), ← hrn]; exact runL_stop (by first | exact Or.inl (by omega) | exact Or.inr (hgz (by omega))), by (try dsimp only); have hE := (show tokE by0 (iv 0) sx = sx + y from by unfold tokE; rw [if_pos (by omega), if_neg (by assumption), if_pos (by assumption), ← hrn]; exact runL_stop (by first | exact Or.inl (by omega) | exact Or.inr (hgz (by omega)))); unfold tokK; rw [if_pos (by omega), if_neg (by assumption), if_pos (by assumption), if_pos rfl, hE, show sx + y - sx = y by omega], by (try dsimp only); have hE := (show tokE by0 (iv 0) sx = sx + y from by unfold tokE; rw [if_pos (by omega), if_neg (by assumption), if_pos (by assumption), ← hrn]; exact runL_stop (by first | exact Or.inl (by omega) | exact Or.inr (hgz (by omega)))); unfold tokV; rw [if_pos ⟨by omega, by assumption, by assumption⟩, hE, show sx + y - sx = y by omega, hvv, show min 2 y = k by omega], by (try dsimp only); omega, by (try dsimp only); omega⟩
            · refine lv_iload hx hb dX12_lookAt_227 (lv_at hl 4 rfl) ?_
              refine lv_iconst (v := nI 2) hx hb dX12_lookAt_229 (by decide) ?_
              refine nr_icmp_ge (tgt := 274) hx hb (by omega) (by decide) dX12_lookAt_230 (by decide) (fun c51 => ?_) (fun c51 => ?_)
              · exact ih274 (Gl218, y, 2, vv, ivL218) _ _ _ _ hw hS (lv_sub hl [0] rfl) ⟨rfl, hM, hfr, by (try dsimp only); omega, by (try dsimp only); omega, by (try dsimp only); omega, by (try dsimp only); omega, by (try dsimp only); omega, by (try dsimp only); omega, by (try dsimp only); omega, by (try dsimp only); unfold tokE; rw [if_pos (by omega), if_neg (by assumption), if_pos (by assumption), ← hrn]; exact runL_stop (by first | exact Or.inl (by omega) | exact Or.inr (hgz (by omega))), by (try dsimp only); have hE := (show tokE by0 (iv 0) sx = sx + y from by unfold tokE; rw [if_pos (by omega), if_neg (by assumption), if_pos (by assumption), ← hrn]; exact runL_stop (by first | exact Or.inl (by omega) | exact Or.inr (hgz (by omega)))); unfold tokK; rw [if_pos (by omega), if_neg (by assumption), if_pos (by assumption), if_pos rfl, hE, show sx + y - sx = y by omega], by (try dsimp only); have hE := (show tokE by0 (iv 0) sx = sx + y from by unfold tokE; rw [if_pos (by omega), if_neg (by assumption), if_pos (by assumption), ← hrn]; exact runL_stop (by first | exact Or.inl (by omega) | exact Or.inr (hgz (by omega)))); unfold tokV; rw [if_pos ⟨by omega, by assumption, by assumption⟩, hE, show sx + y - sx = y by omega, hvv, show min 2 y = k by omega], by (try dsimp only); omega, by (try dsimp only); omega⟩
              · refine lv_aload_n hx hb dX12_lookAt_233 rfl (lv_at hl 0 rfl) ?_
                refine nr_get (own := RX12) (C := RX12) (T := TX12) (N := 19) (v := .int (nI 2)) hx hb hts hi_X12_lookAt_X12 hown hw (by omega) (isM_0 hM) rfl 15 (by decide) wl_X12_lookAt_5 rfl (congrArg (fun z => some (Value.int (nI z))) hw3) dX12_lookAt_234 ?_
                refine lv_iconst (v := nI 2) hx hb dX12_lookAt_237 (by decide) ?_
                refine nr_icmp_ne (tgt := 274) hx hb (by decide) (by decide) dX12_lookAt_238 (by decide) (fun c52 => absurd c52 (by decide)) (fun c52 => ?_)
                refine lv_aload_n hx hb dX12_lookAt_241 rfl (lv_at hl 0 rfl) ?_
                refine lv_bipush (v := nI 10) hx hb dX12_lookAt_242 (by decide) ?_
                refine lv_aload_n hx hb dX12_lookAt_244 rfl (lv_at hl 0 rfl) ?_
                refine nr_get (own := RX12) (C := RX12) (T := TX12) (N := 19) (v := .int (nI vv)) hx hb hts hi_X12_lookAt_X12 hown hw (by omega) (isM_0 hM) rfl 16 (by decide) wl_X12_lookAt_6 rfl (congrArg (fun z => some (Value.int (nI z))) hw4) dX12_lookAt_245 ?_
                refine nr_imul hx hb dX12_lookAt_248 ?_
                refine lv_aload_n hx hb dX12_lookAt_249 rfl (lv_at hl 0 rfl) ?_
                refine nr_get (own := RX12) (C := RX12) (T := TX12) (N := 19) (v := .ref (ad Γ (mo + 10))) hx hb hts hi_X12_lookAt_X12 hown hw (by omega) (isM_0 hM) rfl 11 (by decide) wl_X12_lookAt_3 rfl rfl dX12_lookAt_250 ?_
                refine lv_aload_n hx hb dX12_lookAt_253 rfl (lv_at hl 0 rfl) ?_
                refine nr_get (own := RX12) (C := RX12) (T := TX12) (N := 19) (v := .int (nI sx)) hx hb hts hi_X12_lookAt_X12 hown hw (by omega) (isM_0 hM) rfl 13 (by decide) wl_X12_lookAt_1 rfl (congrArg (fun z => some (Value.int (nI z))) hw1) dX12_lookAt_254 ?_
                refine lv_iload hx hb dX12_lookAt_257 (lv_at hl 4 rfl) ?_
                refine nr_iadd hx hb dX12_lookAt_259 ?_
                refine nr_iald (x := (by0 (sx + k))) hx hb hw (by omega) (isM_10 hM) rfl (by omega) (by decide) dX12_lookAt_260 ?_
                have hL53 := hbt (sx + k)
                refine nr_iadd hx hb dX12_lookAt_261 ?_
                refine lv_bipush (v := nI 48) hx hb dX12_lookAt_262 (by decide) ?_
                refine nr_isub hx hb (by omega) dX12_lookAt_264 ?_
                obtain ⟨iv54, eiv54⟩ : ∃ f, f = va_up ivL218 4 ((10 * vv + (by0 (sx + k))) - 48) := ⟨_, rfl⟩
                have hiv54_0 : iv54 0 = iv 0 := by rw [eiv54]; exact (va_up_ne _ _ (by decide)).trans hw0
                have hiv54_1 : iv54 1 = sx := by rw [eiv54]; exact (va_up_ne _ _ (by decide)).trans hw1
                have hiv54_2 : iv54 2 = y := by rw [eiv54]; exact (va_up_ne _ _ (by decide)).trans hw2
                have hiv54_3 : iv54 3 = 2 := by rw [eiv54]; exact (va_up_ne _ _ (by decide)).trans hw3
                have hiv54_4 : iv54 4 = (10 * vv + (by0 (sx + k))) - 48 := by rw [eiv54]; exact va_up_self _ _ _
                have hiv54_5 : iv54 5 = iv 5 := by rw [eiv54]; exact (va_up_ne _ _ (by decide)).trans hw5
                have hiv54_6 : iv54 6 = iv 6 := by rw [eiv54]; exact (va_up_ne _ _ (by decide)).trans hw6
                refine nr_put (own := RX12) (C := RX12) (T := TX12) (N := 19) (ty := .int) (v := .int (nI ((10 * vv + (by0 (sx + k))) - 48))) (fs' := [.ref (ad Γ (mo + 1)), .ref (ad Γ (mo + 2)), .ref (ad Γ (mo + 3)), .ref (ad Γ (mo + 4)), .long (lN (iv54 5)), .long (lN (iv54 6)), .ref (ad Γ (mo + 5)), .ref (ad Γ (mo + 6)), .ref (ad Γ (mo + 7)), .ref (ad Γ (mo + 8)), .ref (ad Γ (mo + 9)), .ref (ad Γ (mo + 10)), .int (nI (iv54 0)), .int (nI (iv54 1)), .int (nI (iv54 2)), .int (nI (iv54 3)), .int (nI (iv54 4)), .ref (ad Γ (mo + 11)), .ref (ad Γ (mo + 12))]) hx hb hts hi_X12_lookAt_X12 tyX12 tyX12_ok nmX12 hown hw hj hA hS (by omega) (isM_0 hM) rfl 16 (by decide) wl_X12_lookAt_6 rfl rfl (by decide +kernel) rfl rfl (Nat.le_of_ble_eq_true rfl) (by rw [eiv54]; rfl) dX12_lookAt_265 (fun H locs hw hS => ?_)
                have hM := isM_s0 hM iv54
                have hfr := fr_up hfr (i := mo + 0) (by omega) (by omega) (.inr (9, [.ref (ad Γ (mo + 1)), .ref (ad Γ (mo + 2)), .ref (ad Γ (mo + 3)), .ref (ad Γ (mo + 4)), .long (lN (iv54 5)), .long (lN (iv54 6)), .ref (ad Γ (mo + 5)), .ref (ad Γ (mo + 6)), .ref (ad Γ (mo + 7)), .ref (ad Γ (mo + 8)), .ref (ad Γ (mo + 9)), .ref (ad Γ (mo + 10)), .int (nI (iv54 0)), .int (nI (iv54 1)), .int (nI (iv54 2)), .int (nI (iv54 3)), .int (nI (iv54 4)), .ref (ad Γ (mo + 11)), .ref (ad Γ (mo + 12))]))
                generalize va_up Gl218 (mo + 0) (.inr (9, [.ref (ad Γ (mo + 1)), .ref (ad Γ (mo + 2)), .ref (ad Γ (mo + 3)), .ref (ad Γ (mo + 4)), .long (lN (iv54 5)), .long (lN (iv54 6)), .ref (ad Γ (mo + 5)), .ref (ad Γ (mo + 6)), .ref (ad Γ (mo + 7)), .ref (ad Γ (mo + 8)), .ref (ad Γ (mo + 9)), .ref (ad Γ (mo + 10)), .int (nI (iv54 0)), .int (nI (iv54 1)), .int (nI (iv54 2)), .int (nI (iv54 3)), .int (nI (iv54 4)), .ref (ad Γ (mo + 11)), .ref (ad Γ (mo + 12))])) = G55 at hw hM hfr
                refine nr_inc (d := 1) (k := 4) (lv' := [(4, .int (nI (k + 1))), (0, .ref (ad Γ (mo + 0))), (1, .int (nI q)), (2, .int (nI (by0 sx))), (3, .int (nI gz))]) hx hb dX12_lookAt_268 hl rfl (by decide) (by decide) rfl (fun ls hl => ?_)
                refine lv_goto (tgt := 218) hx hb dX12_lookAt_271 (by decide) ?_
                exact ih218 (G55, (10 * vv + (by0 (sx + k))) - 48, k + 1, iv54) _ _ _ _ hw hS (lv_sub hl [1, 2, 3, 4, 0] rfl) ⟨rfl, hM, hfr, by (try dsimp only); omega, by (try dsimp only); omega, by (try dsimp only); omega, by (try dsimp only); omega, by (try dsimp only); omega, by (try dsimp only); omega, by (try dsimp only); omega, by (try dsimp only); omega, by (try dsimp only); omega, by (try dsimp only); rw [hvv]; rfl, by (try dsimp only); have h9 := (hdk (by omega)).2; rcases (show k = 0 ∨ k = 1 by omega) with z | z; (subst z; have : vv = 0 := hvv; omega); (subst z; have h8 := (hdg 0 (by omega)).2; have h7 : vv = 10 * 0 + by0 (sx + 0) - 48 := hvv; omega)⟩ (by (try dsimp only); omega)
          · refine lv_aload_n hx hb dX12_lookAt_140 rfl (lv_at hl 0 rfl) ?_
            refine nr_get (own := RX12) (C := RX12) (T := TX12) (N := 19) (v := .int (nI sx)) hx hb hts hi_X12_lookAt_X12 hown hw (by omega) (isM_0 hM) rfl 13 (by decide) wl_X12_lookAt_1 rfl (congrArg (fun z => some (Value.int (nI z))) hv1) dX12_lookAt_141 ?_
            refine lv_aload_n hx hb dX12_lookAt_144 rfl (lv_at hl 0 rfl) ?_
            refine nr_get (own := RX12) (C := RX12) (T := TX12) (N := 19) (v := .int (nI y)) hx hb hts hi_X12_lookAt_X12 hown hw (by omega) (isM_0 hM) rfl 14 (by decide) wl_X12_lookAt_4 rfl (congrArg (fun z => some (Value.int (nI z))) hv2) dX12_lookAt_145 ?_
            refine nr_iadd hx hb dX12_lookAt_148 ?_
            refine lv_aload_n hx hb dX12_lookAt_149 rfl (lv_at hl 0 rfl) ?_
            refine nr_get (own := RX12) (C := RX12) (T := TX12) (N := 19) (v := .int (nI (iv 0))) hx hb hts hi_X12_lookAt_X12 hown hw (by omega) (isM_0 hM) rfl 12 (by decide) wl_X12_lookAt_2 rfl (congrArg (fun z => some (Value.int (nI z))) hv0) dX12_lookAt_150 ?_
            refine nr_icmp_ge (tgt := 215) hx hb (by omega) (by omega) dX12_lookAt_153 (by decide) (fun c56 => ?_) (fun c56 => ?_)
            · refine lv_iconst (v := nI 0) hx hb dX12_lookAt_215 (by decide) ?_
              refine lv_istore (lv' := [(4, .int (nI 0)), (0, .ref (ad Γ (mo + 0))), (1, .int (nI q)), (2, .int (nI (by0 sx))), (3, .int (nI gz))]) hx hb dX12_lookAt_216 hl (by decide) rfl (fun ls hl => ?_)
              refine nr_lpI (σ := (Nat → va_E) × Nat × Nat × (Nat → Nat)) 218 (fun x => x.1) (fun x lv => lv = [(0, .ref (ad Γ (mo + 0))), (1, .int (nI q)), (2, .int (nI (by0 sx))), (3, .int (nI gz)), (4, .int (nI x.2.2.1))] ∧ isM Γ x.1 mo R K kp rf ca rc hd fw tl by0 an vl x.2.2.2 ∧ fr G x.1 mo (mo + 13) ∧ (x.2.2.2 0 = iv 0) ∧ (x.2.2.2 1 = sx) ∧ (x.2.2.2 2 = y) ∧ (x.2.2.2 3 = 2) ∧ (x.2.2.2 4 = x.2.1) ∧ (x.2.2.2 5 = iv 5) ∧ (x.2.2.2 6 = iv 6) ∧ (x.2.2.1 ≤ 2) ∧ (x.2.2.1 ≤ y) ∧ (x.2.1 = valF by0 sx x.2.2.1) ∧ (x.2.1 ≤ 99)) (fun x => 2 - x.2.2.1) (Gl136, 0, 0, ivL136) hw hS (lv_sub hl [1, 2, 3, 4, 0] rfl) ⟨rfl, hM, hfr, by (try dsimp only); omega, by (try dsimp only); omega, by (try dsimp only); omega, by (try dsimp only); omega, by (try dsimp only); omega, by (try dsimp only); omega, by (try dsimp only); omega, by (try dsimp only); omega, by (try dsimp only); omega, rfl, by (try dsimp only); omega⟩ ?_
              intro x lv ls H locs hw hS hl hI ih218
              obtain ⟨Gl218, vv, k, ivL218⟩ := x
              obtain ⟨rfl, hM, hfr, hw0, hw1, hw2, hw3, hw4, hw5, hw6, hk2, hky, hvv, hv99⟩ := hI
              try dsimp only at hM hfr hw0 hw1 hw2 hw3 hw4 hw5 hw6 hk2 hky hvv hv99 hw hl ih218
              have hdk := fun z => hdg k z
              refine lv_iload hx hb dX12_lookAt_218 (lv_at hl 4 rfl) ?_
              refine lv_aload_n hx hb dX12_lookAt_220 rfl (lv_at hl 0 rfl) ?_
              refine nr_get (own := RX12) (C := RX12) (T := TX12) (N := 19) (v := .int (nI y)) hx hb hts hi_X12_lookAt_X12 hown hw (by omega) (isM_0 hM) rfl 14 (by decide) wl_X12_lookAt_4 rfl (congrArg (fun z => some (Value.int (nI z))) hw2) dX12_lookAt_221 ?_
              refine nr_icmp_ge (tgt := 274) hx hb (by omega) (by omega) dX12_lookAt_224 (by decide) (fun c57 => ?_) (fun c57 => ?_)
              · exact ih274 (Gl218, y, 2, vv, ivL218) _ _ _ _ hw hS (lv_sub hl [0] rfl) ⟨rfl, hM, hfr, by (try dsimp only); omega, by (try dsimp only); omega, by (try dsimp only); omega, by (try dsimp only); omega, by (try dsimp only); omega, by (try dsimp only); omega, by (try dsimp only); omega, by (try dsimp only); unfold tokE; rw [if_pos (by omega), if_neg (by assumption), if_pos (by assumption), ← hrn]; exact runL_stop (by first | exact Or.inl (by omega) | exact Or.inr (hgz (by omega))), by (try dsimp only); have hE := (show tokE by0 (iv 0) sx = sx + y from by unfold tokE; rw [if_pos (by omega), if_neg (by assumption), if_pos (by assumption), ← hrn]; exact runL_stop (by first | exact Or.inl (by omega) | exact Or.inr (hgz (by omega)))); unfold tokK; rw [if_pos (by omega), if_neg (by assumption), if_pos (by assumption), if_pos rfl, hE, show sx + y - sx = y by omega], by (try dsimp only); have hE := (show tokE by0 (iv 0) sx = sx + y from by unfold tokE; rw [if_pos (by omega), if_neg (by assumption), if_pos (by assumption), ← hrn]; exact runL_stop (by first | exact Or.inl (by omega) | exact Or.inr (hgz (by omega)))); unfold tokV; rw [if_pos ⟨by omega, by assumption, by assumption⟩, hE, show sx + y - sx = y by omega, hvv, show min 2 y = k by omega], by (try dsimp only); omega, by (try dsimp only); omega⟩
              · refine lv_iload hx hb dX12_lookAt_227 (lv_at hl 4 rfl) ?_
                refine lv_iconst (v := nI 2) hx hb dX12_lookAt_229 (by decide) ?_
                refine nr_icmp_ge (tgt := 274) hx hb (by omega) (by decide) dX12_lookAt_230 (by decide) (fun c58 => ?_) (fun c58 => ?_)
                · exact ih274 (Gl218, y, 2, vv, ivL218) _ _ _ _ hw hS (lv_sub hl [0] rfl) ⟨rfl, hM, hfr, by (try dsimp only); omega, by (try dsimp only); omega, by (try dsimp only); omega, by (try dsimp only); omega, by (try dsimp only); omega, by (try dsimp only); omega, by (try dsimp only); omega, by (try dsimp only); unfold tokE; rw [if_pos (by omega), if_neg (by assumption), if_pos (by assumption), ← hrn]; exact runL_stop (by first | exact Or.inl (by omega) | exact Or.inr (hgz (by omega))), by (try dsimp only); have hE := (show tokE by0 (iv 0) sx = sx + y from by unfold tokE; rw [if_pos (by omega), if_neg (by assumption), if_pos (by assumption), ← hrn]; exact runL_stop (by first | exact Or.inl (by omega) | exact Or.inr (hgz (by omega)))); unfold tokK; rw [if_pos (by omega), if_neg (by assumption), if_pos (by assumption), if_pos rfl, hE, show sx + y - sx = y by omega], by (try dsimp only); have hE := (show tokE by0 (iv 0) sx = sx + y from by unfold tokE; rw [if_pos (by omega), if_neg (by assumption), if_pos (by assumption), ← hrn]; exact runL_stop (by first | exact Or.inl (by omega) | exact Or.inr (hgz (by omega)))); unfold tokV; rw [if_pos ⟨by omega, by assumption, by assumption⟩, hE, show sx + y - sx = y by omega, hvv, show min 2 y = k by omega], by (try dsimp only); omega, by (try dsimp only); omega⟩
                · refine lv_aload_n hx hb dX12_lookAt_233 rfl (lv_at hl 0 rfl) ?_
                  refine nr_get (own := RX12) (C := RX12) (T := TX12) (N := 19) (v := .int (nI 2)) hx hb hts hi_X12_lookAt_X12 hown hw (by omega) (isM_0 hM) rfl 15 (by decide) wl_X12_lookAt_5 rfl (congrArg (fun z => some (Value.int (nI z))) hw3) dX12_lookAt_234 ?_
                  refine lv_iconst (v := nI 2) hx hb dX12_lookAt_237 (by decide) ?_
                  refine nr_icmp_ne (tgt := 274) hx hb (by decide) (by decide) dX12_lookAt_238 (by decide) (fun c59 => absurd c59 (by decide)) (fun c59 => ?_)
                  refine lv_aload_n hx hb dX12_lookAt_241 rfl (lv_at hl 0 rfl) ?_
                  refine lv_bipush (v := nI 10) hx hb dX12_lookAt_242 (by decide) ?_
                  refine lv_aload_n hx hb dX12_lookAt_244 rfl (lv_at hl 0 rfl) ?_
                  refine nr_get (own := RX12) (C := RX12) (T := TX12) (N := 19) (v := .int (nI vv)) hx hb hts hi_X12_lookAt_X12 hown hw (by omega) (isM_0 hM) rfl 16 (by decide) wl_X12_lookAt_6 rfl (congrArg (fun z => some (Value.int (nI z))) hw4) dX12_lookAt_245 ?_
                  refine nr_imul hx hb dX12_lookAt_248 ?_
                  refine lv_aload_n hx hb dX12_lookAt_249 rfl (lv_at hl 0 rfl) ?_
                  refine nr_get (own := RX12) (C := RX12) (T := TX12) (N := 19) (v := .ref (ad Γ (mo + 10))) hx hb hts hi_X12_lookAt_X12 hown hw (by omega) (isM_0 hM) rfl 11 (by decide) wl_X12_lookAt_3 rfl rfl dX12_lookAt_250 ?_
                  refine lv_aload_n hx hb dX12_lookAt_253 rfl (lv_at hl 0 rfl) ?_
                  refine nr_get (own := RX12) (C := RX12) (T := TX12) (N := 19) (v := .int (nI sx)) hx hb hts hi_X12_lookAt_X12 hown hw (by omega) (isM_0 hM) rfl 13 (by decide) wl_X12_lookAt_1 rfl (congrArg (fun z => some (Value.int (nI z))) hw1) dX12_lookAt_254 ?_
                  refine lv_iload hx hb dX12_lookAt_257 (lv_at hl 4 rfl) ?_
                  refine nr_iadd hx hb dX12_lookAt_259 ?_
                  refine nr_iald (x := (by0 (sx + k))) hx hb hw (by omega) (isM_10 hM) rfl (by omega) (by decide) dX12_lookAt_260 ?_
                  have hL60 := hbt (sx + k)
                  refine nr_iadd hx hb dX12_lookAt_261 ?_
                  refine lv_bipush (v := nI 48) hx hb dX12_lookAt_262 (by decide) ?_
                  refine nr_isub hx hb (by omega) dX12_lookAt_264 ?_
                  obtain ⟨iv61, eiv61⟩ : ∃ f, f = va_up ivL218 4 ((10 * vv + (by0 (sx + k))) - 48) := ⟨_, rfl⟩
                  have hiv61_0 : iv61 0 = iv 0 := by rw [eiv61]; exact (va_up_ne _ _ (by decide)).trans hw0
                  have hiv61_1 : iv61 1 = sx := by rw [eiv61]; exact (va_up_ne _ _ (by decide)).trans hw1
                  have hiv61_2 : iv61 2 = y := by rw [eiv61]; exact (va_up_ne _ _ (by decide)).trans hw2
                  have hiv61_3 : iv61 3 = 2 := by rw [eiv61]; exact (va_up_ne _ _ (by decide)).trans hw3
                  have hiv61_4 : iv61 4 = (10 * vv + (by0 (sx + k))) - 48 := by rw [eiv61]; exact va_up_self _ _ _
                  have hiv61_5 : iv61 5 = iv 5 := by rw [eiv61]; exact (va_up_ne _ _ (by decide)).trans hw5
                  have hiv61_6 : iv61 6 = iv 6 := by rw [eiv61]; exact (va_up_ne _ _ (by decide)).trans hw6
                  refine nr_put (own := RX12) (C := RX12) (T := TX12) (N := 19) (ty := .int) (v := .int (nI ((10 * vv + (by0 (sx + k))) - 48))) (fs' := [.ref (ad Γ (mo + 1)), .ref (ad Γ (mo + 2)), .ref (ad Γ (mo + 3)), .ref (ad Γ (mo + 4)), .long (lN (iv61 5)), .long (lN (iv61 6)), .ref (ad Γ (mo + 5)), .ref (ad Γ (mo + 6)), .ref (ad Γ (mo + 7)), .ref (ad Γ (mo + 8)), .ref (ad Γ (mo + 9)), .ref (ad Γ (mo + 10)), .int (nI (iv61 0)), .int (nI (iv61 1)), .int (nI (iv61 2)), .int (nI (iv61 3)), .int (nI (iv61 4)), .ref (ad Γ (mo + 11)), .ref (ad Γ (mo + 12))]) hx hb hts hi_X12_lookAt_X12 tyX12 tyX12_ok nmX12 hown hw hj hA hS (by omega) (isM_0 hM) rfl 16 (by decide) wl_X12_lookAt_6 rfl rfl (by decide +kernel) rfl rfl (Nat.le_of_ble_eq_true rfl) (by rw [eiv61]; rfl) dX12_lookAt_265 (fun H locs hw hS => ?_)
                  have hM := isM_s0 hM iv61
                  have hfr := fr_up hfr (i := mo + 0) (by omega) (by omega) (.inr (9, [.ref (ad Γ (mo + 1)), .ref (ad Γ (mo + 2)), .ref (ad Γ (mo + 3)), .ref (ad Γ (mo + 4)), .long (lN (iv61 5)), .long (lN (iv61 6)), .ref (ad Γ (mo + 5)), .ref (ad Γ (mo + 6)), .ref (ad Γ (mo + 7)), .ref (ad Γ (mo + 8)), .ref (ad Γ (mo + 9)), .ref (ad Γ (mo + 10)), .int (nI (iv61 0)), .int (nI (iv61 1)), .int (nI (iv61 2)), .int (nI (iv61 3)), .int (nI (iv61 4)), .ref (ad Γ (mo + 11)), .ref (ad Γ (mo + 12))]))
                  generalize va_up Gl218 (mo + 0) (.inr (9, [.ref (ad Γ (mo + 1)), .ref (ad Γ (mo + 2)), .ref (ad Γ (mo + 3)), .ref (ad Γ (mo + 4)), .long (lN (iv61 5)), .long (lN (iv61 6)), .ref (ad Γ (mo + 5)), .ref (ad Γ (mo + 6)), .ref (ad Γ (mo + 7)), .ref (ad Γ (mo + 8)), .ref (ad Γ (mo + 9)), .ref (ad Γ (mo + 10)), .int (nI (iv61 0)), .int (nI (iv61 1)), .int (nI (iv61 2)), .int (nI (iv61 3)), .int (nI (iv61 4)), .ref (ad Γ (mo + 11)), .ref (ad Γ (mo + 12))])) = G62 at hw hM hfr
                  refine nr_inc (d := 1) (k := 4) (lv' := [(4, .int (nI (k + 1))), (0, .ref (ad Γ (mo + 0))), (1, .int (nI q)), (2, .int (nI (by0 sx))), (3, .int (nI gz))]) hx hb dX12_lookAt_268 hl rfl (by decide) (by decide) rfl (fun ls hl => ?_)
                  refine lv_goto (tgt := 218) hx hb dX12_lookAt_271 (by decide) ?_
                  exact ih218 (G62, (10 * vv + (by0 (sx + k))) - 48, k + 1, iv61) _ _ _ _ hw hS (lv_sub hl [1, 2, 3, 4, 0] rfl) ⟨rfl, hM, hfr, by (try dsimp only); omega, by (try dsimp only); omega, by (try dsimp only); omega, by (try dsimp only); omega, by (try dsimp only); omega, by (try dsimp only); omega, by (try dsimp only); omega, by (try dsimp only); omega, by (try dsimp only); omega, by (try dsimp only); rw [hvv]; rfl, by (try dsimp only); have h9 := (hdk (by omega)).2; rcases (show k = 0 ∨ k = 1 by omega) with z | z; (subst z; have : vv = 0 := hvv; omega); (subst z; have h8 := (hdg 0 (by omega)).2; have h7 : vv = 10 * 0 + by0 (sx + 0) - 48 := hvv; omega)⟩ (by (try dsimp only); omega)
            · refine lv_aload_n hx hb dX12_lookAt_156 rfl (lv_at hl 0 rfl) ?_
              refine nr_get (own := RX12) (C := RX12) (T := TX12) (N := 19) (v := .ref (ad Γ (mo + 10))) hx hb hts hi_X12_lookAt_X12 hown hw (by omega) (isM_0 hM) rfl 11 (by decide) wl_X12_lookAt_3 rfl rfl dX12_lookAt_157 ?_
              refine lv_aload_n hx hb dX12_lookAt_160 rfl (lv_at hl 0 rfl) ?_
              refine nr_get (own := RX12) (C := RX12) (T := TX12) (N := 19) (v := .int (nI sx)) hx hb hts hi_X12_lookAt_X12 hown hw (by omega) (isM_0 hM) rfl 13 (by decide) wl_X12_lookAt_1 rfl (congrArg (fun z => some (Value.int (nI z))) hv1) dX12_lookAt_161 ?_
              refine lv_aload_n hx hb dX12_lookAt_164 rfl (lv_at hl 0 rfl) ?_
              refine nr_get (own := RX12) (C := RX12) (T := TX12) (N := 19) (v := .int (nI y)) hx hb hts hi_X12_lookAt_X12 hown hw (by omega) (isM_0 hM) rfl 14 (by decide) wl_X12_lookAt_4 rfl (congrArg (fun z => some (Value.int (nI z))) hv2) dX12_lookAt_165 ?_
              refine nr_iadd hx hb dX12_lookAt_168 ?_
              refine nr_iald (x := (by0 (sx + y))) hx hb hw (by omega) (isM_10 hM) rfl (by omega) (by decide) dX12_lookAt_169 ?_
              have hL63 := hbt (sx + y)
              refine lv_istore (lv' := [(4, .int (nI (by0 (sx + y)))), (0, .ref (ad Γ (mo + 0))), (1, .int (nI q)), (2, .int (nI (by0 sx))), (3, .int (nI gz))]) hx hb dX12_lookAt_170 hl (by decide) rfl (fun ls hl => ?_)
              refine lv_aload_n hx hb dX12_lookAt_172 rfl (lv_at hl 1 rfl) ?_
              refine nr_get (own := RX12) (C := RX12) (T := TX12) (N := 19) (v := .int (nI 2)) hx hb hts hi_X12_lookAt_X12 hown hw (by omega) (isM_0 hM) rfl 15 (by decide) wl_X12_lookAt_5 rfl (congrArg (fun z => some (Value.int (nI z))) hv3) dX12_lookAt_173 ?_
              refine lv_iconst (v := nI 1) hx hb dX12_lookAt_176 (by decide) ?_
              refine nr_icmp_ne (tgt := 188) hx hb (by decide) (by decide) dX12_lookAt_177 (by decide) (fun c64 => ?_) (fun c64 => absurd c64 (by decide))
              refine lv_iload hx hb dX12_lookAt_188 (lv_at hl 0 rfl) ?_
              refine nr_goB (P := 48 ≤ (by0 (sx + y)) ∧ (by0 (sx + y)) ≤ 57) (nr_runS (As := [.int (nI (by0 (sx + y)))]) ⟨hx, hb, hml, hown, hts⟩ hw (c_X12_isFigure l Γ n Gl136 (by0 (sx + y)) (by omega)) (va_cwS 1 hts gX12_lookAt_X12_isFigure rfl rfl rfl (by decide +kernel) ⟨Nat.le_of_ble_eq_true rfl, Nat.le_of_ble_eq_true rfl⟩) rfl hl.1 rfl (Nat.le_of_ble_eq_true rfl) dX12_lookAt_190 ⟨Nat.zero_le _, Nat.zero_le _⟩) (fun b65 => ?_) (fun b65 => ?_)
              · refine lv_istore_n (lv' := [(3, .int (nI 1)), (4, .int (nI (by0 (sx + y)))), (0, .ref (ad Γ (mo + 0))), (1, .int (nI q)), (2, .int (nI (by0 sx)))]) hx hb dX12_lookAt_193 rfl hl (by decide) rfl (fun ls hl => ?_)
                refine lv_aload_n hx hb dX12_lookAt_194 rfl (lv_at hl 2 rfl) ?_
                refine lv_dup hx hb dX12_lookAt_195 rfl ?_
                refine nr_get (own := RX12) (C := RX12) (T := TX12) (N := 19) (v := .int (nI y)) hx hb hts hi_X12_lookAt_X12 hown hw (by omega) (isM_0 hM) rfl 14 (by decide) wl_X12_lookAt_4 rfl (congrArg (fun z => some (Value.int (nI z))) hv2) dX12_lookAt_196 ?_
                refine lv_iload_n hx hb dX12_lookAt_199 rfl (lv_at hl 0 rfl) ?_
                refine nr_if_eq (tgt := 207) hx hb (by decide) dX12_lookAt_200 (by decide) (fun c66 => absurd c66 (by decide)) (fun c66 => ?_)
                refine lv_iconst (v := nI 1) hx hb dX12_lookAt_203 (by decide) ?_
                refine lv_goto (tgt := 208) hx hb dX12_lookAt_204 (by decide) ?_
                refine nr_iadd hx hb dX12_lookAt_208 ?_
                obtain ⟨iv67, eiv67⟩ : ∃ f, f = va_up ivL136 2 (y + 1) := ⟨_, rfl⟩
                have hiv67_0 : iv67 0 = iv 0 := by rw [eiv67]; exact (va_up_ne _ _ (by decide)).trans hv0
                have hiv67_1 : iv67 1 = sx := by rw [eiv67]; exact (va_up_ne _ _ (by decide)).trans hv1
                have hiv67_2 : iv67 2 = y + 1 := by rw [eiv67]; exact va_up_self _ _ _
                have hiv67_3 : iv67 3 = 2 := by rw [eiv67]; exact (va_up_ne _ _ (by decide)).trans hv3
                have hiv67_4 : iv67 4 = 0 := by rw [eiv67]; exact (va_up_ne _ _ (by decide)).trans hv4
                have hiv67_5 : iv67 5 = iv 5 := by rw [eiv67]; exact (va_up_ne _ _ (by decide)).trans hv5
                have hiv67_6 : iv67 6 = iv 6 := by rw [eiv67]; exact (va_up_ne _ _ (by decide)).trans hv6
                refine nr_put (own := RX12) (C := RX12) (T := TX12) (N := 19) (ty := .int) (v := .int (nI (y + 1))) (fs' := [.ref (ad Γ (mo + 1)), .ref (ad Γ (mo + 2)), .ref (ad Γ (mo + 3)), .ref (ad Γ (mo + 4)), .long (lN (iv67 5)), .long (lN (iv67 6)), .ref (ad Γ (mo + 5)), .ref (ad Γ (mo + 6)), .ref (ad Γ (mo + 7)), .ref (ad Γ (mo + 8)), .ref (ad Γ (mo + 9)), .ref (ad Γ (mo + 10)), .int (nI (iv67 0)), .int (nI (iv67 1)), .int (nI (iv67 2)), .int (nI (iv67 3)), .int (nI (iv67 4)), .ref (ad Γ (mo + 11)), .ref (ad Γ (mo + 12))]) hx hb hts hi_X12_lookAt_X12 tyX12 tyX12_ok nmX12 hown hw hj hA hS (by omega) (isM_0 hM) rfl 14 (by decide) wl_X12_lookAt_4 rfl rfl (by decide +kernel) rfl rfl (Nat.le_of_ble_eq_true rfl) (by rw [eiv67]; rfl) dX12_lookAt_209 (fun H locs hw hS => ?_)
                have hM := isM_s0 hM iv67
                have hfr := fr_up hfr (i := mo + 0) (by omega) (by omega) (.inr (9, [.ref (ad Γ (mo + 1)), .ref (ad Γ (mo + 2)), .ref (ad Γ (mo + 3)), .ref (ad Γ (mo + 4)), .long (lN (iv67 5)), .long (lN (iv67 6)), .ref (ad Γ (mo + 5)), .ref (ad Γ (mo + 6)), .ref (ad Γ (mo + 7)), .ref (ad Γ (mo + 8)), .ref (ad Γ (mo + 9)), .ref (ad Γ (mo + 10)), .int (nI (iv67 0)), .int (nI (iv67 1)), .int (nI (iv67 2)), .int (nI (iv67 3)), .int (nI (iv67 4)), .ref (ad Γ (mo + 11)), .ref (ad Γ (mo + 12))]))
                generalize va_up Gl136 (mo + 0) (.inr (9, [.ref (ad Γ (mo + 1)), .ref (ad Γ (mo + 2)), .ref (ad Γ (mo + 3)), .ref (ad Γ (mo + 4)), .long (lN (iv67 5)), .long (lN (iv67 6)), .ref (ad Γ (mo + 5)), .ref (ad Γ (mo + 6)), .ref (ad Γ (mo + 7)), .ref (ad Γ (mo + 8)), .ref (ad Γ (mo + 9)), .ref (ad Γ (mo + 10)), .int (nI (iv67 0)), .int (nI (iv67 1)), .int (nI (iv67 2)), .int (nI (iv67 3)), .int (nI (iv67 4)), .ref (ad Γ (mo + 11)), .ref (ad Γ (mo + 12))])) = G68 at hw hM hfr
                refine lv_goto (tgt := 136) hx hb dX12_lookAt_212 (by decide) ?_
                exact ih136 (G68, y + 1, 1, iv67) _ _ _ _ hw hS (lv_sub hl [2, 3, 4, 0] rfl) ⟨rfl, hM, hfr, by (try dsimp only); omega, by (try dsimp only); omega, by (try dsimp only); omega, by (try dsimp only); omega, by (try dsimp only); omega, by (try dsimp only); omega, by (try dsimp only); omega, by (try dsimp only); omega, by (try dsimp only); omega, by (try dsimp only); first | exact hrn | (rw [← hrn]; exact runL_go (by omega) (by assumption)), by (try dsimp only); first | (intro z; exact absurd z (by decide)) | (intro _; assumption), by (try dsimp only); omega, by (try dsimp only); first | exact hdg | (intro j hj; rcases Nat.lt_or_eq_of_le (Nat.le_of_lt_succ hj) with z | z; exact hdg j z; rw [z]; assumption)⟩ (by (try dsimp only); omega)
              · refine lv_istore_n (lv' := [(3, .int (nI 0)), (4, .int (nI (by0 (sx + y)))), (0, .ref (ad Γ (mo + 0))), (1, .int (nI q)), (2, .int (nI (by0 sx)))]) hx hb dX12_lookAt_193 rfl hl (by decide) rfl (fun ls hl => ?_)
                refine lv_aload_n hx hb dX12_lookAt_194 rfl (lv_at hl 2 rfl) ?_
                refine lv_dup hx hb dX12_lookAt_195 rfl ?_
                refine nr_get (own := RX12) (C := RX12) (T := TX12) (N := 19) (v := .int (nI y)) hx hb hts hi_X12_lookAt_X12 hown hw (by omega) (isM_0 hM) rfl 14 (by decide) wl_X12_lookAt_4 rfl (congrArg (fun z => some (Value.int (nI z))) hv2) dX12_lookAt_196 ?_
                refine lv_iload_n hx hb dX12_lookAt_199 rfl (lv_at hl 0 rfl) ?_
                refine nr_if_eq (tgt := 207) hx hb (by decide) dX12_lookAt_200 (by decide) (fun c69 => ?_) (fun c69 => absurd c69 (by decide))
                refine lv_iconst (v := nI 0) hx hb dX12_lookAt_207 (by decide) ?_
                refine nr_iadd hx hb dX12_lookAt_208 ?_
                obtain ⟨iv70, eiv70⟩ : ∃ f, f = va_up ivL136 2 (y + 0) := ⟨_, rfl⟩
                have hiv70_0 : iv70 0 = iv 0 := by rw [eiv70]; exact (va_up_ne _ _ (by decide)).trans hv0
                have hiv70_1 : iv70 1 = sx := by rw [eiv70]; exact (va_up_ne _ _ (by decide)).trans hv1
                have hiv70_2 : iv70 2 = y + 0 := by rw [eiv70]; exact va_up_self _ _ _
                have hiv70_3 : iv70 3 = 2 := by rw [eiv70]; exact (va_up_ne _ _ (by decide)).trans hv3
                have hiv70_4 : iv70 4 = 0 := by rw [eiv70]; exact (va_up_ne _ _ (by decide)).trans hv4
                have hiv70_5 : iv70 5 = iv 5 := by rw [eiv70]; exact (va_up_ne _ _ (by decide)).trans hv5
                have hiv70_6 : iv70 6 = iv 6 := by rw [eiv70]; exact (va_up_ne _ _ (by decide)).trans hv6
                refine nr_put (own := RX12) (C := RX12) (T := TX12) (N := 19) (ty := .int) (v := .int (nI (y + 0))) (fs' := [.ref (ad Γ (mo + 1)), .ref (ad Γ (mo + 2)), .ref (ad Γ (mo + 3)), .ref (ad Γ (mo + 4)), .long (lN (iv70 5)), .long (lN (iv70 6)), .ref (ad Γ (mo + 5)), .ref (ad Γ (mo + 6)), .ref (ad Γ (mo + 7)), .ref (ad Γ (mo + 8)), .ref (ad Γ (mo + 9)), .ref (ad Γ (mo + 10)), .int (nI (iv70 0)), .int (nI (iv70 1)), .int (nI (iv70 2)), .int (nI (iv70 3)), .int (nI (iv70 4)), .ref (ad Γ (mo + 11)), .ref (ad Γ (mo + 12))]) hx hb hts hi_X12_lookAt_X12 tyX12 tyX12_ok nmX12 hown hw hj hA hS (by omega) (isM_0 hM) rfl 14 (by decide) wl_X12_lookAt_4 rfl rfl (by decide +kernel) rfl rfl (Nat.le_of_ble_eq_true rfl) (by rw [eiv70]; rfl) dX12_lookAt_209 (fun H locs hw hS => ?_)
                have hM := isM_s0 hM iv70
                have hfr := fr_up hfr (i := mo + 0) (by omega) (by omega) (.inr (9, [.ref (ad Γ (mo + 1)), .ref (ad Γ (mo + 2)), .ref (ad Γ (mo + 3)), .ref (ad Γ (mo + 4)), .long (lN (iv70 5)), .long (lN (iv70 6)), .ref (ad Γ (mo + 5)), .ref (ad Γ (mo + 6)), .ref (ad Γ (mo + 7)), .ref (ad Γ (mo + 8)), .ref (ad Γ (mo + 9)), .ref (ad Γ (mo + 10)), .int (nI (iv70 0)), .int (nI (iv70 1)), .int (nI (iv70 2)), .int (nI (iv70 3)), .int (nI (iv70 4)), .ref (ad Γ (mo + 11)), .ref (ad Γ (mo + 12))]))
                generalize va_up Gl136 (mo + 0) (.inr (9, [.ref (ad Γ (mo + 1)), .ref (ad Γ (mo + 2)), .ref (ad Γ (mo + 3)), .ref (ad Γ (mo + 4)), .long (lN (iv70 5)), .long (lN (iv70 6)), .ref (ad Γ (mo + 5)), .ref (ad Γ (mo + 6)), .ref (ad Γ (mo + 7)), .ref (ad Γ (mo + 8)), .ref (ad Γ (mo + 9)), .ref (ad Γ (mo + 10)), .int (nI (iv70 0)), .int (nI (iv70 1)), .int (nI (iv70 2)), .int (nI (iv70 3)), .int (nI (iv70 4)), .ref (ad Γ (mo + 11)), .ref (ad Γ (mo + 12))])) = G71 at hw hM hfr
                refine lv_goto (tgt := 136) hx hb dX12_lookAt_212 (by decide) ?_
                exact ih136 (G71, y + 0, 0, iv70) _ _ _ _ hw hS (lv_sub hl [2, 3, 4, 0] rfl) ⟨rfl, hM, hfr, by (try dsimp only); omega, by (try dsimp only); omega, by (try dsimp only); omega, by (try dsimp only); omega, by (try dsimp only); omega, by (try dsimp only); omega, by (try dsimp only); omega, by (try dsimp only); omega, by (try dsimp only); omega, by (try dsimp only); first | exact hrn | (rw [← hrn]; exact runL_go (by omega) (by assumption)), by (try dsimp only); first | (intro z; exact absurd z (by decide)) | (intro _; assumption), by (try dsimp only); omega, by (try dsimp only); first | exact hdg | (intro j hj; rcases Nat.lt_or_eq_of_le (Nat.le_of_lt_succ hj) with z | z; exact hdg j z; rw [z]; assumption)⟩ (by (try dsimp only); omega)
        · refine nr_if_eq (tgt := 103) hx hb (by decide) dX12_lookAt_96 (by decide) (fun c72 => ?_) (fun c72 => absurd c72 (by decide))
          refine lv_iload_n hx hb dX12_lookAt_103 rfl (lv_at hl 0 rfl) ?_
          refine lv_bipush (v := nI 59) hx hb dX12_lookAt_104 (by decide) ?_
          refine nr_icmp_ne (tgt := 113) hx hb (by omega) (by decide) dX12_lookAt_106 (by decide) (fun c73 => ?_) (fun c73 => ?_)
          · refine lv_iconst (v := nI 4) hx hb dX12_lookAt_113 (by decide) ?_
            obtain ⟨iv74, eiv74⟩ : ∃ f, f = va_up iv5 3 4 := ⟨_, rfl⟩
            have hiv74_0 : iv74 0 = iv 0 := by rw [eiv74]; exact (va_up_ne _ _ (by decide)).trans hiv5_0
            have hiv74_1 : iv74 1 = sx := by rw [eiv74]; exact (va_up_ne _ _ (by decide)).trans hiv5_1
            have hiv74_2 : iv74 2 = 0 := by rw [eiv74]; exact (va_up_ne _ _ (by decide)).trans hiv5_2
            have hiv74_3 : iv74 3 = 4 := by rw [eiv74]; exact va_up_self _ _ _
            have hiv74_4 : iv74 4 = 0 := by rw [eiv74]; exact (va_up_ne _ _ (by decide)).trans hiv5_4
            have hiv74_5 : iv74 5 = iv 5 := by rw [eiv74]; exact (va_up_ne _ _ (by decide)).trans hiv5_5
            have hiv74_6 : iv74 6 = iv 6 := by rw [eiv74]; exact (va_up_ne _ _ (by decide)).trans hiv5_6
            refine nr_put (own := RX12) (C := RX12) (T := TX12) (N := 19) (ty := .int) (v := .int (nI 4)) (fs' := [.ref (ad Γ (mo + 1)), .ref (ad Γ (mo + 2)), .ref (ad Γ (mo + 3)), .ref (ad Γ (mo + 4)), .long (lN (iv74 5)), .long (lN (iv74 6)), .ref (ad Γ (mo + 5)), .ref (ad Γ (mo + 6)), .ref (ad Γ (mo + 7)), .ref (ad Γ (mo + 8)), .ref (ad Γ (mo + 9)), .ref (ad Γ (mo + 10)), .int (nI (iv74 0)), .int (nI (iv74 1)), .int (nI (iv74 2)), .int (nI (iv74 3)), .int (nI (iv74 4)), .ref (ad Γ (mo + 11)), .ref (ad Γ (mo + 12))]) hx hb hts hi_X12_lookAt_X12 tyX12 tyX12_ok nmX12 hown hw hj hA hS (by omega) (isM_0 hM) rfl 15 (by decide) wl_X12_lookAt_5 rfl rfl (by decide +kernel) rfl rfl (Nat.le_of_ble_eq_true rfl) (by rw [eiv74]; rfl) dX12_lookAt_114 (fun H locs hw hS => ?_)
            have hM := isM_s0 hM iv74
            have hfr := fr_up hfr (i := mo + 0) (by omega) (by omega) (.inr (9, [.ref (ad Γ (mo + 1)), .ref (ad Γ (mo + 2)), .ref (ad Γ (mo + 3)), .ref (ad Γ (mo + 4)), .long (lN (iv74 5)), .long (lN (iv74 6)), .ref (ad Γ (mo + 5)), .ref (ad Γ (mo + 6)), .ref (ad Γ (mo + 7)), .ref (ad Γ (mo + 8)), .ref (ad Γ (mo + 9)), .ref (ad Γ (mo + 10)), .int (nI (iv74 0)), .int (nI (iv74 1)), .int (nI (iv74 2)), .int (nI (iv74 3)), .int (nI (iv74 4)), .ref (ad Γ (mo + 11)), .ref (ad Γ (mo + 12))]))
            generalize va_up G6 (mo + 0) (.inr (9, [.ref (ad Γ (mo + 1)), .ref (ad Γ (mo + 2)), .ref (ad Γ (mo + 3)), .ref (ad Γ (mo + 4)), .long (lN (iv74 5)), .long (lN (iv74 6)), .ref (ad Γ (mo + 5)), .ref (ad Γ (mo + 6)), .ref (ad Γ (mo + 7)), .ref (ad Γ (mo + 8)), .ref (ad Γ (mo + 9)), .ref (ad Γ (mo + 10)), .int (nI (iv74 0)), .int (nI (iv74 1)), .int (nI (iv74 2)), .int (nI (iv74 3)), .int (nI (iv74 4)), .ref (ad Γ (mo + 11)), .ref (ad Γ (mo + 12))])) = G75 at hw hM hfr
            refine lv_aload_n hx hb dX12_lookAt_117 rfl (lv_at hl 1 rfl) ?_
            refine lv_iconst (v := nI 1) hx hb dX12_lookAt_118 (by decide) ?_
            obtain ⟨iv76, eiv76⟩ : ∃ f, f = va_up iv74 2 1 := ⟨_, rfl⟩
            have hiv76_0 : iv76 0 = iv 0 := by rw [eiv76]; exact (va_up_ne _ _ (by decide)).trans hiv74_0
            have hiv76_1 : iv76 1 = sx := by rw [eiv76]; exact (va_up_ne _ _ (by decide)).trans hiv74_1
            have hiv76_2 : iv76 2 = 1 := by rw [eiv76]; exact va_up_self _ _ _
            have hiv76_3 : iv76 3 = 4 := by rw [eiv76]; exact (va_up_ne _ _ (by decide)).trans hiv74_3
            have hiv76_4 : iv76 4 = 0 := by rw [eiv76]; exact (va_up_ne _ _ (by decide)).trans hiv74_4
            have hiv76_5 : iv76 5 = iv 5 := by rw [eiv76]; exact (va_up_ne _ _ (by decide)).trans hiv74_5
            have hiv76_6 : iv76 6 = iv 6 := by rw [eiv76]; exact (va_up_ne _ _ (by decide)).trans hiv74_6
            refine nr_put (own := RX12) (C := RX12) (T := TX12) (N := 19) (ty := .int) (v := .int (nI 1)) (fs' := [.ref (ad Γ (mo + 1)), .ref (ad Γ (mo + 2)), .ref (ad Γ (mo + 3)), .ref (ad Γ (mo + 4)), .long (lN (iv76 5)), .long (lN (iv76 6)), .ref (ad Γ (mo + 5)), .ref (ad Γ (mo + 6)), .ref (ad Γ (mo + 7)), .ref (ad Γ (mo + 8)), .ref (ad Γ (mo + 9)), .ref (ad Γ (mo + 10)), .int (nI (iv76 0)), .int (nI (iv76 1)), .int (nI (iv76 2)), .int (nI (iv76 3)), .int (nI (iv76 4)), .ref (ad Γ (mo + 11)), .ref (ad Γ (mo + 12))]) hx hb hts hi_X12_lookAt_X12 tyX12 tyX12_ok nmX12 hown hw hj hA hS (by omega) (isM_0 hM) rfl 14 (by decide) wl_X12_lookAt_4 rfl rfl (by decide +kernel) rfl rfl (Nat.le_of_ble_eq_true rfl) (by rw [eiv76]; rfl) dX12_lookAt_119 (fun H locs hw hS => ?_)
            have hM := isM_s0 hM iv76
            have hfr := fr_up hfr (i := mo + 0) (by omega) (by omega) (.inr (9, [.ref (ad Γ (mo + 1)), .ref (ad Γ (mo + 2)), .ref (ad Γ (mo + 3)), .ref (ad Γ (mo + 4)), .long (lN (iv76 5)), .long (lN (iv76 6)), .ref (ad Γ (mo + 5)), .ref (ad Γ (mo + 6)), .ref (ad Γ (mo + 7)), .ref (ad Γ (mo + 8)), .ref (ad Γ (mo + 9)), .ref (ad Γ (mo + 10)), .int (nI (iv76 0)), .int (nI (iv76 1)), .int (nI (iv76 2)), .int (nI (iv76 3)), .int (nI (iv76 4)), .ref (ad Γ (mo + 11)), .ref (ad Γ (mo + 12))]))
            generalize va_up G75 (mo + 0) (.inr (9, [.ref (ad Γ (mo + 1)), .ref (ad Γ (mo + 2)), .ref (ad Γ (mo + 3)), .ref (ad Γ (mo + 4)), .long (lN (iv76 5)), .long (lN (iv76 6)), .ref (ad Γ (mo + 5)), .ref (ad Γ (mo + 6)), .ref (ad Γ (mo + 7)), .ref (ad Γ (mo + 8)), .ref (ad Γ (mo + 9)), .ref (ad Γ (mo + 10)), .int (nI (iv76 0)), .int (nI (iv76 1)), .int (nI (iv76 2)), .int (nI (iv76 3)), .int (nI (iv76 4)), .ref (ad Γ (mo + 11)), .ref (ad Γ (mo + 12))])) = G77 at hw hM hfr
            refine lv_aload_n hx hb dX12_lookAt_122 rfl (lv_at hl 1 rfl) ?_
            refine nr_get (own := RX12) (C := RX12) (T := TX12) (N := 19) (v := .int (nI 4)) hx hb hts hi_X12_lookAt_X12 hown hw (by omega) (isM_0 hM) rfl 15 (by decide) wl_X12_lookAt_5 rfl (congrArg (fun z => some (Value.int (nI z))) hiv76_3) dX12_lookAt_123 ?_
            refine lv_iconst (v := nI 3) hx hb dX12_lookAt_126 (by decide) ?_
            refine nr_icmp_ge (tgt := 134) hx hb (by decide) (by decide) dX12_lookAt_127 (by decide) (fun c78 => ?_) (fun c78 => absurd c78 (by decide))
            refine lv_iconst (v := nI 0) hx hb dX12_lookAt_134 (by decide) ?_
            refine lv_istore_n (lv' := [(3, .int (nI 0)), (2, .int (nI (by0 sx))), (0, .ref (ad Γ (mo + 0))), (1, .int (nI q))]) hx hb dX12_lookAt_135 rfl hl (by decide) rfl (fun ls hl => ?_)
            refine lv_iload_n hx hb dX12_lookAt_136 rfl (lv_at hl 0 rfl) ?_
            refine nr_if_eq (tgt := 215) hx hb (by decide) dX12_lookAt_137 (by decide) (fun c79 => ?_) (fun c79 => absurd c79 (by decide))
            refine lv_iconst (v := nI 0) hx hb dX12_lookAt_215 (by decide) ?_
            refine lv_istore (lv' := [(4, .int (nI 0)), (3, .int (nI 0)), (2, .int (nI (by0 sx))), (0, .ref (ad Γ (mo + 0))), (1, .int (nI q))]) hx hb dX12_lookAt_216 hl (by decide) rfl (fun ls hl => ?_)
            refine lv_iload hx hb dX12_lookAt_218 (lv_at hl 0 rfl) ?_
            refine lv_aload_n hx hb dX12_lookAt_220 rfl (lv_at hl 3 rfl) ?_
            refine nr_get (own := RX12) (C := RX12) (T := TX12) (N := 19) (v := .int (nI 1)) hx hb hts hi_X12_lookAt_X12 hown hw (by omega) (isM_0 hM) rfl 14 (by decide) wl_X12_lookAt_4 rfl (congrArg (fun z => some (Value.int (nI z))) hiv76_2) dX12_lookAt_221 ?_
            refine nr_icmp_ge (tgt := 274) hx hb (by decide) (by decide) dX12_lookAt_224 (by decide) (fun c80 => absurd c80 (by decide)) (fun c80 => ?_)
            refine lv_iload hx hb dX12_lookAt_227 (lv_at hl 0 rfl) ?_
            refine lv_iconst (v := nI 2) hx hb dX12_lookAt_229 (by decide) ?_
            refine nr_icmp_ge (tgt := 274) hx hb (by decide) (by decide) dX12_lookAt_230 (by decide) (fun c81 => absurd c81 (by decide)) (fun c81 => ?_)
            refine lv_aload_n hx hb dX12_lookAt_233 rfl (lv_at hl 3 rfl) ?_
            refine nr_get (own := RX12) (C := RX12) (T := TX12) (N := 19) (v := .int (nI 4)) hx hb hts hi_X12_lookAt_X12 hown hw (by omega) (isM_0 hM) rfl 15 (by decide) wl_X12_lookAt_5 rfl (congrArg (fun z => some (Value.int (nI z))) hiv76_3) dX12_lookAt_234 ?_
            refine lv_iconst (v := nI 2) hx hb dX12_lookAt_237 (by decide) ?_
            refine nr_icmp_ne (tgt := 274) hx hb (by decide) (by decide) dX12_lookAt_238 (by decide) (fun c82 => ?_) (fun c82 => absurd c82 (by decide))
            exact ih274 (G77, 1, 4, 0, iv76) _ _ _ _ hw hS (lv_sub hl [3] rfl) ⟨rfl, hM, hfr, by (try dsimp only); omega, by (try dsimp only); omega, by (try dsimp only); omega, by (try dsimp only); omega, by (try dsimp only); omega, by (try dsimp only); omega, by (try dsimp only); omega, by (try dsimp only); unfold tokE; rw [if_pos (by omega), if_neg (by assumption), if_neg (by assumption)], by (try dsimp only); have hE := (show tokE by0 (iv 0) sx = sx + 1 from by unfold tokE; rw [if_pos (by omega), if_neg (by assumption), if_neg (by assumption)]); unfold tokK; rw [if_pos (by omega), if_neg (by assumption), if_neg (by assumption), if_neg (by assumption)]; simp, by (try dsimp only); have hE := (show tokE by0 (iv 0) sx = sx + 1 from by unfold tokE; rw [if_pos (by omega), if_neg (by assumption), if_neg (by assumption)]); unfold tokV; rw [if_neg (fun z => absurd z.2.2 (by assumption))]; omega, by (try dsimp only); omega, by (try dsimp only); omega⟩
          · refine lv_iconst (v := nI 3) hx hb dX12_lookAt_109 (by decide) ?_
            refine lv_goto (tgt := 114) hx hb dX12_lookAt_110 (by decide) ?_
            obtain ⟨iv83, eiv83⟩ : ∃ f, f = va_up iv5 3 3 := ⟨_, rfl⟩
            have hiv83_0 : iv83 0 = iv 0 := by rw [eiv83]; exact (va_up_ne _ _ (by decide)).trans hiv5_0
            have hiv83_1 : iv83 1 = sx := by rw [eiv83]; exact (va_up_ne _ _ (by decide)).trans hiv5_1
            have hiv83_2 : iv83 2 = 0 := by rw [eiv83]; exact (va_up_ne _ _ (by decide)).trans hiv5_2
            have hiv83_3 : iv83 3 = 3 := by rw [eiv83]; exact va_up_self _ _ _
            have hiv83_4 : iv83 4 = 0 := by rw [eiv83]; exact (va_up_ne _ _ (by decide)).trans hiv5_4
            have hiv83_5 : iv83 5 = iv 5 := by rw [eiv83]; exact (va_up_ne _ _ (by decide)).trans hiv5_5
            have hiv83_6 : iv83 6 = iv 6 := by rw [eiv83]; exact (va_up_ne _ _ (by decide)).trans hiv5_6
            refine nr_put (own := RX12) (C := RX12) (T := TX12) (N := 19) (ty := .int) (v := .int (nI 3)) (fs' := [.ref (ad Γ (mo + 1)), .ref (ad Γ (mo + 2)), .ref (ad Γ (mo + 3)), .ref (ad Γ (mo + 4)), .long (lN (iv83 5)), .long (lN (iv83 6)), .ref (ad Γ (mo + 5)), .ref (ad Γ (mo + 6)), .ref (ad Γ (mo + 7)), .ref (ad Γ (mo + 8)), .ref (ad Γ (mo + 9)), .ref (ad Γ (mo + 10)), .int (nI (iv83 0)), .int (nI (iv83 1)), .int (nI (iv83 2)), .int (nI (iv83 3)), .int (nI (iv83 4)), .ref (ad Γ (mo + 11)), .ref (ad Γ (mo + 12))]) hx hb hts hi_X12_lookAt_X12 tyX12 tyX12_ok nmX12 hown hw hj hA hS (by omega) (isM_0 hM) rfl 15 (by decide) wl_X12_lookAt_5 rfl rfl (by decide +kernel) rfl rfl (Nat.le_of_ble_eq_true rfl) (by rw [eiv83]; rfl) dX12_lookAt_114 (fun H locs hw hS => ?_)
            have hM := isM_s0 hM iv83
            have hfr := fr_up hfr (i := mo + 0) (by omega) (by omega) (.inr (9, [.ref (ad Γ (mo + 1)), .ref (ad Γ (mo + 2)), .ref (ad Γ (mo + 3)), .ref (ad Γ (mo + 4)), .long (lN (iv83 5)), .long (lN (iv83 6)), .ref (ad Γ (mo + 5)), .ref (ad Γ (mo + 6)), .ref (ad Γ (mo + 7)), .ref (ad Γ (mo + 8)), .ref (ad Γ (mo + 9)), .ref (ad Γ (mo + 10)), .int (nI (iv83 0)), .int (nI (iv83 1)), .int (nI (iv83 2)), .int (nI (iv83 3)), .int (nI (iv83 4)), .ref (ad Γ (mo + 11)), .ref (ad Γ (mo + 12))]))
            generalize va_up G6 (mo + 0) (.inr (9, [.ref (ad Γ (mo + 1)), .ref (ad Γ (mo + 2)), .ref (ad Γ (mo + 3)), .ref (ad Γ (mo + 4)), .long (lN (iv83 5)), .long (lN (iv83 6)), .ref (ad Γ (mo + 5)), .ref (ad Γ (mo + 6)), .ref (ad Γ (mo + 7)), .ref (ad Γ (mo + 8)), .ref (ad Γ (mo + 9)), .ref (ad Γ (mo + 10)), .int (nI (iv83 0)), .int (nI (iv83 1)), .int (nI (iv83 2)), .int (nI (iv83 3)), .int (nI (iv83 4)), .ref (ad Γ (mo + 11)), .ref (ad Γ (mo + 12))])) = G84 at hw hM hfr
            refine lv_aload_n hx hb dX12_lookAt_117 rfl (lv_at hl 1 rfl) ?_
            refine lv_iconst (v := nI 1) hx hb dX12_lookAt_118 (by decide) ?_
            obtain ⟨iv85, eiv85⟩ : ∃ f, f = va_up iv83 2 1 := ⟨_, rfl⟩
            have hiv85_0 : iv85 0 = iv 0 := by rw [eiv85]; exact (va_up_ne _ _ (by decide)).trans hiv83_0
            have hiv85_1 : iv85 1 = sx := by rw [eiv85]; exact (va_up_ne _ _ (by decide)).trans hiv83_1
            have hiv85_2 : iv85 2 = 1 := by rw [eiv85]; exact va_up_self _ _ _
            have hiv85_3 : iv85 3 = 3 := by rw [eiv85]; exact (va_up_ne _ _ (by decide)).trans hiv83_3
            have hiv85_4 : iv85 4 = 0 := by rw [eiv85]; exact (va_up_ne _ _ (by decide)).trans hiv83_4
            have hiv85_5 : iv85 5 = iv 5 := by rw [eiv85]; exact (va_up_ne _ _ (by decide)).trans hiv83_5
            have hiv85_6 : iv85 6 = iv 6 := by rw [eiv85]; exact (va_up_ne _ _ (by decide)).trans hiv83_6
            refine nr_put (own := RX12) (C := RX12) (T := TX12) (N := 19) (ty := .int) (v := .int (nI 1)) (fs' := [.ref (ad Γ (mo + 1)), .ref (ad Γ (mo + 2)), .ref (ad Γ (mo + 3)), .ref (ad Γ (mo + 4)), .long (lN (iv85 5)), .long (lN (iv85 6)), .ref (ad Γ (mo + 5)), .ref (ad Γ (mo + 6)), .ref (ad Γ (mo + 7)), .ref (ad Γ (mo + 8)), .ref (ad Γ (mo + 9)), .ref (ad Γ (mo + 10)), .int (nI (iv85 0)), .int (nI (iv85 1)), .int (nI (iv85 2)), .int (nI (iv85 3)), .int (nI (iv85 4)), .ref (ad Γ (mo + 11)), .ref (ad Γ (mo + 12))]) hx hb hts hi_X12_lookAt_X12 tyX12 tyX12_ok nmX12 hown hw hj hA hS (by omega) (isM_0 hM) rfl 14 (by decide) wl_X12_lookAt_4 rfl rfl (by decide +kernel) rfl rfl (Nat.le_of_ble_eq_true rfl) (by rw [eiv85]; rfl) dX12_lookAt_119 (fun H locs hw hS => ?_)
            have hM := isM_s0 hM iv85
            have hfr := fr_up hfr (i := mo + 0) (by omega) (by omega) (.inr (9, [.ref (ad Γ (mo + 1)), .ref (ad Γ (mo + 2)), .ref (ad Γ (mo + 3)), .ref (ad Γ (mo + 4)), .long (lN (iv85 5)), .long (lN (iv85 6)), .ref (ad Γ (mo + 5)), .ref (ad Γ (mo + 6)), .ref (ad Γ (mo + 7)), .ref (ad Γ (mo + 8)), .ref (ad Γ (mo + 9)), .ref (ad Γ (mo + 10)), .int (nI (iv85 0)), .int (nI (iv85 1)), .int (nI (iv85 2)), .int (nI (iv85 3)), .int (nI (iv85 4)), .ref (ad Γ (mo + 11)), .ref (ad Γ (mo + 12))]))
            generalize va_up G84 (mo + 0) (.inr (9, [.ref (ad Γ (mo + 1)), .ref (ad Γ (mo + 2)), .ref (ad Γ (mo + 3)), .ref (ad Γ (mo + 4)), .long (lN (iv85 5)), .long (lN (iv85 6)), .ref (ad Γ (mo + 5)), .ref (ad Γ (mo + 6)), .ref (ad Γ (mo + 7)), .ref (ad Γ (mo + 8)), .ref (ad Γ (mo + 9)), .ref (ad Γ (mo + 10)), .int (nI (iv85 0)), .int (nI (iv85 1)), .int (nI (iv85 2)), .int (nI (iv85 3)), .int (nI (iv85 4)), .ref (ad Γ (mo + 11)), .ref (ad Γ (mo + 12))])) = G86 at hw hM hfr
            refine lv_aload_n hx hb dX12_lookAt_122 rfl (lv_at hl 1 rfl) ?_
            refine nr_get (own := RX12) (C := RX12) (T := TX12) (N := 19) (v := .int (nI 3)) hx hb hts hi_X12_lookAt_X12 hown hw (by omega) (isM_0 hM) rfl 15 (by decide) wl_X12_lookAt_5 rfl (congrArg (fun z => some (Value.int (nI z))) hiv85_3) dX12_lookAt_123 ?_
            refine lv_iconst (v := nI 3) hx hb dX12_lookAt_126 (by decide) ?_
            refine nr_icmp_ge (tgt := 134) hx hb (by decide) (by decide) dX12_lookAt_127 (by decide) (fun c87 => ?_) (fun c87 => absurd c87 (by decide))
            refine lv_iconst (v := nI 0) hx hb dX12_lookAt_134 (by decide) ?_
            refine lv_istore_n (lv' := [(3, .int (nI 0)), (2, .int (nI (by0 sx))), (0, .ref (ad Γ (mo + 0))), (1, .int (nI q))]) hx hb dX12_lookAt_135 rfl hl (by decide) rfl (fun ls hl => ?_)
            refine lv_iload_n hx hb dX12_lookAt_136 rfl (lv_at hl 0 rfl) ?_
            refine nr_if_eq (tgt := 215) hx hb (by decide) dX12_lookAt_137 (by decide) (fun c88 => ?_) (fun c88 => absurd c88 (by decide))
            refine lv_iconst (v := nI 0) hx hb dX12_lookAt_215 (by decide) ?_
            refine lv_istore (lv' := [(4, .int (nI 0)), (3, .int (nI 0)), (2, .int (nI (by0 sx))), (0, .ref (ad Γ (mo + 0))), (1, .int (nI q))]) hx hb dX12_lookAt_216 hl (by decide) rfl (fun ls hl => ?_)
            refine lv_iload hx hb dX12_lookAt_218 (lv_at hl 0 rfl) ?_
            refine lv_aload_n hx hb dX12_lookAt_220 rfl (lv_at hl 3 rfl) ?_
            refine nr_get (own := RX12) (C := RX12) (T := TX12) (N := 19) (v := .int (nI 1)) hx hb hts hi_X12_lookAt_X12 hown hw (by omega) (isM_0 hM) rfl 14 (by decide) wl_X12_lookAt_4 rfl (congrArg (fun z => some (Value.int (nI z))) hiv85_2) dX12_lookAt_221 ?_
            refine nr_icmp_ge (tgt := 274) hx hb (by decide) (by decide) dX12_lookAt_224 (by decide) (fun c89 => absurd c89 (by decide)) (fun c89 => ?_)
            refine lv_iload hx hb dX12_lookAt_227 (lv_at hl 0 rfl) ?_
            refine lv_iconst (v := nI 2) hx hb dX12_lookAt_229 (by decide) ?_
            refine nr_icmp_ge (tgt := 274) hx hb (by decide) (by decide) dX12_lookAt_230 (by decide) (fun c90 => absurd c90 (by decide)) (fun c90 => ?_)
            refine lv_aload_n hx hb dX12_lookAt_233 rfl (lv_at hl 3 rfl) ?_
            refine nr_get (own := RX12) (C := RX12) (T := TX12) (N := 19) (v := .int (nI 3)) hx hb hts hi_X12_lookAt_X12 hown hw (by omega) (isM_0 hM) rfl 15 (by decide) wl_X12_lookAt_5 rfl (congrArg (fun z => some (Value.int (nI z))) hiv85_3) dX12_lookAt_234 ?_
            refine lv_iconst (v := nI 2) hx hb dX12_lookAt_237 (by decide) ?_
            refine nr_icmp_ne (tgt := 274) hx hb (by decide) (by decide) dX12_lookAt_238 (by decide) (fun c91 => ?_) (fun c91 => absurd c91 (by decide))
            exact ih274 (G86, 1, 3, 0, iv85) _ _ _ _ hw hS (lv_sub hl [3] rfl) ⟨rfl, hM, hfr, by (try dsimp only); omega, by (try dsimp only); omega, by (try dsimp only); omega, by (try dsimp only); omega, by (try dsimp only); omega, by (try dsimp only); omega, by (try dsimp only); omega, by (try dsimp only); unfold tokE; rw [if_pos (by omega), if_neg (by assumption), if_neg (by assumption)], by (try dsimp only); have hE := (show tokE by0 (iv 0) sx = sx + 1 from by unfold tokE; rw [if_pos (by omega), if_neg (by assumption), if_neg (by assumption)]); unfold tokK; rw [if_pos (by omega), if_neg (by assumption), if_neg (by assumption), if_pos (by assumption)]; simp, by (try dsimp only); have hE := (show tokE by0 (iv 0) sx = sx + 1 from by unfold tokE; rw [if_pos (by omega), if_neg (by assumption), if_neg (by assumption)]); unfold tokV; rw [if_neg (fun z => absurd z.2.2 (by assumption))]; omega, by (try dsimp only); omega, by (try dsimp only); omega⟩
    · have hE : tokE by0 (iv 0) sx = sx := by unfold tokE; rw [if_neg (by omega)]
      have hK : tokK by0 (iv 0) sx = 0 := by unfold tokK; rw [if_neg (by omega)]
      have hV : tokV by0 (iv 0) sx = 0 := by unfold tokV; rw [if_neg (fun z => absurd z.1 (by omega))]
      exact nr_retV hx hb hr hlocks hw hS (⟨_, ⟨⟨by omega, by omega, by rw [show iv5 1 = sx by omega, hE]; omega, by rw [show iv5 1 = sx by omega, hK]; omega, by rw [show iv5 1 = sx by omega, hV]; omega⟩, by rw [hS9]; omega, by omega, by omega⟩, hM, hfr⟩) dX12_lookAt_69
  refine lv_aload_n hx hb dX12_lookAt_0 rfl (lv_at hl 0 rfl) ?_
  refine lv_iload_n hx hb dX12_lookAt_1 rfl (lv_at hl 1 rfl) ?_
  obtain ⟨iv92, eiv92⟩ : ∃ f, f = va_up iv 1 q := ⟨_, rfl⟩
  have hiv92_0 : iv92 0 = iv 0 := by rw [eiv92]; exact va_up_ne _ _ (by decide)
  have hiv92_1 : iv92 1 = q := by rw [eiv92]; exact va_up_self _ _ _
  have hiv92_2 : iv92 2 = iv 2 := by rw [eiv92]; exact va_up_ne _ _ (by decide)
  have hiv92_3 : iv92 3 = iv 3 := by rw [eiv92]; exact va_up_ne _ _ (by decide)
  have hiv92_4 : iv92 4 = iv 4 := by rw [eiv92]; exact va_up_ne _ _ (by decide)
  have hiv92_5 : iv92 5 = iv 5 := by rw [eiv92]; exact va_up_ne _ _ (by decide)
  have hiv92_6 : iv92 6 = iv 6 := by rw [eiv92]; exact va_up_ne _ _ (by decide)
  refine nr_put (own := RX12) (C := RX12) (T := TX12) (N := 19) (ty := .int) (v := .int (nI q)) (fs' := [.ref (ad Γ (mo + 1)), .ref (ad Γ (mo + 2)), .ref (ad Γ (mo + 3)), .ref (ad Γ (mo + 4)), .long (lN (iv92 5)), .long (lN (iv92 6)), .ref (ad Γ (mo + 5)), .ref (ad Γ (mo + 6)), .ref (ad Γ (mo + 7)), .ref (ad Γ (mo + 8)), .ref (ad Γ (mo + 9)), .ref (ad Γ (mo + 10)), .int (nI (iv92 0)), .int (nI (iv92 1)), .int (nI (iv92 2)), .int (nI (iv92 3)), .int (nI (iv92 4)), .ref (ad Γ (mo + 11)), .ref (ad Γ (mo + 12))]) hx hb hts hi_X12_lookAt_X12 tyX12 tyX12_ok nmX12 hown hw hj hA hS (by omega) (isM_0 hM) rfl 13 (by decide) wl_X12_lookAt_1 rfl rfl (by decide +kernel) rfl rfl (Nat.le_of_ble_eq_true rfl) (by rw [eiv92]; rfl) dX12_lookAt_2 (fun H locs hw hS => ?_)
  have hM := isM_s0 hM iv92
  have hfr := fr_up hfr (i := mo + 0) (by omega) (by omega) (.inr (9, [.ref (ad Γ (mo + 1)), .ref (ad Γ (mo + 2)), .ref (ad Γ (mo + 3)), .ref (ad Γ (mo + 4)), .long (lN (iv92 5)), .long (lN (iv92 6)), .ref (ad Γ (mo + 5)), .ref (ad Γ (mo + 6)), .ref (ad Γ (mo + 7)), .ref (ad Γ (mo + 8)), .ref (ad Γ (mo + 9)), .ref (ad Γ (mo + 10)), .int (nI (iv92 0)), .int (nI (iv92 1)), .int (nI (iv92 2)), .int (nI (iv92 3)), .int (nI (iv92 4)), .ref (ad Γ (mo + 11)), .ref (ad Γ (mo + 12))]))
  generalize va_up G (mo + 0) (.inr (9, [.ref (ad Γ (mo + 1)), .ref (ad Γ (mo + 2)), .ref (ad Γ (mo + 3)), .ref (ad Γ (mo + 4)), .long (lN (iv92 5)), .long (lN (iv92 6)), .ref (ad Γ (mo + 5)), .ref (ad Γ (mo + 6)), .ref (ad Γ (mo + 7)), .ref (ad Γ (mo + 8)), .ref (ad Γ (mo + 9)), .ref (ad Γ (mo + 10)), .int (nI (iv92 0)), .int (nI (iv92 1)), .int (nI (iv92 2)), .int (nI (iv92 3)), .int (nI (iv92 4)), .ref (ad Γ (mo + 11)), .ref (ad Γ (mo + 12))])) = G93 at hw hM hfr
  refine nr_lpI (σ := (Nat → va_E) × Nat × (Nat → Nat)) 5 (fun x => x.1) (fun x lv => lv = [(0, .ref (ad Γ (mo + 0))), (1, .int (nI q))] ∧ isM Γ x.1 mo R K kp rf ca rc hd fw tl by0 an vl x.2.2 ∧ fr G x.1 mo (mo + 13) ∧ (x.2.2 0 = iv 0) ∧ (x.2.2 1 = x.2.1) ∧ (x.2.2 5 = iv 5) ∧ (x.2.2 6 = iv 6) ∧ (q ≤ x.2.1) ∧ (x.2.1 ≤ iv 0) ∧ (runL (spP by0) (iv 0) x.2.1 = runL (spP by0) (iv 0) q)) (fun x => iv 0 - x.2.1) (G93, q, iv92) hw hS (lv_sub hl [0, 1] rfl) ⟨rfl, hM, hfr, by (try dsimp only); omega, by (try dsimp only); omega, by (try dsimp only); omega, by (try dsimp only); omega, by (try dsimp only); omega, by (try dsimp only); omega, rfl⟩ ?_
  intro x lv ls H locs hw hS hl hI ih5
  obtain ⟨Gl5, sx, ivL5⟩ := x
  obtain ⟨rfl, hM, hfr, hv0, hv1, hv5, hv6, hx1, hx2, hrs⟩ := hI
  try dsimp only at hM hfr hv0 hv1 hv5 hv6 hx1 hx2 hrs hw hl ih5
  refine lv_aload_n hx hb dX12_lookAt_5 rfl (lv_at hl 0 rfl) ?_
  refine nr_get (own := RX12) (C := RX12) (T := TX12) (N := 19) (v := .int (nI sx)) hx hb hts hi_X12_lookAt_X12 hown hw (by omega) (isM_0 hM) rfl 13 (by decide) wl_X12_lookAt_1 rfl (congrArg (fun z => some (Value.int (nI z))) hv1) dX12_lookAt_6 ?_
  refine lv_aload_n hx hb dX12_lookAt_9 rfl (lv_at hl 0 rfl) ?_
  refine nr_get (own := RX12) (C := RX12) (T := TX12) (N := 19) (v := .int (nI (iv 0))) hx hb hts hi_X12_lookAt_X12 hown hw (by omega) (isM_0 hM) rfl 12 (by decide) wl_X12_lookAt_2 rfl (congrArg (fun z => some (Value.int (nI z))) hv0) dX12_lookAt_10 ?_
  refine nr_icmp_ge (tgt := 43) hx hb (by omega) (by omega) dX12_lookAt_13 (by decide) (fun c94 => ?_) (fun c94 => ?_)
  · exact ih43 (Gl5, sx, ivL5) _ _ _ _ hw hS (lv_sub hl [0, 1] rfl) ⟨rfl, hM, hfr, by (try dsimp only); omega, by (try dsimp only); omega, by (try dsimp only); omega, by (try dsimp only); omega, by (try dsimp only); omega, by (try dsimp only); unfold tokS; rw [← hrs]; exact runL_stop (by first | exact Or.inl (by omega) | exact Or.inr (by assumption))⟩
  · refine lv_aload_n hx hb dX12_lookAt_16 rfl (lv_at hl 0 rfl) ?_
    refine nr_get (own := RX12) (C := RX12) (T := TX12) (N := 19) (v := .ref (ad Γ (mo + 10))) hx hb hts hi_X12_lookAt_X12 hown hw (by omega) (isM_0 hM) rfl 11 (by decide) wl_X12_lookAt_3 rfl rfl dX12_lookAt_17 ?_
    refine lv_aload_n hx hb dX12_lookAt_20 rfl (lv_at hl 0 rfl) ?_
    refine nr_get (own := RX12) (C := RX12) (T := TX12) (N := 19) (v := .int (nI sx)) hx hb hts hi_X12_lookAt_X12 hown hw (by omega) (isM_0 hM) rfl 13 (by decide) wl_X12_lookAt_1 rfl (congrArg (fun z => some (Value.int (nI z))) hv1) dX12_lookAt_21 ?_
    refine nr_iald (x := (by0 sx)) hx hb hw (by omega) (isM_10 hM) (rfl) (by omega) (by decide) dX12_lookAt_24 ?_
    have hL95 := hbt (sx)
    refine lv_bipush (v := nI 32) hx hb dX12_lookAt_25 (by decide) ?_
    refine nr_icmp_ne (tgt := 43) hx hb (by omega) (by decide) dX12_lookAt_27 (by decide) (fun c96 => ?_) (fun c96 => ?_)
    · exact ih43 (Gl5, sx, ivL5) _ _ _ _ hw hS (lv_sub hl [0, 1] rfl) ⟨rfl, hM, hfr, by (try dsimp only); omega, by (try dsimp only); omega, by (try dsimp only); omega, by (try dsimp only); omega, by (try dsimp only); omega, by (try dsimp only); unfold tokS; rw [← hrs]; exact runL_stop (by first | exact Or.inl (by omega) | exact Or.inr (by assumption))⟩
    · refine lv_aload_n hx hb dX12_lookAt_30 rfl (lv_at hl 0 rfl) ?_
      refine lv_dup hx hb dX12_lookAt_31 rfl ?_
      refine nr_get (own := RX12) (C := RX12) (T := TX12) (N := 19) (v := .int (nI sx)) hx hb hts hi_X12_lookAt_X12 hown hw (by omega) (isM_0 hM) rfl 13 (by decide) wl_X12_lookAt_1 rfl (congrArg (fun z => some (Value.int (nI z))) hv1) dX12_lookAt_32 ?_
      refine lv_iconst (v := nI 1) hx hb dX12_lookAt_35 (by decide) ?_
      refine nr_iadd hx hb dX12_lookAt_36 ?_
      obtain ⟨iv97, eiv97⟩ : ∃ f, f = va_up ivL5 1 (sx + 1) := ⟨_, rfl⟩
      have hiv97_0 : iv97 0 = iv 0 := by rw [eiv97]; exact (va_up_ne _ _ (by decide)).trans hv0
      have hiv97_1 : iv97 1 = sx + 1 := by rw [eiv97]; exact va_up_self _ _ _
      have hiv97_2 : iv97 2 = ivL5 2 := by rw [eiv97]; exact va_up_ne _ _ (by decide)
      have hiv97_3 : iv97 3 = ivL5 3 := by rw [eiv97]; exact va_up_ne _ _ (by decide)
      have hiv97_4 : iv97 4 = ivL5 4 := by rw [eiv97]; exact va_up_ne _ _ (by decide)
      have hiv97_5 : iv97 5 = iv 5 := by rw [eiv97]; exact (va_up_ne _ _ (by decide)).trans hv5
      have hiv97_6 : iv97 6 = iv 6 := by rw [eiv97]; exact (va_up_ne _ _ (by decide)).trans hv6
      refine nr_put (own := RX12) (C := RX12) (T := TX12) (N := 19) (ty := .int) (v := .int (nI (sx + 1))) (fs' := [.ref (ad Γ (mo + 1)), .ref (ad Γ (mo + 2)), .ref (ad Γ (mo + 3)), .ref (ad Γ (mo + 4)), .long (lN (iv97 5)), .long (lN (iv97 6)), .ref (ad Γ (mo + 5)), .ref (ad Γ (mo + 6)), .ref (ad Γ (mo + 7)), .ref (ad Γ (mo + 8)), .ref (ad Γ (mo + 9)), .ref (ad Γ (mo + 10)), .int (nI (iv97 0)), .int (nI (iv97 1)), .int (nI (iv97 2)), .int (nI (iv97 3)), .int (nI (iv97 4)), .ref (ad Γ (mo + 11)), .ref (ad Γ (mo + 12))]) hx hb hts hi_X12_lookAt_X12 tyX12 tyX12_ok nmX12 hown hw hj hA hS (by omega) (isM_0 hM) rfl 13 (by decide) wl_X12_lookAt_1 rfl rfl (by decide +kernel) rfl rfl (Nat.le_of_ble_eq_true rfl) (by rw [eiv97]; rfl) dX12_lookAt_37 (fun H locs hw hS => ?_)
      have hM := isM_s0 hM iv97
      have hfr := fr_up hfr (i := mo + 0) (by omega) (by omega) (.inr (9, [.ref (ad Γ (mo + 1)), .ref (ad Γ (mo + 2)), .ref (ad Γ (mo + 3)), .ref (ad Γ (mo + 4)), .long (lN (iv97 5)), .long (lN (iv97 6)), .ref (ad Γ (mo + 5)), .ref (ad Γ (mo + 6)), .ref (ad Γ (mo + 7)), .ref (ad Γ (mo + 8)), .ref (ad Γ (mo + 9)), .ref (ad Γ (mo + 10)), .int (nI (iv97 0)), .int (nI (iv97 1)), .int (nI (iv97 2)), .int (nI (iv97 3)), .int (nI (iv97 4)), .ref (ad Γ (mo + 11)), .ref (ad Γ (mo + 12))]))
      generalize va_up Gl5 (mo + 0) (.inr (9, [.ref (ad Γ (mo + 1)), .ref (ad Γ (mo + 2)), .ref (ad Γ (mo + 3)), .ref (ad Γ (mo + 4)), .long (lN (iv97 5)), .long (lN (iv97 6)), .ref (ad Γ (mo + 5)), .ref (ad Γ (mo + 6)), .ref (ad Γ (mo + 7)), .ref (ad Γ (mo + 8)), .ref (ad Γ (mo + 9)), .ref (ad Γ (mo + 10)), .int (nI (iv97 0)), .int (nI (iv97 1)), .int (nI (iv97 2)), .int (nI (iv97 3)), .int (nI (iv97 4)), .ref (ad Γ (mo + 11)), .ref (ad Γ (mo + 12))])) = G98 at hw hM hfr
      refine lv_goto (tgt := 5) hx hb dX12_lookAt_40 (by decide) ?_
      exact ih5 (G98, sx + 1, iv97) _ _ _ _ hw hS (lv_sub hl [0, 1] rfl) ⟨rfl, hM, hfr, by (try dsimp only); omega, by (try dsimp only); omega, by (try dsimp only); omega, by (try dsimp only); omega, by (try dsimp only); omega, by (try dsimp only); omega, by (try dsimp only); rw [← hrs]; exact runL_go (by omega) (by assumption)⟩ (by (try dsimp only); omega)
