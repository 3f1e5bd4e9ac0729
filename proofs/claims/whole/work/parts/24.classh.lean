section SH
theorem nI_s1 (x : Nat) : nI x = nI (x + 1) - nI 1 := by rw [pk_sub (by omega), Nat.add_sub_cancel]
abbrev wmP (T : Nat → Nat) (x e i : Nat) : Prop := e - x = lenW i ∧ ∀ j, j < lenW i → T (x + j) = chW i j
/-- which word it is (+ 1), v0 if none -/
def wdF (T : Nat → Nat) (x e v0 : Nat) : Nat → Nat
  | 0 => v0
  | i + 1 => if wmP T x e i then i + 1 else wdF T x e v0 i
theorem wdF_le {T : Nat → Nat} {x e v0 : Nat} : ∀ i, wdF T x e v0 i ≤ max v0 i
  | 0 => by show v0 ≤ _; omega
  | i + 1 => by
    have := wdF_le (T := T) (x := x) (e := e) (v0 := v0) i
    unfold wdF; split <;> omega
/-- the number that k figures from x on are, by the class -/
def numF (T : Nat → Nat) (x : Nat) : Nat → Nat
  | 0 => 0
  | k + 1 => (numF T x k * 10 + T (x + k) - 48) % 1000
theorem numF_lt (T : Nat → Nat) (x : Nat) : ∀ k, numF T x k < 1000
  | 0 => by show 0 < 1000; decide
  | k + 1 => Nat.mod_lt _ (by decide)
def vlK (T : Nat → Nat) (L x : Nat) : Nat := if x < L then (if isSm (T x) then wdF T x (tokE T L x) 0 5 else if isFg (T x) then numF T x (tokE T L x - x) + 1 else 0) else 0
theorem vlK_le (T : Nat → Nat) (L x : Nat) : vlK T L x ≤ 1000 := by
  have h1 := wdF_le (T := T) (x := x) (e := tokE T L x) (v0 := 0) 5
  have h2 := numF_lt T x (tokE T L x - x)
  unfold vlK; (repeat' split) <;> omega
/-- a step of the class's text -/
def stpR (T tv tv2 : Nat → Nat) : Prop := tv2 0 = tv 0 ∧ tv2 2 = tokS T (tv 0) (tv 1) ∧ tv2 1 = tokE T (tv 0) (tokS T (tv 0) (tv 1)) ∧ tv2 3 = tokK T (tv 0) (tokS T (tv 0) (tv 1)) ∧ tv2 4 = vlK T (tv 0) (tokS T (tv 0) (tv 1))
theorem stp_of {T tv tv2 : Nat → Nat} {x e k v : Nat} (hx : tokS T (tv 0) (tv 1) = x) (h0 : tv2 0 = tv 0) (h2 : tv2 2 = x) (h1 : tv2 1 = e) (h3 : tv2 3 = k) (h4 : tv2 4 = v) (he : tokE T (tv 0) x = e) (hk : tokK T (tv 0) x = k) (hv : vlK T (tv 0) x = v) : stpR T tv tv2 := by
  unfold stpR
  rw [hx, he, hk, hv]
  exact ⟨h0, h2, h1, h3, h4⟩
theorem tk_end {T : Nat → Nat} {L x : Nat} (h : L ≤ x) : tokE T L x = x ∧ tokK T L x = 0 ∧ vlK T L x = 0 := by
  unfold tokE tokK vlK
  rw [if_neg (by omega), if_neg (by omega), if_neg (by omega)]
  exact ⟨rfl, rfl, rfl⟩
theorem tk_let {T : Nat → Nat} {L x : Nat} (h : x < L) (hs : isSm (T x)) : tokE T L x = runL (smP T) L x ∧ tokK T L x = 1 ∧ vlK T L x = wdF T x (runL (smP T) L x) 0 5 := by
  have e : tokE T L x = runL (smP T) L x := by unfold tokE; rw [if_pos h, if_pos hs]
  refine ⟨e, ?_, ?_⟩
  · unfold tokK; rw [if_pos h, if_pos hs]
  · unfold vlK; rw [if_pos h, if_pos hs, e]
theorem tk_fig {T : Nat → Nat} {L x : Nat} (h : x < L) (hs : ¬ isSm (T x)) (hf : isFg (T x)) : tokE T L x = runL (fgP T) L x ∧ tokK T L x = (if 2 < runL (fgP T) L x - x then 4 else 2) ∧ vlK T L x = numF T x (runL (fgP T) L x - x) + 1 := by
  have e : tokE T L x = runL (fgP T) L x := by unfold tokE; rw [if_pos h, if_neg hs, if_pos hf]
  refine ⟨e, ?_, ?_⟩
  · unfold tokK; rw [if_pos h, if_neg hs, if_pos hf, e]
  · unfold vlK; rw [if_pos h, if_neg hs, if_pos hf, e]
theorem tk_oth {T : Nat → Nat} {L x : Nat} (h : x < L) (hs : ¬ isSm (T x)) (hf : ¬ isFg (T x)) : tokE T L x = x + 1 ∧ tokK T L x = (if T x = 59 then 3 else 4) ∧ vlK T L x = 0 := by
  unfold tokE tokK vlK
  rw [if_pos h, if_neg hs, if_neg hf, if_pos h, if_neg hs, if_neg hf, if_pos h, if_neg hs, if_neg hf]
  exact ⟨rfl, rfl, rfl⟩
end SH
theorem wl_X9_add_1 : Cond.fieldLink RX9 9 "BellForgiven$Text" "bytes" "[B" ∈ wsX9_add := List.mem_of_getElem? (i := 1) rfl
theorem wl_X9_add_2 : Cond.fieldLink RX9 15 "BellForgiven$Text" "length" "I" ∈ wsX9_add := List.mem_of_getElem? (i := 2) rfl
theorem hi_X9_add_X9 : ∀ w ∈ u_ws RX9 TX9 6, w ∈ wsX9_add := fun w h => (List.mem_cons_of_mem _ (List.mem_append_right _ h))
set_option maxHeartbeats 4000000 in
set_option maxRecDepth 100000 in
theorem c_X9_add (l : Launch) (Γ : Gam) (n : Nat) (G : Nat → va_E) (to : Nat) (by0 tv : Nat → Nat) (hT : isT Γ G to by0 tv) (hn_to : to + 2 ≤ n) (hj : winj Γ n) (q : Nat) (hq : q ≤ 127) (hl9 : tv 0 < 150)  : Met l yX9_add wsX9_add ({ frames := 0, cells := 0, slots := 0, locals := 0 }) (va_Pc [.ref (ad Γ (to + 0)), .int (nI q)] (fun U => hw Γ n G U U.heap)) (wQi Γ n (fun z G2 => (z = nI (tv 0 + 1)) ∧ (isT Γ G2 to (va_up by0 (tv 0) q) (va_up tv 0 (tv 0 + 1)) ∧ fr G G2 (to + 0) (to + 2)))) 0 0 (wA Γ n) := by
  refine Met.ofW (cc := cX9_add) (maxL := 2) (ret := (some .int)) (by decide) rfl ?_
  intro p e s m args below meth c s₁ B hml hv
  obtain ⟨rfl, hw⟩ := hv
  have hx := B.exec
  have hb := B.bytes
  have hr := B.returns
  have hts := atoms_spec (ws := wsX9_add) B.pre
  have hown : s.vm.findClass RX9 = some m.cls := findClass_of_methodNamed B.named
  have hlocks := B.notSynchronized
  have hS : va_S (wA Γ n) s.heap s.heap [] := va_S.rf
  have hA : ∀ q, wA Γ n q → wA Γ n q := fun _ h => h
  have hl := lv_entry ([.ref (ad Γ (to + 0)), .int (nI q)]) (n := 2) (Nat.le_of_ble_eq_true rfl)
  rw [lg_entry_eq]
  generalize (lg_sl ([.ref (ad Γ (to + 0)), .int (nI q)]) ++ List.replicate (2 - (lg_sl ([.ref (ad Γ (to + 0)), .int (nI q)])).length) Slot.unset).toArray = ls at hl ⊢
  have hl : lv_has ls 2 [(0, .ref (ad Γ (to + 0))), (1, .int (nI q))] := hl
  have hfr := fr_rf G (to + 0) (to + 2)
  refine lv_aload_n hx hb dX9_add_0 rfl (lv_at hl 0 rfl) ?_
  refine nr_get (own := RX9) (C := RX9) (T := TX9) (N := 6) (v := .ref (ad Γ (to + 1))) hx hb hts hi_X9_add_X9 hown hw (by omega) (isT_0 hT) rfl 0 (by decide) wl_X9_add_1 rfl rfl dX9_add_1 ?_
  refine lv_aload_n hx hb dX9_add_4 rfl (lv_at hl 0 rfl) ?_
  refine nr_get (own := RX9) (C := RX9) (T := TX9) (N := 6) (v := .int (nI (tv 0))) hx hb hts hi_X9_add_X9 hown hw (by omega) (isT_0 hT) rfl 1 (by decide) wl_X9_add_2 rfl rfl dX9_add_5 ?_
  refine lv_iload_n hx hb dX9_add_8 rfl (lv_at hl 1 rfl) ?_
  refine lv_i2b hx hb dX9_add_9 (nr_i2b _ (by omega)) ?_
  refine nr_bast (k := tv 0) (v := q) hx hb hw hj hA hS (by omega) (isT_1 hT) (by omega) (by decide) (by omega) dX9_add_10 (fun H locs hw hS => ?_)
  obtain ⟨G1, hw, hT, hf1⟩ := nT_c1 hT (va_up by0 (tv 0) q) hw
  have hfr := fr_tr hfr hf1 (by omega) (by omega)
  refine lv_aload_n hx hb dX9_add_11 rfl (lv_at hl 0 rfl) ?_
  refine lv_dup hx hb dX9_add_12 rfl ?_
  refine nr_get (own := RX9) (C := RX9) (T := TX9) (N := 6) (v := .int (nI (tv 0))) hx hb hts hi_X9_add_X9 hown hw (by omega) (isT_0 hT) rfl 1 (by decide) wl_X9_add_2 rfl rfl dX9_add_13 ?_
  refine lv_iconst (v := nI 1) hx hb dX9_add_16 (by decide) ?_
  refine nr_iadd hx hb dX9_add_17 ?_
  obtain ⟨w3, ew3⟩ : ∃ f, f = va_up tv 0 (tv 0 + 1) := ⟨_, rfl⟩
  refine nr_put (own := RX9) (C := RX9) (T := TX9) (N := 6) (ty := .int) (v := .int (nI (tv 0 + 1))) (fs' := [.ref (ad Γ (to + 1)), .int (nI (w3 0)), .int (nI (w3 1)), .int (nI (w3 2)), .int (nI (w3 3)), .int (nI (w3 4) - nI 1)]) hx hb hts hi_X9_add_X9 tyX9 tyX9_ok nmX9 hown hw hj hA hS (by omega) (isT_0 hT) rfl 1 (by decide) wl_X9_add_2 rfl rfl (by decide +kernel) rfl rfl (Nat.le_of_ble_eq_true rfl) (by rw [ew3]; rfl) dX9_add_18 (fun H locs hw hS => ?_)
  subst ew3
  obtain ⟨G2, hw, hT, hf2⟩ := nT_c0 hT (va_up tv 0 (tv 0 + 1)) hw
  have hfr := fr_tr hfr hf2 (by omega) (by omega)
  refine lv_aload_n hx hb dX9_add_21 rfl (lv_at hl 0 rfl) ?_
  refine nr_get (own := RX9) (C := RX9) (T := TX9) (N := 6) (v := .int (nI (tv 0 + 1))) hx hb hts hi_X9_add_X9 hown hw (by omega) (isT_0 hT) rfl 1 (by decide) wl_X9_add_2 rfl (congrArg (fun z => some (Value.int (nI z))) (show (va_up tv 0 (tv 0 + 1)) 0 = tv 0 + 1 from by first | rfl | (simp only [va_up, cpA]; (repeat' split) <;> first | rfl | omega | contradiction | (exfalso; omega) | simp_all))) dX9_add_22 ?_
  exact nr_retI hx hb hr hlocks hw hS (⟨rfl, ⟨hT, hfr⟩⟩) dX9_add_25
theorem wl_X9_rewind_1 : Cond.fieldLink RX9 19 "BellForgiven$Text" "at" "I" ∈ wsX9_rewind := List.mem_of_getElem? (i := 1) rfl
theorem hi_X9_rewind_X9 : ∀ w ∈ u_ws RX9 TX9 6, w ∈ wsX9_rewind := fun w h => (List.mem_cons_of_mem _ (List.mem_append_right _ h))
set_option maxHeartbeats 4000000 in
set_option maxRecDepth 100000 in
theorem c_X9_rewind (l : Launch) (Γ : Gam) (n : Nat) (G : Nat → va_E) (to : Nat) (by0 tv : Nat → Nat) (hT : isT Γ G to by0 tv) (hn_to : to + 2 ≤ n) (hj : winj Γ n)  : Met l yX9_rewind wsX9_rewind ({ frames := 0, cells := 0, slots := 0, locals := 0 }) (va_Pc [.ref (ad Γ (to + 0))] (fun U => hw Γ n G U U.heap)) (wQv Γ n (fun G2 => isT Γ G2 to by0 (va_up tv 1 0) ∧ fr G G2 (to + 0) (to + 2))) 0 0 (wA Γ n) := by
  refine Met.ofW (cc := cX9_rewind) (maxL := 1) (ret := none) (by decide) rfl ?_
  intro p e s m args below meth c s₁ B hml hv
  obtain ⟨rfl, hw⟩ := hv
  have hx := B.exec
  have hb := B.bytes
  have hr := B.returns
  have hts := atoms_spec (ws := wsX9_rewind) B.pre
  have hown : s.vm.findClass RX9 = some m.cls := findClass_of_methodNamed B.named
  have hlocks := B.notSynchronized
  have hS : va_S (wA Γ n) s.heap s.heap [] := va_S.rf
  have hA : ∀ q, wA Γ n q → wA Γ n q := fun _ h => h
  have hl := lv_entry ([.ref (ad Γ (to + 0))]) (n := 1) (Nat.le_of_ble_eq_true rfl)
  rw [lg_entry_eq]
  generalize (lg_sl ([.ref (ad Γ (to + 0))]) ++ List.replicate (1 - (lg_sl ([.ref (ad Γ (to + 0))])).length) Slot.unset).toArray = ls at hl ⊢
  have hl : lv_has ls 1 [(0, .ref (ad Γ (to + 0)))] := hl
  have hfr := fr_rf G (to + 0) (to + 2)
  refine lv_aload_n hx hb dX9_rewind_0 rfl (lv_at hl 0 rfl) ?_
  refine lv_iconst (v := nI 0) hx hb dX9_rewind_1 (by decide) ?_
  obtain ⟨w2, ew2⟩ : ∃ f, f = va_up tv 1 0 := ⟨_, rfl⟩
  refine nr_put (own := RX9) (C := RX9) (T := TX9) (N := 6) (ty := .int) (v := .int (nI 0)) (fs' := [.ref (ad Γ (to + 1)), .int (nI (w2 0)), .int (nI (w2 1)), .int (nI (w2 2)), .int (nI (w2 3)), .int (nI (w2 4) - nI 1)]) hx hb hts hi_X9_rewind_X9 tyX9 tyX9_ok nmX9 hown hw hj hA hS (by omega) (isT_0 hT) rfl 2 (by decide) wl_X9_rewind_1 rfl rfl (by decide +kernel) rfl rfl (Nat.le_of_ble_eq_true rfl) (by rw [ew2]; rfl) dX9_rewind_2 (fun H locs hw hS => ?_)
  subst ew2
  obtain ⟨G1, hw, hT, hf1⟩ := nT_c0 hT (va_up tv 1 0) hw
  have hfr := fr_tr hfr hf1 (by omega) (by omega)
  exact nr_retV hx hb hr hlocks hw hS (⟨hT, hfr⟩) dX9_rewind_5
theorem wl_X9_reads_1 : Cond.fieldLink RX9 19 "BellForgiven$Text" "at" "I" ∈ wsX9_reads := List.mem_of_getElem? (i := 1) rfl
theorem wl_X9_reads_2 : Cond.fieldLink RX9 22 "BellForgiven$Text" "start" "I" ∈ wsX9_reads := List.mem_of_getElem? (i := 2) rfl
theorem wl_X9_reads_3 : Cond.fieldLink RX9 9 "BellForgiven$Text" "bytes" "[B" ∈ wsX9_reads := List.mem_of_getElem? (i := 3) rfl
theorem hi_X9_reads_X9 : ∀ w ∈ u_ws RX9 TX9 6, w ∈ wsX9_reads := fun w h => (List.mem_cons_of_mem _ (List.mem_append_right _ h))
set_option maxHeartbeats 4000000 in
set_option maxRecDepth 100000 in
theorem c_X9_reads (l : Launch) (Γ : Gam) (n : Nat) (G : Nat → va_E) (to : Nat) (by0 tv : Nat → Nat) (hT : isT Γ G to by0 tv) (hn_to : to + 2 ≤ n) (w : Nat) (hw5 : w < 5) (hbt : ∀ j, by0 j ≤ 127) (hL : tv 0 ≤ 150) (h21 : tv 2 ≤ tv 1) (h1L : tv 1 ≤ tv 0) (ak av : Nat → Nat) (fr0 : Option Nat)  : Met l yX9_reads wsX9_reads ({ frames := 4, cells := 0, slots := 0, locals := 86 }) (va_Pc [.ref (ad Γ (to + 0)), .ref (ak w)] (fun U => hw Γ n G U U.heap ∧ kSt (wA Γ n) ak av fr0 U U.heap)) (vp_Si (bp (wmP by0 (tv 2) (tv 1) w))) 0 0 (fun _ => False) := by
  refine Met.ofW (cc := cX9_reads) (maxL := 3) (ret := (some .boolean)) (by decide) rfl ?_
  intro p e s m args below meth c s₁ B hml hv
  obtain ⟨rfl, hw, hE⟩ := hv
  have hx := B.exec
  have hb := B.bytes
  have hr := B.returns
  have hts := atoms_spec (ws := wsX9_reads) B.pre
  have hown : s.vm.findClass RX9 = some m.cls := findClass_of_methodNamed B.named
  have hlocks := B.notSynchronized
  have hS : va_S (wA Γ n) s.heap s.heap [] := va_S.rf
  have hl := lv_entry ([.ref (ad Γ (to + 0)), .ref (ak w)]) (n := 3) (Nat.le_of_ble_eq_true rfl)
  rw [lg_entry_eq]
  generalize (lg_sl ([.ref (ad Γ (to + 0)), .ref (ak w)]) ++ List.replicate (3 - (lg_sl ([.ref (ad Γ (to + 0)), .ref (ak w)])).length) Slot.unset).toArray = ls at hl ⊢
  have hl : lv_has ls 3 [(0, .ref (ad Γ (to + 0))), (1, .ref (ak w))] := hl
  have hlw := lenW_le w hw5
  have hch := chW_b w hw5
  refine lv_aload_n hx hb dX9_reads_0 rfl (lv_at hl 1 rfl) ?_
  refine nr_goS (nj_runV (As := []) ⟨hx, hb, hml, hown, hts⟩ hE hS (by omega) (c_J0_length_8abf5 l (wA Γ n) ak av fr0 w (by omega)) (cwV 0 hts gX9_reads_J0_length_8abf5 rfl rfl rfl (by decide +kernel) ⟨Nat.le_of_ble_eq_true rfl, Nat.le_of_ble_eq_true rfl⟩) rfl hl.1 rfl (Nat.le_of_ble_eq_true rfl) dX9_reads_1 ⟨Nat.zero_le _, Nat.zero_le _⟩) (fun r1 hr1 => ?_)
  obtain rfl : r1 = nI (lenW w) := hr1
  refine lv_aload_n hx hb dX9_reads_4 rfl (lv_at hl 0 rfl) ?_
  refine nr_get (own := RX9) (C := RX9) (T := TX9) (N := 6) (v := .int (nI (tv 1))) hx hb hts hi_X9_reads_X9 hown hw (by omega) (isT_0 hT) rfl 2 (by decide) wl_X9_reads_1 rfl rfl dX9_reads_5 ?_
  refine lv_aload_n hx hb dX9_reads_8 rfl (lv_at hl 0 rfl) ?_
  refine nr_get (own := RX9) (C := RX9) (T := TX9) (N := 6) (v := .int (nI (tv 2))) hx hb hts hi_X9_reads_X9 hown hw (by omega) (isT_0 hT) rfl 3 (by decide) wl_X9_reads_2 rfl rfl dX9_reads_9 ?_
  refine nr_isub hx hb (by omega) dX9_reads_12 ?_
  refine nr_icmp_eq (tgt := 18) hx hb (by omega) (by omega) dX9_reads_13 (by decide) (fun c2 => ?_) (fun c2 => ?_)
  · refine lv_iconst (v := nI 0) hx hb dX9_reads_18 (by decide) ?_
    refine lv_istore_n (lv' := [(2, .int (nI 0)), (0, .ref (ad Γ (to + 0))), (1, .ref (ak w))]) hx hb dX9_reads_19 rfl hl (by decide) rfl (fun ls hl => ?_)
    refine nr_lp (σ := Nat) (pc := 20) (fun x lv => lv = [(0, .ref (ad Γ (to + 0))), (1, .ref (ak w)), (2, .int (nI x))] ∧ (x ≤ lenW w) ∧ (∀ u, u < x → by0 (tv 2 + u) = chW w u)) (fun x => lenW w - x) 0 (lv_sub hl [1, 2, 0] rfl) ⟨rfl, by (try dsimp only); omega, by (try dsimp only); exact (fun u hu => absurd hu (Nat.not_lt_zero u))⟩ ?_
    intro j lv ls hl hI ih20
    obtain ⟨rfl, hj9, hn⟩ := hI
    try dsimp only at hj9 hn hl ih20
    refine lv_iload_n hx hb dX9_reads_20 rfl (lv_at hl 2 rfl) ?_
    refine lv_aload_n hx hb dX9_reads_21 rfl (lv_at hl 1 rfl) ?_
    refine nr_goS (nj_runV (As := []) ⟨hx, hb, hml, hown, hts⟩ hE hS (by omega) (c_J0_length_8abf5 l (wA Γ n) ak av fr0 w (by omega)) (cwV 0 hts gX9_reads_J0_length_8abf5 rfl rfl rfl (by decide +kernel) ⟨Nat.le_of_ble_eq_true rfl, Nat.le_of_ble_eq_true rfl⟩) rfl hl.1 rfl (Nat.le_of_ble_eq_true rfl) dX9_reads_22 ⟨Nat.zero_le _, Nat.zero_le _⟩) (fun r3 hr3 => ?_)
    obtain rfl : r3 = nI (lenW w) := hr3
    refine nr_icmp_ge (tgt := 55) hx hb (by omega) (by omega) dX9_reads_25 (by decide) (fun c4 => ?_) (fun c4 => ?_)
    · refine lv_iconst (v := nI 1) hx hb dX9_reads_55 (by decide) ?_
      exact nr_retB hx hb hr hlocks (Or.inl ⟨⟨by omega, fun u hu => hn u (by omega)⟩, rfl⟩) rfl dX9_reads_56
    · have hc9 := (hch j (by omega)).2.2.2
      refine lv_aload_n hx hb dX9_reads_28 rfl (lv_at hl 0 rfl) ?_
      refine nr_get (own := RX9) (C := RX9) (T := TX9) (N := 6) (v := .ref (ad Γ (to + 1))) hx hb hts hi_X9_reads_X9 hown hw (by omega) (isT_0 hT) rfl 0 (by decide) wl_X9_reads_3 rfl rfl dX9_reads_29 ?_
      refine lv_aload_n hx hb dX9_reads_32 rfl (lv_at hl 0 rfl) ?_
      refine nr_get (own := RX9) (C := RX9) (T := TX9) (N := 6) (v := .int (nI (tv 2))) hx hb hts hi_X9_reads_X9 hown hw (by omega) (isT_0 hT) rfl 3 (by decide) wl_X9_reads_2 rfl rfl dX9_reads_33 ?_
      refine lv_iload_n hx hb dX9_reads_36 rfl (lv_at hl 2 rfl) ?_
      refine nr_iadd hx hb dX9_reads_37 ?_
      refine nr_bald (x := (by0 (tv 2 + j))) hx hb hw (by omega) (isT_1 hT) rfl (by omega) (by decide) dX9_reads_38 ?_
      have hL5 := hbt (tv 2 + j)
      refine lv_aload_n hx hb dX9_reads_39 rfl (lv_at hl 1 rfl) ?_
      refine lv_iload_n hx hb dX9_reads_40 rfl (lv_at hl 2 rfl) ?_
      refine nr_goS (nj_runV (As := [.int (nI j)]) ⟨hx, hb, hml, hown, hts⟩ hE hS (by omega) (c_J0_charAt_5068e l (wA Γ n) ak av fr0 w j (by omega) (by omega)) (cwV 1 hts gX9_reads_J0_charAt_5068e rfl rfl rfl (by decide +kernel) ⟨Nat.le_of_ble_eq_true rfl, Nat.le_of_ble_eq_true rfl⟩) rfl hl.1 rfl (Nat.le_of_ble_eq_true rfl) dX9_reads_41 ⟨Nat.zero_le _, Nat.zero_le _⟩) (fun r6 hr6 => ?_)
      obtain rfl : r6 = nI (chW w j) := hr6
      refine nr_icmp_eq (tgt := 49) hx hb (by omega) (by omega) dX9_reads_44 (by decide) (fun c7 => ?_) (fun c7 => ?_)
      · refine nr_inc (d := 1) (k := 2) (lv' := [(2, .int (nI (j + 1))), (0, .ref (ad Γ (to + 0))), (1, .ref (ak w))]) hx hb dX9_reads_49 hl rfl (by decide) (by decide) rfl (fun ls hl => ?_)
        refine lv_goto (tgt := 20) hx hb dX9_reads_52 (by decide) ?_
        exact ih20 (j + 1) _ _ (lv_sub hl [1, 2, 0] rfl) ⟨rfl, by (try dsimp only); omega, by (try dsimp only); exact (fun u hu => by
          rcases Nat.lt_or_eq_of_le (Nat.le_of_lt_succ hu) with z | z
          · exact hn u z
          · rw [z]; assumption)⟩ (by (try dsimp only); omega)
      · refine lv_iconst (v := nI 0) hx hb dX9_reads_47 (by decide) ?_
        exact nr_retB hx hb hr hlocks (Or.inr ⟨fun hh => absurd (hh.2 j (by omega)) (by assumption), rfl⟩) rfl dX9_reads_48
  · refine lv_iconst (v := nI 0) hx hb dX9_reads_16 (by decide) ?_
    exact nr_retB hx hb hr hlocks (Or.inr ⟨fun hh => absurd hh.1 (by omega), rfl⟩) rfl dX9_reads_17
set_option maxHeartbeats 4000000 in
set_option maxRecDepth 100000 in
theorem c_X9_name (l : Launch) (Γ : Gam) (n : Nat) (G : Nat → va_E) (w : Nat) (hw5 : w < 5) (ak av : Nat → Nat) (fr0 : Option Nat) : Met l yX9_name wsX9_name ({ frames := 0, cells := 0, slots := 0, locals := 0 }) (va_Pc [.int (nI w)] (fun U => hw Γ n G U U.heap ∧ kSt (wA Γ n) ak av fr0 U U.heap)) (va_Sr (fun k => k = w) (fun k => .ref (ak k))) 0 0 (fun _ => False) := by
  refine Met.ofW (cc := cX9_name) (maxL := 1) (ret := (some (.object "java/lang/String"))) (by decide) rfl ?_
  intro p e s m args below meth c s₁ B hml hv
  obtain ⟨rfl, hw, hE⟩ := hv
  have hx := B.exec
  have hb := B.bytes
  have hr := B.returns
  have hts := atoms_spec (ws := wsX9_name) B.pre
  have hown : s.vm.findClass RX9 = some m.cls := findClass_of_methodNamed B.named
  have hlocks := B.notSynchronized
  have hl := lv_entry ([.int (nI w)]) (n := 1) (Nat.le_of_ble_eq_true rfl)
  rw [lg_entry_eq]
  generalize (lg_sl ([.int (nI w)]) ++ List.replicate (1 - (lg_sl ([.int (nI w)])).length) Slot.unset).toArray = ls at hl ⊢
  have hl : lv_has ls 1 [(0, .int (nI w))] := hl
  refine lv_iload_n hx hb dX9_name_0 rfl (lv_at hl 0 rfl) ?_
  rcases (show w = 0 ∨ w = 1 ∨ w = 2 ∨ w = 3 ∨ w = 4 by omega) with rfl | rfl | rfl | rfl | rfl
  · refine nr_tabIn (j := 0) (tgt := 32) hx hb (by decide) rfl dX9_name_1 (by decide) (by decide) rfl (by decide) ?_
    refine va_ldcS hx hb hown (hE.2.1 0 (by decide)) dX9_name_32 ?_
    exact W.aret hx hb hr (Or.inl ⟨_, rfl⟩) (Or.inr ⟨_, rfl⟩) (fun t ht _ => ⟨0, rfl, rfl, by rw [ht]⟩) (fun _ h => by cases h) dX9_name_34 hlocks
  · refine nr_tabIn (j := 1) (tgt := 35) hx hb (by decide) rfl dX9_name_1 (by decide) (by decide) rfl (by decide) ?_
    refine va_ldcS hx hb hown (hE.2.1 1 (by decide)) dX9_name_35 ?_
    exact W.aret hx hb hr (Or.inl ⟨_, rfl⟩) (Or.inr ⟨_, rfl⟩) (fun t ht _ => ⟨1, rfl, rfl, by rw [ht]⟩) (fun _ h => by cases h) dX9_name_37 hlocks
  · refine nr_tabIn (j := 2) (tgt := 38) hx hb (by decide) rfl dX9_name_1 (by decide) (by decide) rfl (by decide) ?_
    refine va_ldcS hx hb hown (hE.2.1 2 (by decide)) dX9_name_38 ?_
    exact W.aret hx hb hr (Or.inl ⟨_, rfl⟩) (Or.inr ⟨_, rfl⟩) (fun t ht _ => ⟨2, rfl, rfl, by rw [ht]⟩) (fun _ h => by cases h) dX9_name_40 hlocks
  · refine nr_tabIn (j := 3) (tgt := 41) hx hb (by decide) rfl dX9_name_1 (by decide) (by decide) rfl (by decide) ?_
    refine va_ldcS hx hb hown (hE.2.1 3 (by decide)) dX9_name_41 ?_
    exact W.aret hx hb hr (Or.inl ⟨_, rfl⟩) (Or.inr ⟨_, rfl⟩) (fun t ht _ => ⟨3, rfl, rfl, by rw [ht]⟩) (fun _ h => by cases h) dX9_name_43 hlocks
  · refine nr_tabOut (tgt := 44) hx hb (by decide) dX9_name_1 (by decide) (by decide) ?_
    refine va_ldcS hx hb hown (hE.2.1 4 (by decide)) dX9_name_44 ?_
    exact W.aret hx hb hr (Or.inl ⟨_, rfl⟩) (Or.inr ⟨_, rfl⟩) (fun t ht _ => ⟨4, rfl, rfl, by rw [ht]⟩) (fun _ h => by cases h) dX9_name_46 hlocks
theorem wl_X9_stepWord_1 : Cond.fieldLink RX9 19 "BellForgiven$Text" "at" "I" ∈ wsX9_stepWord := List.mem_of_getElem? (i := 1) rfl
theorem wl_X9_stepWord_2 : Cond.fieldLink RX9 15 "BellForgiven$Text" "length" "I" ∈ wsX9_stepWord := List.mem_of_getElem? (i := 2) rfl
theorem wl_X9_stepWord_3 : Cond.fieldLink RX9 9 "BellForgiven$Text" "bytes" "[B" ∈ wsX9_stepWord := List.mem_of_getElem? (i := 3) rfl
theorem wl_X9_stepWord_4 : Cond.fieldLink RX9 28 "BellForgiven$Text" "token" "I" ∈ wsX9_stepWord := List.mem_of_getElem? (i := 4) rfl
theorem wl_X9_stepWord_5 : Cond.fieldLink RX9 25 "BellForgiven$Text" "value" "I" ∈ wsX9_stepWord := List.mem_of_getElem? (i := 5) rfl
theorem hi_X9_stepWord_X9 : ∀ w ∈ u_ws RX9 TX9 6, w ∈ wsX9_stepWord := fun w h => (List.mem_cons_of_mem _ (List.mem_append_right _ h))
set_option maxHeartbeats 4000000 in
set_option maxRecDepth 100000 in
theorem c_X9_stepWord (l : Launch) (Γ : Gam) (n : Nat) (G : Nat → va_E) (to : Nat) (by0 tv : Nat → Nat) (hT : isT Γ G to by0 tv) (hn_to : to + 2 ≤ n) (hj : winj Γ n) (hbt : ∀ j, by0 j ≤ 127) (hL : tv 0 ≤ 150) (hs : tv 2 = tv 1) (hlt : tv 1 < tv 0) (ak av : Nat → Nat) (fr0 : Option Nat)  : Met l yX9_stepWord wsX9_stepWord ({ frames := 5, cells := 0, slots := 0, locals := 108 }) (va_Pc [.ref (ad Γ (to + 0))] (fun U => hw Γ n G U U.heap ∧ kSt (wA Γ n) ak av fr0 U U.heap)) (wQv Γ n (fun G2 => ∃ tv2 : Nat → Nat, (tv2 0 = tv 0 ∧ tv2 1 = runL (smP by0) (tv 0) (tv 1) ∧ tv2 2 = tv 2 ∧ tv2 3 = 1 ∧ tv2 4 = wdF by0 (tv 2) (runL (smP by0) (tv 0) (tv 1)) (tv 4) 5) ∧ isT Γ G2 to by0 tv2 ∧ fr G G2 (to + 0) (to + 2))) 0 0 (wA Γ n) := by
  refine Met.ofW (cc := cX9_stepWord) (maxL := 2) (ret := none) (by decide) rfl ?_
  intro p e s m args below meth c s₁ B hml hv
  obtain ⟨rfl, hw, hE⟩ := hv
  have hx := B.exec
  have hb := B.bytes
  have hr := B.returns
  have hts := atoms_spec (ws := wsX9_stepWord) B.pre
  have hown : s.vm.findClass RX9 = some m.cls := findClass_of_methodNamed B.named
  have hlocks := B.notSynchronized
  have hS : va_S (wA Γ n) s.heap s.heap [] := va_S.rf
  have hA : ∀ q, wA Γ n q → wA Γ n q := fun _ h => h
  have hl := lv_entry ([.ref (ad Γ (to + 0))]) (n := 2) (Nat.le_of_ble_eq_true rfl)
  rw [lg_entry_eq]
  generalize (lg_sl ([.ref (ad Γ (to + 0))]) ++ List.replicate (2 - (lg_sl ([.ref (ad Γ (to + 0))])).length) Slot.unset).toArray = ls at hl ⊢
  have hl : lv_has ls 2 [(0, .ref (ad Γ (to + 0)))] := hl
  have hfr := fr_rf G (to + 0) (to + 2)
  have hrb := runL_b (P := smP by0) (L := tv 0) (a := tv 1) (by omega)
  refine nr_join (Γ := Γ) (n := n) (nL := 2) (A := wA Γ n) (H0 := s.heap) (σ := (Nat → va_E) × (Nat → Nat)) 39 (fun x => x.1) (fun x lv => lv = [(0, .ref (ad Γ (to + 0)))] ∧ isT Γ x.1 to by0 x.2 ∧ fr G x.1 (to + 0) (to + 2) ∧ (x.2 0 = tv 0) ∧ (x.2 2 = tv 2) ∧ (x.2 4 = tv 4) ∧ (x.2 1 = runL (smP by0) (tv 0) (tv 1))) ?_ (fun ih39 => ?_)
  · intro x lv ls H locs hw hS hl hI
    obtain ⟨Gj39, tvL39⟩ := x
    obtain ⟨rfl, hT, hfr, g0, g2, g4, g1⟩ := hI
    try dsimp only at hT hfr g0 g2 g4 g1 hw hl
    refine lv_aload_n hx hb dX9_stepWord_39 rfl (lv_at hl 0 rfl) ?_
    refine lv_iconst (v := nI 1) hx hb dX9_stepWord_40 (by decide) ?_
    obtain ⟨w2, ew2⟩ : ∃ f, f = va_up tvL39 3 1 := ⟨_, rfl⟩
    refine nr_put (own := RX9) (C := RX9) (T := TX9) (N := 6) (ty := .int) (v := .int (nI 1)) (fs' := [.ref (ad Γ (to + 1)), .int (nI (w2 0)), .int (nI (w2 1)), .int (nI (w2 2)), .int (nI (w2 3)), .int (nI (w2 4) - nI 1)]) hx hb hts hi_X9_stepWord_X9 tyX9 tyX9_ok nmX9 hown hw hj hA hS (by omega) (isT_0 hT) rfl 4 (by decide) wl_X9_stepWord_4 rfl rfl (by decide +kernel) rfl rfl (Nat.le_of_ble_eq_true rfl) (by rw [ew2]; rfl) dX9_stepWord_41 (fun H locs hw hS => ?_)
    subst ew2
    obtain ⟨G1, hw, hT, hf1⟩ := nT_c0 hT (va_up tvL39 3 1) hw
    have hfr := fr_tr hfr hf1 (by omega) (by omega)
    refine lv_iconst (v := nI 0) hx hb dX9_stepWord_44 (by decide) ?_
    refine lv_istore_n (lv' := [(1, .int (nI 0)), (0, .ref (ad Γ (to + 0)))]) hx hb dX9_stepWord_45 rfl hl (by decide) rfl (fun ls hl => ?_)
    refine nr_lpI (σ := (Nat → va_E) × Nat × (Nat → Nat)) 46 (fun x => x.1) (fun x lv => lv = [(0, .ref (ad Γ (to + 0))), (1, .int (nI x.2.1))] ∧ isT Γ x.1 to by0 x.2.2 ∧ fr G x.1 (to + 0) (to + 2) ∧ (x.2.1 ≤ 5) ∧ (x.2.2 0 = tv 0) ∧ (x.2.2 1 = runL (smP by0) (tv 0) (tv 1)) ∧ (x.2.2 2 = tv 2) ∧ (x.2.2 3 = 1) ∧ (x.2.2 4 = wdF by0 (tv 2) (runL (smP by0) (tv 0) (tv 1)) (tv 4) x.2.1)) (fun x => 5 - x.2.1) (G1, 0, va_up tvL39 3 1) hw hS (lv_sub hl [1, 0] rfl) ⟨rfl, hT, hfr, by (try dsimp only); omega, by (try dsimp only); simp [va_up] <;> omega, by (try dsimp only); simp [va_up] <;> omega, by (try dsimp only); simp [va_up] <;> omega, by (try dsimp only); simp [va_up] <;> omega, by (try dsimp only); simp [va_up, wdF] <;> omega⟩ ?_
    intro x lv ls H locs hw hS hl hI ih46
    obtain ⟨Gl46, w, tvL46⟩ := x
    obtain ⟨rfl, hT, hfr, hw9, k0, k1, k2, k3, k4⟩ := hI
    try dsimp only at hT hfr hw9 k0 k1 k2 k3 k4 hw hl ih46
    refine lv_iload_n hx hb dX9_stepWord_46 rfl (lv_at hl 1 rfl) ?_
    refine lv_iconst (v := nI 5) hx hb dX9_stepWord_47 (by decide) ?_
    refine nr_icmp_ge (tgt := 73) hx hb (by omega) (by decide) dX9_stepWord_48 (by decide) (fun c3 => ?_) (fun c3 => ?_)
    · exact nr_retV hx hb hr hlocks hw hS (⟨_, ⟨k0, k1, k2, k3, by rw [k4, show w = 5 by omega]⟩, hT, hfr⟩) dX9_stepWord_73
    · refine lv_aload_n hx hb dX9_stepWord_51 rfl (lv_at hl 0 rfl) ?_
      refine lv_iload_n hx hb dX9_stepWord_52 rfl (lv_at hl 1 rfl) ?_
      refine va_csr (va_Run.run (nk_runS (As := [.int (nI w)]) ⟨hx, hb, hml, hown, hts⟩ hw hE hS (c_X9_name l Γ n Gl46 w (by omega) ak av fr0) (va_cwS 1 hts gX9_stepWord_X9_name rfl rfl rfl (by decide +kernel) ⟨Nat.le_of_ble_eq_true rfl, Nat.le_of_ble_eq_true rfl⟩) rfl hl.1 rfl (Nat.le_of_ble_eq_true rfl) dX9_stepWord_53 ⟨Nat.zero_le _, Nat.zero_le _⟩)) (fun r4 hr4 => ?_)
      obtain rfl : w = r4 := hr4.symm
      refine nr_goB (P := wmP by0 (tvL46 2) (tvL46 1) w) (nk_runV (As := [.ref (ak w)]) (C := RX9) (T := TX9) (N := 6) ⟨hx, hb, hml, hown, hts⟩ hw hE hS (by omega) (isT_0 hT) rfl (c_X9_reads l Γ n Gl46 to by0 tvL46 hT (by omega) w (by omega) (by assumption) (by omega) (by omega) (by omega) ak av fr0) (cwV 1 hts gX9_stepWord_X9_reads rfl rfl rfl (by decide +kernel) ⟨Nat.le_of_ble_eq_true rfl, Nat.le_of_ble_eq_true rfl⟩) rfl hl.1 rfl (Nat.le_of_ble_eq_true rfl) dX9_stepWord_56 ⟨Nat.zero_le _, Nat.zero_le _⟩) (fun b5 => ?_) (fun b5 => ?_)
      · refine nr_if_eq (tgt := 67) hx hb (by decide) dX9_stepWord_59 (by decide) (fun c6 => absurd c6 (by decide)) (fun c6 => ?_)
        refine lv_aload_n hx hb dX9_stepWord_62 rfl (lv_at hl 0 rfl) ?_
        refine lv_iload_n hx hb dX9_stepWord_63 rfl (lv_at hl 1 rfl) ?_
        rw [nI_s1 w]
        obtain ⟨w8, ew8⟩ : ∃ f, f = va_up tvL46 4 (w + 1) := ⟨_, rfl⟩
        refine nr_put (own := RX9) (C := RX9) (T := TX9) (N := 6) (ty := .int) (v := .int (nI (w + 1) - nI 1)) (fs' := [.ref (ad Γ (to + 1)), .int (nI (w8 0)), .int (nI (w8 1)), .int (nI (w8 2)), .int (nI (w8 3)), .int (nI (w8 4) - nI 1)]) hx hb hts hi_X9_stepWord_X9 tyX9 tyX9_ok nmX9 hown hw hj hA hS (by omega) (isT_0 hT) rfl 5 (by decide) wl_X9_stepWord_5 rfl rfl (by decide +kernel) rfl rfl (Nat.le_of_ble_eq_true rfl) (by rw [ew8]; rfl) dX9_stepWord_64 (fun H locs hw hS => ?_)
        subst ew8
        obtain ⟨G7, hw, hT, hf7⟩ := nT_c0 hT (va_up tvL46 4 (w + 1)) hw
        have hfr := fr_tr hfr hf7 (by omega) (by omega)
        refine nr_inc (d := 1) (k := 1) (lv' := [(1, .int (nI (w + 1))), (0, .ref (ad Γ (to + 0)))]) hx hb dX9_stepWord_67 hl rfl (by decide) (by decide) rfl (fun ls hl => ?_)
        refine lv_goto (tgt := 46) hx hb dX9_stepWord_70 (by decide) ?_
        exact ih46 (G7, w + 1, va_up tvL46 4 (w + 1)) _ _ _ _ hw hS (lv_sub hl [1, 0] rfl) ⟨rfl, hT, hfr, by (try dsimp only); omega, by (try dsimp only); first | omega | (rw [va_up_ne _ _ (by decide)]; omega), by (try dsimp only); first | omega | (rw [va_up_ne _ _ (by decide)]; omega), by (try dsimp only); first | omega | (rw [va_up_ne _ _ (by decide)]; omega), by (try dsimp only); first | omega | (rw [va_up_ne _ _ (by decide)]; omega), by (try dsimp only); simp only [wdF]; rw [← k1, ← k2]; first | (rw [if_pos (by assumption), va_up_self]) | (rw [if_neg (by assumption), k1, k2]; exact k4)⟩ (by (try dsimp only); omega)
      · refine nr_if_eq (tgt := 67) hx hb (by decide) dX9_stepWord_59 (by decide) (fun c9 => ?_) (fun c9 => absurd c9 (by decide))
        refine nr_inc (d := 1) (k := 1) (lv' := [(1, .int (nI (w + 1))), (0, .ref (ad Γ (to + 0)))]) hx hb dX9_stepWord_67 hl rfl (by decide) (by decide) rfl (fun ls hl => ?_)
        refine lv_goto (tgt := 46) hx hb dX9_stepWord_70 (by decide) ?_
        exact ih46 (Gl46, w + 1, tvL46) _ _ _ _ hw hS (lv_sub hl [1, 0] rfl) ⟨rfl, hT, hfr, by (try dsimp only); omega, by (try dsimp only); first | omega | (rw [va_up_ne _ _ (by decide)]; omega), by (try dsimp only); first | omega | (rw [va_up_ne _ _ (by decide)]; omega), by (try dsimp only); first | omega | (rw [va_up_ne _ _ (by decide)]; omega), by (try dsimp only); first | omega | (rw [va_up_ne _ _ (by decide)]; omega), by (try dsimp only); simp only [wdF]; rw [← k1, ← k2]; first | (rw [if_pos (by assumption), va_up_self]) | (rw [if_neg (by assumption), k1, k2]; exact k4)⟩ (by (try dsimp only); omega)
  refine nr_lpI (σ := (Nat → va_E) × (Nat → Nat)) 0 (fun x => x.1) (fun x lv => lv = [(0, .ref (ad Γ (to + 0)))] ∧ isT Γ x.1 to by0 x.2 ∧ fr G x.1 (to + 0) (to + 2) ∧ (x.2 0 = tv 0) ∧ (x.2 2 = tv 2) ∧ (x.2 4 = tv 4) ∧ (tv 1 ≤ x.2 1) ∧ (x.2 1 ≤ tv 0) ∧ (runL (smP by0) (tv 0) (x.2 1) = runL (smP by0) (tv 0) (tv 1))) (fun x => tv 0 - x.2 1) (G, tv) hw hS (lv_sub hl [0] rfl) ⟨rfl, hT, hfr, rfl, rfl, rfl, by (try dsimp only); exact (Nat.le_refl _), by (try dsimp only); omega, rfl⟩ ?_
  intro x lv ls H locs hw hS hl hI ih0
  obtain ⟨Gl0, tvL0⟩ := x
  obtain ⟨rfl, hT, hfr, g0, g2, g4, g1, g1b, hrn⟩ := hI
  try dsimp only at hT hfr g0 g2 g4 g1 g1b hrn hw hl ih0
  refine lv_aload_n hx hb dX9_stepWord_0 rfl (lv_at hl 0 rfl) ?_
  refine nr_get (own := RX9) (C := RX9) (T := TX9) (N := 6) (v := .int (nI (tvL0 1))) hx hb hts hi_X9_stepWord_X9 hown hw (by omega) (isT_0 hT) rfl 2 (by decide) wl_X9_stepWord_1 rfl rfl dX9_stepWord_1 ?_
  refine lv_aload_n hx hb dX9_stepWord_4 rfl (lv_at hl 0 rfl) ?_
  refine nr_get (own := RX9) (C := RX9) (T := TX9) (N := 6) (v := .int (nI (tvL0 0))) hx hb hts hi_X9_stepWord_X9 hown hw (by omega) (isT_0 hT) rfl 1 (by decide) wl_X9_stepWord_2 rfl rfl dX9_stepWord_5 ?_
  refine nr_icmp_ge (tgt := 39) hx hb (by omega) (by omega) dX9_stepWord_8 (by decide) (fun c10 => ?_) (fun c10 => ?_)
  · exact ih39 (Gl0, tvL0) _ _ _ _ hw hS (lv_sub hl [0] rfl) ⟨rfl, hT, hfr, by (try dsimp only); omega, by (try dsimp only); omega, by (try dsimp only); omega, by (try dsimp only); rw [← hrn]; exact (runL_stop (by first | exact Or.inl (by omega) | exact Or.inr (by assumption))).symm⟩
  · refine lv_aload_n hx hb dX9_stepWord_11 rfl (lv_at hl 0 rfl) ?_
    refine nr_get (own := RX9) (C := RX9) (T := TX9) (N := 6) (v := .ref (ad Γ (to + 1))) hx hb hts hi_X9_stepWord_X9 hown hw (by omega) (isT_0 hT) rfl 0 (by decide) wl_X9_stepWord_3 rfl rfl dX9_stepWord_12 ?_
    refine lv_aload_n hx hb dX9_stepWord_15 rfl (lv_at hl 0 rfl) ?_
    refine nr_get (own := RX9) (C := RX9) (T := TX9) (N := 6) (v := .int (nI (tvL0 1))) hx hb hts hi_X9_stepWord_X9 hown hw (by omega) (isT_0 hT) rfl 2 (by decide) wl_X9_stepWord_1 rfl rfl dX9_stepWord_16 ?_
    refine nr_bald (x := (by0 (tvL0 1))) hx hb hw (by omega) (isT_1 hT) rfl (by omega) (by decide) dX9_stepWord_19 ?_
    have hL11 := hbt (tvL0 1)
    refine nr_goB (P := 97 ≤ (by0 (tvL0 1)) ∧ (by0 (tvL0 1)) ≤ 122) (nr_runS (As := [.int (nI (by0 (tvL0 1)))]) ⟨hx, hb, hml, hown, hts⟩ hw (c_X9_isLetter l Γ n Gl0 (by0 (tvL0 1)) (by omega)) (va_cwS 1 hts gX9_stepWord_X9_isLetter rfl rfl rfl (by decide +kernel) ⟨Nat.le_of_ble_eq_true rfl, Nat.le_of_ble_eq_true rfl⟩) rfl hl.1 rfl (Nat.le_of_ble_eq_true rfl) dX9_stepWord_20 ⟨Nat.zero_le _, Nat.zero_le _⟩) (fun b12 => ?_) (fun b12 => ?_)
    · refine nr_if_eq (tgt := 39) hx hb (by decide) dX9_stepWord_23 (by decide) (fun c13 => absurd c13 (by decide)) (fun c13 => ?_)
      refine lv_aload_n hx hb dX9_stepWord_26 rfl (lv_at hl 0 rfl) ?_
      refine lv_dup hx hb dX9_stepWord_27 rfl ?_
      refine nr_get (own := RX9) (C := RX9) (T := TX9) (N := 6) (v := .int (nI (tvL0 1))) hx hb hts hi_X9_stepWord_X9 hown hw (by omega) (isT_0 hT) rfl 2 (by decide) wl_X9_stepWord_1 rfl rfl dX9_stepWord_28 ?_
      refine lv_iconst (v := nI 1) hx hb dX9_stepWord_31 (by decide) ?_
      refine nr_iadd hx hb dX9_stepWord_32 ?_
      obtain ⟨w15, ew15⟩ : ∃ f, f = va_up tvL0 1 (tvL0 1 + 1) := ⟨_, rfl⟩
      refine nr_put (own := RX9) (C := RX9) (T := TX9) (N := 6) (ty := .int) (v := .int (nI (tvL0 1 + 1))) (fs' := [.ref (ad Γ (to + 1)), .int (nI (w15 0)), .int (nI (w15 1)), .int (nI (w15 2)), .int (nI (w15 3)), .int (nI (w15 4) - nI 1)]) hx hb hts hi_X9_stepWord_X9 tyX9 tyX9_ok nmX9 hown hw hj hA hS (by omega) (isT_0 hT) rfl 2 (by decide) wl_X9_stepWord_1 rfl rfl (by decide +kernel) rfl rfl (Nat.le_of_ble_eq_true rfl) (by rw [ew15]; rfl) dX9_stepWord_33 (fun H locs hw hS => ?_)
      subst ew15
      obtain ⟨G14, hw, hT, hf14⟩ := nT_c0 hT (va_up tvL0 1 (tvL0 1 + 1)) hw
      have hfr := fr_tr hfr hf14 (by omega) (by omega)
      refine lv_goto (tgt := 0) hx hb dX9_stepWord_36 (by decide) ?_
      exact ih0 (G14, va_up tvL0 1 (tvL0 1 + 1)) _ _ _ _ hw hS (lv_sub hl [0] rfl) ⟨rfl, hT, hfr, by (try dsimp only); simp [va_up] <;> omega, by (try dsimp only); simp [va_up] <;> omega, by (try dsimp only); simp [va_up] <;> omega, by (try dsimp only); rw [va_up_self]; omega, by (try dsimp only); rw [va_up_self]; omega, by (try dsimp only); rw [va_up_self, ← hrn]; exact runL_go (by omega) (by assumption)⟩ (by (try dsimp only); rw [va_up_self]; omega)
    · refine nr_if_eq (tgt := 39) hx hb (by decide) dX9_stepWord_23 (by decide) (fun c16 => ?_) (fun c16 => absurd c16 (by decide))
      exact ih39 (Gl0, tvL0) _ _ _ _ hw hS (lv_sub hl [0] rfl) ⟨rfl, hT, hfr, by (try dsimp only); omega, by (try dsimp only); omega, by (try dsimp only); omega, by (try dsimp only); rw [← hrn]; exact (runL_stop (by first | exact Or.inl (by omega) | exact Or.inr (by assumption))).symm⟩
theorem wl_X9_stepNumber_1 : Cond.fieldLink RX9 19 "BellForgiven$Text" "at" "I" ∈ wsX9_stepNumber := List.mem_of_getElem? (i := 1) rfl
theorem wl_X9_stepNumber_2 : Cond.fieldLink RX9 15 "BellForgiven$Text" "length" "I" ∈ wsX9_stepNumber := List.mem_of_getElem? (i := 2) rfl
theorem wl_X9_stepNumber_3 : Cond.fieldLink RX9 9 "BellForgiven$Text" "bytes" "[B" ∈ wsX9_stepNumber := List.mem_of_getElem? (i := 3) rfl
theorem wl_X9_stepNumber_4 : Cond.fieldLink RX9 22 "BellForgiven$Text" "start" "I" ∈ wsX9_stepNumber := List.mem_of_getElem? (i := 4) rfl
theorem wl_X9_stepNumber_5 : Cond.fieldLink RX9 28 "BellForgiven$Text" "token" "I" ∈ wsX9_stepNumber := List.mem_of_getElem? (i := 5) rfl
theorem wl_X9_stepNumber_6 : Cond.fieldLink RX9 25 "BellForgiven$Text" "value" "I" ∈ wsX9_stepNumber := List.mem_of_getElem? (i := 6) rfl
theorem hi_X9_stepNumber_X9 : ∀ w ∈ u_ws RX9 TX9 6, w ∈ wsX9_stepNumber := fun w h => (List.mem_cons_of_mem _ (List.mem_append_right _ h))
set_option maxHeartbeats 4000000 in
set_option maxRecDepth 100000 in
theorem c_X9_stepNumber (l : Launch) (Γ : Gam) (n : Nat) (G : Nat → va_E) (to : Nat) (by0 tv : Nat → Nat) (hT : isT Γ G to by0 tv) (hn_to : to + 2 ≤ n) (hj : winj Γ n) (hbt : ∀ j, by0 j ≤ 127) (hL : tv 0 ≤ 150) (hs : tv 2 = tv 1) (hlt : tv 1 < tv 0)  : Met l yX9_stepNumber wsX9_stepNumber ({ frames := 1, cells := 0, slots := 0, locals := 20 }) (va_Pc [.ref (ad Γ (to + 0))] (fun U => hw Γ n G U U.heap)) (wQv Γ n (fun G2 => ∃ tv2 : Nat → Nat, (tv2 0 = tv 0 ∧ tv2 1 = runL (fgP by0) (tv 0) (tv 1) ∧ tv2 2 = tv 2 ∧ tv2 3 = (if 2 < runL (fgP by0) (tv 0) (tv 1) - tv 1 then 4 else 2) ∧ tv2 4 = numF by0 (tv 1) (runL (fgP by0) (tv 0) (tv 1) - tv 1) + 1) ∧ isT Γ G2 to by0 tv2 ∧ fr G G2 (to + 0) (to + 2))) 0 0 (wA Γ n) := by
  refine Met.ofW (cc := cX9_stepNumber) (maxL := 2) (ret := none) (by decide) rfl ?_
  intro p e s m args below meth c s₁ B hml hv
  obtain ⟨rfl, hw⟩ := hv
  have hx := B.exec
  have hb := B.bytes
  have hr := B.returns
  have hts := atoms_spec (ws := wsX9_stepNumber) B.pre
  have hown : s.vm.findClass RX9 = some m.cls := findClass_of_methodNamed B.named
  have hlocks := B.notSynchronized
  have hS : va_S (wA Γ n) s.heap s.heap [] := va_S.rf
  have hA : ∀ q, wA Γ n q → wA Γ n q := fun _ h => h
  have hl := lv_entry ([.ref (ad Γ (to + 0))]) (n := 2) (Nat.le_of_ble_eq_true rfl)
  rw [lg_entry_eq]
  generalize (lg_sl ([.ref (ad Γ (to + 0))]) ++ List.replicate (2 - (lg_sl ([.ref (ad Γ (to + 0))])).length) Slot.unset).toArray = ls at hl ⊢
  have hl : lv_has ls 2 [(0, .ref (ad Γ (to + 0)))] := hl
  have hfr := fr_rf G (to + 0) (to + 2)
  have hrb := runL_b (P := fgP by0) (L := tv 0) (a := tv 1) (by omega)
  have hnl := numF_lt by0 (tv 1)
  refine nr_join (Γ := Γ) (n := n) (nL := 2) (A := wA Γ n) (H0 := s.heap) (σ := (Nat → va_E) × Nat × (Nat → Nat)) 63 (fun x => x.1) (fun x lv => lv = [(0, .ref (ad Γ (to + 0))), (1, .int (nI x.2.1))] ∧ isT Γ x.1 to by0 x.2.2 ∧ fr G x.1 (to + 0) (to + 2) ∧ (x.2.2 0 = tv 0) ∧ (x.2.2 2 = tv 2) ∧ (x.2.2 1 = runL (fgP by0) (tv 0) (tv 1)) ∧ (x.2.1 = numF by0 (tv 1) (runL (fgP by0) (tv 0) (tv 1) - tv 1))) ?_ (fun ih63 => ?_)
  · intro x lv ls H locs hw hS hl hI
    obtain ⟨Gj63, nu, tvL63⟩ := x
    obtain ⟨rfl, hT, hfr, g0, g2, g1, hnu⟩ := hI
    try dsimp only at hT hfr g0 g2 g1 hnu hw hl
    refine lv_aload_n hx hb dX9_stepNumber_63 rfl (lv_at hl 0 rfl) ?_
    refine lv_aload_n hx hb dX9_stepNumber_64 rfl (lv_at hl 0 rfl) ?_
    refine nr_get (own := RX9) (C := RX9) (T := TX9) (N := 6) (v := .int (nI (tvL63 1))) hx hb hts hi_X9_stepNumber_X9 hown hw (by omega) (isT_0 hT) rfl 2 (by decide) wl_X9_stepNumber_1 rfl rfl dX9_stepNumber_65 ?_
    refine lv_aload_n hx hb dX9_stepNumber_68 rfl (lv_at hl 0 rfl) ?_
    refine nr_get (own := RX9) (C := RX9) (T := TX9) (N := 6) (v := .int (nI (tvL63 2))) hx hb hts hi_X9_stepNumber_X9 hown hw (by omega) (isT_0 hT) rfl 3 (by decide) wl_X9_stepNumber_4 rfl rfl dX9_stepNumber_69 ?_
    refine nr_isub hx hb (by omega) dX9_stepNumber_72 ?_
    refine lv_iconst (v := nI 2) hx hb dX9_stepNumber_73 (by decide) ?_
    refine nr_icmp_le (tgt := 81) hx hb (by omega) (by decide) dX9_stepNumber_74 (by decide) (fun c1 => ?_) (fun c1 => ?_)
    · refine lv_iconst (v := nI 2) hx hb dX9_stepNumber_81 (by decide) ?_
      obtain ⟨w3, ew3⟩ : ∃ f, f = va_up tvL63 3 2 := ⟨_, rfl⟩
      refine nr_put (own := RX9) (C := RX9) (T := TX9) (N := 6) (ty := .int) (v := .int (nI 2)) (fs' := [.ref (ad Γ (to + 1)), .int (nI (w3 0)), .int (nI (w3 1)), .int (nI (w3 2)), .int (nI (w3 3)), .int (nI (w3 4) - nI 1)]) hx hb hts hi_X9_stepNumber_X9 tyX9 tyX9_ok nmX9 hown hw hj hA hS (by omega) (isT_0 hT) rfl 4 (by decide) wl_X9_stepNumber_5 rfl rfl (by decide +kernel) rfl rfl (Nat.le_of_ble_eq_true rfl) (by rw [ew3]; rfl) dX9_stepNumber_82 (fun H locs hw hS => ?_)
      subst ew3
      obtain ⟨G2, hw, hT, hf2⟩ := nT_c0 hT (va_up tvL63 3 2) hw
      have hfr := fr_tr hfr hf2 (by omega) (by omega)
      refine lv_aload_n hx hb dX9_stepNumber_85 rfl (lv_at hl 0 rfl) ?_
      refine lv_iload_n hx hb dX9_stepNumber_86 rfl (lv_at hl 1 rfl) ?_
      rw [nI_s1 nu]
      obtain ⟨w5, ew5⟩ : ∃ f, f = va_up (va_up tvL63 3 2) 4 (nu + 1) := ⟨_, rfl⟩
      refine nr_put (own := RX9) (C := RX9) (T := TX9) (N := 6) (ty := .int) (v := .int (nI (nu + 1) - nI 1)) (fs' := [.ref (ad Γ (to + 1)), .int (nI (w5 0)), .int (nI (w5 1)), .int (nI (w5 2)), .int (nI (w5 3)), .int (nI (w5 4) - nI 1)]) hx hb hts hi_X9_stepNumber_X9 tyX9 tyX9_ok nmX9 hown hw hj hA hS (by omega) (isT_0 hT) rfl 5 (by decide) wl_X9_stepNumber_6 rfl rfl (by decide +kernel) rfl rfl (Nat.le_of_ble_eq_true rfl) (by rw [ew5]; rfl) dX9_stepNumber_87 (fun H locs hw hS => ?_)
      subst ew5
      obtain ⟨G4, hw, hT, hf4⟩ := nT_c0 hT (va_up (va_up tvL63 3 2) 4 (nu + 1)) hw
      have hfr := fr_tr hfr hf4 (by omega) (by omega)
      exact nr_retV hx hb hr hlocks hw hS (⟨_, ⟨by simp [va_up] <;> omega, by simp [va_up] <;> omega, by simp [va_up] <;> omega, by first | (rw [if_pos (by omega)]; simp [va_up]; done) | (rw [if_neg (by omega)]; simp [va_up]; done), by simp [va_up] <;> omega⟩, hT, hfr⟩) dX9_stepNumber_90
    · refine lv_iconst (v := nI 4) hx hb dX9_stepNumber_77 (by decide) ?_
      refine lv_goto (tgt := 82) hx hb dX9_stepNumber_78 (by decide) ?_
      obtain ⟨w7, ew7⟩ : ∃ f, f = va_up tvL63 3 4 := ⟨_, rfl⟩
      refine nr_put (own := RX9) (C := RX9) (T := TX9) (N := 6) (ty := .int) (v := .int (nI 4)) (fs' := [.ref (ad Γ (to + 1)), .int (nI (w7 0)), .int (nI (w7 1)), .int (nI (w7 2)), .int (nI (w7 3)), .int (nI (w7 4) - nI 1)]) hx hb hts hi_X9_stepNumber_X9 tyX9 tyX9_ok nmX9 hown hw hj hA hS (by omega) (isT_0 hT) rfl 4 (by decide) wl_X9_stepNumber_5 rfl rfl (by decide +kernel) rfl rfl (Nat.le_of_ble_eq_true rfl) (by rw [ew7]; rfl) dX9_stepNumber_82 (fun H locs hw hS => ?_)
      subst ew7
      obtain ⟨G6, hw, hT, hf6⟩ := nT_c0 hT (va_up tvL63 3 4) hw
      have hfr := fr_tr hfr hf6 (by omega) (by omega)
      refine lv_aload_n hx hb dX9_stepNumber_85 rfl (lv_at hl 0 rfl) ?_
      refine lv_iload_n hx hb dX9_stepNumber_86 rfl (lv_at hl 1 rfl) ?_
      rw [nI_s1 nu]
      obtain ⟨w9, ew9⟩ : ∃ f, f = va_up (va_up tvL63 3 4) 4 (nu + 1) := ⟨_, rfl⟩
      refine nr_put (own := RX9) (C := RX9) (T := TX9) (N := 6) (ty := .int) (v := .int (nI (nu + 1) - nI 1)) (fs' := [.ref (ad Γ (to + 1)), .int (nI (w9 0)), .int (nI (w9 1)), .int (nI (w9 2)), .int (nI (w9 3)), .int (nI (w9 4) - nI 1)]) hx hb hts hi_X9_stepNumber_X9 tyX9 tyX9_ok nmX9 hown hw hj hA hS (by omega) (isT_0 hT) rfl 5 (by decide) wl_X9_stepNumber_6 rfl rfl (by decide +kernel) rfl rfl (Nat.le_of_ble_eq_true rfl) (by rw [ew9]; rfl) dX9_stepNumber_87 (fun H locs hw hS => ?_)
      subst ew9
      obtain ⟨G8, hw, hT, hf8⟩ := nT_c0 hT (va_up (va_up tvL63 3 4) 4 (nu + 1)) hw
      have hfr := fr_tr hfr hf8 (by omega) (by omega)
      exact nr_retV hx hb hr hlocks hw hS (⟨_, ⟨by simp [va_up] <;> omega, by simp [va_up] <;> omega, by simp [va_up] <;> omega, by first | (rw [if_pos (by omega)]; simp [va_up]; done) | (rw [if_neg (by omega)]; simp [va_up]; done), by simp [va_up] <;> omega⟩, hT, hfr⟩) dX9_stepNumber_90
  refine lv_iconst (v := nI 0) hx hb dX9_stepNumber_0 (by decide) ?_
  refine lv_istore_n (lv' := [(1, .int (nI 0)), (0, .ref (ad Γ (to + 0)))]) hx hb dX9_stepNumber_1 rfl hl (by decide) rfl (fun ls hl => ?_)
  refine nr_lpI (σ := (Nat → va_E) × Nat × (Nat → Nat)) 2 (fun x => x.1) (fun x lv => lv = [(0, .ref (ad Γ (to + 0))), (1, .int (nI x.2.1))] ∧ isT Γ x.1 to by0 x.2.2 ∧ fr G x.1 (to + 0) (to + 2) ∧ (x.2.2 0 = tv 0) ∧ (x.2.2 2 = tv 2) ∧ (tv 1 ≤ x.2.2 1) ∧ (x.2.2 1 ≤ tv 0) ∧ (runL (fgP by0) (tv 0) (x.2.2 1) = runL (fgP by0) (tv 0) (tv 1)) ∧ (x.2.1 = numF by0 (tv 1) (x.2.2 1 - tv 1))) (fun x => tv 0 - x.2.2 1) (G, 0, tv) hw hS (lv_sub hl [1, 0] rfl) ⟨rfl, hT, hfr, rfl, rfl, by (try dsimp only); exact (Nat.le_refl _), by (try dsimp only); omega, rfl, by (try dsimp only); rw [Nat.sub_self]; rfl⟩ ?_
  intro x lv ls H locs hw hS hl hI ih2
  obtain ⟨Gl2, nu, tvL2⟩ := x
  obtain ⟨rfl, hT, hfr, g0, g2, g1, g1b, hrn, hnu⟩ := hI
  try dsimp only at hT hfr g0 g2 g1 g1b hrn hnu hw hl ih2
  have hnl1 := hnl (tvL2 1 - tv 1)
  refine lv_aload_n hx hb dX9_stepNumber_2 rfl (lv_at hl 0 rfl) ?_
  refine nr_get (own := RX9) (C := RX9) (T := TX9) (N := 6) (v := .int (nI (tvL2 1))) hx hb hts hi_X9_stepNumber_X9 hown hw (by omega) (isT_0 hT) rfl 2 (by decide) wl_X9_stepNumber_1 rfl rfl dX9_stepNumber_3 ?_
  refine lv_aload_n hx hb dX9_stepNumber_6 rfl (lv_at hl 0 rfl) ?_
  refine nr_get (own := RX9) (C := RX9) (T := TX9) (N := 6) (v := .int (nI (tvL2 0))) hx hb hts hi_X9_stepNumber_X9 hown hw (by omega) (isT_0 hT) rfl 1 (by decide) wl_X9_stepNumber_2 rfl rfl dX9_stepNumber_7 ?_
  refine nr_icmp_ge (tgt := 63) hx hb (by omega) (by omega) dX9_stepNumber_10 (by decide) (fun c10 => ?_) (fun c10 => ?_)
  · exact ih63 (Gl2, nu, tvL2) _ _ _ _ hw hS (lv_sub hl [0, 1] rfl) ⟨rfl, hT, hfr, by (try dsimp only); omega, by (try dsimp only); omega, by (try dsimp only); rw [← hrn]; exact (runL_stop (by first | exact Or.inl (by omega) | exact Or.inr (by assumption))).symm, by (try dsimp only); rw [hnu, ← hrn, runL_stop (by first | exact Or.inl (by omega) | exact Or.inr (by assumption))]⟩
  · refine lv_aload_n hx hb dX9_stepNumber_13 rfl (lv_at hl 0 rfl) ?_
    refine nr_get (own := RX9) (C := RX9) (T := TX9) (N := 6) (v := .ref (ad Γ (to + 1))) hx hb hts hi_X9_stepNumber_X9 hown hw (by omega) (isT_0 hT) rfl 0 (by decide) wl_X9_stepNumber_3 rfl rfl dX9_stepNumber_14 ?_
    refine lv_aload_n hx hb dX9_stepNumber_17 rfl (lv_at hl 0 rfl) ?_
    refine nr_get (own := RX9) (C := RX9) (T := TX9) (N := 6) (v := .int (nI (tvL2 1))) hx hb hts hi_X9_stepNumber_X9 hown hw (by omega) (isT_0 hT) rfl 2 (by decide) wl_X9_stepNumber_1 rfl rfl dX9_stepNumber_18 ?_
    refine nr_bald (x := (by0 (tvL2 1))) hx hb hw (by omega) (isT_1 hT) rfl (by omega) (by decide) dX9_stepNumber_21 ?_
    have hL11 := hbt (tvL2 1)
    refine nr_goB (P := 48 ≤ (by0 (tvL2 1)) ∧ (by0 (tvL2 1)) ≤ 57) (nr_runS (As := [.int (nI (by0 (tvL2 1)))]) ⟨hx, hb, hml, hown, hts⟩ hw (c_X9_isFigure l Γ n Gl2 (by0 (tvL2 1)) (by omega)) (va_cwS 1 hts gX9_stepNumber_X9_isFigure rfl rfl rfl (by decide +kernel) ⟨Nat.le_of_ble_eq_true rfl, Nat.le_of_ble_eq_true rfl⟩) rfl hl.1 rfl (Nat.le_of_ble_eq_true rfl) dX9_stepNumber_22 ⟨Nat.zero_le _, Nat.zero_le _⟩) (fun b12 => ?_) (fun b12 => ?_)
    · refine nr_if_eq (tgt := 63) hx hb (by decide) dX9_stepNumber_25 (by decide) (fun c13 => absurd c13 (by decide)) (fun c13 => ?_)
      refine lv_iload_n hx hb dX9_stepNumber_28 rfl (lv_at hl 1 rfl) ?_
      refine lv_bipush (v := nI 10) hx hb dX9_stepNumber_29 (by decide) ?_
      refine nr_imul hx hb dX9_stepNumber_31 ?_
      refine lv_aload_n hx hb dX9_stepNumber_32 rfl (lv_at hl 0 rfl) ?_
      refine nr_get (own := RX9) (C := RX9) (T := TX9) (N := 6) (v := .ref (ad Γ (to + 1))) hx hb hts hi_X9_stepNumber_X9 hown hw (by omega) (isT_0 hT) rfl 0 (by decide) wl_X9_stepNumber_3 rfl rfl dX9_stepNumber_33 ?_
      refine lv_aload_n hx hb dX9_stepNumber_36 rfl (lv_at hl 0 rfl) ?_
      refine nr_get (own := RX9) (C := RX9) (T := TX9) (N := 6) (v := .int (nI (tvL2 1))) hx hb hts hi_X9_stepNumber_X9 hown hw (by omega) (isT_0 hT) rfl 2 (by decide) wl_X9_stepNumber_1 rfl rfl dX9_stepNumber_37 ?_
      refine nr_bald (x := (by0 (tvL2 1))) hx hb hw (by omega) (isT_1 hT) rfl (by omega) (by decide) dX9_stepNumber_40 ?_
      have hL14 := hbt (tvL2 1)
      refine nr_iadd hx hb dX9_stepNumber_41 ?_
      refine lv_bipush (v := nI 48) hx hb dX9_stepNumber_42 (by decide) ?_
      refine nr_isub hx hb (by omega) dX9_stepNumber_44 ?_
      refine lv_sipush (v := nI 1000) hx hb dX9_stepNumber_45 (by decide) ?_
      refine nr_irem hx hb (by omega) (by decide) (by decide) dX9_stepNumber_48 ?_
      refine lv_istore_n (lv' := [(1, .int (nI (((nu * 10 + (by0 (tvL2 1))) - 48) % 1000))), (0, .ref (ad Γ (to + 0)))]) hx hb dX9_stepNumber_49 rfl hl (by decide) rfl (fun ls hl => ?_)
      refine lv_aload_n hx hb dX9_stepNumber_50 rfl (lv_at hl 1 rfl) ?_
      refine lv_dup hx hb dX9_stepNumber_51 rfl ?_
      refine nr_get (own := RX9) (C := RX9) (T := TX9) (N := 6) (v := .int (nI (tvL2 1))) hx hb hts hi_X9_stepNumber_X9 hown hw (by omega) (isT_0 hT) rfl 2 (by decide) wl_X9_stepNumber_1 rfl rfl dX9_stepNumber_52 ?_
      refine lv_iconst (v := nI 1) hx hb dX9_stepNumber_55 (by decide) ?_
      refine nr_iadd hx hb dX9_stepNumber_56 ?_
      obtain ⟨w16, ew16⟩ : ∃ f, f = va_up tvL2 1 (tvL2 1 + 1) := ⟨_, rfl⟩
      refine nr_put (own := RX9) (C := RX9) (T := TX9) (N := 6) (ty := .int) (v := .int (nI (tvL2 1 + 1))) (fs' := [.ref (ad Γ (to + 1)), .int (nI (w16 0)), .int (nI (w16 1)), .int (nI (w16 2)), .int (nI (w16 3)), .int (nI (w16 4) - nI 1)]) hx hb hts hi_X9_stepNumber_X9 tyX9 tyX9_ok nmX9 hown hw hj hA hS (by omega) (isT_0 hT) rfl 2 (by decide) wl_X9_stepNumber_1 rfl rfl (by decide +kernel) rfl rfl (Nat.le_of_ble_eq_true rfl) (by rw [ew16]; rfl) dX9_stepNumber_57 (fun H locs hw hS => ?_)
      subst ew16
      obtain ⟨G15, hw, hT, hf15⟩ := nT_c0 hT (va_up tvL2 1 (tvL2 1 + 1)) hw
      have hfr := fr_tr hfr hf15 (by omega) (by omega)
      refine lv_goto (tgt := 2) hx hb dX9_stepNumber_60 (by decide) ?_
      exact ih2 (G15, ((nu * 10 + (by0 (tvL2 1))) - 48) % 1000, va_up tvL2 1 (tvL2 1 + 1)) _ _ _ _ hw hS (lv_sub hl [1, 0] rfl) ⟨rfl, hT, hfr, by (try dsimp only); simp [va_up] <;> omega, by (try dsimp only); simp [va_up] <;> omega, by (try dsimp only); rw [va_up_self]; omega, by (try dsimp only); rw [va_up_self]; omega, by (try dsimp only); rw [va_up_self, ← hrn]; exact runL_go (by omega) (by assumption), by (try dsimp only); rw [va_up_self, show tvL2 1 + 1 - tv 1 = (tvL2 1 - tv 1) + 1 by omega]; simp only [numF]; rw [← hnu, show tv 1 + (tvL2 1 - tv 1) = tvL2 1 by omega]⟩ (by (try dsimp only); rw [va_up_self]; omega)
    · refine nr_if_eq (tgt := 63) hx hb (by decide) dX9_stepNumber_25 (by decide) (fun c17 => ?_) (fun c17 => absurd c17 (by decide))
      exact ih63 (Gl2, nu, tvL2) _ _ _ _ hw hS (lv_sub hl [0, 1] rfl) ⟨rfl, hT, hfr, by (try dsimp only); omega, by (try dsimp only); omega, by (try dsimp only); rw [← hrn]; exact (runL_stop (by first | exact Or.inl (by omega) | exact Or.inr (by assumption))).symm, by (try dsimp only); rw [hnu, ← hrn, runL_stop (by first | exact Or.inl (by omega) | exact Or.inr (by assumption))]⟩
theorem wl_X9_step_1 : Cond.fieldLink RX9 19 "BellForgiven$Text" "at" "I" ∈ wsX9_step := List.mem_of_getElem? (i := 1) rfl
theorem wl_X9_step_2 : Cond.fieldLink RX9 15 "BellForgiven$Text" "length" "I" ∈ wsX9_step := List.mem_of_getElem? (i := 2) rfl
theorem wl_X9_step_3 : Cond.fieldLink RX9 9 "BellForgiven$Text" "bytes" "[B" ∈ wsX9_step := List.mem_of_getElem? (i := 3) rfl
theorem wl_X9_step_4 : Cond.fieldLink RX9 22 "BellForgiven$Text" "start" "I" ∈ wsX9_step := List.mem_of_getElem? (i := 4) rfl
theorem wl_X9_step_5 : Cond.fieldLink RX9 25 "BellForgiven$Text" "value" "I" ∈ wsX9_step := List.mem_of_getElem? (i := 5) rfl
theorem wl_X9_step_6 : Cond.fieldLink RX9 28 "BellForgiven$Text" "token" "I" ∈ wsX9_step := List.mem_of_getElem? (i := 6) rfl
theorem hi_X9_step_X9 : ∀ w ∈ u_ws RX9 TX9 6, w ∈ wsX9_step := fun w h => (List.mem_cons_of_mem _ (List.mem_append_right _ h))
set_option maxHeartbeats 4000000 in
set_option maxRecDepth 100000 in
theorem c_X9_step (l : Launch) (Γ : Gam) (n : Nat) (G : Nat → va_E) (to : Nat) (by0 tv : Nat → Nat) (hT : isT Γ G to by0 tv) (hn_to : to + 2 ≤ n) (hj : winj Γ n) (hbt : ∀ j, by0 j ≤ 127) (hL : tv 0 ≤ 150) (h1L : tv 1 ≤ tv 0) (ak av : Nat → Nat) (fr0 : Option Nat)  : Met l yX9_step wsX9_step ({ frames := 6, cells := 0, slots := 0, locals := 129 }) (va_Pc [.ref (ad Γ (to + 0))] (fun U => hw Γ n G U U.heap ∧ kSt (wA Γ n) ak av fr0 U U.heap)) (wQv Γ n (fun G2 => ∃ tv2 : Nat → Nat, (stpR by0 tv tv2) ∧ isT Γ G2 to by0 tv2 ∧ fr G G2 (to + 0) (to + 2))) 0 0 (wA Γ n) := by
  refine Met.ofW (cc := cX9_step) (maxL := 1) (ret := none) (by decide) rfl ?_
  intro p e s m args below meth c s₁ B hml hv
  obtain ⟨rfl, hw, hE⟩ := hv
  have hx := B.exec
  have hb := B.bytes
  have hr := B.returns
  have hts := atoms_spec (ws := wsX9_step) B.pre
  have hown : s.vm.findClass RX9 = some m.cls := findClass_of_methodNamed B.named
  have hlocks := B.notSynchronized
  have hS : va_S (wA Γ n) s.heap s.heap [] := va_S.rf
  have hA : ∀ q, wA Γ n q → wA Γ n q := fun _ h => h
  have hl := lv_entry ([.ref (ad Γ (to + 0))]) (n := 1) (Nat.le_of_ble_eq_true rfl)
  rw [lg_entry_eq]
  generalize (lg_sl ([.ref (ad Γ (to + 0))]) ++ List.replicate (1 - (lg_sl ([.ref (ad Γ (to + 0))])).length) Slot.unset).toArray = ls at hl ⊢
  have hl : lv_has ls 1 [(0, .ref (ad Γ (to + 0)))] := hl
  have hfr := fr_rf G (to + 0) (to + 2)
  have hrb := runL_b (P := spP by0) (L := tv 0) (a := tv 1) (by omega)
  refine nr_join (Γ := Γ) (n := n) (nL := 1) (A := wA Γ n) (H0 := s.heap) (σ := (Nat → va_E) × (Nat → Nat)) 38 (fun x => x.1) (fun x lv => lv = [(0, .ref (ad Γ (to + 0)))] ∧ isT Γ x.1 to by0 x.2 ∧ fr G x.1 (to + 0) (to + 2) ∧ (x.2 0 = tv 0) ∧ (x.2 1 ≤ tv 0) ∧ (tokS by0 (tv 0) (tv 1) = x.2 1)) ?_ (fun ih38 => ?_)
  · intro x lv ls H locs hw hS hl hI
    obtain ⟨Gj38, tvL38⟩ := x
    obtain ⟨rfl, hT, hfr, g0, g1b, g1⟩ := hI
    try dsimp only at hT hfr g0 g1b g1 hw hl
    refine lv_aload_n hx hb dX9_step_38 rfl (lv_at hl 0 rfl) ?_
    refine lv_aload_n hx hb dX9_step_39 rfl (lv_at hl 0 rfl) ?_
    refine nr_get (own := RX9) (C := RX9) (T := TX9) (N := 6) (v := .int (nI (tvL38 1))) hx hb hts hi_X9_step_X9 hown hw (by omega) (isT_0 hT) rfl 2 (by decide) wl_X9_step_1 rfl rfl dX9_step_40 ?_
    obtain ⟨w2, ew2⟩ : ∃ f, f = va_up tvL38 2 (tvL38 1) := ⟨_, rfl⟩
    refine nr_put (own := RX9) (C := RX9) (T := TX9) (N := 6) (ty := .int) (v := .int (nI (tvL38 1))) (fs' := [.ref (ad Γ (to + 1)), .int (nI (w2 0)), .int (nI (w2 1)), .int (nI (w2 2)), .int (nI (w2 3)), .int (nI (w2 4) - nI 1)]) hx hb hts hi_X9_step_X9 tyX9 tyX9_ok nmX9 hown hw hj hA hS (by omega) (isT_0 hT) rfl 3 (by decide) wl_X9_step_4 rfl rfl (by decide +kernel) rfl rfl (Nat.le_of_ble_eq_true rfl) (by rw [ew2]; rfl) dX9_step_43 (fun H locs hw hS => ?_)
    subst ew2
    obtain ⟨G1, hw, hT, hf1⟩ := nT_c0 hT (va_up tvL38 2 (tvL38 1)) hw
    have hfr := fr_tr hfr hf1 (by omega) (by omega)
    refine lv_aload_n hx hb dX9_step_46 rfl (lv_at hl 0 rfl) ?_
    refine lv_iconst (v := (-1)) hx hb dX9_step_47 (by decide) ?_
    rw [show (-1 : Int32) = nI 0 - nI 1 from by decide]
    obtain ⟨w4, ew4⟩ : ∃ f, f = va_up (va_up tvL38 2 (tvL38 1)) 4 0 := ⟨_, rfl⟩
    refine nr_put (own := RX9) (C := RX9) (T := TX9) (N := 6) (ty := .int) (v := .int (nI 0 - nI 1)) (fs' := [.ref (ad Γ (to + 1)), .int (nI (w4 0)), .int (nI (w4 1)), .int (nI (w4 2)), .int (nI (w4 3)), .int (nI (w4 4) - nI 1)]) hx hb hts hi_X9_step_X9 tyX9 tyX9_ok nmX9 hown hw hj hA hS (by omega) (isT_0 hT) rfl 5 (by decide) wl_X9_step_5 rfl rfl (by decide +kernel) rfl rfl (Nat.le_of_ble_eq_true rfl) (by rw [ew4]; rfl) dX9_step_48 (fun H locs hw hS => ?_)
    subst ew4
    obtain ⟨G3, hw, hT, hf3⟩ := nT_c0 hT (va_up (va_up tvL38 2 (tvL38 1)) 4 0) hw
    have hfr := fr_tr hfr hf3 (by omega) (by omega)
    obtain ⟨tvn, etv⟩ : ∃ f, f = va_up (va_up tvL38 2 (tvL38 1)) 4 0 := ⟨_, rfl⟩
    rw [← etv] at hT
    have q0 : tvn 0 = tv 0 := by rw [etv]; simp [va_up] <;> omega
    have q1 : tvn 1 = tvL38 1 := by rw [etv]; simp [va_up] <;> omega
    have q2 : tvn 2 = tvL38 1 := by rw [etv]; simp [va_up] <;> omega
    have q4 : tvn 4 = 0 := by rw [etv]; simp [va_up] <;> omega
    clear etv
    refine lv_aload_n hx hb dX9_step_51 rfl (lv_at hl 0 rfl) ?_
    refine nr_get (own := RX9) (C := RX9) (T := TX9) (N := 6) (v := .int (nI (tvn 1))) hx hb hts hi_X9_step_X9 hown hw (by omega) (isT_0 hT) rfl 2 (by decide) wl_X9_step_1 rfl rfl dX9_step_52 ?_
    refine lv_aload_n hx hb dX9_step_55 rfl (lv_at hl 0 rfl) ?_
    refine nr_get (own := RX9) (C := RX9) (T := TX9) (N := 6) (v := .int (nI (tvn 0))) hx hb hts hi_X9_step_X9 hown hw (by omega) (isT_0 hT) rfl 1 (by decide) wl_X9_step_2 rfl rfl dX9_step_56 ?_
    refine nr_icmp_lt (tgt := 70) hx hb (by omega) (by omega) dX9_step_59 (by decide) (fun c5 => ?_) (fun c5 => ?_)
    · have hxl : tvL38 1 < tv 0 := by omega
      refine lv_aload_n hx hb dX9_step_70 rfl (lv_at hl 0 rfl) ?_
      refine nr_get (own := RX9) (C := RX9) (T := TX9) (N := 6) (v := .ref (ad Γ (to + 1))) hx hb hts hi_X9_step_X9 hown hw (by omega) (isT_0 hT) rfl 0 (by decide) wl_X9_step_3 rfl rfl dX9_step_71 ?_
      refine lv_aload_n hx hb dX9_step_74 rfl (lv_at hl 0 rfl) ?_
      refine nr_get (own := RX9) (C := RX9) (T := TX9) (N := 6) (v := .int (nI (tvn 1))) hx hb hts hi_X9_step_X9 hown hw (by omega) (isT_0 hT) rfl 2 (by decide) wl_X9_step_1 rfl rfl dX9_step_75 ?_
      refine nr_bald (x := (by0 (tvn 1))) hx hb hw (by omega) (isT_1 hT) rfl (by omega) (by decide) dX9_step_78 ?_
      have hL6 := hbt (tvn 1)
      refine nr_goB (P := 97 ≤ (by0 (tvn 1)) ∧ (by0 (tvn 1)) ≤ 122) (nr_runS (As := [.int (nI (by0 (tvn 1)))]) ⟨hx, hb, hml, hown, hts⟩ hw (c_X9_isLetter l Γ n G3 (by0 (tvn 1)) (by omega)) (va_cwS 1 hts gX9_step_X9_isLetter rfl rfl rfl (by decide +kernel) ⟨Nat.le_of_ble_eq_true rfl, Nat.le_of_ble_eq_true rfl⟩) rfl hl.1 rfl (Nat.le_of_ble_eq_true rfl) dX9_step_79 ⟨Nat.zero_le _, Nat.zero_le _⟩) (fun b7 => ?_) (fun b7 => ?_)
      · have hs9 : isSm (by0 (tvL38 1)) := by rw [← q1]; exact b7
        refine nr_if_eq (tgt := 92) hx hb (by decide) dX9_step_82 (by decide) (fun c8 => absurd c8 (by decide)) (fun c8 => ?_)
        refine lv_aload_n hx hb dX9_step_85 rfl (lv_at hl 0 rfl) ?_
        refine nr_goV (nk_runV (As := []) (C := RX9) (T := TX9) (N := 6) ⟨hx, hb, hml, hown, hts⟩ hw hE hS (by omega) (isT_0 hT) rfl (c_X9_stepWord l Γ n G3 to by0 tvn hT (by omega) hj hbt (by omega) (by omega) (by omega) ak av fr0) (cwV 0 hts gX9_step_X9_stepWord rfl rfl rfl (by decide +kernel) ⟨Nat.le_of_ble_eq_true rfl, Nat.le_of_ble_eq_true rfl⟩) rfl hl.1 rfl (Nat.le_of_ble_eq_true rfl) dX9_step_86 ⟨Nat.zero_le _, Nat.zero_le _⟩) hw hA hS (fun G9 H locs hp hw hS => ?_)
        obtain ⟨tv9, hx9, hT, hf9⟩ := hp
        have hfr := fr_tr hfr hf9 (by omega) (by omega)
        have hT : isT Γ G9 to by0 tv9 := hT
        have hx9 := hx9
        refine lv_goto (tgt := 147) hx hb dX9_step_89 (by decide) ?_
        exact nr_retV hx hb hr hlocks hw hS (⟨_, stp_of (x := tvL38 1) g1 (hx9.1.trans q0) (hx9.2.2.1.trans q2) hx9.2.1 hx9.2.2.2.1 hx9.2.2.2.2 (by rw [(tk_let hxl hs9).1, q0, q1]) (tk_let hxl hs9).2.1 (by rw [(tk_let hxl hs9).2.2, q0, q1, q2, q4]), hT, hfr⟩) dX9_step_147
      · have hs9 : ¬ isSm (by0 (tvL38 1)) := by rw [← q1]; exact b7
        refine nr_if_eq (tgt := 92) hx hb (by decide) dX9_step_82 (by decide) (fun c10 => ?_) (fun c10 => absurd c10 (by decide))
        refine lv_aload_n hx hb dX9_step_92 rfl (lv_at hl 0 rfl) ?_
        refine nr_get (own := RX9) (C := RX9) (T := TX9) (N := 6) (v := .ref (ad Γ (to + 1))) hx hb hts hi_X9_step_X9 hown hw (by omega) (isT_0 hT) rfl 0 (by decide) wl_X9_step_3 rfl rfl dX9_step_93 ?_
        refine lv_aload_n hx hb dX9_step_96 rfl (lv_at hl 0 rfl) ?_
        refine nr_get (own := RX9) (C := RX9) (T := TX9) (N := 6) (v := .int (nI (tvn 1))) hx hb hts hi_X9_step_X9 hown hw (by omega) (isT_0 hT) rfl 2 (by decide) wl_X9_step_1 rfl rfl dX9_step_97 ?_
        refine nr_bald (x := (by0 (tvn 1))) hx hb hw (by omega) (isT_1 hT) rfl (by omega) (by decide) dX9_step_100 ?_
        have hL11 := hbt (tvn 1)
        refine nr_goB (P := 48 ≤ (by0 (tvn 1)) ∧ (by0 (tvn 1)) ≤ 57) (nr_runS (As := [.int (nI (by0 (tvn 1)))]) ⟨hx, hb, hml, hown, hts⟩ hw (c_X9_isFigure l Γ n G3 (by0 (tvn 1)) (by omega)) (va_cwS 1 hts gX9_step_X9_isFigure rfl rfl rfl (by decide +kernel) ⟨Nat.le_of_ble_eq_true rfl, Nat.le_of_ble_eq_true rfl⟩) rfl hl.1 rfl (Nat.le_of_ble_eq_true rfl) dX9_step_101 ⟨Nat.zero_le _, Nat.zero_le _⟩) (fun b12 => ?_) (fun b12 => ?_)
        · have hf9 : isFg (by0 (tvL38 1)) := by rw [← q1]; exact b12
          refine nr_if_eq (tgt := 114) hx hb (by decide) dX9_step_104 (by decide) (fun c13 => absurd c13 (by decide)) (fun c13 => ?_)
          refine lv_aload_n hx hb dX9_step_107 rfl (lv_at hl 0 rfl) ?_
          refine nr_goV (nr_runV (As := []) (C := RX9) (T := TX9) (N := 6) ⟨hx, hb, hml, hown, hts⟩ hw (by omega) (isT_0 hT) rfl (c_X9_stepNumber l Γ n G3 to by0 tvn hT (by omega) hj hbt (by omega) (by omega) (by omega)) (cwV 0 hts gX9_step_X9_stepNumber rfl rfl rfl (by decide +kernel) ⟨Nat.le_of_ble_eq_true rfl, Nat.le_of_ble_eq_true rfl⟩) rfl hl.1 rfl (Nat.le_of_ble_eq_true rfl) dX9_step_108 ⟨Nat.zero_le _, Nat.zero_le _⟩) hw hA hS (fun G14 H locs hp hw hS => ?_)
          obtain ⟨tv14, hx14, hT, hf14⟩ := hp
          have hfr := fr_tr hfr hf14 (by omega) (by omega)
          have hT : isT Γ G14 to by0 tv14 := hT
          have hx9 := hx14
          refine lv_goto (tgt := 147) hx hb dX9_step_111 (by decide) ?_
          exact nr_retV hx hb hr hlocks hw hS (⟨_, stp_of (x := tvL38 1) g1 (hx9.1.trans q0) (hx9.2.2.1.trans q2) hx9.2.1 hx9.2.2.2.1 hx9.2.2.2.2 (by rw [(tk_fig hxl hs9 hf9).1, q0, q1]) (by rw [(tk_fig hxl hs9 hf9).2.1, q0, q1]) (by rw [(tk_fig hxl hs9 hf9).2.2, q0, q1]), hT, hfr⟩) dX9_step_147
        · have hf9 : ¬ isFg (by0 (tvL38 1)) := by rw [← q1]; exact b12
          refine nr_if_eq (tgt := 114) hx hb (by decide) dX9_step_104 (by decide) (fun c15 => ?_) (fun c15 => absurd c15 (by decide))
          refine lv_aload_n hx hb dX9_step_114 rfl (lv_at hl 0 rfl) ?_
          refine lv_aload_n hx hb dX9_step_115 rfl (lv_at hl 0 rfl) ?_
          refine nr_get (own := RX9) (C := RX9) (T := TX9) (N := 6) (v := .ref (ad Γ (to + 1))) hx hb hts hi_X9_step_X9 hown hw (by omega) (isT_0 hT) rfl 0 (by decide) wl_X9_step_3 rfl rfl dX9_step_116 ?_
          refine lv_aload_n hx hb dX9_step_119 rfl (lv_at hl 0 rfl) ?_
          refine nr_get (own := RX9) (C := RX9) (T := TX9) (N := 6) (v := .int (nI (tvn 1))) hx hb hts hi_X9_step_X9 hown hw (by omega) (isT_0 hT) rfl 2 (by decide) wl_X9_step_1 rfl rfl dX9_step_120 ?_
          refine nr_bald (x := (by0 (tvn 1))) hx hb hw (by omega) (isT_1 hT) rfl (by omega) (by decide) dX9_step_123 ?_
          have hL16 := hbt (tvn 1)
          refine lv_bipush (v := nI 59) hx hb dX9_step_124 (by decide) ?_
          refine nr_icmp_ne (tgt := 133) hx hb (by omega) (by decide) dX9_step_126 (by decide) (fun c17 => ?_) (fun c17 => ?_)
          · have h59 : ¬ by0 (tvL38 1) = 59 := by rw [← q1]; assumption
            refine lv_iconst (v := nI 4) hx hb dX9_step_133 (by decide) ?_
            obtain ⟨w19, ew19⟩ : ∃ f, f = va_up tvn 3 4 := ⟨_, rfl⟩
            refine nr_put (own := RX9) (C := RX9) (T := TX9) (N := 6) (ty := .int) (v := .int (nI 4)) (fs' := [.ref (ad Γ (to + 1)), .int (nI (w19 0)), .int (nI (w19 1)), .int (nI (w19 2)), .int (nI (w19 3)), .int (nI (w19 4) - nI 1)]) hx hb hts hi_X9_step_X9 tyX9 tyX9_ok nmX9 hown hw hj hA hS (by omega) (isT_0 hT) rfl 4 (by decide) wl_X9_step_6 rfl rfl (by decide +kernel) rfl rfl (Nat.le_of_ble_eq_true rfl) (by rw [ew19]; rfl) dX9_step_134 (fun H locs hw hS => ?_)
            subst ew19
            obtain ⟨G18, hw, hT, hf18⟩ := nT_c0 hT (va_up tvn 3 4) hw
            have hfr := fr_tr hfr hf18 (by omega) (by omega)
            refine lv_aload_n hx hb dX9_step_137 rfl (lv_at hl 0 rfl) ?_
            refine lv_dup hx hb dX9_step_138 rfl ?_
            refine nr_get (own := RX9) (C := RX9) (T := TX9) (N := 6) (v := .int (nI ((va_up tvn 3 4) 1))) hx hb hts hi_X9_step_X9 hown hw (by omega) (isT_0 hT) rfl 2 (by decide) wl_X9_step_1 rfl rfl dX9_step_139 ?_
            refine lv_iconst (v := nI 1) hx hb dX9_step_142 (by decide) ?_
            refine nr_iadd hx hb dX9_step_143 ?_
            obtain ⟨w21, ew21⟩ : ∃ f, f = va_up (va_up tvn 3 4) 1 ((va_up tvn 3 4) 1 + 1) := ⟨_, rfl⟩
            refine nr_put (own := RX9) (C := RX9) (T := TX9) (N := 6) (ty := .int) (v := .int (nI ((va_up tvn 3 4) 1 + 1))) (fs' := [.ref (ad Γ (to + 1)), .int (nI (w21 0)), .int (nI (w21 1)), .int (nI (w21 2)), .int (nI (w21 3)), .int (nI (w21 4) - nI 1)]) hx hb hts hi_X9_step_X9 tyX9 tyX9_ok nmX9 hown hw hj hA hS (by omega) (isT_0 hT) rfl 2 (by decide) wl_X9_step_1 rfl rfl (by decide +kernel) rfl rfl (Nat.le_of_ble_eq_true rfl) (by rw [ew21]; rfl) dX9_step_144 (fun H locs hw hS => ?_)
            subst ew21
            obtain ⟨G20, hw, hT, hf20⟩ := nT_c0 hT (va_up (va_up tvn 3 4) 1 ((va_up tvn 3 4) 1 + 1)) hw
            have hfr := fr_tr hfr hf20 (by omega) (by omega)
            exact nr_retV hx hb hr hlocks hw hS (⟨_, stp_of (x := tvL38 1) (k := 4) g1 (by simp [va_up] <;> omega) (by simp [va_up] <;> omega) (by simp [va_up] <;> omega) (by simp [va_up]) (by simp [va_up] <;> omega) (tk_oth hxl hs9 hf9).1 (by rw [(tk_oth hxl hs9 hf9).2.1]; rw [if_neg h59]) (tk_oth hxl hs9 hf9).2.2, hT, hfr⟩) dX9_step_147
          · have h59 : by0 (tvL38 1) = 59 := by rw [← q1]; assumption
            refine lv_iconst (v := nI 3) hx hb dX9_step_129 (by decide) ?_
            refine lv_goto (tgt := 134) hx hb dX9_step_130 (by decide) ?_
            obtain ⟨w23, ew23⟩ : ∃ f, f = va_up tvn 3 3 := ⟨_, rfl⟩
            refine nr_put (own := RX9) (C := RX9) (T := TX9) (N := 6) (ty := .int) (v := .int (nI 3)) (fs' := [.ref (ad Γ (to + 1)), .int (nI (w23 0)), .int (nI (w23 1)), .int (nI (w23 2)), .int (nI (w23 3)), .int (nI (w23 4) - nI 1)]) hx hb hts hi_X9_step_X9 tyX9 tyX9_ok nmX9 hown hw hj hA hS (by omega) (isT_0 hT) rfl 4 (by decide) wl_X9_step_6 rfl rfl (by decide +kernel) rfl rfl (Nat.le_of_ble_eq_true rfl) (by rw [ew23]; rfl) dX9_step_134 (fun H locs hw hS => ?_)
            subst ew23
            obtain ⟨G22, hw, hT, hf22⟩ := nT_c0 hT (va_up tvn 3 3) hw
            have hfr := fr_tr hfr hf22 (by omega) (by omega)
            refine lv_aload_n hx hb dX9_step_137 rfl (lv_at hl 0 rfl) ?_
            refine lv_dup hx hb dX9_step_138 rfl ?_
            refine nr_get (own := RX9) (C := RX9) (T := TX9) (N := 6) (v := .int (nI ((va_up tvn 3 3) 1))) hx hb hts hi_X9_step_X9 hown hw (by omega) (isT_0 hT) rfl 2 (by decide) wl_X9_step_1 rfl rfl dX9_step_139 ?_
            refine lv_iconst (v := nI 1) hx hb dX9_step_142 (by decide) ?_
            refine nr_iadd hx hb dX9_step_143 ?_
            obtain ⟨w25, ew25⟩ : ∃ f, f = va_up (va_up tvn 3 3) 1 ((va_up tvn 3 3) 1 + 1) := ⟨_, rfl⟩
            refine nr_put (own := RX9) (C := RX9) (T := TX9) (N := 6) (ty := .int) (v := .int (nI ((va_up tvn 3 3) 1 + 1))) (fs' := [.ref (ad Γ (to + 1)), .int (nI (w25 0)), .int (nI (w25 1)), .int (nI (w25 2)), .int (nI (w25 3)), .int (nI (w25 4) - nI 1)]) hx hb hts hi_X9_step_X9 tyX9 tyX9_ok nmX9 hown hw hj hA hS (by omega) (isT_0 hT) rfl 2 (by decide) wl_X9_step_1 rfl rfl (by decide +kernel) rfl rfl (Nat.le_of_ble_eq_true rfl) (by rw [ew25]; rfl) dX9_step_144 (fun H locs hw hS => ?_)
            subst ew25
            obtain ⟨G24, hw, hT, hf24⟩ := nT_c0 hT (va_up (va_up tvn 3 3) 1 ((va_up tvn 3 3) 1 + 1)) hw
            have hfr := fr_tr hfr hf24 (by omega) (by omega)
            exact nr_retV hx hb hr hlocks hw hS (⟨_, stp_of (x := tvL38 1) (k := 3) g1 (by simp [va_up] <;> omega) (by simp [va_up] <;> omega) (by simp [va_up] <;> omega) (by simp [va_up]) (by simp [va_up] <;> omega) (tk_oth hxl hs9 hf9).1 (by rw [(tk_oth hxl hs9 hf9).2.1]; rw [if_pos h59]) (tk_oth hxl hs9 hf9).2.2, hT, hfr⟩) dX9_step_147
    · refine lv_aload_n hx hb dX9_step_62 rfl (lv_at hl 0 rfl) ?_
      refine lv_iconst (v := nI 0) hx hb dX9_step_63 (by decide) ?_
      obtain ⟨w27, ew27⟩ : ∃ f, f = va_up tvn 3 0 := ⟨_, rfl⟩
      refine nr_put (own := RX9) (C := RX9) (T := TX9) (N := 6) (ty := .int) (v := .int (nI 0)) (fs' := [.ref (ad Γ (to + 1)), .int (nI (w27 0)), .int (nI (w27 1)), .int (nI (w27 2)), .int (nI (w27 3)), .int (nI (w27 4) - nI 1)]) hx hb hts hi_X9_step_X9 tyX9 tyX9_ok nmX9 hown hw hj hA hS (by omega) (isT_0 hT) rfl 4 (by decide) wl_X9_step_6 rfl rfl (by decide +kernel) rfl rfl (Nat.le_of_ble_eq_true rfl) (by rw [ew27]; rfl) dX9_step_64 (fun H locs hw hS => ?_)
      subst ew27
      obtain ⟨G26, hw, hT, hf26⟩ := nT_c0 hT (va_up tvn 3 0) hw
      have hfr := fr_tr hfr hf26 (by omega) (by omega)
      refine lv_goto (tgt := 147) hx hb dX9_step_67 (by decide) ?_
      exact nr_retV hx hb hr hlocks hw hS (⟨_, stp_of (x := tvL38 1) g1 (by simp [va_up] <;> omega) (by simp [va_up] <;> omega) (by simp [va_up] <;> omega) (by simp [va_up]) (by simp [va_up] <;> omega) (tk_end (by omega)).1 (tk_end (by omega)).2.1 (tk_end (by omega)).2.2, hT, hfr⟩) dX9_step_147
  refine nr_lpI (σ := (Nat → va_E) × (Nat → Nat)) 0 (fun x => x.1) (fun x lv => lv = [(0, .ref (ad Γ (to + 0)))] ∧ isT Γ x.1 to by0 x.2 ∧ fr G x.1 (to + 0) (to + 2) ∧ (x.2 0 = tv 0) ∧ (tv 1 ≤ x.2 1) ∧ (x.2 1 ≤ tv 0) ∧ (runL (spP by0) (tv 0) (x.2 1) = runL (spP by0) (tv 0) (tv 1))) (fun x => tv 0 - x.2 1) (G, tv) hw hS (lv_sub hl [0] rfl) ⟨rfl, hT, hfr, rfl, by (try dsimp only); exact (Nat.le_refl _), by (try dsimp only); omega, rfl⟩ ?_
  intro x lv ls H locs hw hS hl hI ih0
  obtain ⟨Gl0, tvL0⟩ := x
  obtain ⟨rfl, hT, hfr, g0, g1, g1b, hrn⟩ := hI
  try dsimp only at hT hfr g0 g1 g1b hrn hw hl ih0
  refine lv_aload_n hx hb dX9_step_0 rfl (lv_at hl 0 rfl) ?_
  refine nr_get (own := RX9) (C := RX9) (T := TX9) (N := 6) (v := .int (nI (tvL0 1))) hx hb hts hi_X9_step_X9 hown hw (by omega) (isT_0 hT) rfl 2 (by decide) wl_X9_step_1 rfl rfl dX9_step_1 ?_
  refine lv_aload_n hx hb dX9_step_4 rfl (lv_at hl 0 rfl) ?_
  refine nr_get (own := RX9) (C := RX9) (T := TX9) (N := 6) (v := .int (nI (tvL0 0))) hx hb hts hi_X9_step_X9 hown hw (by omega) (isT_0 hT) rfl 1 (by decide) wl_X9_step_2 rfl rfl dX9_step_5 ?_
  refine nr_icmp_ge (tgt := 38) hx hb (by omega) (by omega) dX9_step_8 (by decide) (fun c28 => ?_) (fun c28 => ?_)
  · exact ih38 (Gl0, tvL0) _ _ _ _ hw hS (lv_sub hl [0] rfl) ⟨rfl, hT, hfr, by (try dsimp only); omega, by (try dsimp only); omega, by (try dsimp only); unfold tokS; rw [← hrn]; exact runL_stop (by first | exact Or.inl (by omega) | exact Or.inr (by assumption))⟩
  · refine lv_aload_n hx hb dX9_step_11 rfl (lv_at hl 0 rfl) ?_
    refine nr_get (own := RX9) (C := RX9) (T := TX9) (N := 6) (v := .ref (ad Γ (to + 1))) hx hb hts hi_X9_step_X9 hown hw (by omega) (isT_0 hT) rfl 0 (by decide) wl_X9_step_3 rfl rfl dX9_step_12 ?_
    refine lv_aload_n hx hb dX9_step_15 rfl (lv_at hl 0 rfl) ?_
    refine nr_get (own := RX9) (C := RX9) (T := TX9) (N := 6) (v := .int (nI (tvL0 1))) hx hb hts hi_X9_step_X9 hown hw (by omega) (isT_0 hT) rfl 2 (by decide) wl_X9_step_1 rfl rfl dX9_step_16 ?_
    refine nr_bald (x := (by0 (tvL0 1))) hx hb hw (by omega) (isT_1 hT) rfl (by omega) (by decide) dX9_step_19 ?_
    have hL29 := hbt (tvL0 1)
    refine lv_bipush (v := nI 32) hx hb dX9_step_20 (by decide) ?_
    refine nr_icmp_ne (tgt := 38) hx hb (by omega) (by decide) dX9_step_22 (by decide) (fun c30 => ?_) (fun c30 => ?_)
    · exact ih38 (Gl0, tvL0) _ _ _ _ hw hS (lv_sub hl [0] rfl) ⟨rfl, hT, hfr, by (try dsimp only); omega, by (try dsimp only); omega, by (try dsimp only); unfold tokS; rw [← hrn]; exact runL_stop (by first | exact Or.inl (by omega) | exact Or.inr (by assumption))⟩
    · refine lv_aload_n hx hb dX9_step_25 rfl (lv_at hl 0 rfl) ?_
      refine lv_dup hx hb dX9_step_26 rfl ?_
      refine nr_get (own := RX9) (C := RX9) (T := TX9) (N := 6) (v := .int (nI (tvL0 1))) hx hb hts hi_X9_step_X9 hown hw (by omega) (isT_0 hT) rfl 2 (by decide) wl_X9_step_1 rfl rfl dX9_step_27 ?_
      refine lv_iconst (v := nI 1) hx hb dX9_step_30 (by decide) ?_
      refine nr_iadd hx hb dX9_step_31 ?_
      obtain ⟨w32, ew32⟩ : ∃ f, f = va_up tvL0 1 (tvL0 1 + 1) := ⟨_, rfl⟩
      refine nr_put (own := RX9) (C := RX9) (T := TX9) (N := 6) (ty := .int) (v := .int (nI (tvL0 1 + 1))) (fs' := [.ref (ad Γ (to + 1)), .int (nI (w32 0)), .int (nI (w32 1)), .int (nI (w32 2)), .int (nI (w32 3)), .int (nI (w32 4) - nI 1)]) hx hb hts hi_X9_step_X9 tyX9 tyX9_ok nmX9 hown hw hj hA hS (by omega) (isT_0 hT) rfl 2 (by decide) wl_X9_step_1 rfl rfl (by decide +kernel) rfl rfl (Nat.le_of_ble_eq_true rfl) (by rw [ew32]; rfl) dX9_step_32 (fun H locs hw hS => ?_)
      subst ew32
      obtain ⟨G31, hw, hT, hf31⟩ := nT_c0 hT (va_up tvL0 1 (tvL0 1 + 1)) hw
      have hfr := fr_tr hfr hf31 (by omega) (by omega)
      refine lv_goto (tgt := 0) hx hb dX9_step_35 (by decide) ?_
      exact ih0 (G31, va_up tvL0 1 (tvL0 1 + 1)) _ _ _ _ hw hS (lv_sub hl [0] rfl) ⟨rfl, hT, hfr, by (try dsimp only); simp [va_up] <;> omega, by (try dsimp only); rw [va_up_self]; omega, by (try dsimp only); rw [va_up_self]; omega, by (try dsimp only); rw [va_up_self, ← hrn]; exact runL_go (by omega) (by assumption)⟩ (by (try dsimp only); rw [va_up_self]; omega)
