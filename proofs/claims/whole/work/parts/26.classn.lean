section SN
/-- the draft's and the text's state behind k items: (at, valley) -/
def rdS (T : Nat → Nat) (L : Nat) (V0 : Nat → Nat) : Nat → Nat × (Nat → Nat)
  | 0 => (0, V0)
  | k + 1 => (tokE T L (stopX T L (tokS T L (rdS T L V0 k).1)), itV T L (rdS T L V0 k).2 (tokS T L (rdS T L V0 k).1))
/-- where item k begins -/
def rdX (T : Nat → Nat) (L : Nat) (V0 : Nat → Nat) (k : Nat) : Nat := tokS T L (rdS T L V0 k).1
abbrev rdV (T : Nat → Nat) (L : Nat) (V0 : Nat → Nat) (k : Nat) : Nat → Nat := (rdS T L V0 k).2
abbrev cn (V : Nat → Nat) (k : Nat) : Prop := could V k 0 0 0
def rdOK (T : Nat → Nat) (L : Nat) (V0 : Nat → Nat) (k : Nat) : Prop := itOK T L (rdV T L V0 k 0) (rdV T L V0 k 1) (cn (rdV T L V0 k)) (rdX T L V0 k) k
/-- all of a text: behind k items its end, or a fault at p -/
def rdGood (T : Nat → Nat) (L : Nat) (V0 : Nat → Nat) (k : Nat) : Prop := 0 < k ∧ (∀ u, u < k → rdOK T L V0 u) ∧ tokK T L (rdX T L V0 k) = 0
def rdBad (T : Nat → Nat) (L : Nat) (V0 : Nat → Nat) (p : Nat) : Prop := ∃ k, (∀ u, u < k → rdOK T L V0 u) ∧ ¬ (0 < k ∧ tokK T L (rdX T L V0 k) = 0) ∧ itBad T L (rdV T L V0 k 0) (rdV T L V0 k 1) (cn (rdV T L V0 k)) (rdX T L V0 k) k p
theorem stopX_b {T : Nat → Nat} {L x : Nat} (h : x < L) : x < stopX T L x ∧ stopX T L x ≤ L := by
  have h1 := nT_b (T := T) (L := L) (x := x) (by omega)
  have h2 : ∀ q, x < xq T L x (q + 1) ∧ xq T L x (q + 1) ≤ L := fun q => by
    induction q with
    | zero => exact ⟨by have := h1.2.2 h; exact this, h1.2.1⟩
    | succ q ih =>
      have h3 := nT_b (T := T) ih.2
      show x < nT T L (xq T L x (q + 1)) ∧ nT T L (xq T L x (q + 1)) ≤ L
      omega
  exact h2 _
theorem rdS_b {T : Nat → Nat} {L : Nat} {V0 : Nat → Nat} : ∀ k, (∀ u, u < k → rdOK T L V0 u) → k ≤ (rdS T L V0 k).1 ∧ (rdS T L V0 k).1 ≤ L ∧ rdX T L V0 k ≤ L
  | 0, _ => ⟨Nat.le_refl _, Nat.zero_le _, (tokS_b (Nat.zero_le _)).2⟩
  | k + 1, h => by
    obtain ⟨h1, h2, h3⟩ := rdS_b k (fun u hu => h u (by omega))
    have hk := (h k (by omega)).1
    have hx : rdX T L V0 k < L := by
      rcases Nat.lt_or_ge (rdX T L V0 k) L with q | q
      · exact q
      · rw [(tk_end q).2.1] at hk; omega
    have h4 := tokS_b (T := T) h2
    have h5 := stopX_b (T := T) hx
    have h6 := tokE_b (T := T) h5.2
    have e : (rdS T L V0 (k + 1)).1 = tokE T L (stopX T L (rdX T L V0 k)) := rfl
    have h7 : (rdS T L V0 (k + 1)).1 ≤ L := by rw [e]; exact h6.2.1
    refine ⟨?_, h7, (tokS_b h7).2⟩
    rw [e]
    have : (rdS T L V0 k).1 ≤ rdX T L V0 k := h4.1
    omega
theorem itV_good {T : Nat → Nat} {L : Nat} {V : Nat → Nat} {x its : Nat} (hG : vG V) (h : itOK T L (V 0) (V 1) (cn V) x its) : vG (itV T L V x) := by
  obtain ⟨h1, h2, h3, h4⟩ := h
  have f1 : ∀ wd, vlK T L x = wd + 1 → ∀ q, q < nmF wd → fitP (V 0) (V 1) (cn V) (tokV T L (xq T L x 2)) wd q (tokV T L (xq T L x (q + 1))) := fun wd e q hq => by
    have := h3 q (by rw [e]; exact hq)
    rw [e] at this
    exact this.2
  unfold itV
  split
  · rename_i e
    have := f1 1 e 0 (by decide)
    unfold fitP at this
    rw [if_pos rfl] at this
    exact vG_per hG this (by unfold cstP at h2; omega)
  · split
    · rename_i e0 e
      have a0 := f1 2 e 0 (by decide)
      have a1 := f1 2 e 1 (by decide)
      have a2 := f1 2 e 2 (by decide)
      have a3 := f1 2 e 3 (by decide)
      simp [fitP] at a0 a1 a2 a3
      exact vG_lay hG a0 a1 a2.1 a3.2 (by unfold cstP at h2; omega)
    · split
      · rename_i e0 e1 e
        have a0 := f1 3 e 0 (by decide)
        unfold fitP at a0
        rw [if_neg (by decide), if_neg (by decide), if_pos rfl] at a0
        refine vG_stk hG a0.1 (fun hb => a0.2.1 ?_)
        rw [Nat.or_zero]
        exact hb
      · split
        · exact vG_pas hG (by have := hG.2.1; omega)
        · exact hG
theorem rdV_good {T : Nat → Nat} {L : Nat} {V0 : Nat → Nat} (hG : vG V0) : ∀ k, (∀ u, u < k → rdOK T L V0 u) → vG (rdV T L V0 k)
  | 0, _ => hG
  | k + 1, h => itV_good (rdV_good hG k (fun u hu => h u (by omega))) (h k (by omega))
theorem car_it {T : Nat → Nat} {L : Nat} {V gv : Nat → Nat} {x its : Nat} (h2 : cstP (V 0) (V 1) (vlK T L x) its) (hg : ∀ u, u < nmF (vlK T L x - 1) → gv u = tokV T L (xq T L x (u + 1))) : carV V gv (vlK T L x - 1) = itV T L V x := by
  unfold cstP at h2
  unfold carV itV
  rcases (show vlK T L x = 1 ∨ vlK T L x = 2 ∨ vlK T L x = 3 ∨ vlK T L x = 4 ∨ vlK T L x = 5 by omega) with e | e | e | e | e
  · rw [e]; rfl
  · rw [e] at hg ⊢
    have g0 := hg 0 (by decide)
    rw [if_pos rfl, if_pos rfl, g0]
  · rw [e] at hg ⊢
    have g0 := hg 0 (by decide)
    have g1 := hg 1 (by decide)
    have g2 := hg 2 (by decide)
    have g3 := hg 3 (by decide)
    rw [if_neg (by decide), if_pos rfl, if_neg (by decide), if_pos rfl, g0, g1, g2, g3]
  · rw [e] at hg ⊢
    have g0 := hg 0 (by decide)
    rw [if_neg (by decide), if_neg (by decide), if_pos rfl, if_neg (by decide), if_neg (by decide), if_pos rfl, g0]
  · rw [e] at hg ⊢
    have g0 := hg 0 (by decide)
    rw [if_neg (by decide), if_neg (by decide), if_neg (by decide), if_pos rfl, if_neg (by decide), if_neg (by decide), if_neg (by decide), if_pos rfl, g0]
theorem car_hyp {T : Nat → Nat} {L : Nat} {V gv : Nat → Nat} {x its : Nat} (hG : vG V) (h2 : cstP (V 0) (V 1) (vlK T L x) its) (h3 : ∀ q, q < nmF (vlK T L x - 1) → okQ T L (V 0) (V 1) (cn V) (vlK T L x - 1) x q) (hg : ∀ u, u < nmF (vlK T L x - 1) → gv u = tokV T L (xq T L x (u + 1))) :
    (vlK T L x - 1 = 1 → V 0 < 6) ∧ (vlK T L x - 1 = 2 → V 1 < 8) ∧ (vlK T L x - 1 = 3 → gv 0 < 8 ∧ V (6 + V (36 + gv 0)) ≤ 1998) ∧ (vlK T L x - 1 = 4 → V 21 ≤ 999) := by
  unfold cstP at h2
  refine ⟨fun e => by omega, fun e => by omega, fun e => ?_, fun _ => hG.2.1⟩
  have a := (h3 0 (by rw [e]; decide)).2
  have g := hg 0 (by rw [e]; decide)
  rw [e] at a
  unfold fitP at a
  rw [if_neg (by decide), if_neg (by decide), if_pos rfl] at a
  have h8 := hG.1.2.2.1
  rw [g]
  have h9 := vG_r hG (hG.2.2.2.1 _ a.1).1
  omega
theorem fit_wd {P W g1 wd q v : Nat} {can : Nat → Prop} (h : ¬ (wd = 2 ∧ q = 2)) (g2 : Nat) : fitP P W can g1 wd q v ↔ fitP P W can g2 wd q v := by
  by_cases z : q = 2
  · unfold fitP
    by_cases y : wd = 1
    · rw [if_pos y, if_pos y]
    · rw [if_neg y, if_neg y, if_neg (fun e => h ⟨e, z⟩), if_neg (fun e => h ⟨e, z⟩)]
  · exact fit_g1 (fun e => absurd e z)
end SN
theorem up_le2 {V : Nat → Nat} {c : Nat} (h : ∀ j, V j < c) {k v : Nat} (hv : v < c) (j : Nat) : va_up V k v j < c := by
  unfold va_up; split
  · exact hv
  · exact h j
theorem wl_X5_readsNumbers_1 : Cond.fieldLink RX5 33 "BellForgiven$Text" "token" "I" ∈ wsX5_readsNumbers := List.mem_of_getElem? (i := 1) rfl
theorem wl_X5_readsNumbers_2 : Cond.fieldLink RX5 37 "BellForgiven$Text" "value" "I" ∈ wsX5_readsNumbers := List.mem_of_getElem? (i := 2) rfl
theorem wl_X5_readsNumbers_3 : Cond.fieldLink RX5 18 "BellForgiven$Reader" "given" "[I" ∈ wsX5_readsNumbers := List.mem_of_getElem? (i := 3) rfl
theorem hi_X5_readsNumbers_X9 : ∀ w ∈ u_ws RX9 TX9 6, w ∈ wsX5_readsNumbers := fun w h => (List.mem_cons_of_mem _ (List.mem_append_left _ (List.mem_append_left _ (List.mem_append_right _ h))))
theorem hi_X5_readsNumbers_X5 : ∀ w ∈ u_ws RX5 TX5 2, w ∈ wsX5_readsNumbers := fun w h => (List.mem_cons_of_mem _ (List.mem_append_left _ (List.mem_append_right _ h)))
set_option maxHeartbeats 4000000 in
set_option maxRecDepth 100000 in
theorem c_X5_readsNumbers (l : Launch) (Γ : Gam) (n : Nat) (G : Nat → va_E) (to : Nat) (by0 tv gv V : Nat → Nat) (hT : isT Γ G to by0 tv) (hRd : isRd Γ G (to + 2) gv) (hV : isV Γ G (to + 4) V) (hn_to : to + 20 ≤ n) (hj : winj Γ n) (wd : Nat) (hbt : ∀ j, by0 j ≤ 127) (hL : tv 0 ≤ 150) (hI : vI V) (hgv : ∀ j, gv j < 2000) (xw : Nat) (hxL : xw ≤ tv 0) (hx9 : tv 1 = tokE by0 (tv 0) xw) (hwd : wd < 5) (ak av : Nat → Nat) (fr0 : Option Nat)  : Met l yX5_readsNumbers wsX5_readsNumbers ({ frames := 7, cells := 0, slots := 0, locals := 149 }) (va_Pc [.ref (ad Γ (to + 2)), .ref (ad Γ (to + 0)), .int (nI wd)] (fun U => hw Γ n G U U.heap ∧ kSt (wA Γ n) ak av fr0 U U.heap)) (wQi Γ n (fun z G2 => ((∀ q, q < nmF wd → okQ by0 (tv 0) (V 0) (V 1) (cn V) wd xw q) ∧ (z = nI 1) ∧ ∃ tv2 : Nat → Nat, ∃ gv2 : Nat → Nat, (tv2 0 = tv 0 ∧ tv2 1 = tokE by0 (tv 0) (xq by0 (tv 0) xw (nmF wd)) ∧ (∀ u, u < nmF wd → gv2 u = tokV by0 (tv 0) (xq by0 (tv 0) xw (u + 1))) ∧ (∀ j, gv2 j < 2000)) ∧ isT Γ G2 to by0 tv2 ∧ isRd Γ G2 (to + 2) gv2 ∧ fr G G2 (to + 0) (to + 4)) ∨ ((z = nI 0) ∧ ∃ tv2 : Nat → Nat, ∃ gv2 : Nat → Nat, (tv2 0 = tv 0 ∧ (∃ q, q < nmF wd ∧ (∀ u, u < q → okQ by0 (tv 0) (V 0) (V 1) (cn V) wd xw u) ∧ ¬ okQ by0 (tv 0) (V 0) (V 1) (cn V) wd xw q ∧ tv2 2 = xq by0 (tv 0) xw (q + 1)) ∧ (∀ j, gv2 j < 2000)) ∧ isT Γ G2 to by0 tv2 ∧ isRd Γ G2 (to + 2) gv2 ∧ fr G G2 (to + 0) (to + 4)))) 0 0 (wA Γ n) := by
  refine Met.ofW (cc := cX5_readsNumbers) (maxL := 4) (ret := (some .boolean)) (by decide) rfl ?_
  intro p e s m args below meth c s₁ B hml hv
  obtain ⟨rfl, hw, hE⟩ := hv
  have hx := B.exec
  have hb := B.bytes
  have hr := B.returns
  have hts := atoms_spec (ws := wsX5_readsNumbers) B.pre
  have hown : s.vm.findClass RX5 = some m.cls := findClass_of_methodNamed B.named
  have hlocks := B.notSynchronized
  have hS : va_S (wA Γ n) s.heap s.heap [] := va_S.rf
  have hA : ∀ q, wA Γ n q → wA Γ n q := fun _ h => h
  have hl := lv_entry ([.ref (ad Γ (to + 2)), .ref (ad Γ (to + 0)), .int (nI wd)]) (n := 4) (Nat.le_of_ble_eq_true rfl)
  rw [lg_entry_eq]
  generalize (lg_sl ([.ref (ad Γ (to + 2)), .ref (ad Γ (to + 0)), .int (nI wd)]) ++ List.replicate (4 - (lg_sl ([.ref (ad Γ (to + 2)), .ref (ad Γ (to + 0)), .int (nI wd)])).length) Slot.unset).toArray = ls at hl ⊢
  have hl : lv_has ls 4 [(0, .ref (ad Γ (to + 2))), (1, .ref (ad Γ (to + 0))), (2, .int (nI wd))] := hl
  have hfr := fr_rf G (to + 0) (to + 4)
  have hB := hI.1
  have hB0 := hI.2.1
  have hB1 := hI.2.2.1
  have hB20 := hI.2.2.2.2.2.2.2.2.2
  have hBz2 := hI.2.2.2.1
  have hBz3 := hI.2.2.2.2.1
  have hBz4 := hI.2.2.2.2.2.1
  have hBz5 := hI.2.2.2.2.2.2.1
  have hBd := hB 21
  have hnm : nmF wd ≤ 4 := by unfold nmF; (repeat' split) <;> omega
  have hnm2 : 0 < nmF wd → 1 ≤ wd := fun h9 => by rcases Nat.eq_zero_or_pos wd with z | z; (rw [z] at h9; exact absurd h9 (by decide)); exact z
  refine lv_iconst (v := nI 0) hx hb dX5_readsNumbers_0 (by decide) ?_
  refine lv_istore_n (lv' := [(3, .int (nI 0)), (0, .ref (ad Γ (to + 2))), (1, .ref (ad Γ (to + 0))), (2, .int (nI wd))]) hx hb dX5_readsNumbers_1 rfl hl (by decide) rfl (fun ls hl => ?_)
  refine nr_lpI (σ := (Nat → va_E) × Nat × (Nat → Nat) × (Nat → Nat)) 2 (fun x => x.1) (fun x lv => lv = [(0, .ref (ad Γ (to + 2))), (1, .ref (ad Γ (to + 0))), (2, .int (nI wd)), (3, .int (nI x.2.1))] ∧ isT Γ x.1 to by0 x.2.2.1 ∧ isRd Γ x.1 (to + 2) x.2.2.2 ∧ isV Γ x.1 (to + 4) V ∧ fr G x.1 (to + 0) (to + 4) ∧ (x.2.1 ≤ nmF wd) ∧ (x.2.2.1 0 = tv 0) ∧ (x.2.2.1 1 = tokE by0 (tv 0) (xq by0 (tv 0) xw x.2.1)) ∧ (∀ u, u < x.2.1 → okQ by0 (tv 0) (V 0) (V 1) (cn V) wd xw u) ∧ (∀ u, u < x.2.1 → x.2.2.2 u = tokV by0 (tv 0) (xq by0 (tv 0) xw (u + 1))) ∧ (∀ j, x.2.2.2 j < 2000)) (fun x => nmF wd - x.2.1) (G, 0, tv, gv) hw hS (lv_sub hl [1, 2, 3, 0] rfl) ⟨rfl, hT, hRd, hV, hfr, Nat.zero_le _, rfl, by (try dsimp only); exact (hx9), by (try dsimp only); exact (fun u hu => absurd hu (Nat.not_lt_zero u)), by (try dsimp only); exact (fun u hu => absurd hu (Nat.not_lt_zero u)), by (try dsimp only); exact (hgv)⟩ ?_
  intro x lv ls H locs hw hS hl hI ih2
  obtain ⟨Gl2, q, tvL2, gvL2⟩ := x
  obtain ⟨rfl, hT, hRd, hV, hfr, hq9, h0, h1, hok, hgq, hgv2⟩ := hI
  try dsimp only at hT hRd hV hfr hq9 h0 h1 hok hgq hgv2 hw hl ih2
  have hxb := xq_b (T := by0) hxL (q + 1)
  have hxb0 := xq_b (T := by0) hxL q
  have heb := tokE_b (T := by0) hxb0.2
  have htv9 := tokV_le by0 (tv 0) (xq by0 (tv 0) xw (q + 1))
  refine lv_iload_n hx hb dX5_readsNumbers_2 rfl (lv_at hl 3 rfl) ?_
  refine lv_iload_n hx hb dX5_readsNumbers_3 rfl (lv_at hl 2 rfl) ?_
  refine nr_goS (nr_runS (As := [.int (nI wd)]) ⟨hx, hb, hml, hown, hts⟩ hw (c_X5_numbersOf l Γ n Gl2 wd (by omega)) (va_cwS 1 hts gX5_readsNumbers_X5_numbersOf rfl rfl rfl (by decide +kernel) ⟨Nat.le_of_ble_eq_true rfl, Nat.le_of_ble_eq_true rfl⟩) rfl hl.1 rfl (Nat.le_of_ble_eq_true rfl) dX5_readsNumbers_4 ⟨Nat.zero_le _, Nat.zero_le _⟩) (fun r1 hr1 => ?_)
  obtain rfl : r1 = (nI (nmF wd)) := hr1
  refine nr_icmp_ge (tgt := 53) hx hb (by omega) (by omega) dX5_readsNumbers_7 (by decide) (fun c2 => ?_) (fun c2 => ?_)
  · refine lv_iconst (v := nI 1) hx hb dX5_readsNumbers_53 (by decide) ?_
    exact nr_retIB hx hb hr hlocks (by decide) hw hS (Or.inl ⟨fun u hu => hok u (by omega), rfl, _, _, ⟨h0, by rw [h1, show q = nmF wd by omega], fun u hu => hgq u (by omega), hgv2⟩, hT, hRd, hfr⟩) dX5_readsNumbers_54
  · refine lv_aload_n hx hb dX5_readsNumbers_10 rfl (lv_at hl 1 rfl) ?_
    refine nr_goV (nk_runV (As := []) (C := RX9) (T := TX9) (N := 6) ⟨hx, hb, hml, hown, hts⟩ hw hE hS (by omega) (isT_0 hT) rfl (c_X9_step l Γ n Gl2 to by0 tvL2 hT (by omega) hj hbt (by omega) (by omega) ak av fr0) (cwV 0 hts gX5_readsNumbers_X9_step rfl rfl rfl (by decide +kernel) ⟨Nat.le_of_ble_eq_true rfl, Nat.le_of_ble_eq_true rfl⟩) rfl hl.1 rfl (Nat.le_of_ble_eq_true rfl) dX5_readsNumbers_11 ⟨Nat.zero_le _, Nat.zero_le _⟩) hw hA hS (fun G3 H locs hp hw hS => ?_)
    obtain ⟨tv3, hx3, hT, hf3⟩ := hp
    have hRd := isRd_fr hRd hf3 (by omega)
    have hV := isV_fr hV hf3 (by omega)
    have hfr := fr_tr hfr hf3 (by omega) (by omega)
    have hT : isT Γ G3 to by0 tv3 := hT
    obtain ⟨hs0, hs2, hs1, hs3, hs4⟩ := stp_xq hx3 h0 h1
    have hv9 := vlK_le by0 (tv 0) (xq by0 (tv 0) xw (q + 1))
    have hk9 := tokK_le by0 (tv 0) (xq by0 (tv 0) xw (q + 1))
    refine lv_aload_n hx hb dX5_readsNumbers_14 rfl (lv_at hl 1 rfl) ?_
    refine nr_get (own := RX5) (C := RX9) (T := TX9) (N := 6) (v := .int (nI (tv3 3))) hx hb hts hi_X5_readsNumbers_X9 hown hw (by omega) (isT_0 hT) rfl 4 (by decide) wl_X5_readsNumbers_1 rfl rfl dX5_readsNumbers_15 ?_
    refine lv_iconst (v := nI 2) hx hb dX5_readsNumbers_18 (by decide) ?_
    refine nr_icmp_ne (tgt := 35) hx hb (by omega) (by decide) dX5_readsNumbers_19 (by decide) (fun c4 => ?_) (fun c4 => ?_)
    · have hbad : ¬ okQ by0 (tv 0) (V 0) (V 1) (cn V) wd xw q := by first | exact hbad | exact fun z => absurd z.1 (by omega)
      refine lv_iconst (v := nI 0) hx hb dX5_readsNumbers_35 (by decide) ?_
      exact nr_retIB hx hb hr hlocks (by decide) hw hS (Or.inr (⟨rfl, _, _, ⟨hs0, ⟨q, by omega, hok, hbad, hs2⟩, hgv2⟩, hT, hRd, hfr⟩)) dX5_readsNumbers_36
    · have hk2 : tokK by0 (tv 0) (xq by0 (tv 0) xw (q + 1)) = 2 := by omega
      refine lv_aload_n hx hb dX5_readsNumbers_22 rfl (lv_at hl 0 rfl) ?_
      refine lv_iload_n hx hb dX5_readsNumbers_23 rfl (lv_at hl 2 rfl) ?_
      refine lv_iload_n hx hb dX5_readsNumbers_24 rfl (lv_at hl 3 rfl) ?_
      refine lv_aload_n hx hb dX5_readsNumbers_25 rfl (lv_at hl 1 rfl) ?_
      refine nr_get (own := RX5) (C := RX9) (T := TX9) (N := 6) (v := .int (nI (tv3 4) - nI 1)) hx hb hts hi_X5_readsNumbers_X9 hown hw (by omega) (isT_0 hT) rfl 5 (by decide) wl_X5_readsNumbers_2 rfl rfl dX5_readsNumbers_26 ?_
      refine nr_top (show nI (tv3 4) - nI 1 = nI (tokV by0 (tv 0) (xq by0 (tv 0) xw (q + 1))) from (by rw [hs4, vlK_num hk2]; rw [pk_sub (by omega), Nat.add_sub_cancel])) ?_
      refine nr_goB (P := fitP (V 0) (V 1) (fun k => could V k 0 0 0) (gvL2 1) wd q (tokV by0 (tv 0) (xq by0 (tv 0) xw (q + 1)))) (nr_runV (As := [.int (nI wd), .int (nI q), .int (nI (tokV by0 (tv 0) (xq by0 (tv 0) xw (q + 1))))]) (C := RX5) (T := TX5) (N := 2) ⟨hx, hb, hml, hown, hts⟩ hw (by omega) (isRd_0 hRd) rfl (c_X5_fits l Γ n G3 to gvL2 V hRd hV (by omega) wd q (tokV by0 (tv 0) (xq by0 (tv 0) xw (q + 1))) ⟨hnm2 (by omega), by omega⟩ (by omega) (by omega) hI (fun j => Nat.lt_trans (hgv2 j) (by decide))) (cwV 3 hts gX5_readsNumbers_X5_fits rfl rfl rfl (by decide +kernel) ⟨Nat.le_of_ble_eq_true rfl, Nat.le_of_ble_eq_true rfl⟩) rfl hl.1 rfl (Nat.le_of_ble_eq_true rfl) dX5_readsNumbers_29 ⟨Nat.zero_le _, Nat.zero_le _⟩) (fun b5 => ?_) (fun b5 => ?_)
      · have hfit : fitP (V 0) (V 1) (cn V) (tokV by0 (tv 0) (xq by0 (tv 0) xw 2)) wd q (tokV by0 (tv 0) (xq by0 (tv 0) xw (q + 1))) := by
          by_cases z : q = 2
          · rw [show tokV by0 (tv 0) (xq by0 (tv 0) xw 2) = gvL2 1 from (hgq 1 (by omega)).symm]; exact b5
          · exact (fit_g1 (fun y => absurd y z)).mp b5
        refine nr_if_ne (tgt := 37) hx hb (by decide) dX5_readsNumbers_32 (by decide) (fun c6 => ?_) (fun c6 => absurd c6 (by decide))
        refine lv_aload_n hx hb dX5_readsNumbers_37 rfl (lv_at hl 0 rfl) ?_
        refine nr_get (own := RX5) (C := RX5) (T := TX5) (N := 2) (v := .ref (ad Γ (to + 3))) hx hb hts hi_X5_readsNumbers_X5 hown hw (by omega) (isRd_0 hRd) rfl 1 (by decide) wl_X5_readsNumbers_3 rfl rfl dX5_readsNumbers_38 ?_
        refine lv_iload_n hx hb dX5_readsNumbers_41 rfl (lv_at hl 3 rfl) ?_
        refine lv_aload_n hx hb dX5_readsNumbers_42 rfl (lv_at hl 1 rfl) ?_
        refine nr_get (own := RX5) (C := RX9) (T := TX9) (N := 6) (v := .int (nI (tv3 4) - nI 1)) hx hb hts hi_X5_readsNumbers_X9 hown hw (by omega) (isT_0 hT) rfl 5 (by decide) wl_X5_readsNumbers_2 rfl rfl dX5_readsNumbers_43 ?_
        refine nr_top (show nI (tv3 4) - nI 1 = nI (tokV by0 (tv 0) (xq by0 (tv 0) xw (q + 1))) from (by rw [hs4, vlK_num hk2]; rw [pk_sub (by omega), Nat.add_sub_cancel])) ?_
        refine nr_iast (k := q) (v := tokV by0 (tv 0) (xq by0 (tv 0) xw (q + 1))) hx hb hw hj hA hS (by omega) (isRd_1 hRd) (by omega) (by decide) dX5_readsNumbers_46 (fun H locs hw hS => ?_)
        obtain ⟨G7, hw, hRd, hf7⟩ := nRd_c1 hRd (va_up gvL2 q (tokV by0 (tv 0) (xq by0 (tv 0) xw (q + 1)))) hw
        have hT := isT_fr hT hf7 (by omega)
        have hV := isV_fr hV hf7 (by omega)
        have hfr := fr_tr hfr hf7 (by omega) (by omega)
        refine nr_inc (d := 1) (k := 3) (lv' := [(3, .int (nI (q + 1))), (0, .ref (ad Γ (to + 2))), (1, .ref (ad Γ (to + 0))), (2, .int (nI wd))]) hx hb dX5_readsNumbers_47 hl rfl (by decide) (by decide) rfl (fun ls hl => ?_)
        refine lv_goto (tgt := 2) hx hb dX5_readsNumbers_50 (by decide) ?_
        exact ih2 (G7, q + 1, tv3, va_up gvL2 q (tokV by0 (tv 0) (xq by0 (tv 0) xw (q + 1)))) _ _ _ _ hw hS (lv_sub hl [1, 2, 3, 0] rfl) ⟨rfl, hT, hRd, hV, hfr, by (try dsimp only); omega, by (try dsimp only); omega, by (try dsimp only); exact (hs1), by (try dsimp only); exact (fun u hu => by
          rcases Nat.lt_or_eq_of_le (Nat.le_of_lt_succ hu) with z | z
          · exact hok u z
          · rw [z]; exact ⟨hk2, hfit⟩), by (try dsimp only); exact (fun u hu => by
          rcases Nat.lt_or_eq_of_le (Nat.le_of_lt_succ hu) with z | z
          · rw [va_up_ne _ _ (by omega)]; exact hgq u z
          · rw [z, va_up_self]), by (try dsimp only); exact (up_le2 hgv2 (by omega))⟩ (by (try dsimp only); omega)
      · have hbad : ¬ okQ by0 (tv 0) (V 0) (V 1) (cn V) wd xw q := fun z => b5 (by
          by_cases y : q = 2
          · rw [show gvL2 1 = tokV by0 (tv 0) (xq by0 (tv 0) xw 2) from hgq 1 (by omega)]; exact z.2
          · exact (fit_g1 (fun w9 => absurd w9 y)).mp z.2)
        refine nr_if_ne (tgt := 37) hx hb (by decide) dX5_readsNumbers_32 (by decide) (fun c8 => absurd c8 (by decide)) (fun c8 => ?_)
        have hbad : ¬ okQ by0 (tv 0) (V 0) (V 1) (cn V) wd xw q := by first | exact hbad | exact fun z => absurd z.1 (by omega)
        refine lv_iconst (v := nI 0) hx hb dX5_readsNumbers_35 (by decide) ?_
        exact nr_retIB hx hb hr hlocks (by decide) hw hS (Or.inr (⟨rfl, _, _, ⟨hs0, ⟨q, by omega, hok, hbad, hs2⟩, hgv2⟩, hT, hRd, hfr⟩)) dX5_readsNumbers_36
