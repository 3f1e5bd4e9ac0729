section SU
variable {p : Program} {l : Launch} {e : Env} {R : Room} {s : State} {m : MethodId} {args : Array Value} {below : List Frame} {meth : Method} {c : Code} {H : Heap} {locs : List Loc} {cells slots : Nat} {Q : State → Prop}
variable {cc : ByteArray} {pc : Nat} {ls : Array Slot} {rest st0 : List Value} {Γ : Gam} {n : Nat} {G : Nat → va_E}
def wQl (Γ : Gam) (n : Nat) (post : Int64 → (Nat → va_E) → Prop) : Array Value → State → Outcome → State → Prop := va_Ql post (fun G' t => va_P Γ.1 vwCl (wld Γ n G') t.heap) (wA Γ n)
theorem nr_goIL {post : Int64 → (Nat → va_E) → Prop} {a : Array Value} {A : Nat → Prop} {H0 : Heap} (hr : va_Run p l e R s m args below meth c H locs cells slots 0 0 (F0 m pc ls st0) rest (wQl Γ n post a) (wA Γ n)) (h : hw Γ n G s H) (hA : ∀ q, wA Γ n q → A q) (hS : va_S A H0 H locs)
    (kk : ∀ (r : Int64) (G' : Nat → va_E) (H1 : Heap) (locs1 : List Loc), post r G' → hw Γ n G' s H1 → va_S A H0 H1 locs1 → W p l e R s m args below meth c H1 locs1 cells slots Q (F0 m (pc + 3) ls (.long r :: rest))) : W p l e R s m args below meth c H locs cells slots Q (F0 m pc ls st0) :=
  va_calll hr hS (fun q _ hq => hA q hq) (fun q hq => hA q hq) (fun r u t H1 locs1 ht _ hp hB _ _ hS1 => kk r u H1 locs1 hp (hw_put h (by rw [← ht]; exact hB)) hS1)
theorem nr_retIL {post : Int64 → (Nat → va_E) → Prop} {v : Int64} (hx : p.tables.exec = Jvm.exec) (hb : c.code = cc) (hr : meth.sig.returnType = some .long) (hlocks : meth.locks = false) (h : hw Γ n G s H) (hS : va_S (wA Γ n) s.heap H locs) (hq : post v G) (hdg : decode cc pc = .ok (.lreturn, 1)) : W p l e R s m args below meth c H locs cells slots (MQ below (wQl Γ n post) args s cells slots (wA Γ n)) (F0 m pc ls [.long v]) :=
  W.lret hx hb hr (fun t ht _ => ⟨⟨v, G, rfl, hq, by show va_P _ _ _ t.heap; rw [ht]; exact h.1⟩, hS.F ht⟩) hS.2.2 hdg hlocks
theorem nr_m1 (w : Nat) : nI w + Int32.ofInt (-1) = nI w - nI 1 := by
  rw [Int32.sub_eq_add_neg]
  rfl
theorem nr_m1n {c : Nat} (hc : c < 1073741824) : nI c - nI 1 < 0 ↔ c = 0 := by
  constructor
  · intro h
    rcases Nat.eq_zero_or_pos c with q | q
    · exact q
    · rw [pk_sub q] at h
      exact absurd h (nI_pos (by omega))
  · rintro rfl
    decide
end SU
section SU2
def fracI (iv : Nat → Nat) (a b : Nat) : Nat → Nat := va_up (va_up iv 5 (a / Nat.gcd a b)) 6 (b / Nat.gcd a b)
theorem lg_cmp0 {b : Nat} (hb : b < 9223372036854775808) : lg_cmp (lN b) (lN 0) = 0 ↔ b = 0 := by
  rw [lg_cmp_eq]
  exact pk_lEQ hb (by decide)
def wholeF (ws : Nat) : Nat → Nat
  | 0 => 1
  | j + 1 => wholeF ws j * (if bt ws j then 10 else 1)
theorem wholeF_le (ws : Nat) : ∀ m, 1 ≤ wholeF ws m ∧ wholeF ws m ≤ 10 ^ m
  | 0 => ⟨Nat.le_refl _, Nat.le_refl _⟩
  | j + 1 => by
    obtain ⟨h1, h2⟩ := wholeF_le ws j
    unfold wholeF
    rw [Nat.pow_succ]
    split
    · omega
    · omega
theorem waysF_le {ws si c : Nat} (hc : c ≤ 10) : ∀ m, waysF ws si c m ≤ 10 ^ m
  | 0 => Nat.le_refl _
  | j + 1 => by
    have h2 := waysF_le (ws := ws) (si := si) hc j
    unfold waysF
    rw [Nat.pow_succ]
    split
    · exact Nat.mul_le_mul h2 (by split <;> omega)
    · omega
def handF (X : Nat → Nat) (ws si : Nat) : Nat → Nat → Nat
  | 0 => X
  | j + 1 => if bt ws j ∧ canP (handF X ws si j) j then offR (handF X ws si j) j (if bt si j then 0 else 1) else handF X ws si j
theorem aI_hand {X : Nat → Nat} (h : aI X) (ws si : Nat) : ∀ m, m ≤ 8 → aI (handF X ws si m)
  | 0, _ => h
  | j + 1, hm => by
    have ih := aI_hand h ws si j (by omega)
    unfold handF
    split
    · exact aI_off ih (by omega)
    · exact ih
theorem hand_tail {X : Nat → Nat} (h : aI X) (ws si : Nat) {j : Nat} (hj : 60 ≤ j) : ∀ m, m ≤ 8 → handF X ws si m j = X j
  | 0, _ => rfl
  | q + 1, hm => by
    have ih := hand_tail h ws si hj q (by omega)
    have ha := aI_hand h ws si q (by omega)
    unfold handF
    split
    · rw [offR_o (ha.2.2.2.1 q (by omega)) (by omega) (by omega)]; exact ih
    · exact ih
theorem cpy_tail {X Y R : Nat → Nat} (h : ∀ j, 60 ≤ j → Y j = X j) : cpyR Y R 60 = cpyR X R 60 := by
  funext j
  unfold cpyR
  by_cases q : j < 60
  · rw [if_pos q, if_pos q]
  · rw [if_neg q, if_neg q]; exact h j (by omega)
def sumF (X : Nat → Nat) (ws k c m : Nat) : Nat → Nat
  | 0 => 0
  | si + 1 => if si &&& (ws ^^^ 4294967295) = 0 ∧ canP (handF X ws si m) k then sumF X ws k c m si + waysF ws si c m else sumF X ws k c m si
theorem sumF_le {X : Nat → Nat} {ws k c m : Nat} (hc : c ≤ 10) : ∀ q, sumF X ws k c m q ≤ q * 10 ^ m
  | 0 => Nat.zero_le _
  | q + 1 => by
    have ih := sumF_le (X := X) (ws := ws) (k := k) (m := m) hc q
    have h2 := waysF_le (ws := ws) (si := q) hc m
    unfold sumF
    rw [Nat.succ_mul]
    split <;> omega
theorem p10_le {m : Nat} (h : m ≤ 8) : 10 ^ m ≤ 100000000 := show 10 ^ m ≤ 10 ^ 8 from Nat.pow_le_pow_right (by omega) h
def lfJ (ca F : Nat → Nat) (k wo w : Nat) : Nat → Nat
  | 0 => if bt (ca w) k then 1 else 1000000
  | j + 1 => if 1 < lfJ ca F k wo w j ∧ ¬ j = k ∧ bt (ca w) j ∧ ¬ bt wo j then min (lfJ ca F k wo w j) (1 + F (w ||| 2 ^ j)) else lfJ ca F k wo w j
theorem lfJ_s (ca F : Nat → Nat) (k wo w j : Nat) : lfJ ca F k wo w (j + 1) = if 1 < lfJ ca F k wo w j ∧ ¬ j = k ∧ bt (ca w) j ∧ ¬ bt wo j then min (lfJ ca F k wo w j) (1 + F (w ||| 2 ^ j)) else lfJ ca F k wo w j := rfl
theorem lfJ_stop {ca F : Nat → Nat} {k wo w j : Nat} (h : lfJ ca F k wo w j ≤ 1) : ∀ d, lfJ ca F k wo w (j + d) = lfJ ca F k wo w j
  | 0 => rfl
  | d + 1 => by
    rw [← Nat.add_assoc, lfJ_s, lfJ_stop h d, if_neg (by omega)]
theorem lfJ_le (ca F : Nat → Nat) (k wo w : Nat) : ∀ j, lfJ ca F k wo w j ≤ 1000000
  | 0 => by unfold lfJ; split <;> decide
  | j + 1 => by
    have h := lfJ_le ca F k wo w j
    unfold lfJ; split
    · omega
    · exact h
theorem lfJ_cong {ca F F2 : Nat → Nat} {k wo w m : Nat} (hc : ∀ j, j < m → bt (ca w) j → F (w ||| 2 ^ j) = F2 (w ||| 2 ^ j)) : ∀ j, j ≤ m → lfJ ca F k wo w j = lfJ ca F2 k wo w j
  | 0, _ => rfl
  | j + 1, hm => by
    have ih := lfJ_cong (k := k) (wo := wo) hc j (by omega)
    rw [lfJ_s, lfJ_s, ih]
    by_cases q : bt (ca w) j
    · rw [hc j (by omega) q]
    · rw [if_neg (fun z => q z.2.2.1), if_neg (fun z => q z.2.2.1)]
theorem or_up {w j m : Nat} (hw : w < 2 ^ m) (hj : j < m) (hb : ¬ bt w j) : w < w ||| 2 ^ j ∧ w ||| 2 ^ j < 2 ^ m := by
  refine ⟨?_, Nat.or_lt_two_pow hw (Nat.pow_lt_pow_right (by omega) hj)⟩
  rcases Nat.lt_or_ge w (w ||| 2 ^ j) with q | q
  · exact q
  · have h1 : w ||| 2 ^ j = w := Nat.le_antisymm q Nat.left_le_or
    have h2 : bt (w ||| 2 ^ j) j := (bt_or w j j).mpr (Or.inr rfl)
    rw [h1] at h2
    exact absurd h2 hb
theorem canS_bt {R : Nat → Nat} {w j : Nat} (h : bt (canS R w) j) : j < R 1 ∧ cbP R j w := (bt_bitsOf _ _ _).mp h
end SU2
theorem wl_X12_fraction_1 : Cond.fieldLink RX12 198 "BellForgivenModel" "above" "J" ∈ wsX12_fraction := List.mem_of_getElem? (i := 1) rfl
theorem wl_X12_fraction_2 : Cond.fieldLink RX12 23 "BellForgivenModel" "below" "J" ∈ wsX12_fraction := List.mem_of_getElem? (i := 2) rfl
theorem hi_X12_fraction_X12 : ∀ w ∈ u_ws RX12 TX12 19, w ∈ wsX12_fraction := fun w h => (List.mem_cons_of_mem _ (List.mem_append_right _ h))
set_option maxHeartbeats 4000000 in
set_option maxRecDepth 100000 in
theorem c_X12_fraction (l : Launch) (Γ : Gam) (n : Nat) (G : Nat → va_E) (mo : Nat) (R K kp rf ca rc hd fw tl by0 an vl iv : Nat → Nat) (hM : isM Γ G mo R K kp rf ca rc hd fw tl by0 an vl iv) (hmo : mo + 13 ≤ n) (hI : vI R) (hj : winj Γ n) (a0 b0 : Nat) (ha0 : a0 < 9223372036854775808) (hb0 : b0 < 9223372036854775808) (hb1 : 0 < b0)  : Met l yX12_fraction wsX12_fraction ({ frames := 0, cells := 0, slots := 0, locals := 0 }) (va_Pc [.ref (ad Γ (mo + 0)), .long (lN a0), .long (lN b0)] (fun U => hw Γ n G U U.heap)) (wQv Γ n (fun G2 => isM Γ G2 mo R K kp rf ca rc hd fw tl by0 an vl (fracI iv a0 b0) ∧ fr G G2 mo (mo + 13))) 0 0 (wA Γ n) := by
  refine Met.ofW (cc := cX12_fraction) (maxL := 11) (ret := none) (by decide) rfl ?_
  intro p e s m args below meth c s₁ B hml hv
  obtain ⟨rfl, hw⟩ := hv
  have hx := B.exec
  have hb := B.bytes
  have hr := B.returns
  have hts := atoms_spec (ws := wsX12_fraction) B.pre
  have hown : s.vm.findClass RX12 = some m.cls := findClass_of_methodNamed B.named
  have hlocks := B.notSynchronized
  have hS : va_S (wA Γ n) s.heap s.heap [] := va_S.rf
  have hA : ∀ q, wA Γ n q → wA Γ n q := fun _ h => h
  have hl := lv_entry ([.ref (ad Γ (mo + 0)), .long (lN a0), .long (lN b0)]) (n := 11) (Nat.le_of_ble_eq_true rfl)
  rw [lg_entry_eq]
  generalize (lg_sl ([.ref (ad Γ (mo + 0)), .long (lN a0), .long (lN b0)]) ++ List.replicate (11 - (lg_sl ([.ref (ad Γ (mo + 0)), .long (lN a0), .long (lN b0)])).length) Slot.unset).toArray = ls at hl ⊢
  have hl : lv_has ls 11 [(0, .ref (ad Γ (mo + 0))), (1, .long (lN a0)), (3, .long (lN b0))] := hl
  have hfr := fr_rf G mo (mo + 13)
  have hB := hI.1
  have hB0 := hI.2.1
  have hB1 := hI.2.2.1
  have hB20 := hI.2.2.2.2.2.2.2.2.2
  have hBz2 := hI.2.2.2.1
  have hBz3 := hI.2.2.2.2.1
  have hBz4 := hI.2.2.2.2.2.1
  have hBz5 := hI.2.2.2.2.2.2.1
  have hby := hI.2.2.2.2.2.2.2.1
  have hto := hI.2.2.2.2.2.2.2.2.1
  refine lv_lload_n hx hb dX12_fraction_0 rfl (lv_at hl 1 rfl) ?_
  refine lv_lstore (lv' := [(5, .long (lN a0)), (0, .ref (ad Γ (mo + 0))), (1, .long (lN a0)), (3, .long (lN b0))]) hx hb dX12_fraction_1 hl (by decide) rfl (fun ls hl => ?_)
  refine lv_lload_n hx hb dX12_fraction_3 rfl (lv_at hl 3 rfl) ?_
  refine lv_lstore (lv' := [(7, .long (lN b0)), (5, .long (lN a0)), (0, .ref (ad Γ (mo + 0))), (1, .long (lN a0)), (3, .long (lN b0))]) hx hb dX12_fraction_4 hl (by decide) rfl (fun ls hl => ?_)
  refine nr_lp (σ := Nat × Nat) (pc := 6) (fun x lv => lv = [(0, .ref (ad Γ (mo + 0))), (1, .long (lN a0)), (3, .long (lN b0)), (5, .long (lN x.1)), (7, .long (lN x.2))] ∧ (Nat.gcd x.1 x.2 = Nat.gcd a0 b0) ∧ (x.1 < 9223372036854775808) ∧ (x.2 < 9223372036854775808)) (fun x => x.2) (a0, b0) (lv_sub hl [2, 3, 4, 1, 0] rfl) ⟨rfl, rfl, by (try dsimp only); exact (ha0), by (try dsimp only); exact (hb0)⟩ ?_
  intro x lv ls hl hI ih6
  obtain ⟨x, y⟩ := x
  obtain ⟨rfl, hg, hx1, hy1⟩ := hI
  try dsimp only at hg hx1 hy1 hl ih6
  refine lv_lload hx hb dX12_fraction_6 (lv_at hl 4 rfl) ?_
  refine lv_lconst (v := lN 0) hx hb dX12_fraction_8 rfl ?_
  refine W.lcmp hx hb dX12_fraction_9 ?_
  refine lv_if_eq (tgt := 31) hx hb dX12_fraction_10 (by decide) (fun c1 => ?_) (fun c1 => ?_)
  · obtain rfl : y = 0 := (lg_cmp0 hy1).mp (by assumption)
    rw [Nat.gcd_zero_right] at hg
    have hgp : 0 < x := by rw [hg]; exact Nat.gcd_pos_of_pos_right _ hb1
    refine lv_aload_n hx hb dX12_fraction_31 rfl (lv_at hl 0 rfl) ?_
    refine lv_lload_n hx hb dX12_fraction_32 rfl (lv_at hl 1 rfl) ?_
    refine lv_lload hx hb dX12_fraction_33 (lv_at hl 3 rfl) ?_
    refine nr_ldiv hx hb (by omega) (by omega) (by omega) dX12_fraction_35 ?_
    refine nr_put (own := RX12) (C := RX12) (T := TX12) (N := 19) (ty := .long) (v := .long (lN (a0 / x))) (fs' := [.ref (ad Γ (mo + 1)), .ref (ad Γ (mo + 2)), .ref (ad Γ (mo + 3)), .ref (ad Γ (mo + 4)), .long (lN ((va_up iv 5 (a0 / x)) 5)), .long (lN ((va_up iv 5 (a0 / x)) 6)), .ref (ad Γ (mo + 5)), .ref (ad Γ (mo + 6)), .ref (ad Γ (mo + 7)), .ref (ad Γ (mo + 8)), .ref (ad Γ (mo + 9)), .ref (ad Γ (mo + 10)), .int (nI ((va_up iv 5 (a0 / x)) 0)), .int (nI ((va_up iv 5 (a0 / x)) 1)), .int (nI ((va_up iv 5 (a0 / x)) 2)), .int (nI ((va_up iv 5 (a0 / x)) 3)), .int (nI ((va_up iv 5 (a0 / x)) 4)), .ref (ad Γ (mo + 11)), .ref (ad Γ (mo + 12))]) hx hb hts hi_X12_fraction_X12 tyX12 tyX12_ok nmX12 hown hw hj hA hS (by omega) (isM_0 hM) rfl 4 (by decide) wl_X12_fraction_1 rfl rfl (by decide +kernel) rfl rfl (Nat.le_of_ble_eq_true rfl) rfl dX12_fraction_36 (fun H locs hw hS => ?_)
    have hM := isM_s0 hM (va_up iv 5 (a0 / x))
    have hfr := fr_up hfr (i := mo + 0) (by omega) (by omega) (.inr (9, [.ref (ad Γ (mo + 1)), .ref (ad Γ (mo + 2)), .ref (ad Γ (mo + 3)), .ref (ad Γ (mo + 4)), .long (lN ((va_up iv 5 (a0 / x)) 5)), .long (lN ((va_up iv 5 (a0 / x)) 6)), .ref (ad Γ (mo + 5)), .ref (ad Γ (mo + 6)), .ref (ad Γ (mo + 7)), .ref (ad Γ (mo + 8)), .ref (ad Γ (mo + 9)), .ref (ad Γ (mo + 10)), .int (nI ((va_up iv 5 (a0 / x)) 0)), .int (nI ((va_up iv 5 (a0 / x)) 1)), .int (nI ((va_up iv 5 (a0 / x)) 2)), .int (nI ((va_up iv 5 (a0 / x)) 3)), .int (nI ((va_up iv 5 (a0 / x)) 4)), .ref (ad Γ (mo + 11)), .ref (ad Γ (mo + 12))]))
    generalize va_up G (mo + 0) (.inr (9, [.ref (ad Γ (mo + 1)), .ref (ad Γ (mo + 2)), .ref (ad Γ (mo + 3)), .ref (ad Γ (mo + 4)), .long (lN ((va_up iv 5 (a0 / x)) 5)), .long (lN ((va_up iv 5 (a0 / x)) 6)), .ref (ad Γ (mo + 5)), .ref (ad Γ (mo + 6)), .ref (ad Γ (mo + 7)), .ref (ad Γ (mo + 8)), .ref (ad Γ (mo + 9)), .ref (ad Γ (mo + 10)), .int (nI ((va_up iv 5 (a0 / x)) 0)), .int (nI ((va_up iv 5 (a0 / x)) 1)), .int (nI ((va_up iv 5 (a0 / x)) 2)), .int (nI ((va_up iv 5 (a0 / x)) 3)), .int (nI ((va_up iv 5 (a0 / x)) 4)), .ref (ad Γ (mo + 11)), .ref (ad Γ (mo + 12))])) = G2 at hw hM hfr
    refine lv_aload_n hx hb dX12_fraction_39 rfl (lv_at hl 0 rfl) ?_
    refine lv_lload_n hx hb dX12_fraction_40 rfl (lv_at hl 2 rfl) ?_
    refine lv_lload hx hb dX12_fraction_41 (lv_at hl 3 rfl) ?_
    refine nr_ldiv hx hb (by omega) (by omega) (by omega) dX12_fraction_43 ?_
    refine nr_put (own := RX12) (C := RX12) (T := TX12) (N := 19) (ty := .long) (v := .long (lN (b0 / x))) (fs' := [.ref (ad Γ (mo + 1)), .ref (ad Γ (mo + 2)), .ref (ad Γ (mo + 3)), .ref (ad Γ (mo + 4)), .long (lN ((va_up (va_up iv 5 (a0 / x)) 6 (b0 / x)) 5)), .long (lN ((va_up (va_up iv 5 (a0 / x)) 6 (b0 / x)) 6)), .ref (ad Γ (mo + 5)), .ref (ad Γ (mo + 6)), .ref (ad Γ (mo + 7)), .ref (ad Γ (mo + 8)), .ref (ad Γ (mo + 9)), .ref (ad Γ (mo + 10)), .int (nI ((va_up (va_up iv 5 (a0 / x)) 6 (b0 / x)) 0)), .int (nI ((va_up (va_up iv 5 (a0 / x)) 6 (b0 / x)) 1)), .int (nI ((va_up (va_up iv 5 (a0 / x)) 6 (b0 / x)) 2)), .int (nI ((va_up (va_up iv 5 (a0 / x)) 6 (b0 / x)) 3)), .int (nI ((va_up (va_up iv 5 (a0 / x)) 6 (b0 / x)) 4)), .ref (ad Γ (mo + 11)), .ref (ad Γ (mo + 12))]) hx hb hts hi_X12_fraction_X12 tyX12 tyX12_ok nmX12 hown hw hj hA hS (by omega) (isM_0 hM) rfl 5 (by decide) wl_X12_fraction_2 rfl rfl (by decide +kernel) rfl rfl (Nat.le_of_ble_eq_true rfl) rfl dX12_fraction_44 (fun H locs hw hS => ?_)
    have hM := isM_s0 hM (va_up (va_up iv 5 (a0 / x)) 6 (b0 / x))
    have hfr := fr_up hfr (i := mo + 0) (by omega) (by omega) (.inr (9, [.ref (ad Γ (mo + 1)), .ref (ad Γ (mo + 2)), .ref (ad Γ (mo + 3)), .ref (ad Γ (mo + 4)), .long (lN ((va_up (va_up iv 5 (a0 / x)) 6 (b0 / x)) 5)), .long (lN ((va_up (va_up iv 5 (a0 / x)) 6 (b0 / x)) 6)), .ref (ad Γ (mo + 5)), .ref (ad Γ (mo + 6)), .ref (ad Γ (mo + 7)), .ref (ad Γ (mo + 8)), .ref (ad Γ (mo + 9)), .ref (ad Γ (mo + 10)), .int (nI ((va_up (va_up iv 5 (a0 / x)) 6 (b0 / x)) 0)), .int (nI ((va_up (va_up iv 5 (a0 / x)) 6 (b0 / x)) 1)), .int (nI ((va_up (va_up iv 5 (a0 / x)) 6 (b0 / x)) 2)), .int (nI ((va_up (va_up iv 5 (a0 / x)) 6 (b0 / x)) 3)), .int (nI ((va_up (va_up iv 5 (a0 / x)) 6 (b0 / x)) 4)), .ref (ad Γ (mo + 11)), .ref (ad Γ (mo + 12))]))
    generalize va_up G2 (mo + 0) (.inr (9, [.ref (ad Γ (mo + 1)), .ref (ad Γ (mo + 2)), .ref (ad Γ (mo + 3)), .ref (ad Γ (mo + 4)), .long (lN ((va_up (va_up iv 5 (a0 / x)) 6 (b0 / x)) 5)), .long (lN ((va_up (va_up iv 5 (a0 / x)) 6 (b0 / x)) 6)), .ref (ad Γ (mo + 5)), .ref (ad Γ (mo + 6)), .ref (ad Γ (mo + 7)), .ref (ad Γ (mo + 8)), .ref (ad Γ (mo + 9)), .ref (ad Γ (mo + 10)), .int (nI ((va_up (va_up iv 5 (a0 / x)) 6 (b0 / x)) 0)), .int (nI ((va_up (va_up iv 5 (a0 / x)) 6 (b0 / x)) 1)), .int (nI ((va_up (va_up iv 5 (a0 / x)) 6 (b0 / x)) 2)), .int (nI ((va_up (va_up iv 5 (a0 / x)) 6 (b0 / x)) 3)), .int (nI ((va_up (va_up iv 5 (a0 / x)) 6 (b0 / x)) 4)), .ref (ad Γ (mo + 11)), .ref (ad Γ (mo + 12))])) = G3 at hw hM hfr
    exact nr_retV hx hb hr hlocks hw hS (⟨by rw [show fracI iv a0 b0 = va_up (va_up iv 5 (a0 / x)) 6 (b0 / x) from (by unfold fracI; rw [← hg])]; exact hM, hfr⟩) dX12_fraction_47
  · have hy9 : 0 < y := (by rcases Nat.eq_zero_or_pos y with q | q; exact absurd ((lg_cmp0 hy1).mpr q) (by assumption); exact q)
    refine lv_lload hx hb dX12_fraction_13 (lv_at hl 3 rfl) ?_
    refine lv_lload hx hb dX12_fraction_15 (lv_at hl 4 rfl) ?_
    refine nr_lrem hx hb (by omega) (by omega) (by omega) dX12_fraction_17 ?_
    refine lv_lstore (lv' := [(9, .long (lN (x % y))), (0, .ref (ad Γ (mo + 0))), (1, .long (lN a0)), (3, .long (lN b0)), (5, .long (lN x)), (7, .long (lN y))]) hx hb dX12_fraction_18 hl (by decide) rfl (fun ls hl => ?_)
    refine lv_lload hx hb dX12_fraction_20 (lv_at hl 5 rfl) ?_
    refine lv_lstore (lv' := [(5, .long (lN y)), (9, .long (lN (x % y))), (0, .ref (ad Γ (mo + 0))), (1, .long (lN a0)), (3, .long (lN b0)), (7, .long (lN y))]) hx hb dX12_fraction_22 hl (by decide) rfl (fun ls hl => ?_)
    refine lv_lload hx hb dX12_fraction_24 (lv_at hl 1 rfl) ?_
    refine lv_lstore (lv' := [(7, .long (lN (x % y))), (5, .long (lN y)), (9, .long (lN (x % y))), (0, .ref (ad Γ (mo + 0))), (1, .long (lN a0)), (3, .long (lN b0))]) hx hb dX12_fraction_26 hl (by decide) rfl (fun ls hl => ?_)
    refine lv_goto (tgt := 6) hx hb dX12_fraction_28 (by decide) ?_
    exact ih6 (y, x % y) _ _ (lv_sub hl [3, 4, 5, 1, 0] rfl) ⟨rfl, by (try dsimp only); rw [← hg, Nat.gcd_comm x y, Nat.gcd_rec y x, Nat.gcd_comm], by (try dsimp only); exact (hy1), by (try dsimp only); have hy0 : 0 < y := (by rcases Nat.eq_zero_or_pos y with q | q; exact absurd ((lg_cmp0 hy1).mpr q) (by assumption); exact q); have := Nat.mod_lt x hy0; omega⟩ ((by have hy0 : 0 < y := (by rcases Nat.eq_zero_or_pos y with q | q; exact absurd ((lg_cmp0 hy1).mpr q) (by assumption); exact q); exact Nat.mod_lt x hy0))
theorem wl_X12_rust_1 : Cond.constantLong RX12 201 (10) ∈ wsX12_rust := List.mem_of_getElem? (i := 1) rfl
theorem wl_X12_rust_2 : Cond.fieldLink RX12 33 "BellForgivenModel" "hand" "[I" ∈ wsX12_rust := List.mem_of_getElem? (i := 2) rfl
theorem hi_X12_rust_X12 : ∀ w ∈ u_ws RX12 TX12 19, w ∈ wsX12_rust := fun w h => (List.mem_cons_of_mem _ (List.mem_append_right _ h))
set_option maxHeartbeats 4000000 in
set_option maxRecDepth 100000 in
theorem c_X12_rust (l : Launch) (Γ : Gam) (n : Nat) (G : Nat → va_E) (mo : Nat) (R K kp rf ca rc hd fw tl by0 an vl iv : Nat → Nat) (hM : isM Γ G mo R K kp rf ca rc hd fw tl by0 an vl iv) (hmo : mo + 13 ≤ n) (hI : vI R) (hj : winj Γ n) (k ws co : Int32) (hhd : ∀ j, hd j ≤ 1999)  : Met l yX12_rust wsX12_rust ({ frames := 3, cells := 0, slots := 0, locals := 66 }) (va_Pc [.ref (ad Γ (mo + 0)), .int k, .int ws, .int co] (fun U => hw Γ n G U U.heap)) (wQi Γ n (fun z G2 => ((¬ (vBel (R 1) k ∧ vRng 0 (2 ^ R 1 - 1) ws ∧ (∀ a b : Nat, k = nI a → a < R 1 → ws = nI b → b < 256 → ¬ bt b a) ∧ vRng 0 10 co)) ∧ (z = -2) ∧ isM Γ G2 mo R K kp (bmp rf 0) ca rc hd fw tl by0 an vl iv ∧ fr G G2 mo (mo + 13)) ∨ (∃ jk jw jc : Nat, (jk < R 1) ∧ (k = nI jk) ∧ (jw ≤ 2 ^ R 1 - 1) ∧ (ws = nI jw) ∧ (¬ bt jw jk) ∧ (jc ≤ 10) ∧ (co = nI jc) ∧ (z = nI 1) ∧ ∃ hd2 : Nat → Nat, (∀ j, hd2 j ≤ 1999) ∧ isM Γ G2 mo R K kp rf ca rc hd2 fw tl by0 an vl (fracI iv (sumF (cpyR hd R 60) jw jk jc (R 1) (2 ^ R 1)) (wholeF jw (R 1))) ∧ fr G G2 mo (mo + 13)))) 0 0 (wA Γ n) := by
  refine Met.ofW (cc := cX12_rust) (maxL := 12) (ret := (some .int)) (by decide) rfl ?_
  intro p e s m args below meth c s₁ B hml hv
  obtain ⟨rfl, hw⟩ := hv
  have hx := B.exec
  have hb := B.bytes
  have hr := B.returns
  have hts := atoms_spec (ws := wsX12_rust) B.pre
  have hown : s.vm.findClass RX12 = some m.cls := findClass_of_methodNamed B.named
  have hlocks := B.notSynchronized
  have hS : va_S (wA Γ n) s.heap s.heap [] := va_S.rf
  have hA : ∀ q, wA Γ n q → wA Γ n q := fun _ h => h
  have hl := lv_entry ([.ref (ad Γ (mo + 0)), .int k, .int ws, .int co]) (n := 12) (Nat.le_of_ble_eq_true rfl)
  rw [lg_entry_eq]
  generalize (lg_sl ([.ref (ad Γ (mo + 0)), .int k, .int ws, .int co]) ++ List.replicate (12 - (lg_sl ([.ref (ad Γ (mo + 0)), .int k, .int ws, .int co])).length) Slot.unset).toArray = ls at hl ⊢
  have hl : lv_has ls 12 [(0, .ref (ad Γ (mo + 0))), (1, .int k), (2, .int ws), (3, .int co)] := hl
  have hfr := fr_rf G mo (mo + 13)
  have hB := hI.1
  have hB0 := hI.2.1
  have hB1 := hI.2.2.1
  have hB20 := hI.2.2.2.2.2.2.2.2.2
  have hBz2 := hI.2.2.2.1
  have hBz3 := hI.2.2.2.2.1
  have hBz4 := hI.2.2.2.2.2.1
  have hBz5 := hI.2.2.2.2.2.2.1
  have hby := hI.2.2.2.2.2.2.2.1
  have hto := hI.2.2.2.2.2.2.2.2.1
  have h2p := p2_le hB1
  have h2q := Nat.one_le_two_pow (n := R 1)
  have hX := aI_cpy hI hhd
  have h10 := p10_le hB1
  refine lv_aload_n hx hb dX12_rust_0 rfl (lv_at hl 0 rfl) ?_
  refine lv_iload_n hx hb dX12_rust_1 rfl (lv_at hl 1 rfl) ?_
  refine nr_goB (P := ∃ j, j < R 1 ∧ k = nI j) (nr_runV (As := [.int k]) (C := RX12) (T := TX12) (N := 19) ⟨hx, hb, hml, hown, hts⟩ hw (by omega) (isM_0 hM) rfl (c_X12_isWrong l Γ n G mo R K kp rf ca rc hd fw tl by0 an vl iv hM (by omega) hI k) (cwV 1 hts gX12_rust_X12_isWrong rfl rfl rfl (by decide +kernel) ⟨Nat.le_of_ble_eq_true rfl, Nat.le_of_ble_eq_true rfl⟩) rfl hl.1 rfl (Nat.le_of_ble_eq_true rfl) dX12_rust_2 ⟨Nat.zero_le _, Nat.zero_le _⟩) (fun b1 => ?_) (fun b1 => ?_)
  · obtain ⟨jk, hjk, rfl⟩ := b1
    refine nr_if_eq (tgt := 46) hx hb (by decide) dX12_rust_5 (by decide) (fun c2 => absurd c2 (by decide)) (fun c2 => ?_)
    refine lv_iload_n hx hb dX12_rust_8 rfl (lv_at hl 2 rfl) ?_
    refine lv_i2l (v := (ws).toInt64) hx hb dX12_rust_9 rfl ?_
    refine lv_lconst (v := lN 0) hx hb dX12_rust_10 rfl ?_
    refine lv_iconst (v := nI 1) hx hb dX12_rust_11 (by decide) ?_
    refine lv_aload_n hx hb dX12_rust_12 rfl (lv_at hl 0 rfl) ?_
    refine nr_goS (nr_runV (As := []) (C := RX12) (T := TX12) (N := 19) ⟨hx, hb, hml, hown, hts⟩ hw (by omega) (isM_0 hM) rfl (c_X12_many l Γ n G mo R K kp rf ca rc hd fw tl by0 an vl iv hM (by omega) hI) (cwV 0 hts gX12_rust_X12_many rfl rfl rfl (by decide +kernel) ⟨Nat.le_of_ble_eq_true rfl, Nat.le_of_ble_eq_true rfl⟩) rfl hl.1 rfl (Nat.le_of_ble_eq_true rfl) dX12_rust_13 ⟨Nat.zero_le _, Nat.zero_le _⟩) (fun r3 hr3 => ?_)
    obtain rfl : r3 = (nI (R 1)) := hr3
    refine nr_ishl1 hx hb (by omega) dX12_rust_16 ?_
    refine lv_iconst (v := nI 1) hx hb dX12_rust_17 (by decide) ?_
    refine nr_isub hx hb (by omega) dX12_rust_18 ?_
    refine lv_i2l (v := lN ((2 ^ (R 1)) - 1)) hx hb dX12_rust_19 (nI_l (by omega)) ?_
    refine nr_goB (P := (lN 0) ≤ ((ws).toInt64) ∧ ((ws).toInt64) ≤ (lN ((2 ^ (R 1)) - 1))) (nr_runS (As := [.long ((ws).toInt64), .long (lN 0), .long (lN ((2 ^ (R 1)) - 1))]) ⟨hx, hb, hml, hown, hts⟩ hw (c_X12_in l Γ n G ((ws).toInt64) (lN 0) (lN ((2 ^ (R 1)) - 1))) (va_cwS 3 hts gX12_rust_X12_in rfl rfl rfl (by decide +kernel) ⟨Nat.le_of_ble_eq_true rfl, Nat.le_of_ble_eq_true rfl⟩) rfl hl.1 rfl (Nat.le_of_ble_eq_true rfl) dX12_rust_20 ⟨Nat.zero_le _, Nat.zero_le _⟩) (fun b4 => ?_) (fun b4 => ?_)
    · obtain ⟨jw, hjwa, hjwb, rfl⟩ := (in_c (a := 0) (b := 2 ^ R 1 - 1) (by omega) (Nat.zero_le _)).mp b4
      refine nr_if_eq (tgt := 46) hx hb (by decide) dX12_rust_23 (by decide) (fun c5 => absurd c5 (by decide)) (fun c5 => ?_)
      refine lv_iload_n hx hb dX12_rust_26 rfl (lv_at hl 2 rfl) ?_
      refine lv_iload_n hx hb dX12_rust_27 rfl (lv_at hl 1 rfl) ?_
      refine nr_goB (P := bt jw jk) (nr_runS (As := [.int (nI jw), .int (nI jk)]) ⟨hx, hb, hml, hown, hts⟩ hw (c_X12_has l Γ n G jw jk (by omega) (by omega)) (va_cwS 2 hts gX12_rust_X12_has rfl rfl rfl (by decide +kernel) ⟨Nat.le_of_ble_eq_true rfl, Nat.le_of_ble_eq_true rfl⟩) rfl hl.1 rfl (Nat.le_of_ble_eq_true rfl) dX12_rust_28 ⟨Nat.zero_le _, Nat.zero_le _⟩) (fun b6 => ?_) (fun b6 => ?_)
      · refine nr_if_ne (tgt := 46) hx hb (by decide) dX12_rust_31 (by decide) (fun c7 => ?_) (fun c7 => absurd c7 (by decide))
        refine lv_aload_n hx hb dX12_rust_46 rfl (lv_at hl 0 rfl) ?_
        refine lv_bipush (v := (-2)) hx hb dX12_rust_47 (by decide) ?_
        refine nr_goI (nr_runV (As := [.int (-2)]) (C := RX12) (T := TX12) (N := 19) ⟨hx, hb, hml, hown, hts⟩ hw (by omega) (isM_0 hM) rfl (c_X12_bad l Γ n G mo R K kp rf ca rc hd fw tl by0 an vl iv hM (by omega) hI hj (-2)) (cwV 1 hts gX12_rust_X12_bad rfl rfl rfl (by decide +kernel) ⟨Nat.le_of_ble_eq_true rfl, Nat.le_of_ble_eq_true rfl⟩) rfl hl.1 rfl (Nat.le_of_ble_eq_true rfl) dX12_rust_49 ⟨Nat.zero_le _, Nat.zero_le _⟩) hw hA hS (fun z8 G8 H locs hp hw hS => ?_)
        obtain ⟨ha8, hM, hfr8⟩ := hp
        have hfr := fr_tr hfr hfr8 (Nat.le_refl _) (Nat.le_refl _)
        subst ha8
        exact nr_retI hx hb hr hlocks hw hS (Or.inl ⟨by intro hh; first | exact absurd hh.1 (by assumption) | exact absurd hh.2.1 (by assumption) | exact absurd hh.2.2.2 (by assumption) | exact absurd (hh.2.2.1 jk jw rfl (by omega) rfl (by omega)) (fun z => z (by assumption)), rfl, hM, hfr⟩) dX12_rust_52
      · refine nr_if_ne (tgt := 46) hx hb (by decide) dX12_rust_31 (by decide) (fun c9 => absurd c9 (by decide)) (fun c9 => ?_)
        refine lv_iload_n hx hb dX12_rust_34 rfl (lv_at hl 3 rfl) ?_
        refine lv_i2l (v := (co).toInt64) hx hb dX12_rust_35 rfl ?_
        refine lv_lconst (v := lN 0) hx hb dX12_rust_36 rfl ?_
        refine nr_ldc2 (k := 10) hx hb hown (hts _ wl_X12_rust_1) (by decide) dX12_rust_37 ?_
        refine nr_goB (P := (lN 0) ≤ ((co).toInt64) ∧ ((co).toInt64) ≤ (lN 10)) (nr_runS (As := [.long ((co).toInt64), .long (lN 0), .long (lN 10)]) ⟨hx, hb, hml, hown, hts⟩ hw (c_X12_in l Γ n G ((co).toInt64) (lN 0) (lN 10)) (va_cwS 3 hts gX12_rust_X12_in rfl rfl rfl (by decide +kernel) ⟨Nat.le_of_ble_eq_true rfl, Nat.le_of_ble_eq_true rfl⟩) rfl hl.1 rfl (Nat.le_of_ble_eq_true rfl) dX12_rust_40 ⟨Nat.zero_le _, Nat.zero_le _⟩) (fun b10 => ?_) (fun b10 => ?_)
        · obtain ⟨jc, hjca, hjcb, rfl⟩ := (in_c (a := 0) (b := 10) (by decide) (by decide)).mp b10
          refine nr_if_ne (tgt := 53) hx hb (by decide) dX12_rust_43 (by decide) (fun c11 => ?_) (fun c11 => absurd c11 (by decide))
          refine lv_lconst (v := lN 0) hx hb dX12_rust_53 rfl ?_
          refine lv_lstore (lv' := [(4, .long (lN 0)), (0, .ref (ad Γ (mo + 0))), (1, .int (nI jk)), (2, .int (nI jw)), (3, .int (nI jc))]) hx hb dX12_rust_54 hl (by decide) rfl (fun ls hl => ?_)
          refine lv_lconst (v := lN 1) hx hb dX12_rust_56 rfl ?_
          refine lv_lstore (lv' := [(6, .long (lN 1)), (4, .long (lN 0)), (0, .ref (ad Γ (mo + 0))), (1, .int (nI jk)), (2, .int (nI jw)), (3, .int (nI jc))]) hx hb dX12_rust_57 hl (by decide) rfl (fun ls hl => ?_)
          refine lv_iconst (v := nI 0) hx hb dX12_rust_59 (by decide) ?_
          refine lv_istore (lv' := [(8, .int (nI 0)), (6, .long (lN 1)), (4, .long (lN 0)), (0, .ref (ad Γ (mo + 0))), (1, .int (nI jk)), (2, .int (nI jw)), (3, .int (nI jc))]) hx hb dX12_rust_60 hl (by decide) rfl (fun ls hl => ?_)
          refine nr_lpI (σ := (Nat → va_E) × Nat × Nat) 62 (fun x => x.1) (fun x lv => lv = [(0, .ref (ad Γ (mo + 0))), (1, .int (nI jk)), (2, .int (nI jw)), (3, .int (nI jc)), (4, .long (lN 0)), (6, .long (lN x.2.2)), (8, .int (nI x.2.1))] ∧ isM Γ x.1 mo R K kp rf ca rc hd fw tl by0 an vl iv ∧ fr G x.1 mo (mo + 13) ∧ (x.2.1 ≤ R 1) ∧ (x.2.2 = wholeF jw x.2.1)) (fun x => R 1 - x.2.1) (G, 0, 1) hw hS (lv_sub hl [3, 4, 5, 6, 2, 1, 0] rfl) ⟨rfl, hM, hfr, by (try dsimp only); omega, rfl⟩ ?_
          intro x lv ls H locs hw hS hl hI ih62
          obtain ⟨Gl62, j, wl⟩ := x
          obtain ⟨rfl, hM, hfr, hjj, hwl⟩ := hI
          try dsimp only at hM hfr hjj hwl hw hl ih62
          have hw10 := wholeF_le jw j
          refine lv_iload hx hb dX12_rust_62 (lv_at hl 6 rfl) ?_
          refine lv_aload_n hx hb dX12_rust_64 rfl (lv_at hl 0 rfl) ?_
          refine nr_goS (nr_runV (As := []) (C := RX12) (T := TX12) (N := 19) ⟨hx, hb, hml, hown, hts⟩ hw (by omega) (isM_0 hM) rfl (c_X12_many l Γ n Gl62 mo R K kp rf ca rc hd fw tl by0 an vl iv hM (by omega) hI) (cwV 0 hts gX12_rust_X12_many rfl rfl rfl (by decide +kernel) ⟨Nat.le_of_ble_eq_true rfl, Nat.le_of_ble_eq_true rfl⟩) rfl hl.1 rfl (Nat.le_of_ble_eq_true rfl) dX12_rust_65 ⟨Nat.zero_le _, Nat.zero_le _⟩) (fun r12 hr12 => ?_)
          obtain rfl : r12 = (nI (R 1)) := hr12
          refine nr_icmp_ge (tgt := 98) hx hb (by omega) (by omega) dX12_rust_68 (by decide) (fun c13 => ?_) (fun c13 => ?_)
          · refine lv_iconst (v := nI 0) hx hb dX12_rust_98 (by decide) ?_
            refine lv_istore (lv' := [(8, .int (nI 0)), (0, .ref (ad Γ (mo + 0))), (1, .int (nI jk)), (2, .int (nI jw)), (3, .int (nI jc)), (4, .long (lN 0)), (6, .long (lN wl))]) hx hb dX12_rust_99 hl (by decide) rfl (fun ls hl => ?_)
            refine nr_lpI (σ := (Nat → va_E) × Nat × Nat × (Nat → Nat)) 101 (fun x => x.1) (fun x lv => lv = [(0, .ref (ad Γ (mo + 0))), (1, .int (nI jk)), (2, .int (nI jw)), (3, .int (nI jc)), (4, .long (lN x.2.2.1)), (6, .long (lN wl)), (8, .int (nI x.2.1))] ∧ isM Γ x.1 mo R K kp rf ca rc x.2.2.2 fw tl by0 an vl iv ∧ fr G x.1 mo (mo + 13) ∧ (x.2.1 ≤ 2 ^ R 1) ∧ (x.2.2.1 = sumF (cpyR hd R 60) jw jk jc (R 1) x.2.1) ∧ (∀ j, 60 ≤ j → x.2.2.2 j = hd j) ∧ (∀ j, x.2.2.2 j ≤ 1999)) (fun x => 2 ^ R 1 - x.2.1) (Gl62, 0, 0, hd) hw hS (lv_sub hl [1, 2, 3, 4, 5, 6, 0] rfl) ⟨rfl, hM, hfr, Nat.zero_le _, rfl, by (try dsimp only); exact (fun _ _ => rfl), by (try dsimp only); exact (hhd)⟩ ?_
            intro x lv ls H locs hw hS hl hI ih101
            obtain ⟨Gl101, si, sm, hdL101⟩ := x
            obtain ⟨rfl, hM, hfr, hsi, hsm, hht, hhl⟩ := hI
            try dsimp only at hM hfr hsi hsm hht hhl hw hl ih101
            have hand9 : si &&& (jw ^^^ 4294967295) ≤ si := Nat.and_le_left
            have hwl8 : wl = wholeF jw (R 1) := by rw [hwl, show j = R 1 by omega]
            have hsl := sumF_le (X := cpyR hd R 60) (ws := jw) (k := jk) (m := R 1) hjcb si
            have hsl2 : sm ≤ 25600000000 := by rw [hsm]; exact Nat.le_trans hsl (Nat.mul_le_mul (show si ≤ 256 by omega) h10)
            refine lv_iload hx hb dX12_rust_101 (lv_at hl 6 rfl) ?_
            refine lv_iconst (v := nI 1) hx hb dX12_rust_103 (by decide) ?_
            refine lv_aload_n hx hb dX12_rust_104 rfl (lv_at hl 0 rfl) ?_
            refine nr_goS (nr_runV (As := []) (C := RX12) (T := TX12) (N := 19) ⟨hx, hb, hml, hown, hts⟩ hw (by omega) (isM_0 hM) rfl (c_X12_many l Γ n Gl101 mo R K kp rf ca rc hdL101 fw tl by0 an vl iv hM (by omega) hI) (cwV 0 hts gX12_rust_X12_many rfl rfl rfl (by decide +kernel) ⟨Nat.le_of_ble_eq_true rfl, Nat.le_of_ble_eq_true rfl⟩) rfl hl.1 rfl (Nat.le_of_ble_eq_true rfl) dX12_rust_105 ⟨Nat.zero_le _, Nat.zero_le _⟩) (fun r14 hr14 => ?_)
            obtain rfl : r14 = (nI (R 1)) := hr14
            refine nr_ishl1 hx hb (by omega) dX12_rust_108 ?_
            refine nr_icmp_ge (tgt := 244) hx hb (by omega) (by omega) dX12_rust_109 (by decide) (fun c15 => ?_) (fun c15 => ?_)
            · have hws9 := wholeF_le jw (R 1)
              refine lv_aload_n hx hb dX12_rust_244 rfl (lv_at hl 0 rfl) ?_
              refine lv_lload hx hb dX12_rust_245 (lv_at hl 4 rfl) ?_
              refine lv_lload hx hb dX12_rust_247 (lv_at hl 5 rfl) ?_
              refine nr_goV (nr_runV (As := [.long (lN sm), .long (lN wl)]) (C := RX12) (T := TX12) (N := 19) ⟨hx, hb, hml, hown, hts⟩ hw (by omega) (isM_0 hM) rfl (c_X12_fraction l Γ n Gl101 mo R K kp rf ca rc hdL101 fw tl by0 an vl iv hM (by omega) hI hj sm wl (by omega) (by omega) (by omega)) (cwV 2 hts gX12_rust_X12_fraction rfl rfl rfl (by decide +kernel) ⟨Nat.le_of_ble_eq_true rfl, Nat.le_of_ble_eq_true rfl⟩) rfl hl.1 rfl (Nat.le_of_ble_eq_true rfl) dX12_rust_249 ⟨Nat.zero_le _, Nat.zero_le _⟩) hw hA hS (fun G16 H locs hp hw hS => ?_)
              obtain ⟨hM, hfr16⟩ := hp
              have hfr := fr_tr hfr hfr16 (Nat.le_refl _) (Nat.le_refl _)
              rw [hsm, show si = 2 ^ R 1 by omega, hwl8] at hM
              refine lv_iconst (v := nI 1) hx hb dX12_rust_252 (by decide) ?_
              exact nr_retI hx hb hr hlocks hw hS (Or.inr (⟨jk, jw, jc, hjk, rfl, hjwb, rfl, by assumption, hjcb, rfl, rfl, _, hhl, hM, hfr⟩)) dX12_rust_253
            · refine lv_iload hx hb dX12_rust_112 (lv_at hl 6 rfl) ?_
              refine lv_iload_n hx hb dX12_rust_114 rfl (lv_at hl 2 rfl) ?_
              refine lv_iconst (v := (-1)) hx hb dX12_rust_115 (by decide) ?_
              refine nr_not hx hb dX12_rust_116 ?_
              refine nr_iand hx hb dX12_rust_117 ?_
              refine nr_if_ne (tgt := 238) hx hb (by omega) dX12_rust_118 (by decide) (fun c17 => ?_) (fun c17 => ?_)
              · refine nr_inc (d := 1) (k := 6) (lv' := [(8, .int (nI (si + 1))), (0, .ref (ad Γ (mo + 0))), (1, .int (nI jk)), (2, .int (nI jw)), (3, .int (nI jc)), (4, .long (lN sm)), (6, .long (lN wl))]) hx hb dX12_rust_238 hl rfl (by decide) (by decide) rfl (fun ls hl => ?_)
                refine lv_goto (tgt := 101) hx hb dX12_rust_241 (by decide) ?_
                exact ih101 (Gl101, si + 1, sm, hdL101) _ _ _ _ hw hS (lv_sub hl [1, 2, 3, 4, 5, 6, 0] rfl) ⟨rfl, hM, hfr, by (try dsimp only); omega, by (try dsimp only); simp only [sumF]; first | (rw [if_pos ⟨by assumption, by rw [show R 1 = j by omega, ← hh]; assumption⟩, ← hsm, hcs, show j = R 1 by omega]; done) | (rw [if_neg]; (first | exact hsm | (rw [Nat.add_zero]; exact hsm)); intro h9; first | exact absurd h9.1 (by assumption) | exact absurd h9.2 (by rw [show R 1 = j by omega, ← hh]; assumption)), by (try dsimp only); first | exact hht | (intro u hu; rw [hh, hand_tail hX jw si hu j (by omega)]; unfold cpyR; rw [if_neg (by omega)]), by (try dsimp only); first | exact hhl | (rw [hh]; exact (aI_hand hX jw si j (by omega)).1)⟩ (by (try dsimp only); omega)
              · refine lv_lconst (v := lN 1) hx hb dX12_rust_121 rfl ?_
                refine lv_lstore (lv' := [(9, .long (lN 1)), (0, .ref (ad Γ (mo + 0))), (1, .int (nI jk)), (2, .int (nI jw)), (3, .int (nI jc)), (4, .long (lN sm)), (6, .long (lN wl)), (8, .int (nI si))]) hx hb dX12_rust_122 hl (by decide) rfl (fun ls hl => ?_)
                refine lv_aload_n hx hb dX12_rust_124 rfl (lv_at hl 1 rfl) ?_
                refine nr_goV (nr_runV (As := []) (C := RX12) (T := TX12) (N := 19) ⟨hx, hb, hml, hown, hts⟩ hw (by omega) (isM_0 hM) rfl (c_X12_layHand l Γ n Gl101 mo R K kp rf ca rc hdL101 fw tl by0 an vl iv hM (by omega) hI hj) (cwV 0 hts gX12_rust_X12_layHand rfl rfl rfl (by decide +kernel) ⟨Nat.le_of_ble_eq_true rfl, Nat.le_of_ble_eq_true rfl⟩) rfl hl.1 rfl (Nat.le_of_ble_eq_true rfl) dX12_rust_125 ⟨Nat.zero_le _, Nat.zero_le _⟩) hw hA hS (fun G18 H locs hp hw hS => ?_)
                obtain ⟨hM, hfr18⟩ := hp
                have hfr := fr_tr hfr hfr18 (Nat.le_refl _) (Nat.le_refl _)
                have hcy : cpyR hdL101 R 60 = cpyR hd R 60 := cpy_tail hht
                rw [hcy] at hM
                refine lv_iconst (v := nI 0) hx hb dX12_rust_128 (by decide) ?_
                refine lv_istore (lv' := [(11, .int (nI 0)), (9, .long (lN 1)), (0, .ref (ad Γ (mo + 0))), (1, .int (nI jk)), (2, .int (nI jw)), (3, .int (nI jc)), (4, .long (lN sm)), (6, .long (lN wl)), (8, .int (nI si))]) hx hb dX12_rust_129 hl (by decide) rfl (fun ls hl => ?_)
                refine nr_lpI (σ := (Nat → va_E) × Nat × Nat × (Nat → Nat)) 131 (fun x => x.1) (fun x lv => lv = [(0, .ref (ad Γ (mo + 0))), (1, .int (nI jk)), (2, .int (nI jw)), (3, .int (nI jc)), (4, .long (lN sm)), (6, .long (lN wl)), (8, .int (nI si)), (9, .long (lN x.2.2.1)), (11, .int (nI x.2.1))] ∧ isM Γ x.1 mo R K kp rf ca rc x.2.2.2 fw tl by0 an vl iv ∧ fr G x.1 mo (mo + 13) ∧ (x.2.1 ≤ R 1) ∧ (x.2.2.2 = handF (cpyR hd R 60) jw si x.2.1) ∧ (x.2.2.1 = waysF jw si jc x.2.1)) (fun x => R 1 - x.2.1) (G18, 0, 1, cpyR hd R 60) hw hS (lv_sub hl [2, 3, 4, 5, 6, 7, 8, 1, 0] rfl) ⟨rfl, hM, hfr, by (try dsimp only); omega, rfl, rfl⟩ ?_
                intro x lv ls H locs hw hS hl hI ih131
                obtain ⟨Gl131, j, cs, hdL131⟩ := x
                obtain ⟨rfl, hM, hfr, hj2, hh, hcs⟩ := hI
                try dsimp only at hM hfr hj2 hh hcs hw hl ih131
                have hwf := waysF_le (ws := jw) (si := si) hjcb j
                have hpj : 10 ^ j ≤ 10 ^ 8 := Nat.pow_le_pow_right (by omega) (by omega)
                have hpk : (10 : Nat) ^ 8 = 100000000 := rfl
                refine lv_iload hx hb dX12_rust_131 (lv_at hl 8 rfl) ?_
                refine lv_aload_n hx hb dX12_rust_133 rfl (lv_at hl 0 rfl) ?_
                refine nr_goS (nr_runV (As := []) (C := RX12) (T := TX12) (N := 19) ⟨hx, hb, hml, hown, hts⟩ hw (by omega) (isM_0 hM) rfl (c_X12_many l Γ n Gl131 mo R K kp rf ca rc hdL131 fw tl by0 an vl iv hM (by omega) hI) (cwV 0 hts gX12_rust_X12_many rfl rfl rfl (by decide +kernel) ⟨Nat.le_of_ble_eq_true rfl, Nat.le_of_ble_eq_true rfl⟩) rfl hl.1 rfl (Nat.le_of_ble_eq_true rfl) dX12_rust_134 ⟨Nat.zero_le _, Nat.zero_le _⟩) (fun r19 hr19 => ?_)
                obtain rfl : r19 = (nI (R 1)) := hr19
                refine nr_icmp_ge (tgt := 216) hx hb (by omega) (by omega) dX12_rust_137 (by decide) (fun c20 => ?_) (fun c20 => ?_)
                · refine lv_lload hx hb dX12_rust_216 (lv_at hl 4 rfl) ?_
                  refine lv_aload_n hx hb dX12_rust_218 rfl (lv_at hl 0 rfl) ?_
                  refine nr_get (own := RX12) (C := RX12) (T := TX12) (N := 19) (v := .ref (ad Γ (mo + 7))) hx hb hts hi_X12_rust_X12 hown hw (by omega) (isM_0 hM) rfl 8 (by decide) wl_X12_rust_2 rfl rfl dX12_rust_219 ?_
                  refine lv_iload_n hx hb dX12_rust_222 rfl (lv_at hl 1 rfl) ?_
                  refine nr_goB (P := canP hdL131 jk) (nr_runS (As := [.ref (ad Γ (mo + 7)), .int (nI jk)]) ⟨hx, hb, hml, hown, hts⟩ hw (c_X12_canOff l Γ n Gl131 (mo + 7) 60 hdL131 (isM_7 hM) (by omega) (by omega) (by omega) (by rw [hh]; exact aI_hand hX jw si j (by omega)) jk (by omega)) (va_cwS 2 hts gX12_rust_X12_canOff rfl rfl rfl (by decide +kernel) ⟨Nat.le_of_ble_eq_true rfl, Nat.le_of_ble_eq_true rfl⟩) rfl hl.1 rfl (Nat.le_of_ble_eq_true rfl) dX12_rust_223 ⟨Nat.zero_le _, Nat.zero_le _⟩) (fun b21 => ?_) (fun b21 => ?_)
                  · refine nr_if_eq (tgt := 234) hx hb (by decide) dX12_rust_226 (by decide) (fun c22 => absurd c22 (by decide)) (fun c22 => ?_)
                    refine lv_lload hx hb dX12_rust_229 (lv_at hl 7 rfl) ?_
                    refine lv_goto (tgt := 235) hx hb dX12_rust_231 (by decide) ?_
                    refine nr_ladd hx hb dX12_rust_235 ?_
                    refine lv_lstore (lv' := [(4, .long (lN (sm + cs))), (0, .ref (ad Γ (mo + 0))), (1, .int (nI jk)), (2, .int (nI jw)), (3, .int (nI jc)), (6, .long (lN wl)), (8, .int (nI si)), (9, .long (lN cs)), (11, .int (nI j))]) hx hb dX12_rust_236 hl (by decide) rfl (fun ls hl => ?_)
                    refine nr_inc (d := 1) (k := 6) (lv' := [(8, .int (nI (si + 1))), (4, .long (lN (sm + cs))), (0, .ref (ad Γ (mo + 0))), (1, .int (nI jk)), (2, .int (nI jw)), (3, .int (nI jc)), (6, .long (lN wl)), (9, .long (lN cs)), (11, .int (nI j))]) hx hb dX12_rust_238 hl rfl (by decide) (by decide) rfl (fun ls hl => ?_)
                    refine lv_goto (tgt := 101) hx hb dX12_rust_241 (by decide) ?_
                    exact ih101 (Gl131, si + 1, sm + cs, hdL131) _ _ _ _ hw hS (lv_sub hl [2, 3, 4, 5, 1, 6, 0] rfl) ⟨rfl, hM, hfr, by (try dsimp only); omega, by (try dsimp only); simp only [sumF]; first | (rw [if_pos ⟨by assumption, by rw [show R 1 = j by omega, ← hh]; assumption⟩, ← hsm, hcs, show j = R 1 by omega]; done) | (rw [if_neg]; (first | exact hsm | (rw [Nat.add_zero]; exact hsm)); intro h9; first | exact absurd h9.1 (by assumption) | exact absurd h9.2 (by rw [show R 1 = j by omega, ← hh]; assumption)), by (try dsimp only); first | exact hht | (intro u hu; rw [hh, hand_tail hX jw si hu j (by omega)]; unfold cpyR; rw [if_neg (by omega)]), by (try dsimp only); first | exact hhl | (rw [hh]; exact (aI_hand hX jw si j (by omega)).1)⟩ (by (try dsimp only); omega)
                  · refine nr_if_eq (tgt := 234) hx hb (by decide) dX12_rust_226 (by decide) (fun c23 => ?_) (fun c23 => absurd c23 (by decide))
                    refine lv_lconst (v := lN 0) hx hb dX12_rust_234 rfl ?_
                    refine nr_ladd hx hb dX12_rust_235 ?_
                    refine lv_lstore (lv' := [(4, .long (lN (sm + 0))), (0, .ref (ad Γ (mo + 0))), (1, .int (nI jk)), (2, .int (nI jw)), (3, .int (nI jc)), (6, .long (lN wl)), (8, .int (nI si)), (9, .long (lN cs)), (11, .int (nI j))]) hx hb dX12_rust_236 hl (by decide) rfl (fun ls hl => ?_)
                    refine nr_inc (d := 1) (k := 6) (lv' := [(8, .int (nI (si + 1))), (4, .long (lN (sm + 0))), (0, .ref (ad Γ (mo + 0))), (1, .int (nI jk)), (2, .int (nI jw)), (3, .int (nI jc)), (6, .long (lN wl)), (9, .long (lN cs)), (11, .int (nI j))]) hx hb dX12_rust_238 hl rfl (by decide) (by decide) rfl (fun ls hl => ?_)
                    refine lv_goto (tgt := 101) hx hb dX12_rust_241 (by decide) ?_
                    exact ih101 (Gl131, si + 1, sm + 0, hdL131) _ _ _ _ hw hS (lv_sub hl [2, 3, 4, 5, 1, 6, 0] rfl) ⟨rfl, hM, hfr, by (try dsimp only); omega, by (try dsimp only); simp only [sumF]; first | (rw [if_pos ⟨by assumption, by rw [show R 1 = j by omega, ← hh]; assumption⟩, ← hsm, hcs, show j = R 1 by omega]; done) | (rw [if_neg]; (first | exact hsm | (rw [Nat.add_zero]; exact hsm)); intro h9; first | exact absurd h9.1 (by assumption) | exact absurd h9.2 (by rw [show R 1 = j by omega, ← hh]; assumption)), by (try dsimp only); first | exact hht | (intro u hu; rw [hh, hand_tail hX jw si hu j (by omega)]; unfold cpyR; rw [if_neg (by omega)]), by (try dsimp only); first | exact hhl | (rw [hh]; exact (aI_hand hX jw si j (by omega)).1)⟩ (by (try dsimp only); omega)
                · refine lv_iload_n hx hb dX12_rust_140 rfl (lv_at hl 2 rfl) ?_
                  refine lv_iload hx hb dX12_rust_141 (lv_at hl 8 rfl) ?_
                  refine nr_goB (P := bt jw j) (nr_runS (As := [.int (nI jw), .int (nI j)]) ⟨hx, hb, hml, hown, hts⟩ hw (c_X12_has l Γ n Gl131 jw j (by omega) (by omega)) (va_cwS 2 hts gX12_rust_X12_has rfl rfl rfl (by decide +kernel) ⟨Nat.le_of_ble_eq_true rfl, Nat.le_of_ble_eq_true rfl⟩) rfl hl.1 rfl (Nat.le_of_ble_eq_true rfl) dX12_rust_143 ⟨Nat.zero_le _, Nat.zero_le _⟩) (fun b24 => ?_) (fun b24 => ?_)
                  · refine nr_if_eq (tgt := 210) hx hb (by decide) dX12_rust_146 (by decide) (fun c25 => absurd c25 (by decide)) (fun c25 => ?_)
                    refine lv_lload hx hb dX12_rust_149 (lv_at hl 7 rfl) ?_
                    refine lv_iload hx hb dX12_rust_151 (lv_at hl 6 rfl) ?_
                    refine lv_iload hx hb dX12_rust_153 (lv_at hl 8 rfl) ?_
                    refine nr_goB (P := bt si j) (nr_runS (As := [.int (nI si), .int (nI j)]) ⟨hx, hb, hml, hown, hts⟩ hw (c_X12_has l Γ n Gl131 si j (by omega) (by omega)) (va_cwS 2 hts gX12_rust_X12_has rfl rfl rfl (by decide +kernel) ⟨Nat.le_of_ble_eq_true rfl, Nat.le_of_ble_eq_true rfl⟩) rfl hl.1 rfl (Nat.le_of_ble_eq_true rfl) dX12_rust_155 ⟨Nat.zero_le _, Nat.zero_le _⟩) (fun b26 => ?_) (fun b26 => ?_)
                    · refine nr_if_eq (tgt := 166) hx hb (by decide) dX12_rust_158 (by decide) (fun c27 => absurd c27 (by decide)) (fun c27 => ?_)
                      refine lv_iload_n hx hb dX12_rust_161 rfl (lv_at hl 3 rfl) ?_
                      refine lv_i2l (v := lN jc) hx hb dX12_rust_162 (nI_l (by omega)) ?_
                      refine lv_goto (tgt := 171) hx hb dX12_rust_163 (by decide) ?_
                      refine nr_lmul hx hb dX12_rust_171 ?_
                      refine lv_lstore (lv' := [(9, .long (lN (cs * jc))), (0, .ref (ad Γ (mo + 0))), (1, .int (nI jk)), (2, .int (nI jw)), (3, .int (nI jc)), (4, .long (lN sm)), (6, .long (lN wl)), (8, .int (nI si)), (11, .int (nI j))]) hx hb dX12_rust_172 hl (by decide) rfl (fun ls hl => ?_)
                      refine lv_aload_n hx hb dX12_rust_174 rfl (lv_at hl 1 rfl) ?_
                      refine nr_get (own := RX12) (C := RX12) (T := TX12) (N := 19) (v := .ref (ad Γ (mo + 7))) hx hb hts hi_X12_rust_X12 hown hw (by omega) (isM_0 hM) rfl 8 (by decide) wl_X12_rust_2 rfl rfl dX12_rust_175 ?_
                      refine lv_iload hx hb dX12_rust_178 (lv_at hl 8 rfl) ?_
                      refine nr_goB (P := canP hdL131 j) (nr_runS (As := [.ref (ad Γ (mo + 7)), .int (nI j)]) ⟨hx, hb, hml, hown, hts⟩ hw (c_X12_canOff l Γ n Gl131 (mo + 7) 60 hdL131 (isM_7 hM) (by omega) (by omega) (by omega) (by rw [hh]; exact aI_hand hX jw si j (by omega)) j (by omega)) (va_cwS 2 hts gX12_rust_X12_canOff rfl rfl rfl (by decide +kernel) ⟨Nat.le_of_ble_eq_true rfl, Nat.le_of_ble_eq_true rfl⟩) rfl hl.1 rfl (Nat.le_of_ble_eq_true rfl) dX12_rust_180 ⟨Nat.zero_le _, Nat.zero_le _⟩) (fun b28 => ?_) (fun b28 => ?_)
                      · refine nr_if_eq (tgt := 210) hx hb (by decide) dX12_rust_183 (by decide) (fun c29 => absurd c29 (by decide)) (fun c29 => ?_)
                        refine lv_aload_n hx hb dX12_rust_186 rfl (lv_at hl 1 rfl) ?_
                        refine nr_get (own := RX12) (C := RX12) (T := TX12) (N := 19) (v := .ref (ad Γ (mo + 7))) hx hb hts hi_X12_rust_X12 hown hw (by omega) (isM_0 hM) rfl 8 (by decide) wl_X12_rust_2 rfl rfl dX12_rust_187 ?_
                        refine lv_iload hx hb dX12_rust_190 (lv_at hl 8 rfl) ?_
                        refine lv_iload hx hb dX12_rust_192 (lv_at hl 7 rfl) ?_
                        refine lv_iload hx hb dX12_rust_194 (lv_at hl 8 rfl) ?_
                        refine nr_goB (P := bt si j) (nr_runS (As := [.int (nI si), .int (nI j)]) ⟨hx, hb, hml, hown, hts⟩ hw (c_X12_has l Γ n Gl131 si j (by omega) (by omega)) (va_cwS 2 hts gX12_rust_X12_has rfl rfl rfl (by decide +kernel) ⟨Nat.le_of_ble_eq_true rfl, Nat.le_of_ble_eq_true rfl⟩) rfl hl.1 rfl (Nat.le_of_ble_eq_true rfl) dX12_rust_196 ⟨Nat.zero_le _, Nat.zero_le _⟩) (fun b30 => ?_) (fun b30 => ?_)
                        · refine nr_if_ne (tgt := 206) hx hb (by decide) dX12_rust_199 (by decide) (fun c31 => ?_) (fun c31 => absurd c31 (by decide))
                          refine lv_iconst (v := nI 0) hx hb dX12_rust_206 (by decide) ?_
                          refine nr_goV (nr_runS (As := [.ref (ad Γ (mo + 7)), .int (nI j), .int (nI 0)]) ⟨hx, hb, hml, hown, hts⟩ hw (c_X12_goOff l Γ n Gl131 (mo + 7) 60 hdL131 (isM_7 hM) (by omega) (by omega) (by omega) (by rw [hh]; exact aI_hand hX jw si j (by omega)) hj j 0 (by omega) (by omega)) (va_cwS 3 hts gX12_rust_X12_goOff rfl rfl rfl (by decide +kernel) ⟨Nat.le_of_ble_eq_true rfl, Nat.le_of_ble_eq_true rfl⟩) rfl hl.1 rfl (Nat.le_of_ble_eq_true rfl) dX12_rust_207 ⟨Nat.zero_le _, Nat.zero_le _⟩) hw hA hS (fun G32 H locs hp hw hS => ?_)
                          subst hp
                          have hM := isM_s7 hM (offR hdL131 j 0)
                          have hfr := fr_up hfr (i := mo + 7) (by omega) (by omega) (na Γ 60 (offR hdL131 j 0))
                          generalize va_up Gl131 (mo + 7) (na Γ 60 (offR hdL131 j 0)) = G33 at hw hM hfr
                          refine nr_inc (d := 1) (k := 8) (lv' := [(11, .int (nI (j + 1))), (9, .long (lN (cs * jc))), (0, .ref (ad Γ (mo + 0))), (1, .int (nI jk)), (2, .int (nI jw)), (3, .int (nI jc)), (4, .long (lN sm)), (6, .long (lN wl)), (8, .int (nI si))]) hx hb dX12_rust_210 hl rfl (by decide) (by decide) rfl (fun ls hl => ?_)
                          refine lv_goto (tgt := 131) hx hb dX12_rust_213 (by decide) ?_
                          exact ih131 (G33, j + 1, cs * jc, offR hdL131 j 0) _ _ _ _ hw hS (lv_sub hl [2, 3, 4, 5, 6, 7, 8, 1, 0] rfl) ⟨rfl, hM, hfr, by (try dsimp only); omega, by (try dsimp only); first | contradiction | (rw [hh]; simp only [handF]; first | (rw [if_pos ⟨by assumption, by rw [← hh]; assumption⟩]; first | rw [if_pos (by assumption)] | rw [if_neg (by assumption)]) | (rw [if_neg]; intro h9; first | exact absurd h9.1 (by assumption) | exact absurd h9.2 (by rw [← hh]; assumption))), by (try dsimp only); first | contradiction | (rw [hcs]; simp only [waysF]; first | rw [if_pos (by assumption), if_pos (by assumption)] | rw [if_pos (by assumption), if_neg (by assumption)] | rw [if_neg (by assumption)])⟩ (by (try dsimp only); omega)
                        · refine nr_if_ne (tgt := 206) hx hb (by decide) dX12_rust_199 (by decide) (fun c34 => absurd c34 (by decide)) (fun c34 => ?_)
                          refine lv_iconst (v := nI 1) hx hb dX12_rust_202 (by decide) ?_
                          refine lv_goto (tgt := 207) hx hb dX12_rust_203 (by decide) ?_
                          refine nr_goV (nr_runS (As := [.ref (ad Γ (mo + 7)), .int (nI j), .int (nI 1)]) ⟨hx, hb, hml, hown, hts⟩ hw (c_X12_goOff l Γ n Gl131 (mo + 7) 60 hdL131 (isM_7 hM) (by omega) (by omega) (by omega) (by rw [hh]; exact aI_hand hX jw si j (by omega)) hj j 1 (by omega) (by omega)) (va_cwS 3 hts gX12_rust_X12_goOff rfl rfl rfl (by decide +kernel) ⟨Nat.le_of_ble_eq_true rfl, Nat.le_of_ble_eq_true rfl⟩) rfl hl.1 rfl (Nat.le_of_ble_eq_true rfl) dX12_rust_207 ⟨Nat.zero_le _, Nat.zero_le _⟩) hw hA hS (fun G35 H locs hp hw hS => ?_)
                          subst hp
                          have hM := isM_s7 hM (offR hdL131 j 1)
                          have hfr := fr_up hfr (i := mo + 7) (by omega) (by omega) (na Γ 60 (offR hdL131 j 1))
                          generalize va_up Gl131 (mo + 7) (na Γ 60 (offR hdL131 j 1)) = G36 at hw hM hfr
                          refine nr_inc (d := 1) (k := 8) (lv' := [(11, .int (nI (j + 1))), (9, .long (lN (cs * jc))), (0, .ref (ad Γ (mo + 0))), (1, .int (nI jk)), (2, .int (nI jw)), (3, .int (nI jc)), (4, .long (lN sm)), (6, .long (lN wl)), (8, .int (nI si))]) hx hb dX12_rust_210 hl rfl (by decide) (by decide) rfl (fun ls hl => ?_)
                          refine lv_goto (tgt := 131) hx hb dX12_rust_213 (by decide) ?_
                          exact ih131 (G36, j + 1, cs * jc, offR hdL131 j 1) _ _ _ _ hw hS (lv_sub hl [2, 3, 4, 5, 6, 7, 8, 1, 0] rfl) ⟨rfl, hM, hfr, by (try dsimp only); omega, by (try dsimp only); first | contradiction | (rw [hh]; simp only [handF]; first | (rw [if_pos ⟨by assumption, by rw [← hh]; assumption⟩]; first | rw [if_pos (by assumption)] | rw [if_neg (by assumption)]) | (rw [if_neg]; intro h9; first | exact absurd h9.1 (by assumption) | exact absurd h9.2 (by rw [← hh]; assumption))), by (try dsimp only); first | contradiction | (rw [hcs]; simp only [waysF]; first | rw [if_pos (by assumption), if_pos (by assumption)] | rw [if_pos (by assumption), if_neg (by assumption)] | rw [if_neg (by assumption)])⟩ (by (try dsimp only); omega)
                      · refine nr_if_eq (tgt := 210) hx hb (by decide) dX12_rust_183 (by decide) (fun c37 => ?_) (fun c37 => absurd c37 (by decide))
                        refine nr_inc (d := 1) (k := 8) (lv' := [(11, .int (nI (j + 1))), (9, .long (lN (cs * jc))), (0, .ref (ad Γ (mo + 0))), (1, .int (nI jk)), (2, .int (nI jw)), (3, .int (nI jc)), (4, .long (lN sm)), (6, .long (lN wl)), (8, .int (nI si))]) hx hb dX12_rust_210 hl rfl (by decide) (by decide) rfl (fun ls hl => ?_)
                        refine lv_goto (tgt := 131) hx hb dX12_rust_213 (by decide) ?_
                        exact ih131 (Gl131, j + 1, cs * jc, hdL131) _ _ _ _ hw hS (lv_sub hl [2, 3, 4, 5, 6, 7, 8, 1, 0] rfl) ⟨rfl, hM, hfr, by (try dsimp only); omega, by (try dsimp only); first | contradiction | (rw [hh]; simp only [handF]; first | (rw [if_pos ⟨by assumption, by rw [← hh]; assumption⟩]; first | rw [if_pos (by assumption)] | rw [if_neg (by assumption)]) | (rw [if_neg]; intro h9; first | exact absurd h9.1 (by assumption) | exact absurd h9.2 (by rw [← hh]; assumption))), by (try dsimp only); first | contradiction | (rw [hcs]; simp only [waysF]; first | rw [if_pos (by assumption), if_pos (by assumption)] | rw [if_pos (by assumption), if_neg (by assumption)] | rw [if_neg (by assumption)])⟩ (by (try dsimp only); omega)
                    · refine nr_if_eq (tgt := 166) hx hb (by decide) dX12_rust_158 (by decide) (fun c38 => ?_) (fun c38 => absurd c38 (by decide))
                      refine lv_bipush (v := nI 10) hx hb dX12_rust_166 (by decide) ?_
                      refine lv_iload_n hx hb dX12_rust_168 rfl (lv_at hl 3 rfl) ?_
                      refine nr_isub hx hb (by omega) dX12_rust_169 ?_
                      refine lv_i2l (v := lN (10 - jc)) hx hb dX12_rust_170 (nI_l (by omega)) ?_
                      refine nr_lmul hx hb dX12_rust_171 ?_
                      refine lv_lstore (lv' := [(9, .long (lN (cs * (10 - jc)))), (0, .ref (ad Γ (mo + 0))), (1, .int (nI jk)), (2, .int (nI jw)), (3, .int (nI jc)), (4, .long (lN sm)), (6, .long (lN wl)), (8, .int (nI si)), (11, .int (nI j))]) hx hb dX12_rust_172 hl (by decide) rfl (fun ls hl => ?_)
                      refine lv_aload_n hx hb dX12_rust_174 rfl (lv_at hl 1 rfl) ?_
                      refine nr_get (own := RX12) (C := RX12) (T := TX12) (N := 19) (v := .ref (ad Γ (mo + 7))) hx hb hts hi_X12_rust_X12 hown hw (by omega) (isM_0 hM) rfl 8 (by decide) wl_X12_rust_2 rfl rfl dX12_rust_175 ?_
                      refine lv_iload hx hb dX12_rust_178 (lv_at hl 8 rfl) ?_
                      refine nr_goB (P := canP hdL131 j) (nr_runS (As := [.ref (ad Γ (mo + 7)), .int (nI j)]) ⟨hx, hb, hml, hown, hts⟩ hw (c_X12_canOff l Γ n Gl131 (mo + 7) 60 hdL131 (isM_7 hM) (by omega) (by omega) (by omega) (by rw [hh]; exact aI_hand hX jw si j (by omega)) j (by omega)) (va_cwS 2 hts gX12_rust_X12_canOff rfl rfl rfl (by decide +kernel) ⟨Nat.le_of_ble_eq_true rfl, Nat.le_of_ble_eq_true rfl⟩) rfl hl.1 rfl (Nat.le_of_ble_eq_true rfl) dX12_rust_180 ⟨Nat.zero_le _, Nat.zero_le _⟩) (fun b39 => ?_) (fun b39 => ?_)
                      · refine nr_if_eq (tgt := 210) hx hb (by decide) dX12_rust_183 (by decide) (fun c40 => absurd c40 (by decide)) (fun c40 => ?_)
                        refine lv_aload_n hx hb dX12_rust_186 rfl (lv_at hl 1 rfl) ?_
                        refine nr_get (own := RX12) (C := RX12) (T := TX12) (N := 19) (v := .ref (ad Γ (mo + 7))) hx hb hts hi_X12_rust_X12 hown hw (by omega) (isM_0 hM) rfl 8 (by decide) wl_X12_rust_2 rfl rfl dX12_rust_187 ?_
                        refine lv_iload hx hb dX12_rust_190 (lv_at hl 8 rfl) ?_
                        refine lv_iload hx hb dX12_rust_192 (lv_at hl 7 rfl) ?_
                        refine lv_iload hx hb dX12_rust_194 (lv_at hl 8 rfl) ?_
                        refine nr_goB (P := bt si j) (nr_runS (As := [.int (nI si), .int (nI j)]) ⟨hx, hb, hml, hown, hts⟩ hw (c_X12_has l Γ n Gl131 si j (by omega) (by omega)) (va_cwS 2 hts gX12_rust_X12_has rfl rfl rfl (by decide +kernel) ⟨Nat.le_of_ble_eq_true rfl, Nat.le_of_ble_eq_true rfl⟩) rfl hl.1 rfl (Nat.le_of_ble_eq_true rfl) dX12_rust_196 ⟨Nat.zero_le _, Nat.zero_le _⟩) (fun b41 => ?_) (fun b41 => ?_)
                        · refine nr_if_ne (tgt := 206) hx hb (by decide) dX12_rust_199 (by decide) (fun c42 => ?_) (fun c42 => absurd c42 (by decide))
                          refine lv_iconst (v := nI 0) hx hb dX12_rust_206 (by decide) ?_
                          refine nr_goV (nr_runS (As := [.ref (ad Γ (mo + 7)), .int (nI j), .int (nI 0)]) ⟨hx, hb, hml, hown, hts⟩ hw (c_X12_goOff l Γ n Gl131 (mo + 7) 60 hdL131 (isM_7 hM) (by omega) (by omega) (by omega) (by rw [hh]; exact aI_hand hX jw si j (by omega)) hj j 0 (by omega) (by omega)) (va_cwS 3 hts gX12_rust_X12_goOff rfl rfl rfl (by decide +kernel) ⟨Nat.le_of_ble_eq_true rfl, Nat.le_of_ble_eq_true rfl⟩) rfl hl.1 rfl (Nat.le_of_ble_eq_true rfl) dX12_rust_207 ⟨Nat.zero_le _, Nat.zero_le _⟩) hw hA hS (fun G43 H locs hp hw hS => ?_)
                          subst hp
                          have hM := isM_s7 hM (offR hdL131 j 0)
                          have hfr := fr_up hfr (i := mo + 7) (by omega) (by omega) (na Γ 60 (offR hdL131 j 0))
                          generalize va_up Gl131 (mo + 7) (na Γ 60 (offR hdL131 j 0)) = G44 at hw hM hfr
                          refine nr_inc (d := 1) (k := 8) (lv' := [(11, .int (nI (j + 1))), (9, .long (lN (cs * (10 - jc)))), (0, .ref (ad Γ (mo + 0))), (1, .int (nI jk)), (2, .int (nI jw)), (3, .int (nI jc)), (4, .long (lN sm)), (6, .long (lN wl)), (8, .int (nI si))]) hx hb dX12_rust_210 hl rfl (by decide) (by decide) rfl (fun ls hl => ?_)
                          refine lv_goto (tgt := 131) hx hb dX12_rust_213 (by decide) ?_
                          exact ih131 (G44, j + 1, cs * (10 - jc), offR hdL131 j 0) _ _ _ _ hw hS (lv_sub hl [2, 3, 4, 5, 6, 7, 8, 1, 0] rfl) ⟨rfl, hM, hfr, by (try dsimp only); omega, by (try dsimp only); first | contradiction | (rw [hh]; simp only [handF]; first | (rw [if_pos ⟨by assumption, by rw [← hh]; assumption⟩]; first | rw [if_pos (by assumption)] | rw [if_neg (by assumption)]) | (rw [if_neg]; intro h9; first | exact absurd h9.1 (by assumption) | exact absurd h9.2 (by rw [← hh]; assumption))), by (try dsimp only); first | contradiction | (rw [hcs]; simp only [waysF]; first | rw [if_pos (by assumption), if_pos (by assumption)] | rw [if_pos (by assumption), if_neg (by assumption)] | rw [if_neg (by assumption)])⟩ (by (try dsimp only); omega)
                        · refine nr_if_ne (tgt := 206) hx hb (by decide) dX12_rust_199 (by decide) (fun c45 => absurd c45 (by decide)) (fun c45 => ?_)
                          refine lv_iconst (v := nI 1) hx hb dX12_rust_202 (by decide) ?_
                          refine lv_goto (tgt := 207) hx hb dX12_rust_203 (by decide) ?_
                          refine nr_goV (nr_runS (As := [.ref (ad Γ (mo + 7)), .int (nI j), .int (nI 1)]) ⟨hx, hb, hml, hown, hts⟩ hw (c_X12_goOff l Γ n Gl131 (mo + 7) 60 hdL131 (isM_7 hM) (by omega) (by omega) (by omega) (by rw [hh]; exact aI_hand hX jw si j (by omega)) hj j 1 (by omega) (by omega)) (va_cwS 3 hts gX12_rust_X12_goOff rfl rfl rfl (by decide +kernel) ⟨Nat.le_of_ble_eq_true rfl, Nat.le_of_ble_eq_true rfl⟩) rfl hl.1 rfl (Nat.le_of_ble_eq_true rfl) dX12_rust_207 ⟨Nat.zero_le _, Nat.zero_le _⟩) hw hA hS (fun G46 H locs hp hw hS => ?_)
                          subst hp
                          have hM := isM_s7 hM (offR hdL131 j 1)
                          have hfr := fr_up hfr (i := mo + 7) (by omega) (by omega) (na Γ 60 (offR hdL131 j 1))
                          generalize va_up Gl131 (mo + 7) (na Γ 60 (offR hdL131 j 1)) = G47 at hw hM hfr
                          refine nr_inc (d := 1) (k := 8) (lv' := [(11, .int (nI (j + 1))), (9, .long (lN (cs * (10 - jc)))), (0, .ref (ad Γ (mo + 0))), (1, .int (nI jk)), (2, .int (nI jw)), (3, .int (nI jc)), (4, .long (lN sm)), (6, .long (lN wl)), (8, .int (nI si))]) hx hb dX12_rust_210 hl rfl (by decide) (by decide) rfl (fun ls hl => ?_)
                          refine lv_goto (tgt := 131) hx hb dX12_rust_213 (by decide) ?_
                          exact ih131 (G47, j + 1, cs * (10 - jc), offR hdL131 j 1) _ _ _ _ hw hS (lv_sub hl [2, 3, 4, 5, 6, 7, 8, 1, 0] rfl) ⟨rfl, hM, hfr, by (try dsimp only); omega, by (try dsimp only); first | contradiction | (rw [hh]; simp only [handF]; first | (rw [if_pos ⟨by assumption, by rw [← hh]; assumption⟩]; first | rw [if_pos (by assumption)] | rw [if_neg (by assumption)]) | (rw [if_neg]; intro h9; first | exact absurd h9.1 (by assumption) | exact absurd h9.2 (by rw [← hh]; assumption))), by (try dsimp only); first | contradiction | (rw [hcs]; simp only [waysF]; first | rw [if_pos (by assumption), if_pos (by assumption)] | rw [if_pos (by assumption), if_neg (by assumption)] | rw [if_neg (by assumption)])⟩ (by (try dsimp only); omega)
                      · refine nr_if_eq (tgt := 210) hx hb (by decide) dX12_rust_183 (by decide) (fun c48 => ?_) (fun c48 => absurd c48 (by decide))
                        refine nr_inc (d := 1) (k := 8) (lv' := [(11, .int (nI (j + 1))), (9, .long (lN (cs * (10 - jc)))), (0, .ref (ad Γ (mo + 0))), (1, .int (nI jk)), (2, .int (nI jw)), (3, .int (nI jc)), (4, .long (lN sm)), (6, .long (lN wl)), (8, .int (nI si))]) hx hb dX12_rust_210 hl rfl (by decide) (by decide) rfl (fun ls hl => ?_)
                        refine lv_goto (tgt := 131) hx hb dX12_rust_213 (by decide) ?_
                        exact ih131 (Gl131, j + 1, cs * (10 - jc), hdL131) _ _ _ _ hw hS (lv_sub hl [2, 3, 4, 5, 6, 7, 8, 1, 0] rfl) ⟨rfl, hM, hfr, by (try dsimp only); omega, by (try dsimp only); first | contradiction | (rw [hh]; simp only [handF]; first | (rw [if_pos ⟨by assumption, by rw [← hh]; assumption⟩]; first | rw [if_pos (by assumption)] | rw [if_neg (by assumption)]) | (rw [if_neg]; intro h9; first | exact absurd h9.1 (by assumption) | exact absurd h9.2 (by rw [← hh]; assumption))), by (try dsimp only); first | contradiction | (rw [hcs]; simp only [waysF]; first | rw [if_pos (by assumption), if_pos (by assumption)] | rw [if_pos (by assumption), if_neg (by assumption)] | rw [if_neg (by assumption)])⟩ (by (try dsimp only); omega)
                  · refine nr_if_eq (tgt := 210) hx hb (by decide) dX12_rust_146 (by decide) (fun c49 => ?_) (fun c49 => absurd c49 (by decide))
                    refine nr_inc (d := 1) (k := 8) (lv' := [(11, .int (nI (j + 1))), (0, .ref (ad Γ (mo + 0))), (1, .int (nI jk)), (2, .int (nI jw)), (3, .int (nI jc)), (4, .long (lN sm)), (6, .long (lN wl)), (8, .int (nI si)), (9, .long (lN cs))]) hx hb dX12_rust_210 hl rfl (by decide) (by decide) rfl (fun ls hl => ?_)
                    refine lv_goto (tgt := 131) hx hb dX12_rust_213 (by decide) ?_
                    exact ih131 (Gl131, j + 1, cs, hdL131) _ _ _ _ hw hS (lv_sub hl [1, 2, 3, 4, 5, 6, 7, 8, 0] rfl) ⟨rfl, hM, hfr, by (try dsimp only); omega, by (try dsimp only); first | contradiction | (rw [hh]; simp only [handF]; first | (rw [if_pos ⟨by assumption, by rw [← hh]; assumption⟩]; first | rw [if_pos (by assumption)] | rw [if_neg (by assumption)]) | (rw [if_neg]; intro h9; first | exact absurd h9.1 (by assumption) | exact absurd h9.2 (by rw [← hh]; assumption))), by (try dsimp only); first | contradiction | (rw [hcs]; simp only [waysF]; first | rw [if_pos (by assumption), if_pos (by assumption)] | rw [if_pos (by assumption), if_neg (by assumption)] | rw [if_neg (by assumption)])⟩ (by (try dsimp only); omega)
          · refine lv_lload hx hb dX12_rust_71 (lv_at hl 5 rfl) ?_
            refine lv_iload_n hx hb dX12_rust_73 rfl (lv_at hl 2 rfl) ?_
            refine lv_iload hx hb dX12_rust_74 (lv_at hl 6 rfl) ?_
            refine nr_goB (P := bt jw j) (nr_runS (As := [.int (nI jw), .int (nI j)]) ⟨hx, hb, hml, hown, hts⟩ hw (c_X12_has l Γ n Gl62 jw j (by omega) (by omega)) (va_cwS 2 hts gX12_rust_X12_has rfl rfl rfl (by decide +kernel) ⟨Nat.le_of_ble_eq_true rfl, Nat.le_of_ble_eq_true rfl⟩) rfl hl.1 rfl (Nat.le_of_ble_eq_true rfl) dX12_rust_76 ⟨Nat.zero_le _, Nat.zero_le _⟩) (fun b50 => ?_) (fun b50 => ?_)
            · refine nr_if_eq (tgt := 88) hx hb (by decide) dX12_rust_79 (by decide) (fun c51 => absurd c51 (by decide)) (fun c51 => ?_)
              refine nr_ldc2 (k := 10) hx hb hown (hts _ wl_X12_rust_1) (by decide) dX12_rust_82 ?_
              refine lv_goto (tgt := 89) hx hb dX12_rust_85 (by decide) ?_
              refine nr_lmul hx hb dX12_rust_89 ?_
              refine lv_lstore (lv' := [(6, .long (lN (wl * 10))), (0, .ref (ad Γ (mo + 0))), (1, .int (nI jk)), (2, .int (nI jw)), (3, .int (nI jc)), (4, .long (lN 0)), (8, .int (nI j))]) hx hb dX12_rust_90 hl (by decide) rfl (fun ls hl => ?_)
              refine nr_inc (d := 1) (k := 6) (lv' := [(8, .int (nI (j + 1))), (6, .long (lN (wl * 10))), (0, .ref (ad Γ (mo + 0))), (1, .int (nI jk)), (2, .int (nI jw)), (3, .int (nI jc)), (4, .long (lN 0))]) hx hb dX12_rust_92 hl rfl (by decide) (by decide) rfl (fun ls hl => ?_)
              refine lv_goto (tgt := 62) hx hb dX12_rust_95 (by decide) ?_
              exact ih62 (Gl62, j + 1, wl * 10) _ _ _ _ hw hS (lv_sub hl [2, 3, 4, 5, 6, 1, 0] rfl) ⟨rfl, hM, hfr, by (try dsimp only); omega, by (try dsimp only); rw [hwl]; simp only [wholeF]; first | rw [if_pos (by assumption)] | rw [if_neg (by assumption)]⟩ (by (try dsimp only); omega)
            · refine nr_if_eq (tgt := 88) hx hb (by decide) dX12_rust_79 (by decide) (fun c52 => ?_) (fun c52 => absurd c52 (by decide))
              refine lv_lconst (v := lN 1) hx hb dX12_rust_88 rfl ?_
              refine nr_lmul hx hb dX12_rust_89 ?_
              refine lv_lstore (lv' := [(6, .long (lN (wl * 1))), (0, .ref (ad Γ (mo + 0))), (1, .int (nI jk)), (2, .int (nI jw)), (3, .int (nI jc)), (4, .long (lN 0)), (8, .int (nI j))]) hx hb dX12_rust_90 hl (by decide) rfl (fun ls hl => ?_)
              refine nr_inc (d := 1) (k := 6) (lv' := [(8, .int (nI (j + 1))), (6, .long (lN (wl * 1))), (0, .ref (ad Γ (mo + 0))), (1, .int (nI jk)), (2, .int (nI jw)), (3, .int (nI jc)), (4, .long (lN 0))]) hx hb dX12_rust_92 hl rfl (by decide) (by decide) rfl (fun ls hl => ?_)
              refine lv_goto (tgt := 62) hx hb dX12_rust_95 (by decide) ?_
              exact ih62 (Gl62, j + 1, wl * 1) _ _ _ _ hw hS (lv_sub hl [2, 3, 4, 5, 6, 1, 0] rfl) ⟨rfl, hM, hfr, by (try dsimp only); omega, by (try dsimp only); rw [hwl]; simp only [wholeF]; first | rw [if_pos (by assumption)] | rw [if_neg (by assumption)]⟩ (by (try dsimp only); omega)
        · have b10n : ¬ vRng 0 10 co := fun hh => b10 ((in_c (by decide) (by decide)).mpr hh)
          refine nr_if_ne (tgt := 53) hx hb (by decide) dX12_rust_43 (by decide) (fun c53 => absurd c53 (by decide)) (fun c53 => ?_)
          refine lv_aload_n hx hb dX12_rust_46 rfl (lv_at hl 0 rfl) ?_
          refine lv_bipush (v := (-2)) hx hb dX12_rust_47 (by decide) ?_
          refine nr_goI (nr_runV (As := [.int (-2)]) (C := RX12) (T := TX12) (N := 19) ⟨hx, hb, hml, hown, hts⟩ hw (by omega) (isM_0 hM) rfl (c_X12_bad l Γ n G mo R K kp rf ca rc hd fw tl by0 an vl iv hM (by omega) hI hj (-2)) (cwV 1 hts gX12_rust_X12_bad rfl rfl rfl (by decide +kernel) ⟨Nat.le_of_ble_eq_true rfl, Nat.le_of_ble_eq_true rfl⟩) rfl hl.1 rfl (Nat.le_of_ble_eq_true rfl) dX12_rust_49 ⟨Nat.zero_le _, Nat.zero_le _⟩) hw hA hS (fun z54 G54 H locs hp hw hS => ?_)
          obtain ⟨ha54, hM, hfr54⟩ := hp
          have hfr := fr_tr hfr hfr54 (Nat.le_refl _) (Nat.le_refl _)
          subst ha54
          exact nr_retI hx hb hr hlocks hw hS (Or.inl ⟨by intro hh; first | exact absurd hh.1 (by assumption) | exact absurd hh.2.1 (by assumption) | exact absurd hh.2.2.2 (by assumption) | exact absurd (hh.2.2.1 jk jw rfl (by omega) rfl (by omega)) (fun z => z (by assumption)), rfl, hM, hfr⟩) dX12_rust_52
    · have b4n : ¬ vRng 0 (2 ^ R 1 - 1) ws := fun hh => b4 ((in_c (by omega) (Nat.zero_le _)).mpr hh)
      refine nr_if_eq (tgt := 46) hx hb (by decide) dX12_rust_23 (by decide) (fun c55 => ?_) (fun c55 => absurd c55 (by decide))
      refine lv_aload_n hx hb dX12_rust_46 rfl (lv_at hl 0 rfl) ?_
      refine lv_bipush (v := (-2)) hx hb dX12_rust_47 (by decide) ?_
      refine nr_goI (nr_runV (As := [.int (-2)]) (C := RX12) (T := TX12) (N := 19) ⟨hx, hb, hml, hown, hts⟩ hw (by omega) (isM_0 hM) rfl (c_X12_bad l Γ n G mo R K kp rf ca rc hd fw tl by0 an vl iv hM (by omega) hI hj (-2)) (cwV 1 hts gX12_rust_X12_bad rfl rfl rfl (by decide +kernel) ⟨Nat.le_of_ble_eq_true rfl, Nat.le_of_ble_eq_true rfl⟩) rfl hl.1 rfl (Nat.le_of_ble_eq_true rfl) dX12_rust_49 ⟨Nat.zero_le _, Nat.zero_le _⟩) hw hA hS (fun z56 G56 H locs hp hw hS => ?_)
      obtain ⟨ha56, hM, hfr56⟩ := hp
      have hfr := fr_tr hfr hfr56 (Nat.le_refl _) (Nat.le_refl _)
      subst ha56
      exact nr_retI hx hb hr hlocks hw hS (Or.inl ⟨by intro hh; first | exact absurd hh.1 (by assumption) | exact absurd hh.2.1 (by assumption) | exact absurd hh.2.2.2 (by assumption) | exact absurd (hh.2.2.1 jk jw rfl (by omega) rfl (by omega)) (fun z => z (by assumption)), rfl, hM, hfr⟩) dX12_rust_52
  · refine nr_if_eq (tgt := 46) hx hb (by decide) dX12_rust_5 (by decide) (fun c57 => ?_) (fun c57 => absurd c57 (by decide))
    refine lv_aload_n hx hb dX12_rust_46 rfl (lv_at hl 0 rfl) ?_
    refine lv_bipush (v := (-2)) hx hb dX12_rust_47 (by decide) ?_
    refine nr_goI (nr_runV (As := [.int (-2)]) (C := RX12) (T := TX12) (N := 19) ⟨hx, hb, hml, hown, hts⟩ hw (by omega) (isM_0 hM) rfl (c_X12_bad l Γ n G mo R K kp rf ca rc hd fw tl by0 an vl iv hM (by omega) hI hj (-2)) (cwV 1 hts gX12_rust_X12_bad rfl rfl rfl (by decide +kernel) ⟨Nat.le_of_ble_eq_true rfl, Nat.le_of_ble_eq_true rfl⟩) rfl hl.1 rfl (Nat.le_of_ble_eq_true rfl) dX12_rust_49 ⟨Nat.zero_le _, Nat.zero_le _⟩) hw hA hS (fun z58 G58 H locs hp hw hS => ?_)
    obtain ⟨ha58, hM, hfr58⟩ := hp
    have hfr := fr_tr hfr hfr58 (Nat.le_refl _) (Nat.le_refl _)
    subst ha58
    exact nr_retI hx hb hr hlocks hw hS (Or.inl ⟨by intro hh; first | exact absurd hh.1 (by assumption) | exact absurd hh.2.1 (by assumption) | exact absurd hh.2.2.2 (by assumption) | exact absurd (hh.2.2.1 jk jw rfl (by omega) rfl (by omega)) (fun z => z (by assumption)), rfl, hM, hfr⟩) dX12_rust_52
theorem wl_X12_part_1 : Cond.fieldLink RX12 198 "BellForgivenModel" "above" "J" ∈ wsX12_part := List.mem_of_getElem? (i := 1) rfl
theorem wl_X12_part_2 : Cond.fieldLink RX12 23 "BellForgivenModel" "below" "J" ∈ wsX12_part := List.mem_of_getElem? (i := 2) rfl
theorem hi_X12_part_X12 : ∀ w ∈ u_ws RX12 TX12 19, w ∈ wsX12_part := fun w h => (List.mem_cons_of_mem _ (List.mem_append_right _ h))
set_option maxHeartbeats 4000000 in
set_option maxRecDepth 100000 in
theorem c_X12_part (l : Launch) (Γ : Gam) (n : Nat) (G : Nat → va_E) (mo : Nat) (R K kp rf ca rc hd fw tl by0 an vl iv : Nat → Nat) (hM : isM Γ G mo R K kp rf ca rc hd fw tl by0 an vl iv) (hmo : mo + 13 ≤ n) (hI : vI R) (hj : winj Γ n) (what : Int32)  : Met l yX12_part wsX12_part ({ frames := 1, cells := 0, slots := 0, locals := 21 }) (va_Pc [.ref (ad Γ (mo + 0)), .int what] (fun U => hw Γ n G U U.heap)) (wQl Γ n (fun z G2 => ((¬ what = 0) ∧ (¬ what = nI 1) ∧ (z = (-2 : Int32).toInt64) ∧ isM Γ G2 mo R K kp (bmp rf 0) ca rc hd fw tl by0 an vl iv ∧ fr G G2 mo (mo + 13)) ∨ (((what = 0 ∧ z = lN (iv 5)) ∨ (what = nI 1 ∧ ¬ what = 0 ∧ z = lN (iv 6))) ∧ isM Γ G2 mo R K kp rf ca rc hd fw tl by0 an vl iv ∧ fr G G2 mo (mo + 13)))) 0 0 (wA Γ n) := by
  refine Met.ofW (cc := cX12_part) (maxL := 2) (ret := (some .long)) (by decide) rfl ?_
  intro p e s m args below meth c s₁ B hml hv
  obtain ⟨rfl, hw⟩ := hv
  have hx := B.exec
  have hb := B.bytes
  have hr := B.returns
  have hts := atoms_spec (ws := wsX12_part) B.pre
  have hown : s.vm.findClass RX12 = some m.cls := findClass_of_methodNamed B.named
  have hlocks := B.notSynchronized
  have hS : va_S (wA Γ n) s.heap s.heap [] := va_S.rf
  have hA : ∀ q, wA Γ n q → wA Γ n q := fun _ h => h
  have hl := lv_entry ([.ref (ad Γ (mo + 0)), .int what]) (n := 2) (Nat.le_of_ble_eq_true rfl)
  rw [lg_entry_eq]
  generalize (lg_sl ([.ref (ad Γ (mo + 0)), .int what]) ++ List.replicate (2 - (lg_sl ([.ref (ad Γ (mo + 0)), .int what])).length) Slot.unset).toArray = ls at hl ⊢
  have hl : lv_has ls 2 [(0, .ref (ad Γ (mo + 0))), (1, .int what)] := hl
  have hfr := fr_rf G mo (mo + 13)
  have hB := hI.1
  have hB0 := hI.2.1
  have hB1 := hI.2.2.1
  have hB20 := hI.2.2.2.2.2.2.2.2.2
  have hBz2 := hI.2.2.2.1
  have hBz3 := hI.2.2.2.2.1
  have hBz4 := hI.2.2.2.2.2.1
  have hBz5 := hI.2.2.2.2.2.2.1
  have hby := hI.2.2.2.2.2.2.2.1
  have hto := hI.2.2.2.2.2.2.2.2.1
  refine lv_iload_n hx hb dX12_part_0 rfl (lv_at hl 1 rfl) ?_
  refine lv_if_ne (tgt := 11) hx hb dX12_part_1 (by decide) (fun c1 => ?_) (fun c1 => ?_)
  · refine lv_iload_n hx hb dX12_part_11 rfl (lv_at hl 1 rfl) ?_
    refine lv_iconst (v := nI 1) hx hb dX12_part_12 (by decide) ?_
    refine lv_icmp_ne (tgt := 23) hx hb dX12_part_13 (by decide) (fun c2 => ?_) (fun c2 => ?_)
    · refine lv_aload_n hx hb dX12_part_23 rfl (lv_at hl 0 rfl) ?_
      refine lv_bipush (v := (-2)) hx hb dX12_part_24 (by decide) ?_
      refine nr_goI (nr_runV (As := [.int (-2)]) (C := RX12) (T := TX12) (N := 19) ⟨hx, hb, hml, hown, hts⟩ hw (by omega) (isM_0 hM) rfl (c_X12_bad l Γ n G mo R K kp rf ca rc hd fw tl by0 an vl iv hM (by omega) hI hj (-2)) (cwV 1 hts gX12_part_X12_bad rfl rfl rfl (by decide +kernel) ⟨Nat.le_of_ble_eq_true rfl, Nat.le_of_ble_eq_true rfl⟩) rfl hl.1 rfl (Nat.le_of_ble_eq_true rfl) dX12_part_26 ⟨Nat.zero_le _, Nat.zero_le _⟩) hw hA hS (fun z3 G3 H locs hp hw hS => ?_)
      obtain ⟨ha3, hM, hfr3⟩ := hp
      have hfr := fr_tr hfr hfr3 (Nat.le_refl _) (Nat.le_refl _)
      subst ha3
      refine lv_i2l (v := ((-2)).toInt64) hx hb dX12_part_29 rfl ?_
      exact nr_retIL hx hb hr hlocks hw hS (Or.inl ⟨by assumption, by assumption, rfl, hM, hfr⟩) dX12_part_30
    · refine lv_aload_n hx hb dX12_part_16 rfl (lv_at hl 0 rfl) ?_
      refine nr_get (own := RX12) (C := RX12) (T := TX12) (N := 19) (v := .long (lN (iv 6))) hx hb hts hi_X12_part_X12 hown hw (by omega) (isM_0 hM) rfl 5 (by decide) wl_X12_part_2 rfl rfl dX12_part_17 ?_
      refine lv_goto (tgt := 30) hx hb dX12_part_20 (by decide) ?_
      exact nr_retIL hx hb hr hlocks hw hS (Or.inr (⟨by first | exact Or.inl ⟨by assumption, rfl⟩ | exact Or.inr ⟨by assumption, by assumption, rfl⟩, hM, hfr⟩)) dX12_part_30
  · refine lv_aload_n hx hb dX12_part_4 rfl (lv_at hl 0 rfl) ?_
    refine nr_get (own := RX12) (C := RX12) (T := TX12) (N := 19) (v := .long (lN (iv 5))) hx hb hts hi_X12_part_X12 hown hw (by omega) (isM_0 hM) rfl 4 (by decide) wl_X12_part_1 rfl rfl dX12_part_5 ?_
    refine lv_goto (tgt := 30) hx hb dX12_part_8 (by decide) ?_
    exact nr_retIL hx hb hr hlocks hw hS (Or.inr (⟨by first | exact Or.inl ⟨by assumption, rfl⟩ | exact Or.inr ⟨by assumption, by assumption, rfl⟩, hM, hfr⟩)) dX12_part_30
theorem wl_X12_layFewest_1 : Cond.fieldLink RX12 36 "BellForgivenModel" "fewest" "[I" ∈ wsX12_layFewest := List.mem_of_getElem? (i := 1) rfl
theorem wl_X12_layFewest_2 : Cond.fieldLink RX12 27 "BellForgivenModel" "canAll" "[I" ∈ wsX12_layFewest := List.mem_of_getElem? (i := 2) rfl
theorem wl_X12_layFewest_3 : Cond.constant RX12 155 (1000000) ∈ wsX12_layFewest := List.mem_of_getElem? (i := 3) rfl
theorem hi_X12_layFewest_X12 : ∀ w ∈ u_ws RX12 TX12 19, w ∈ wsX12_layFewest := fun w h => (List.mem_cons_of_mem _ (List.mem_append_right _ h))
set_option maxHeartbeats 4000000 in
set_option maxRecDepth 100000 in
theorem c_X12_layFewest (l : Launch) (Γ : Gam) (n : Nat) (G : Nat → va_E) (mo : Nat) (R K kp rf ca rc hd fw tl by0 an vl iv : Nat → Nat) (hM : isM Γ G mo R K kp rf ca rc hd fw tl by0 an vl iv) (hmo : mo + 13 ≤ n) (hI : vI R) (hj : winj Γ n) (k wo : Nat) (hk : k < 8) (hwo : wo < 256) (hca : ∀ w, w < 2 ^ R 1 → ca w = canS R w) (hfw : ∀ j, fw j ≤ 1000000)  : Met l yX12_layFewest wsX12_layFewest ({ frames := 1, cells := 0, slots := 0, locals := 21 }) (va_Pc [.ref (ad Γ (mo + 0)), .int (nI k), .int (nI wo)] (fun U => hw Γ n G U U.heap)) (wQv Γ n (fun G2 => ∃ fw2 : Nat → Nat, ((∀ w, w < 2 ^ R 1 → fw2 w = lfJ ca fw2 k wo w (R 1)) ∧ ∀ j, fw2 j ≤ 1000000) ∧ isM Γ G2 mo R K kp rf ca rc hd fw2 tl by0 an vl iv ∧ fr G G2 mo (mo + 13))) 0 0 (wA Γ n) := by
  refine Met.ofW (cc := cX12_layFewest) (maxL := 6) (ret := none) (by decide) rfl ?_
  intro p e s m args below meth c s₁ B hml hv
  obtain ⟨rfl, hw⟩ := hv
  have hx := B.exec
  have hb := B.bytes
  have hr := B.returns
  have hts := atoms_spec (ws := wsX12_layFewest) B.pre
  have hown : s.vm.findClass RX12 = some m.cls := findClass_of_methodNamed B.named
  have hlocks := B.notSynchronized
  have hS : va_S (wA Γ n) s.heap s.heap [] := va_S.rf
  have hA : ∀ q, wA Γ n q → wA Γ n q := fun _ h => h
  have hl := lv_entry ([.ref (ad Γ (mo + 0)), .int (nI k), .int (nI wo)]) (n := 6) (Nat.le_of_ble_eq_true rfl)
  rw [lg_entry_eq]
  generalize (lg_sl ([.ref (ad Γ (mo + 0)), .int (nI k), .int (nI wo)]) ++ List.replicate (6 - (lg_sl ([.ref (ad Γ (mo + 0)), .int (nI k), .int (nI wo)])).length) Slot.unset).toArray = ls at hl ⊢
  have hl : lv_has ls 6 [(0, .ref (ad Γ (mo + 0))), (1, .int (nI k)), (2, .int (nI wo))] := hl
  have hfr := fr_rf G mo (mo + 13)
  have hB := hI.1
  have hB0 := hI.2.1
  have hB1 := hI.2.2.1
  have hB20 := hI.2.2.2.2.2.2.2.2.2
  have hBz2 := hI.2.2.2.1
  have hBz3 := hI.2.2.2.2.1
  have hBz4 := hI.2.2.2.2.2.1
  have hBz5 := hI.2.2.2.2.2.2.1
  have hby := hI.2.2.2.2.2.2.2.1
  have hto := hI.2.2.2.2.2.2.2.2.1
  have h2p := p2_le hB1
  have h2q := Nat.one_le_two_pow (n := R 1)
  refine lv_iconst (v := nI 1) hx hb dX12_layFewest_0 (by decide) ?_
  refine lv_aload_n hx hb dX12_layFewest_1 rfl (lv_at hl 0 rfl) ?_
  refine nr_goS (nr_runV (As := []) (C := RX12) (T := TX12) (N := 19) ⟨hx, hb, hml, hown, hts⟩ hw (by omega) (isM_0 hM) rfl (c_X12_many l Γ n G mo R K kp rf ca rc hd fw tl by0 an vl iv hM (by omega) hI) (cwV 0 hts gX12_layFewest_X12_many rfl rfl rfl (by decide +kernel) ⟨Nat.le_of_ble_eq_true rfl, Nat.le_of_ble_eq_true rfl⟩) rfl hl.1 rfl (Nat.le_of_ble_eq_true rfl) dX12_layFewest_2 ⟨Nat.zero_le _, Nat.zero_le _⟩) (fun r1 hr1 => ?_)
  obtain rfl : r1 = (nI (R 1)) := hr1
  refine nr_ishl1 hx hb (by omega) dX12_layFewest_5 ?_
  refine lv_iconst (v := nI 1) hx hb dX12_layFewest_6 (by decide) ?_
  refine lv_isub hx hb dX12_layFewest_7 ?_
  refine lv_istore_n (lv' := [(3, .int ((nI (2 ^ (R 1))) - (nI 1))), (0, .ref (ad Γ (mo + 0))), (1, .int (nI k)), (2, .int (nI wo))]) hx hb dX12_layFewest_8 rfl hl (by decide) rfl (fun ls hl => ?_)
  refine nr_lpI (σ := (Nat → va_E) × Nat × (Nat → Nat)) 9 (fun x => x.1) (fun x lv => lv = [(0, .ref (ad Γ (mo + 0))), (1, .int (nI k)), (2, .int (nI wo)), (3, .int (nI x.2.1 - nI 1))] ∧ isM Γ x.1 mo R K kp rf ca rc hd x.2.2 tl by0 an vl iv ∧ fr G x.1 mo (mo + 13) ∧ (x.2.1 ≤ 2 ^ R 1) ∧ (∀ u, x.2.1 ≤ u → u < 2 ^ R 1 → x.2.2 u = lfJ ca x.2.2 k wo u (R 1)) ∧ (∀ j, x.2.2 j ≤ 1000000)) (fun x => x.2.1) (G, 2 ^ (R 1), fw) hw hS (lv_sub hl [1, 2, 3, 0] rfl) ⟨rfl, hM, hfr, by (try dsimp only); exact (Nat.le_refl _), by (try dsimp only); exact (fun u h1 h2 => absurd h2 (by omega)), by (try dsimp only); exact (hfw)⟩ ?_
  intro x lv ls H locs hw hS hl hI ih9
  obtain ⟨Gl9, c0, fwL9⟩ := x
  obtain ⟨rfl, hM, hfr, hc0, hF, hF2⟩ := hI
  try dsimp only at hM hfr hc0 hF hF2 hw hl ih9
  refine lv_iload_n hx hb dX12_layFewest_9 rfl (lv_at hl 3 rfl) ?_
  refine lv_if_lt (tgt := 144) hx hb dX12_layFewest_10 (by decide) (fun c2 => ?_) (fun c2 => ?_)
  · exact nr_retV hx hb hr hlocks hw hS (⟨_, ⟨fun u hu => hF u (Nat.le_trans (Nat.le_of_eq ((nr_m1n (by omega)).mp (by assumption))) (Nat.zero_le _)) hu, hF2⟩, hM, hfr⟩) dX12_layFewest_144
  · obtain ⟨w, rfl⟩ : ∃ w, c0 = w + 1 := ⟨c0 - 1, (Nat.sub_add_cancel (Nat.pos_of_ne_zero (fun q => absurd ((nr_m1n (by omega)).mpr q) (by assumption)))).symm⟩
    rw [show nI (w + 1) - nI 1 = nI w from (by rw [pk_sub (by omega)]; rfl)] at hl
    have hcw := hca w (by omega)
    have hcw2 := canS_lt hB1 w
    rw [← hcw] at hcw2
    refine lv_aload_n hx hb dX12_layFewest_13 rfl (lv_at hl 0 rfl) ?_
    refine nr_get (own := RX12) (C := RX12) (T := TX12) (N := 19) (v := .ref (ad Γ (mo + 8))) hx hb hts hi_X12_layFewest_X12 hown hw (by omega) (isM_0 hM) rfl 9 (by decide) wl_X12_layFewest_1 rfl rfl dX12_layFewest_14 ?_
    refine lv_iload_n hx hb dX12_layFewest_17 rfl (lv_at hl 3 rfl) ?_
    refine lv_aload_n hx hb dX12_layFewest_18 rfl (lv_at hl 0 rfl) ?_
    refine nr_get (own := RX12) (C := RX12) (T := TX12) (N := 19) (v := .ref (ad Γ (mo + 5))) hx hb hts hi_X12_layFewest_X12 hown hw (by omega) (isM_0 hM) rfl 6 (by decide) wl_X12_layFewest_2 rfl rfl dX12_layFewest_19 ?_
    refine lv_iload_n hx hb dX12_layFewest_22 rfl (lv_at hl 3 rfl) ?_
    refine nr_iald (x := (ca w)) hx hb hw (by omega) (isM_5 hM) rfl (by omega) (by decide) dX12_layFewest_23 ?_
    refine lv_iload_n hx hb dX12_layFewest_24 rfl (lv_at hl 1 rfl) ?_
    refine nr_goB (P := bt (ca w) k) (nr_runS (As := [.int (nI (ca w)), .int (nI k)]) ⟨hx, hb, hml, hown, hts⟩ hw (c_X12_has l Γ n Gl9 (ca w) k (by omega) (by omega)) (va_cwS 2 hts gX12_layFewest_X12_has rfl rfl rfl (by decide +kernel) ⟨Nat.le_of_ble_eq_true rfl, Nat.le_of_ble_eq_true rfl⟩) rfl hl.1 rfl (Nat.le_of_ble_eq_true rfl) dX12_layFewest_25 ⟨Nat.zero_le _, Nat.zero_le _⟩) (fun b3 => ?_) (fun b3 => ?_)
    · refine nr_if_eq (tgt := 35) hx hb (by decide) dX12_layFewest_28 (by decide) (fun c4 => absurd c4 (by decide)) (fun c4 => ?_)
      refine lv_iconst (v := nI 1) hx hb dX12_layFewest_31 (by decide) ?_
      refine lv_goto (tgt := 37) hx hb dX12_layFewest_32 (by decide) ?_
      refine nr_iast (k := w) (v := 1) hx hb hw hj hA hS (by omega) (isM_8 hM) (by omega) (by decide) dX12_layFewest_37 (fun H locs hw hS => ?_)
      have hM := isM_s8 hM (va_up fwL9 w 1)
      have hfr := fr_up hfr (i := mo + 8) (by omega) (by omega) (na Γ 256 (va_up fwL9 w 1))
      generalize va_up Gl9 (mo + 8) (na Γ 256 (va_up fwL9 w 1)) = G5 at hw hM hfr
      refine lv_iconst (v := nI 0) hx hb dX12_layFewest_38 (by decide) ?_
      refine lv_istore (lv' := [(4, .int (nI 0)), (0, .ref (ad Γ (mo + 0))), (1, .int (nI k)), (2, .int (nI wo)), (3, .int (nI w))]) hx hb dX12_layFewest_39 hl (by decide) rfl (fun ls hl => ?_)
      refine nr_lpI (σ := (Nat → va_E) × Nat × (Nat → Nat)) 41 (fun x => x.1) (fun x lv => lv = [(0, .ref (ad Γ (mo + 0))), (1, .int (nI k)), (2, .int (nI wo)), (3, .int (nI w)), (4, .int (nI x.2.1))] ∧ isM Γ x.1 mo R K kp rf ca rc hd x.2.2 tl by0 an vl iv ∧ fr G x.1 mo (mo + 13) ∧ (x.2.1 ≤ R 1) ∧ (∀ u, w < u → u < 2 ^ R 1 → x.2.2 u = lfJ ca x.2.2 k wo u (R 1)) ∧ (∀ y, x.2.2 y ≤ 1000000) ∧ (x.2.2 w = lfJ ca x.2.2 k wo w x.2.1)) (fun x => R 1 - x.2.1) (G5, 0, va_up fwL9 w 1) hw hS (lv_sub hl [1, 2, 3, 4, 0] rfl) ⟨rfl, hM, hfr, by (try dsimp only); omega, by (try dsimp only); exact (fun u h1 h2 => by
          rw [va_up_ne _ _ (by omega), hF u (by omega) h2]
          exact lfJ_cong (m := R 1) (fun j hj hb => by
            rw [va_up_ne]
            have h8 := or_up (w := u) (m := R 1) h2 hj (by rw [hca u h2] at hb; exact (canS_bt hb).2.2.1)
            omega) _ (Nat.le_refl _)), by (try dsimp only); exact (fun j => by
          by_cases q : j = w
          · rw [q, va_up_self]; decide
          · rw [va_up_ne _ _ q]; exact hF2 j), by (try dsimp only); rw [va_up_self]; simp only [lfJ]; first | rw [if_pos (by assumption)] | rw [if_neg (by assumption)]⟩ ?_
      intro x lv ls H locs hw hS hl hI ih41
      obtain ⟨Gl41, j, fwL41⟩ := x
      obtain ⟨rfl, hM, hfr, hjj, hG, hG2, hw8⟩ := hI
      try dsimp only at hM hfr hjj hG hG2 hw8 hw hl ih41
      have hf1 := hG2 w
      have hcb : ∀ j, bt (ca w) j → ¬ bt w j := fun j hb => by rw [hcw] at hb; exact (canS_bt hb).2.2.1
      refine lv_iload hx hb dX12_layFewest_41 (lv_at hl 4 rfl) ?_
      refine lv_aload_n hx hb dX12_layFewest_43 rfl (lv_at hl 0 rfl) ?_
      refine nr_goS (nr_runV (As := []) (C := RX12) (T := TX12) (N := 19) ⟨hx, hb, hml, hown, hts⟩ hw (by omega) (isM_0 hM) rfl (c_X12_many l Γ n Gl41 mo R K kp rf ca rc hd fwL41 tl by0 an vl iv hM (by omega) hI) (cwV 0 hts gX12_layFewest_X12_many rfl rfl rfl (by decide +kernel) ⟨Nat.le_of_ble_eq_true rfl, Nat.le_of_ble_eq_true rfl⟩) rfl hl.1 rfl (Nat.le_of_ble_eq_true rfl) dX12_layFewest_44 ⟨Nat.zero_le _, Nat.zero_le _⟩) (fun r6 hr6 => ?_)
      obtain rfl : r6 = (nI (R 1)) := hr6
      refine nr_icmp_ge (tgt := 138) hx hb (by omega) (by omega) dX12_layFewest_47 (by decide) (fun c7 => ?_) (fun c7 => ?_)
      · refine lv_iinc (v := nI w - nI 1) (k := 3) (lv' := [(3, .int (nI w - nI 1)), (0, .ref (ad Γ (mo + 0))), (1, .int (nI k)), (2, .int (nI wo)), (4, .int (nI j))]) hx hb dX12_layFewest_138 hl rfl (nr_m1 _) (by decide) rfl (fun ls hl => ?_)
        refine lv_goto (tgt := 9) hx hb dX12_layFewest_141 (by decide) ?_
        exact ih9 (Gl41, w, fwL41) _ _ _ _ hw hS (lv_sub hl [1, 2, 3, 0] rfl) ⟨rfl, hM, hfr, by (try dsimp only); omega, by (try dsimp only); exact (fun u h1 h2 => by
          rcases Nat.lt_or_eq_of_le h1 with q | q
          · exact hG u (by omega) h2
          · subst q; rw [hw8]; first | (rw [show j = R 1 by omega]; done) | (rw [show R 1 = j + (R 1 - j) by omega]; exact (lfJ_stop (by omega) _).symm)), by (try dsimp only); exact (hG2)⟩ (by (try dsimp only); omega)
      · refine lv_aload_n hx hb dX12_layFewest_50 rfl (lv_at hl 0 rfl) ?_
        refine nr_get (own := RX12) (C := RX12) (T := TX12) (N := 19) (v := .ref (ad Γ (mo + 8))) hx hb hts hi_X12_layFewest_X12 hown hw (by omega) (isM_0 hM) rfl 9 (by decide) wl_X12_layFewest_1 rfl rfl dX12_layFewest_51 ?_
        refine lv_iload_n hx hb dX12_layFewest_54 rfl (lv_at hl 3 rfl) ?_
        refine nr_iald (x := (fwL41 w)) hx hb hw (by omega) (isM_8 hM) rfl (by omega) (by decide) dX12_layFewest_55 ?_
        refine lv_iconst (v := nI 1) hx hb dX12_layFewest_56 (by decide) ?_
        refine nr_icmp_le (tgt := 138) hx hb (by omega) (by decide) dX12_layFewest_57 (by decide) (fun c8 => ?_) (fun c8 => ?_)
        · refine lv_iinc (v := nI w - nI 1) (k := 3) (lv' := [(3, .int (nI w - nI 1)), (0, .ref (ad Γ (mo + 0))), (1, .int (nI k)), (2, .int (nI wo)), (4, .int (nI j))]) hx hb dX12_layFewest_138 hl rfl (nr_m1 _) (by decide) rfl (fun ls hl => ?_)
          refine lv_goto (tgt := 9) hx hb dX12_layFewest_141 (by decide) ?_
          exact ih9 (Gl41, w, fwL41) _ _ _ _ hw hS (lv_sub hl [1, 2, 3, 0] rfl) ⟨rfl, hM, hfr, by (try dsimp only); omega, by (try dsimp only); exact (fun u h1 h2 => by
          rcases Nat.lt_or_eq_of_le h1 with q | q
          · exact hG u (by omega) h2
          · subst q; rw [hw8]; first | (rw [show j = R 1 by omega]; done) | (rw [show R 1 = j + (R 1 - j) by omega]; exact (lfJ_stop (by omega) _).symm)), by (try dsimp only); exact (hG2)⟩ (by (try dsimp only); omega)
        · refine lv_iload hx hb dX12_layFewest_60 (lv_at hl 4 rfl) ?_
          refine lv_iload_n hx hb dX12_layFewest_62 rfl (lv_at hl 1 rfl) ?_
          refine nr_icmp_eq (tgt := 132) hx hb (by omega) (by omega) dX12_layFewest_63 (by decide) (fun c9 => ?_) (fun c9 => ?_)
          · refine nr_inc (d := 1) (k := 4) (lv' := [(4, .int (nI (j + 1))), (0, .ref (ad Γ (mo + 0))), (1, .int (nI k)), (2, .int (nI wo)), (3, .int (nI w))]) hx hb dX12_layFewest_132 hl rfl (by decide) (by decide) rfl (fun ls hl => ?_)
            refine lv_goto (tgt := 41) hx hb dX12_layFewest_135 (by decide) ?_
            exact ih41 (Gl41, j + 1, fwL41) _ _ _ _ hw hS (lv_sub hl [1, 2, 3, 4, 0] rfl) ⟨rfl, hM, hfr, by (try dsimp only); omega, by (try dsimp only); first | exact hG | (intro u h1 h2; rw [va_up_ne _ _ (by omega), hG u h1 h2]; exact lfJ_cong (m := R 1) (fun j hj hb => by rw [va_up_ne]; have h8 := or_up (w := u) (m := R 1) h2 hj (by rw [hca u h2] at hb; exact (canS_bt hb).2.2.1); omega) _ (Nat.le_refl _)), by (try dsimp only); first | exact hG2 | (intro y; by_cases q : y = w; rw [q, va_up_self]; have h7 := hG2 w; have h77 := hG2 (w ||| 2 ^ j); omega; rw [va_up_ne _ _ q]; exact hG2 y), by
            (try dsimp only)
            first
            | (simp only [lfJ]; rw [if_neg (fun z => by first | exact absurd (by assumption) z.2.1 | exact absurd z.2.2.1 (by assumption) | exact absurd (by assumption) z.2.2.2)]; exact hw8)
            | (have hcg := lfJ_cong (ca := ca) (F := va_up fwL41 w (1 + fwL41 (w ||| 2 ^ j))) (F2 := fwL41) (k := k) (wo := wo) (w := w) (m := R 1) (fun q hq hb => va_up_ne _ _ (Nat.ne_of_gt (or_up (w := w) (m := R 1) (by omega) hq (hcb q hb)).1))
               rw [hcg (j + 1) (by omega), va_up_self]; simp only [lfJ]; rw [if_pos ⟨by omega, by assumption, by assumption, by assumption⟩, ← hw8]; omega)
            | (have hcg := lfJ_cong (ca := ca) (F := va_up fwL41 w (fwL41 w)) (F2 := fwL41) (k := k) (wo := wo) (w := w) (m := R 1) (fun q hq hb => va_up_ne _ _ (Nat.ne_of_gt (or_up (w := w) (m := R 1) (by omega) hq (hcb q hb)).1))
               rw [hcg (j + 1) (by omega), va_up_self]; simp only [lfJ]; rw [if_pos ⟨by omega, by assumption, by assumption, by assumption⟩, ← hw8]; omega)⟩ (by (try dsimp only); omega)
          · refine lv_aload_n hx hb dX12_layFewest_66 rfl (lv_at hl 0 rfl) ?_
            refine nr_get (own := RX12) (C := RX12) (T := TX12) (N := 19) (v := .ref (ad Γ (mo + 5))) hx hb hts hi_X12_layFewest_X12 hown hw (by omega) (isM_0 hM) rfl 6 (by decide) wl_X12_layFewest_2 rfl rfl dX12_layFewest_67 ?_
            refine lv_iload_n hx hb dX12_layFewest_70 rfl (lv_at hl 3 rfl) ?_
            refine nr_iald (x := (ca w)) hx hb hw (by omega) (isM_5 hM) rfl (by omega) (by decide) dX12_layFewest_71 ?_
            refine lv_iload hx hb dX12_layFewest_72 (lv_at hl 4 rfl) ?_
            refine nr_goB (P := bt (ca w) j) (nr_runS (As := [.int (nI (ca w)), .int (nI j)]) ⟨hx, hb, hml, hown, hts⟩ hw (c_X12_has l Γ n Gl41 (ca w) j (by omega) (by omega)) (va_cwS 2 hts gX12_layFewest_X12_has rfl rfl rfl (by decide +kernel) ⟨Nat.le_of_ble_eq_true rfl, Nat.le_of_ble_eq_true rfl⟩) rfl hl.1 rfl (Nat.le_of_ble_eq_true rfl) dX12_layFewest_74 ⟨Nat.zero_le _, Nat.zero_le _⟩) (fun b10 => ?_) (fun b10 => ?_)
            · refine nr_if_eq (tgt := 132) hx hb (by decide) dX12_layFewest_77 (by decide) (fun c11 => absurd c11 (by decide)) (fun c11 => ?_)
              refine lv_iload_n hx hb dX12_layFewest_80 rfl (lv_at hl 2 rfl) ?_
              refine lv_iload hx hb dX12_layFewest_81 (lv_at hl 4 rfl) ?_
              refine nr_goB (P := bt wo j) (nr_runS (As := [.int (nI wo), .int (nI j)]) ⟨hx, hb, hml, hown, hts⟩ hw (c_X12_has l Γ n Gl41 wo j (by omega) (by omega)) (va_cwS 2 hts gX12_layFewest_X12_has rfl rfl rfl (by decide +kernel) ⟨Nat.le_of_ble_eq_true rfl, Nat.le_of_ble_eq_true rfl⟩) rfl hl.1 rfl (Nat.le_of_ble_eq_true rfl) dX12_layFewest_83 ⟨Nat.zero_le _, Nat.zero_le _⟩) (fun b12 => ?_) (fun b12 => ?_)
              · refine nr_if_ne (tgt := 132) hx hb (by decide) dX12_layFewest_86 (by decide) (fun c13 => ?_) (fun c13 => absurd c13 (by decide))
                refine nr_inc (d := 1) (k := 4) (lv' := [(4, .int (nI (j + 1))), (0, .ref (ad Γ (mo + 0))), (1, .int (nI k)), (2, .int (nI wo)), (3, .int (nI w))]) hx hb dX12_layFewest_132 hl rfl (by decide) (by decide) rfl (fun ls hl => ?_)
                refine lv_goto (tgt := 41) hx hb dX12_layFewest_135 (by decide) ?_
                exact ih41 (Gl41, j + 1, fwL41) _ _ _ _ hw hS (lv_sub hl [1, 2, 3, 4, 0] rfl) ⟨rfl, hM, hfr, by (try dsimp only); omega, by (try dsimp only); first | exact hG | (intro u h1 h2; rw [va_up_ne _ _ (by omega), hG u h1 h2]; exact lfJ_cong (m := R 1) (fun j hj hb => by rw [va_up_ne]; have h8 := or_up (w := u) (m := R 1) h2 hj (by rw [hca u h2] at hb; exact (canS_bt hb).2.2.1); omega) _ (Nat.le_refl _)), by (try dsimp only); first | exact hG2 | (intro y; by_cases q : y = w; rw [q, va_up_self]; have h7 := hG2 w; have h77 := hG2 (w ||| 2 ^ j); omega; rw [va_up_ne _ _ q]; exact hG2 y), by
            (try dsimp only)
            first
            | (simp only [lfJ]; rw [if_neg (fun z => by first | exact absurd (by assumption) z.2.1 | exact absurd z.2.2.1 (by assumption) | exact absurd (by assumption) z.2.2.2)]; exact hw8)
            | (have hcg := lfJ_cong (ca := ca) (F := va_up fwL41 w (1 + fwL41 (w ||| 2 ^ j))) (F2 := fwL41) (k := k) (wo := wo) (w := w) (m := R 1) (fun q hq hb => va_up_ne _ _ (Nat.ne_of_gt (or_up (w := w) (m := R 1) (by omega) hq (hcb q hb)).1))
               rw [hcg (j + 1) (by omega), va_up_self]; simp only [lfJ]; rw [if_pos ⟨by omega, by assumption, by assumption, by assumption⟩, ← hw8]; omega)
            | (have hcg := lfJ_cong (ca := ca) (F := va_up fwL41 w (fwL41 w)) (F2 := fwL41) (k := k) (wo := wo) (w := w) (m := R 1) (fun q hq hb => va_up_ne _ _ (Nat.ne_of_gt (or_up (w := w) (m := R 1) (by omega) hq (hcb q hb)).1))
               rw [hcg (j + 1) (by omega), va_up_self]; simp only [lfJ]; rw [if_pos ⟨by omega, by assumption, by assumption, by assumption⟩, ← hw8]; omega)⟩ (by (try dsimp only); omega)
              · refine nr_if_ne (tgt := 132) hx hb (by decide) dX12_layFewest_86 (by decide) (fun c14 => absurd c14 (by decide)) (fun c14 => ?_)
                refine lv_iconst (v := nI 1) hx hb dX12_layFewest_89 (by decide) ?_
                refine lv_aload_n hx hb dX12_layFewest_90 rfl (lv_at hl 0 rfl) ?_
                refine nr_get (own := RX12) (C := RX12) (T := TX12) (N := 19) (v := .ref (ad Γ (mo + 8))) hx hb hts hi_X12_layFewest_X12 hown hw (by omega) (isM_0 hM) rfl 9 (by decide) wl_X12_layFewest_1 rfl rfl dX12_layFewest_91 ?_
                refine lv_iload_n hx hb dX12_layFewest_94 rfl (lv_at hl 3 rfl) ?_
                refine lv_iconst (v := nI 1) hx hb dX12_layFewest_95 (by decide) ?_
                refine lv_iload hx hb dX12_layFewest_96 (lv_at hl 4 rfl) ?_
                refine nr_ishl1 hx hb (by omega) dX12_layFewest_98 ?_
                refine nr_ior hx hb dX12_layFewest_99 ?_
                refine nr_iald (x := (fwL41 (w ||| (2 ^ j)))) hx hb hw (by omega) (isM_8 hM) rfl (Nat.lt_of_lt_of_le (or_up (by omega) (by omega) (hcb j (by assumption))).2 h2p) (by decide) dX12_layFewest_100 ?_
                have hf2 := hG2 (w ||| 2 ^ j)
                refine nr_iadd hx hb dX12_layFewest_101 ?_
                refine lv_istore (lv' := [(5, .int (nI (1 + (fwL41 (w ||| (2 ^ j)))))), (0, .ref (ad Γ (mo + 0))), (1, .int (nI k)), (2, .int (nI wo)), (3, .int (nI w)), (4, .int (nI j))]) hx hb dX12_layFewest_102 hl (by decide) rfl (fun ls hl => ?_)
                refine lv_aload_n hx hb dX12_layFewest_104 rfl (lv_at hl 1 rfl) ?_
                refine nr_get (own := RX12) (C := RX12) (T := TX12) (N := 19) (v := .ref (ad Γ (mo + 8))) hx hb hts hi_X12_layFewest_X12 hown hw (by omega) (isM_0 hM) rfl 9 (by decide) wl_X12_layFewest_1 rfl rfl dX12_layFewest_105 ?_
                refine lv_iload_n hx hb dX12_layFewest_108 rfl (lv_at hl 4 rfl) ?_
                refine lv_iload hx hb dX12_layFewest_109 (lv_at hl 0 rfl) ?_
                refine lv_aload_n hx hb dX12_layFewest_111 rfl (lv_at hl 1 rfl) ?_
                refine nr_get (own := RX12) (C := RX12) (T := TX12) (N := 19) (v := .ref (ad Γ (mo + 8))) hx hb hts hi_X12_layFewest_X12 hown hw (by omega) (isM_0 hM) rfl 9 (by decide) wl_X12_layFewest_1 rfl rfl dX12_layFewest_112 ?_
                refine lv_iload_n hx hb dX12_layFewest_115 rfl (lv_at hl 4 rfl) ?_
                refine nr_iald (x := (fwL41 w)) hx hb hw (by omega) (isM_8 hM) rfl (by omega) (by decide) dX12_layFewest_116 ?_
                refine nr_icmp_ge (tgt := 125) hx hb (by omega) (by omega) dX12_layFewest_117 (by decide) (fun c15 => ?_) (fun c15 => ?_)
                · refine lv_aload_n hx hb dX12_layFewest_125 rfl (lv_at hl 1 rfl) ?_
                  refine nr_get (own := RX12) (C := RX12) (T := TX12) (N := 19) (v := .ref (ad Γ (mo + 8))) hx hb hts hi_X12_layFewest_X12 hown hw (by omega) (isM_0 hM) rfl 9 (by decide) wl_X12_layFewest_1 rfl rfl dX12_layFewest_126 ?_
                  refine lv_iload_n hx hb dX12_layFewest_129 rfl (lv_at hl 4 rfl) ?_
                  refine nr_iald (x := (fwL41 w)) hx hb hw (by omega) (isM_8 hM) rfl (by omega) (by decide) dX12_layFewest_130 ?_
                  refine nr_iast (k := w) (v := fwL41 w) hx hb hw hj hA hS (by omega) (isM_8 hM) (by omega) (by decide) dX12_layFewest_131 (fun H locs hw hS => ?_)
                  have hM := isM_s8 hM (va_up fwL41 w (fwL41 w))
                  have hfr := fr_up hfr (i := mo + 8) (by omega) (by omega) (na Γ 256 (va_up fwL41 w (fwL41 w)))
                  generalize va_up Gl41 (mo + 8) (na Γ 256 (va_up fwL41 w (fwL41 w))) = G16 at hw hM hfr
                  refine nr_inc (d := 1) (k := 5) (lv' := [(4, .int (nI (j + 1))), (5, .int (nI (1 + (fwL41 (w ||| (2 ^ j)))))), (0, .ref (ad Γ (mo + 0))), (1, .int (nI k)), (2, .int (nI wo)), (3, .int (nI w))]) hx hb dX12_layFewest_132 hl rfl (by decide) (by decide) rfl (fun ls hl => ?_)
                  refine lv_goto (tgt := 41) hx hb dX12_layFewest_135 (by decide) ?_
                  exact ih41 (G16, j + 1, va_up fwL41 w (fwL41 w)) _ _ _ _ hw hS (lv_sub hl [2, 3, 4, 5, 0] rfl) ⟨rfl, hM, hfr, by (try dsimp only); omega, by (try dsimp only); first | exact hG | (intro u h1 h2; rw [va_up_ne _ _ (by omega), hG u h1 h2]; exact lfJ_cong (m := R 1) (fun j hj hb => by rw [va_up_ne]; have h8 := or_up (w := u) (m := R 1) h2 hj (by rw [hca u h2] at hb; exact (canS_bt hb).2.2.1); omega) _ (Nat.le_refl _)), by (try dsimp only); first | exact hG2 | (intro y; by_cases q : y = w; rw [q, va_up_self]; have h7 := hG2 w; have h77 := hG2 (w ||| 2 ^ j); omega; rw [va_up_ne _ _ q]; exact hG2 y), by
            (try dsimp only)
            first
            | (simp only [lfJ]; rw [if_neg (fun z => by first | exact absurd (by assumption) z.2.1 | exact absurd z.2.2.1 (by assumption) | exact absurd (by assumption) z.2.2.2)]; exact hw8)
            | (have hcg := lfJ_cong (ca := ca) (F := va_up fwL41 w (1 + fwL41 (w ||| 2 ^ j))) (F2 := fwL41) (k := k) (wo := wo) (w := w) (m := R 1) (fun q hq hb => va_up_ne _ _ (Nat.ne_of_gt (or_up (w := w) (m := R 1) (by omega) hq (hcb q hb)).1))
               rw [hcg (j + 1) (by omega), va_up_self]; simp only [lfJ]; rw [if_pos ⟨by omega, by assumption, by assumption, by assumption⟩, ← hw8]; omega)
            | (have hcg := lfJ_cong (ca := ca) (F := va_up fwL41 w (fwL41 w)) (F2 := fwL41) (k := k) (wo := wo) (w := w) (m := R 1) (fun q hq hb => va_up_ne _ _ (Nat.ne_of_gt (or_up (w := w) (m := R 1) (by omega) hq (hcb q hb)).1))
               rw [hcg (j + 1) (by omega), va_up_self]; simp only [lfJ]; rw [if_pos ⟨by omega, by assumption, by assumption, by assumption⟩, ← hw8]; omega)⟩ (by (try dsimp only); omega)
                · refine lv_iload hx hb dX12_layFewest_120 (lv_at hl 0 rfl) ?_
                  refine lv_goto (tgt := 131) hx hb dX12_layFewest_122 (by decide) ?_
                  refine nr_iast (k := w) (v := 1 + (fwL41 (w ||| (2 ^ j)))) hx hb hw hj hA hS (by omega) (isM_8 hM) (by omega) (by decide) dX12_layFewest_131 (fun H locs hw hS => ?_)
                  have hM := isM_s8 hM (va_up fwL41 w (1 + (fwL41 (w ||| (2 ^ j)))))
                  have hfr := fr_up hfr (i := mo + 8) (by omega) (by omega) (na Γ 256 (va_up fwL41 w (1 + (fwL41 (w ||| (2 ^ j))))))
                  generalize va_up Gl41 (mo + 8) (na Γ 256 (va_up fwL41 w (1 + (fwL41 (w ||| (2 ^ j)))))) = G17 at hw hM hfr
                  refine nr_inc (d := 1) (k := 5) (lv' := [(4, .int (nI (j + 1))), (5, .int (nI (1 + (fwL41 (w ||| (2 ^ j)))))), (0, .ref (ad Γ (mo + 0))), (1, .int (nI k)), (2, .int (nI wo)), (3, .int (nI w))]) hx hb dX12_layFewest_132 hl rfl (by decide) (by decide) rfl (fun ls hl => ?_)
                  refine lv_goto (tgt := 41) hx hb dX12_layFewest_135 (by decide) ?_
                  exact ih41 (G17, j + 1, va_up fwL41 w (1 + (fwL41 (w ||| (2 ^ j))))) _ _ _ _ hw hS (lv_sub hl [2, 3, 4, 5, 0] rfl) ⟨rfl, hM, hfr, by (try dsimp only); omega, by (try dsimp only); first | exact hG | (intro u h1 h2; rw [va_up_ne _ _ (by omega), hG u h1 h2]; exact lfJ_cong (m := R 1) (fun j hj hb => by rw [va_up_ne]; have h8 := or_up (w := u) (m := R 1) h2 hj (by rw [hca u h2] at hb; exact (canS_bt hb).2.2.1); omega) _ (Nat.le_refl _)), by (try dsimp only); first | exact hG2 | (intro y; by_cases q : y = w; rw [q, va_up_self]; have h7 := hG2 w; have h77 := hG2 (w ||| 2 ^ j); omega; rw [va_up_ne _ _ q]; exact hG2 y), by
            (try dsimp only)
            first
            | (simp only [lfJ]; rw [if_neg (fun z => by first | exact absurd (by assumption) z.2.1 | exact absurd z.2.2.1 (by assumption) | exact absurd (by assumption) z.2.2.2)]; exact hw8)
            | (have hcg := lfJ_cong (ca := ca) (F := va_up fwL41 w (1 + fwL41 (w ||| 2 ^ j))) (F2 := fwL41) (k := k) (wo := wo) (w := w) (m := R 1) (fun q hq hb => va_up_ne _ _ (Nat.ne_of_gt (or_up (w := w) (m := R 1) (by omega) hq (hcb q hb)).1))
               rw [hcg (j + 1) (by omega), va_up_self]; simp only [lfJ]; rw [if_pos ⟨by omega, by assumption, by assumption, by assumption⟩, ← hw8]; omega)
            | (have hcg := lfJ_cong (ca := ca) (F := va_up fwL41 w (fwL41 w)) (F2 := fwL41) (k := k) (wo := wo) (w := w) (m := R 1) (fun q hq hb => va_up_ne _ _ (Nat.ne_of_gt (or_up (w := w) (m := R 1) (by omega) hq (hcb q hb)).1))
               rw [hcg (j + 1) (by omega), va_up_self]; simp only [lfJ]; rw [if_pos ⟨by omega, by assumption, by assumption, by assumption⟩, ← hw8]; omega)⟩ (by (try dsimp only); omega)
            · refine nr_if_eq (tgt := 132) hx hb (by decide) dX12_layFewest_77 (by decide) (fun c18 => ?_) (fun c18 => absurd c18 (by decide))
              refine nr_inc (d := 1) (k := 4) (lv' := [(4, .int (nI (j + 1))), (0, .ref (ad Γ (mo + 0))), (1, .int (nI k)), (2, .int (nI wo)), (3, .int (nI w))]) hx hb dX12_layFewest_132 hl rfl (by decide) (by decide) rfl (fun ls hl => ?_)
              refine lv_goto (tgt := 41) hx hb dX12_layFewest_135 (by decide) ?_
              exact ih41 (Gl41, j + 1, fwL41) _ _ _ _ hw hS (lv_sub hl [1, 2, 3, 4, 0] rfl) ⟨rfl, hM, hfr, by (try dsimp only); omega, by (try dsimp only); first | exact hG | (intro u h1 h2; rw [va_up_ne _ _ (by omega), hG u h1 h2]; exact lfJ_cong (m := R 1) (fun j hj hb => by rw [va_up_ne]; have h8 := or_up (w := u) (m := R 1) h2 hj (by rw [hca u h2] at hb; exact (canS_bt hb).2.2.1); omega) _ (Nat.le_refl _)), by (try dsimp only); first | exact hG2 | (intro y; by_cases q : y = w; rw [q, va_up_self]; have h7 := hG2 w; have h77 := hG2 (w ||| 2 ^ j); omega; rw [va_up_ne _ _ q]; exact hG2 y), by
            (try dsimp only)
            first
            | (simp only [lfJ]; rw [if_neg (fun z => by first | exact absurd (by assumption) z.2.1 | exact absurd z.2.2.1 (by assumption) | exact absurd (by assumption) z.2.2.2)]; exact hw8)
            | (have hcg := lfJ_cong (ca := ca) (F := va_up fwL41 w (1 + fwL41 (w ||| 2 ^ j))) (F2 := fwL41) (k := k) (wo := wo) (w := w) (m := R 1) (fun q hq hb => va_up_ne _ _ (Nat.ne_of_gt (or_up (w := w) (m := R 1) (by omega) hq (hcb q hb)).1))
               rw [hcg (j + 1) (by omega), va_up_self]; simp only [lfJ]; rw [if_pos ⟨by omega, by assumption, by assumption, by assumption⟩, ← hw8]; omega)
            | (have hcg := lfJ_cong (ca := ca) (F := va_up fwL41 w (fwL41 w)) (F2 := fwL41) (k := k) (wo := wo) (w := w) (m := R 1) (fun q hq hb => va_up_ne _ _ (Nat.ne_of_gt (or_up (w := w) (m := R 1) (by omega) hq (hcb q hb)).1))
               rw [hcg (j + 1) (by omega), va_up_self]; simp only [lfJ]; rw [if_pos ⟨by omega, by assumption, by assumption, by assumption⟩, ← hw8]; omega)⟩ (by (try dsimp only); omega)
    · refine nr_if_eq (tgt := 35) hx hb (by decide) dX12_layFewest_28 (by decide) (fun c19 => ?_) (fun c19 => absurd c19 (by decide))
      refine nr_ldc (k := 1000000) hx hb hown (hts _ wl_X12_layFewest_3) (by decide) dX12_layFewest_35 ?_
      refine nr_iast (k := w) (v := 1000000) hx hb hw hj hA hS (by omega) (isM_8 hM) (by omega) (by decide) dX12_layFewest_37 (fun H locs hw hS => ?_)
      have hM := isM_s8 hM (va_up fwL9 w 1000000)
      have hfr := fr_up hfr (i := mo + 8) (by omega) (by omega) (na Γ 256 (va_up fwL9 w 1000000))
      generalize va_up Gl9 (mo + 8) (na Γ 256 (va_up fwL9 w 1000000)) = G20 at hw hM hfr
      refine lv_iconst (v := nI 0) hx hb dX12_layFewest_38 (by decide) ?_
      refine lv_istore (lv' := [(4, .int (nI 0)), (0, .ref (ad Γ (mo + 0))), (1, .int (nI k)), (2, .int (nI wo)), (3, .int (nI w))]) hx hb dX12_layFewest_39 hl (by decide) rfl (fun ls hl => ?_)
      refine nr_lpI (σ := (Nat → va_E) × Nat × (Nat → Nat)) 41 (fun x => x.1) (fun x lv => lv = [(0, .ref (ad Γ (mo + 0))), (1, .int (nI k)), (2, .int (nI wo)), (3, .int (nI w)), (4, .int (nI x.2.1))] ∧ isM Γ x.1 mo R K kp rf ca rc hd x.2.2 tl by0 an vl iv ∧ fr G x.1 mo (mo + 13) ∧ (x.2.1 ≤ R 1) ∧ (∀ u, w < u → u < 2 ^ R 1 → x.2.2 u = lfJ ca x.2.2 k wo u (R 1)) ∧ (∀ y, x.2.2 y ≤ 1000000) ∧ (x.2.2 w = lfJ ca x.2.2 k wo w x.2.1)) (fun x => R 1 - x.2.1) (G20, 0, va_up fwL9 w 1000000) hw hS (lv_sub hl [1, 2, 3, 4, 0] rfl) ⟨rfl, hM, hfr, by (try dsimp only); omega, by (try dsimp only); exact (fun u h1 h2 => by
          rw [va_up_ne _ _ (by omega), hF u (by omega) h2]
          exact lfJ_cong (m := R 1) (fun j hj hb => by
            rw [va_up_ne]
            have h8 := or_up (w := u) (m := R 1) h2 hj (by rw [hca u h2] at hb; exact (canS_bt hb).2.2.1)
            omega) _ (Nat.le_refl _)), by (try dsimp only); exact (fun j => by
          by_cases q : j = w
          · rw [q, va_up_self]; decide
          · rw [va_up_ne _ _ q]; exact hF2 j), by (try dsimp only); rw [va_up_self]; simp only [lfJ]; first | rw [if_pos (by assumption)] | rw [if_neg (by assumption)]⟩ ?_
      intro x lv ls H locs hw hS hl hI ih41
      obtain ⟨Gl41, j, fwL41⟩ := x
      obtain ⟨rfl, hM, hfr, hjj, hG, hG2, hw8⟩ := hI
      try dsimp only at hM hfr hjj hG hG2 hw8 hw hl ih41
      have hf1 := hG2 w
      have hcb : ∀ j, bt (ca w) j → ¬ bt w j := fun j hb => by rw [hcw] at hb; exact (canS_bt hb).2.2.1
      refine lv_iload hx hb dX12_layFewest_41 (lv_at hl 4 rfl) ?_
      refine lv_aload_n hx hb dX12_layFewest_43 rfl (lv_at hl 0 rfl) ?_
      refine nr_goS (nr_runV (As := []) (C := RX12) (T := TX12) (N := 19) ⟨hx, hb, hml, hown, hts⟩ hw (by omega) (isM_0 hM) rfl (c_X12_many l Γ n Gl41 mo R K kp rf ca rc hd fwL41 tl by0 an vl iv hM (by omega) hI) (cwV 0 hts gX12_layFewest_X12_many rfl rfl rfl (by decide +kernel) ⟨Nat.le_of_ble_eq_true rfl, Nat.le_of_ble_eq_true rfl⟩) rfl hl.1 rfl (Nat.le_of_ble_eq_true rfl) dX12_layFewest_44 ⟨Nat.zero_le _, Nat.zero_le _⟩) (fun r21 hr21 => ?_)
      obtain rfl : r21 = (nI (R 1)) := hr21
      refine nr_icmp_ge (tgt := 138) hx hb (by omega) (by omega) dX12_layFewest_47 (by decide) (fun c22 => ?_) (fun c22 => ?_)
      · refine lv_iinc (v := nI w - nI 1) (k := 3) (lv' := [(3, .int (nI w - nI 1)), (0, .ref (ad Γ (mo + 0))), (1, .int (nI k)), (2, .int (nI wo)), (4, .int (nI j))]) hx hb dX12_layFewest_138 hl rfl (nr_m1 _) (by decide) rfl (fun ls hl => ?_)
        refine lv_goto (tgt := 9) hx hb dX12_layFewest_141 (by decide) ?_
        exact ih9 (Gl41, w, fwL41) _ _ _ _ hw hS (lv_sub hl [1, 2, 3, 0] rfl) ⟨rfl, hM, hfr, by (try dsimp only); omega, by (try dsimp only); exact (fun u h1 h2 => by
          rcases Nat.lt_or_eq_of_le h1 with q | q
          · exact hG u (by omega) h2
          · subst q; rw [hw8]; first | (rw [show j = R 1 by omega]; done) | (rw [show R 1 = j + (R 1 - j) by omega]; exact (lfJ_stop (by omega) _).symm)), by (try dsimp only); exact (hG2)⟩ (by (try dsimp only); omega)
      · refine lv_aload_n hx hb dX12_layFewest_50 rfl (lv_at hl 0 rfl) ?_
        refine nr_get (own := RX12) (C := RX12) (T := TX12) (N := 19) (v := .ref (ad Γ (mo + 8))) hx hb hts hi_X12_layFewest_X12 hown hw (by omega) (isM_0 hM) rfl 9 (by decide) wl_X12_layFewest_1 rfl rfl dX12_layFewest_51 ?_
        refine lv_iload_n hx hb dX12_layFewest_54 rfl (lv_at hl 3 rfl) ?_
        refine nr_iald (x := (fwL41 w)) hx hb hw (by omega) (isM_8 hM) rfl (by omega) (by decide) dX12_layFewest_55 ?_
        refine lv_iconst (v := nI 1) hx hb dX12_layFewest_56 (by decide) ?_
        refine nr_icmp_le (tgt := 138) hx hb (by omega) (by decide) dX12_layFewest_57 (by decide) (fun c23 => ?_) (fun c23 => ?_)
        · refine lv_iinc (v := nI w - nI 1) (k := 3) (lv' := [(3, .int (nI w - nI 1)), (0, .ref (ad Γ (mo + 0))), (1, .int (nI k)), (2, .int (nI wo)), (4, .int (nI j))]) hx hb dX12_layFewest_138 hl rfl (nr_m1 _) (by decide) rfl (fun ls hl => ?_)
          refine lv_goto (tgt := 9) hx hb dX12_layFewest_141 (by decide) ?_
          exact ih9 (Gl41, w, fwL41) _ _ _ _ hw hS (lv_sub hl [1, 2, 3, 0] rfl) ⟨rfl, hM, hfr, by (try dsimp only); omega, by (try dsimp only); exact (fun u h1 h2 => by
          rcases Nat.lt_or_eq_of_le h1 with q | q
          · exact hG u (by omega) h2
          · subst q; rw [hw8]; first | (rw [show j = R 1 by omega]; done) | (rw [show R 1 = j + (R 1 - j) by omega]; exact (lfJ_stop (by omega) _).symm)), by (try dsimp only); exact (hG2)⟩ (by (try dsimp only); omega)
        · refine lv_iload hx hb dX12_layFewest_60 (lv_at hl 4 rfl) ?_
          refine lv_iload_n hx hb dX12_layFewest_62 rfl (lv_at hl 1 rfl) ?_
          refine nr_icmp_eq (tgt := 132) hx hb (by omega) (by omega) dX12_layFewest_63 (by decide) (fun c24 => ?_) (fun c24 => ?_)
          · refine nr_inc (d := 1) (k := 4) (lv' := [(4, .int (nI (j + 1))), (0, .ref (ad Γ (mo + 0))), (1, .int (nI k)), (2, .int (nI wo)), (3, .int (nI w))]) hx hb dX12_layFewest_132 hl rfl (by decide) (by decide) rfl (fun ls hl => ?_)
            refine lv_goto (tgt := 41) hx hb dX12_layFewest_135 (by decide) ?_
            exact ih41 (Gl41, j + 1, fwL41) _ _ _ _ hw hS (lv_sub hl [1, 2, 3, 4, 0] rfl) ⟨rfl, hM, hfr, by (try dsimp only); omega, by (try dsimp only); first | exact hG | (intro u h1 h2; rw [va_up_ne _ _ (by omega), hG u h1 h2]; exact lfJ_cong (m := R 1) (fun j hj hb => by rw [va_up_ne]; have h8 := or_up (w := u) (m := R 1) h2 hj (by rw [hca u h2] at hb; exact (canS_bt hb).2.2.1); omega) _ (Nat.le_refl _)), by (try dsimp only); first | exact hG2 | (intro y; by_cases q : y = w; rw [q, va_up_self]; have h7 := hG2 w; have h77 := hG2 (w ||| 2 ^ j); omega; rw [va_up_ne _ _ q]; exact hG2 y), by
            (try dsimp only)
            first
            | (simp only [lfJ]; rw [if_neg (fun z => by first | exact absurd (by assumption) z.2.1 | exact absurd z.2.2.1 (by assumption) | exact absurd (by assumption) z.2.2.2)]; exact hw8)
            | (have hcg := lfJ_cong (ca := ca) (F := va_up fwL41 w (1 + fwL41 (w ||| 2 ^ j))) (F2 := fwL41) (k := k) (wo := wo) (w := w) (m := R 1) (fun q hq hb => va_up_ne _ _ (Nat.ne_of_gt (or_up (w := w) (m := R 1) (by omega) hq (hcb q hb)).1))
               rw [hcg (j + 1) (by omega), va_up_self]; simp only [lfJ]; rw [if_pos ⟨by omega, by assumption, by assumption, by assumption⟩, ← hw8]; omega)
            | (have hcg := lfJ_cong (ca := ca) (F := va_up fwL41 w (fwL41 w)) (F2 := fwL41) (k := k) (wo := wo) (w := w) (m := R 1) (fun q hq hb => va_up_ne _ _ (Nat.ne_of_gt (or_up (w := w) (m := R 1) (by omega) hq (hcb q hb)).1))
               rw [hcg (j + 1) (by omega), va_up_self]; simp only [lfJ]; rw [if_pos ⟨by omega, by assumption, by assumption, by assumption⟩, ← hw8]; omega)⟩ (by (try dsimp only); omega)
          · refine lv_aload_n hx hb dX12_layFewest_66 rfl (lv_at hl 0 rfl) ?_
            refine nr_get (own := RX12) (C := RX12) (T := TX12) (N := 19) (v := .ref (ad Γ (mo + 5))) hx hb hts hi_X12_layFewest_X12 hown hw (by omega) (isM_0 hM) rfl 6 (by decide) wl_X12_layFewest_2 rfl rfl dX12_layFewest_67 ?_
            refine lv_iload_n hx hb dX12_layFewest_70 rfl (lv_at hl 3 rfl) ?_
            refine nr_iald (x := (ca w)) hx hb hw (by omega) (isM_5 hM) rfl (by omega) (by decide) dX12_layFewest_71 ?_
            refine lv_iload hx hb dX12_layFewest_72 (lv_at hl 4 rfl) ?_
            refine nr_goB (P := bt (ca w) j) (nr_runS (As := [.int (nI (ca w)), .int (nI j)]) ⟨hx, hb, hml, hown, hts⟩ hw (c_X12_has l Γ n Gl41 (ca w) j (by omega) (by omega)) (va_cwS 2 hts gX12_layFewest_X12_has rfl rfl rfl (by decide +kernel) ⟨Nat.le_of_ble_eq_true rfl, Nat.le_of_ble_eq_true rfl⟩) rfl hl.1 rfl (Nat.le_of_ble_eq_true rfl) dX12_layFewest_74 ⟨Nat.zero_le _, Nat.zero_le _⟩) (fun b25 => ?_) (fun b25 => ?_)
            · refine nr_if_eq (tgt := 132) hx hb (by decide) dX12_layFewest_77 (by decide) (fun c26 => absurd c26 (by decide)) (fun c26 => ?_)
              refine lv_iload_n hx hb dX12_layFewest_80 rfl (lv_at hl 2 rfl) ?_
              refine lv_iload hx hb dX12_layFewest_81 (lv_at hl 4 rfl) ?_
              refine nr_goB (P := bt wo j) (nr_runS (As := [.int (nI wo), .int (nI j)]) ⟨hx, hb, hml, hown, hts⟩ hw (c_X12_has l Γ n Gl41 wo j (by omega) (by omega)) (va_cwS 2 hts gX12_layFewest_X12_has rfl rfl rfl (by decide +kernel) ⟨Nat.le_of_ble_eq_true rfl, Nat.le_of_ble_eq_true rfl⟩) rfl hl.1 rfl (Nat.le_of_ble_eq_true rfl) dX12_layFewest_83 ⟨Nat.zero_le _, Nat.zero_le _⟩) (fun b27 => ?_) (fun b27 => ?_)
              · refine nr_if_ne (tgt := 132) hx hb (by decide) dX12_layFewest_86 (by decide) (fun c28 => ?_) (fun c28 => absurd c28 (by decide))
                refine nr_inc (d := 1) (k := 4) (lv' := [(4, .int (nI (j + 1))), (0, .ref (ad Γ (mo + 0))), (1, .int (nI k)), (2, .int (nI wo)), (3, .int (nI w))]) hx hb dX12_layFewest_132 hl rfl (by decide) (by decide) rfl (fun ls hl => ?_)
                refine lv_goto (tgt := 41) hx hb dX12_layFewest_135 (by decide) ?_
                exact ih41 (Gl41, j + 1, fwL41) _ _ _ _ hw hS (lv_sub hl [1, 2, 3, 4, 0] rfl) ⟨rfl, hM, hfr, by (try dsimp only); omega, by (try dsimp only); first | exact hG | (intro u h1 h2; rw [va_up_ne _ _ (by omega), hG u h1 h2]; exact lfJ_cong (m := R 1) (fun j hj hb => by rw [va_up_ne]; have h8 := or_up (w := u) (m := R 1) h2 hj (by rw [hca u h2] at hb; exact (canS_bt hb).2.2.1); omega) _ (Nat.le_refl _)), by (try dsimp only); first | exact hG2 | (intro y; by_cases q : y = w; rw [q, va_up_self]; have h7 := hG2 w; have h77 := hG2 (w ||| 2 ^ j); omega; rw [va_up_ne _ _ q]; exact hG2 y), by
            (try dsimp only)
            first
            | (simp only [lfJ]; rw [if_neg (fun z => by first | exact absurd (by assumption) z.2.1 | exact absurd z.2.2.1 (by assumption) | exact absurd (by assumption) z.2.2.2)]; exact hw8)
            | (have hcg := lfJ_cong (ca := ca) (F := va_up fwL41 w (1 + fwL41 (w ||| 2 ^ j))) (F2 := fwL41) (k := k) (wo := wo) (w := w) (m := R 1) (fun q hq hb => va_up_ne _ _ (Nat.ne_of_gt (or_up (w := w) (m := R 1) (by omega) hq (hcb q hb)).1))
               rw [hcg (j + 1) (by omega), va_up_self]; simp only [lfJ]; rw [if_pos ⟨by omega, by assumption, by assumption, by assumption⟩, ← hw8]; omega)
            | (have hcg := lfJ_cong (ca := ca) (F := va_up fwL41 w (fwL41 w)) (F2 := fwL41) (k := k) (wo := wo) (w := w) (m := R 1) (fun q hq hb => va_up_ne _ _ (Nat.ne_of_gt (or_up (w := w) (m := R 1) (by omega) hq (hcb q hb)).1))
               rw [hcg (j + 1) (by omega), va_up_self]; simp only [lfJ]; rw [if_pos ⟨by omega, by assumption, by assumption, by assumption⟩, ← hw8]; omega)⟩ (by (try dsimp only); omega)
              · refine nr_if_ne (tgt := 132) hx hb (by decide) dX12_layFewest_86 (by decide) (fun c29 => absurd c29 (by decide)) (fun c29 => ?_)
                refine lv_iconst (v := nI 1) hx hb dX12_layFewest_89 (by decide) ?_
                refine lv_aload_n hx hb dX12_layFewest_90 rfl (lv_at hl 0 rfl) ?_
                refine nr_get (own := RX12) (C := RX12) (T := TX12) (N := 19) (v := .ref (ad Γ (mo + 8))) hx hb hts hi_X12_layFewest_X12 hown hw (by omega) (isM_0 hM) rfl 9 (by decide) wl_X12_layFewest_1 rfl rfl dX12_layFewest_91 ?_
                refine lv_iload_n hx hb dX12_layFewest_94 rfl (lv_at hl 3 rfl) ?_
                refine lv_iconst (v := nI 1) hx hb dX12_layFewest_95 (by decide) ?_
                refine lv_iload hx hb dX12_layFewest_96 (lv_at hl 4 rfl) ?_
                refine nr_ishl1 hx hb (by omega) dX12_layFewest_98 ?_
                refine nr_ior hx hb dX12_layFewest_99 ?_
                refine nr_iald (x := (fwL41 (w ||| (2 ^ j)))) hx hb hw (by omega) (isM_8 hM) rfl (Nat.lt_of_lt_of_le (or_up (by omega) (by omega) (hcb j (by assumption))).2 h2p) (by decide) dX12_layFewest_100 ?_
                have hf2 := hG2 (w ||| 2 ^ j)
                refine nr_iadd hx hb dX12_layFewest_101 ?_
                refine lv_istore (lv' := [(5, .int (nI (1 + (fwL41 (w ||| (2 ^ j)))))), (0, .ref (ad Γ (mo + 0))), (1, .int (nI k)), (2, .int (nI wo)), (3, .int (nI w)), (4, .int (nI j))]) hx hb dX12_layFewest_102 hl (by decide) rfl (fun ls hl => ?_)
                refine lv_aload_n hx hb dX12_layFewest_104 rfl (lv_at hl 1 rfl) ?_
                refine nr_get (own := RX12) (C := RX12) (T := TX12) (N := 19) (v := .ref (ad Γ (mo + 8))) hx hb hts hi_X12_layFewest_X12 hown hw (by omega) (isM_0 hM) rfl 9 (by decide) wl_X12_layFewest_1 rfl rfl dX12_layFewest_105 ?_
                refine lv_iload_n hx hb dX12_layFewest_108 rfl (lv_at hl 4 rfl) ?_
                refine lv_iload hx hb dX12_layFewest_109 (lv_at hl 0 rfl) ?_
                refine lv_aload_n hx hb dX12_layFewest_111 rfl (lv_at hl 1 rfl) ?_
                refine nr_get (own := RX12) (C := RX12) (T := TX12) (N := 19) (v := .ref (ad Γ (mo + 8))) hx hb hts hi_X12_layFewest_X12 hown hw (by omega) (isM_0 hM) rfl 9 (by decide) wl_X12_layFewest_1 rfl rfl dX12_layFewest_112 ?_
                refine lv_iload_n hx hb dX12_layFewest_115 rfl (lv_at hl 4 rfl) ?_
                refine nr_iald (x := (fwL41 w)) hx hb hw (by omega) (isM_8 hM) rfl (by omega) (by decide) dX12_layFewest_116 ?_
                refine nr_icmp_ge (tgt := 125) hx hb (by omega) (by omega) dX12_layFewest_117 (by decide) (fun c30 => ?_) (fun c30 => ?_)
                · refine lv_aload_n hx hb dX12_layFewest_125 rfl (lv_at hl 1 rfl) ?_
                  refine nr_get (own := RX12) (C := RX12) (T := TX12) (N := 19) (v := .ref (ad Γ (mo + 8))) hx hb hts hi_X12_layFewest_X12 hown hw (by omega) (isM_0 hM) rfl 9 (by decide) wl_X12_layFewest_1 rfl rfl dX12_layFewest_126 ?_
                  refine lv_iload_n hx hb dX12_layFewest_129 rfl (lv_at hl 4 rfl) ?_
                  refine nr_iald (x := (fwL41 w)) hx hb hw (by omega) (isM_8 hM) rfl (by omega) (by decide) dX12_layFewest_130 ?_
                  refine nr_iast (k := w) (v := fwL41 w) hx hb hw hj hA hS (by omega) (isM_8 hM) (by omega) (by decide) dX12_layFewest_131 (fun H locs hw hS => ?_)
                  have hM := isM_s8 hM (va_up fwL41 w (fwL41 w))
                  have hfr := fr_up hfr (i := mo + 8) (by omega) (by omega) (na Γ 256 (va_up fwL41 w (fwL41 w)))
                  generalize va_up Gl41 (mo + 8) (na Γ 256 (va_up fwL41 w (fwL41 w))) = G31 at hw hM hfr
                  refine nr_inc (d := 1) (k := 5) (lv' := [(4, .int (nI (j + 1))), (5, .int (nI (1 + (fwL41 (w ||| (2 ^ j)))))), (0, .ref (ad Γ (mo + 0))), (1, .int (nI k)), (2, .int (nI wo)), (3, .int (nI w))]) hx hb dX12_layFewest_132 hl rfl (by decide) (by decide) rfl (fun ls hl => ?_)
                  refine lv_goto (tgt := 41) hx hb dX12_layFewest_135 (by decide) ?_
                  exact ih41 (G31, j + 1, va_up fwL41 w (fwL41 w)) _ _ _ _ hw hS (lv_sub hl [2, 3, 4, 5, 0] rfl) ⟨rfl, hM, hfr, by (try dsimp only); omega, by (try dsimp only); first | exact hG | (intro u h1 h2; rw [va_up_ne _ _ (by omega), hG u h1 h2]; exact lfJ_cong (m := R 1) (fun j hj hb => by rw [va_up_ne]; have h8 := or_up (w := u) (m := R 1) h2 hj (by rw [hca u h2] at hb; exact (canS_bt hb).2.2.1); omega) _ (Nat.le_refl _)), by (try dsimp only); first | exact hG2 | (intro y; by_cases q : y = w; rw [q, va_up_self]; have h7 := hG2 w; have h77 := hG2 (w ||| 2 ^ j); omega; rw [va_up_ne _ _ q]; exact hG2 y), by
            (try dsimp only)
            first
            | (simp only [lfJ]; rw [if_neg (fun z => by first | exact absurd (by assumption) z.2.1 | exact absurd z.2.2.1 (by assumption) | exact absurd (by assumption) z.2.2.2)]; exact hw8)
            | (have hcg := lfJ_cong (ca := ca) (F := va_up fwL41 w (1 + fwL41 (w ||| 2 ^ j))) (F2 := fwL41) (k := k) (wo := wo) (w := w) (m := R 1) (fun q hq hb => va_up_ne _ _ (Nat.ne_of_gt (or_up (w := w) (m := R 1) (by omega) hq (hcb q hb)).1))
               rw [hcg (j + 1) (by omega), va_up_self]; simp only [lfJ]; rw [if_pos ⟨by omega, by assumption, by assumption, by assumption⟩, ← hw8]; omega)
            | (have hcg := lfJ_cong (ca := ca) (F := va_up fwL41 w (fwL41 w)) (F2 := fwL41) (k := k) (wo := wo) (w := w) (m := R 1) (fun q hq hb => va_up_ne _ _ (Nat.ne_of_gt (or_up (w := w) (m := R 1) (by omega) hq (hcb q hb)).1))
               rw [hcg (j + 1) (by omega), va_up_self]; simp only [lfJ]; rw [if_pos ⟨by omega, by assumption, by assumption, by assumption⟩, ← hw8]; omega)⟩ (by (try dsimp only); omega)
                · refine lv_iload hx hb dX12_layFewest_120 (lv_at hl 0 rfl) ?_
                  refine lv_goto (tgt := 131) hx hb dX12_layFewest_122 (by decide) ?_
                  refine nr_iast (k := w) (v := 1 + (fwL41 (w ||| (2 ^ j)))) hx hb hw hj hA hS (by omega) (isM_8 hM) (by omega) (by decide) dX12_layFewest_131 (fun H locs hw hS => ?_)
                  have hM := isM_s8 hM (va_up fwL41 w (1 + (fwL41 (w ||| (2 ^ j)))))
                  have hfr := fr_up hfr (i := mo + 8) (by omega) (by omega) (na Γ 256 (va_up fwL41 w (1 + (fwL41 (w ||| (2 ^ j))))))
                  generalize va_up Gl41 (mo + 8) (na Γ 256 (va_up fwL41 w (1 + (fwL41 (w ||| (2 ^ j)))))) = G32 at hw hM hfr
                  refine nr_inc (d := 1) (k := 5) (lv' := [(4, .int (nI (j + 1))), (5, .int (nI (1 + (fwL41 (w ||| (2 ^ j)))))), (0, .ref (ad Γ (mo + 0))), (1, .int (nI k)), (2, .int (nI wo)), (3, .int (nI w))]) hx hb dX12_layFewest_132 hl rfl (by decide) (by decide) rfl (fun ls hl => ?_)
                  refine lv_goto (tgt := 41) hx hb dX12_layFewest_135 (by decide) ?_
                  exact ih41 (G32, j + 1, va_up fwL41 w (1 + (fwL41 (w ||| (2 ^ j))))) _ _ _ _ hw hS (lv_sub hl [2, 3, 4, 5, 0] rfl) ⟨rfl, hM, hfr, by (try dsimp only); omega, by (try dsimp only); first | exact hG | (intro u h1 h2; rw [va_up_ne _ _ (by omega), hG u h1 h2]; exact lfJ_cong (m := R 1) (fun j hj hb => by rw [va_up_ne]; have h8 := or_up (w := u) (m := R 1) h2 hj (by rw [hca u h2] at hb; exact (canS_bt hb).2.2.1); omega) _ (Nat.le_refl _)), by (try dsimp only); first | exact hG2 | (intro y; by_cases q : y = w; rw [q, va_up_self]; have h7 := hG2 w; have h77 := hG2 (w ||| 2 ^ j); omega; rw [va_up_ne _ _ q]; exact hG2 y), by
            (try dsimp only)
            first
            | (simp only [lfJ]; rw [if_neg (fun z => by first | exact absurd (by assumption) z.2.1 | exact absurd z.2.2.1 (by assumption) | exact absurd (by assumption) z.2.2.2)]; exact hw8)
            | (have hcg := lfJ_cong (ca := ca) (F := va_up fwL41 w (1 + fwL41 (w ||| 2 ^ j))) (F2 := fwL41) (k := k) (wo := wo) (w := w) (m := R 1) (fun q hq hb => va_up_ne _ _ (Nat.ne_of_gt (or_up (w := w) (m := R 1) (by omega) hq (hcb q hb)).1))
               rw [hcg (j + 1) (by omega), va_up_self]; simp only [lfJ]; rw [if_pos ⟨by omega, by assumption, by assumption, by assumption⟩, ← hw8]; omega)
            | (have hcg := lfJ_cong (ca := ca) (F := va_up fwL41 w (fwL41 w)) (F2 := fwL41) (k := k) (wo := wo) (w := w) (m := R 1) (fun q hq hb => va_up_ne _ _ (Nat.ne_of_gt (or_up (w := w) (m := R 1) (by omega) hq (hcb q hb)).1))
               rw [hcg (j + 1) (by omega), va_up_self]; simp only [lfJ]; rw [if_pos ⟨by omega, by assumption, by assumption, by assumption⟩, ← hw8]; omega)⟩ (by (try dsimp only); omega)
            · refine nr_if_eq (tgt := 132) hx hb (by decide) dX12_layFewest_77 (by decide) (fun c33 => ?_) (fun c33 => absurd c33 (by decide))
              refine nr_inc (d := 1) (k := 4) (lv' := [(4, .int (nI (j + 1))), (0, .ref (ad Γ (mo + 0))), (1, .int (nI k)), (2, .int (nI wo)), (3, .int (nI w))]) hx hb dX12_layFewest_132 hl rfl (by decide) (by decide) rfl (fun ls hl => ?_)
              refine lv_goto (tgt := 41) hx hb dX12_layFewest_135 (by decide) ?_
              exact ih41 (Gl41, j + 1, fwL41) _ _ _ _ hw hS (lv_sub hl [1, 2, 3, 4, 0] rfl) ⟨rfl, hM, hfr, by (try dsimp only); omega, by (try dsimp only); first | exact hG | (intro u h1 h2; rw [va_up_ne _ _ (by omega), hG u h1 h2]; exact lfJ_cong (m := R 1) (fun j hj hb => by rw [va_up_ne]; have h8 := or_up (w := u) (m := R 1) h2 hj (by rw [hca u h2] at hb; exact (canS_bt hb).2.2.1); omega) _ (Nat.le_refl _)), by (try dsimp only); first | exact hG2 | (intro y; by_cases q : y = w; rw [q, va_up_self]; have h7 := hG2 w; have h77 := hG2 (w ||| 2 ^ j); omega; rw [va_up_ne _ _ q]; exact hG2 y), by
            (try dsimp only)
            first
            | (simp only [lfJ]; rw [if_neg (fun z => by first | exact absurd (by assumption) z.2.1 | exact absurd z.2.2.1 (by assumption) | exact absurd (by assumption) z.2.2.2)]; exact hw8)
            | (have hcg := lfJ_cong (ca := ca) (F := va_up fwL41 w (1 + fwL41 (w ||| 2 ^ j))) (F2 := fwL41) (k := k) (wo := wo) (w := w) (m := R 1) (fun q hq hb => va_up_ne _ _ (Nat.ne_of_gt (or_up (w := w) (m := R 1) (by omega) hq (hcb q hb)).1))
               rw [hcg (j + 1) (by omega), va_up_self]; simp only [lfJ]; rw [if_pos ⟨by omega, by assumption, by assumption, by assumption⟩, ← hw8]; omega)
            | (have hcg := lfJ_cong (ca := ca) (F := va_up fwL41 w (fwL41 w)) (F2 := fwL41) (k := k) (wo := wo) (w := w) (m := R 1) (fun q hq hb => va_up_ne _ _ (Nat.ne_of_gt (or_up (w := w) (m := R 1) (by omega) hq (hcb q hb)).1))
               rw [hcg (j + 1) (by omega), va_up_self]; simp only [lfJ]; rw [if_pos ⟨by omega, by assumption, by assumption, by assumption⟩, ← hw8]; omega)⟩ (by (try dsimp only); omega)
