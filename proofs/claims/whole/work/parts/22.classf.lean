section SF
abbrev restP (sa sb pr : Nat) : Prop := gainV (pr % 2) (pr / 2 % 2) sa ≥ gainV (1 - pr % 2) (pr / 2 % 2) sa ∧ gainV (pr / 2 % 2) (pr % 2) sb ≥ gainV (1 - pr / 2 % 2) (pr % 2) sb
theorem fewF_cong {V F F2 : Nat → Nat} {g m : Nat} (hc : ∀ j, j < m → could V j g g 0 → F (g ||| 2 ^ j) = F2 (g ||| 2 ^ j)) : ∀ j, j ≤ m → fewF V F g j = fewF V F2 g j
  | 0, _ => rfl
  | j + 1, hm => by
    have ih := fewF_cong hc j (by omega)
    unfold fewF
    rw [ih]
    by_cases q : could V j g g 0
    · rw [if_pos q, if_pos q, hc j (by omega) q]
    · rw [if_neg q, if_neg q]
theorem could_nb {V : Nat → Nat} {j g s d : Nat} (h : could V j g s d) : ¬ bt g j := fun hb => h.1 ((bt_orr _ _ _).mpr (Or.inr hb))
/-- how many strokes are left, for each set: as the class fills it -/
def sizE (V F : Nat → Nat) (k w : Nat) : Nat := if bt w k then 0 else fewF V F w (V 1)
def sizR (V F : Nat → Nat) (k lo : Nat) : Prop := ∀ w, lo ≤ w → w < 2 ^ V 1 → F w = sizE V F k w
theorem siz_up {V F : Nat → Nat} {k c x : Nat} (h : sizR V F k (c + 1)) (hc : c < 2 ^ V 1) (hx : x = sizE V F k c) : sizR V (va_up F c x) k c := by
  have key : ∀ w, c ≤ w → w < 2 ^ V 1 → sizE V (va_up F c x) k w = sizE V F k w := fun w h1 h2 => by
    unfold sizE
    split
    · rfl
    · refine fewF_cong (m := V 1) (fun j hj hb => va_up_ne _ _ ?_) _ (Nat.le_refl _)
      have := (or_up (w := w) (m := V 1) h2 hj (could_nb hb)).1
      omega
  intro w h1 h2
  rw [key w h1 h2]
  by_cases q : w = c
  · rw [q, va_up_self]; exact hx
  · rw [va_up_ne _ _ q]; exact h w (by omega) h2
theorem sizE_le (V F : Nat → Nat) (k w : Nat) : sizE V F k w ≤ 100 := by
  have := fewF_le V F w (V 1)
  unfold sizE; split <;> omega
theorem fewF_ex {V F : Nat → Nat} {g : Nat} : ∀ {m : Nat}, fewF V F g m < 100 → ∃ j, j < m ∧ could V j g g 0 ∧ fewF V F g m = 1 + F (g ||| 2 ^ j)
  | 0, h => absurd h (Nat.lt_irrefl _)
  | m + 1, h => by
    unfold fewF at h ⊢
    by_cases q : could V m g g 0
    · rw [if_pos q] at h ⊢
      by_cases z : 1 + F (g ||| 2 ^ m) < fewF V F g m
      · exact ⟨m, by omega, q, by omega⟩
      · obtain ⟨j, h1, h2, h3⟩ := fewF_ex (V := V) (F := F) (g := g) (m := m) (by omega)
        exact ⟨j, by omega, h2, by omega⟩
    · rw [if_neg q] at h ⊢
      obtain ⟨j, h1, h2, h3⟩ := fewF_ex (V := V) (F := F) (g := g) (m := m) h
      exact ⟨j, by omega, h2, h3⟩
/-- the class's way: the sets it goes through -/
def wayS (V F : Nat → Nat) (g w : Nat) : Prop := w < V 1 ∧ wayP V F g w ∧ ∀ u, u < w → ¬ wayP V F g u
def pathC (V F : Nat → Nat) : Nat → Nat → Prop
  | 0, g => g = 0
  | q + 1, g => ∃ s0 w, pathC V F q s0 ∧ wayS V F s0 w ∧ g = s0 ||| 2 ^ w
theorem path_c {V F : Nat → Nat} {k : Nat} (hF : sizR V F k 0) (h0 : F 0 < 100) : ∀ (q g : Nat), pathC V F q g → q ≤ F 0 → g < 2 ^ V 1 ∧ F g = F 0 - q
  | 0, g, h, _ => by
    have : g = 0 := h
    subst this
    exact ⟨Nat.two_pow_pos _, rfl⟩
  | q + 1, g, h, hq => by
    obtain ⟨s0, w, h1, h2, rfl⟩ := h
    obtain ⟨g1, g2⟩ := path_c hF h0 q s0 h1 (by omega)
    exact ⟨(or_up g1 h2.1 (could_nb h2.2.1.1)).2, by have := h2.2.1.2; omega⟩
theorem way_ex {V F : Nat → Nat} {k g : Nat} (hF : sizR V F k 0) (hg : g < 2 ^ V 1) (h1 : 1 ≤ F g) (h2 : F g < 100) : ∃ w, w < V 1 ∧ wayP V F g w := by
  have e := hF g (Nat.zero_le _) hg
  unfold sizE at e
  by_cases q : bt g k
  · rw [if_pos q] at e; omega
  · rw [if_neg q] at e
    obtain ⟨j, a, b, c⟩ := fewF_ex (V := V) (F := F) (g := g) (m := V 1) (by omega)
    exact ⟨j, a, b, by omega⟩
def fewZ (V F : Nat → Nat) (k : Nat) : Nat := if bt (V 20) k then 0 else F 0
/-- hush: the best so far -/
def silB (V : Nat → Nat) (k ot : Nat) : Nat → Nat
  | 0 => ot
  | s + 1 => if (s + 1) &&& (ot ^^^ 4294967295) = 0 ∧ pc8 (s + 1) < pc8 (silB V k ot s) ∧ ¬ bt (clo V (s + 1) (V 1)) k then s + 1 else silB V k ot s
theorem silB_le (V : Nat → Nat) (k ot : Nat) : ∀ s, silB V k ot s ≤ max ot s
  | 0 => by show ot ≤ _; omega
  | s + 1 => by
    have := silB_le V k ot s
    unfold silB; split <;> omega
def silR (V : Nat → Nat) (k : Nat) (z : Int32) : Prop := (could V k 0 0 0 ∧ z = -1) ∨ (¬ could V k 0 0 0 ∧ ¬ bt (clo V 0 (V 1)) k ∧ z = nI 0) ∨ (¬ could V k 0 0 0 ∧ bt (clo V 0 (V 1)) k ∧ z = nI (silB V k (clo V 0 (V 1) &&& (2 ^ k ^^^ 4294967295)) ((clo V 0 (V 1) &&& (2 ^ k ^^^ 4294967295)) - 1)))
def sumC (V : Nat → Nat) (k ws c : Nat) : Nat → Nat
  | 0 => 0
  | si + 1 => if si &&& (ws ^^^ 4294967295) = 0 ∧ could V k 0 (soundF V ws si (V 1)) 0 then sumC V k ws c si + waysF ws si c 8 else sumC V k ws c si
theorem sumC_le {V : Nat → Nat} {k ws c : Nat} (hc : c ≤ 10) : ∀ q, sumC V k ws c q ≤ q * 100000000
  | 0 => Nat.zero_le _
  | q + 1 => by
    have ih := sumC_le (V := V) (k := k) (ws := ws) hc q
    have h2 : waysF ws q c 8 ≤ 100000000 := Nat.le_trans (waysF_le (ws := ws) (si := q) hc 8) (p10_le (Nat.le_refl 8))
    unfold sumC
    rw [Nat.succ_mul]
    split
    · exact Nat.add_le_add ih h2
    · exact Nat.le_trans ih (Nat.le_add_right _ _)
def fracC (cv : Nat → Nat) (a b : Nat) : Nat → Nat := va_up (va_up cv 0 (a / Nat.gcd a b)) 1 (b / Nat.gcd a b)
theorem gcd_p {a b : Nat} (h : 0 < b) : 1 ≤ Nat.gcd a b := Nat.gcd_pos_of_pos_right _ h
theorem div_g {a g : Nat} (h1 : 1 ≤ g) (h : g ≤ 1) : a = a / g := by
  rw [show g = 1 by omega, Nat.div_one]
end SF
section SF2
theorem nI_ne_m1 {n : Nat} (hn : n < 2147483648) : ¬ nI n = -1 := fun h => by
  have := congrArg Int32.toInt h
  rw [nI_toInt hn] at this
  have c : (-1 : Int32).toInt = -1 := by decide
  rw [c] at this
  omega
def tlyC (V tv : Nat → Nat) (what : Nat) : Nat := rTally V tv (if what < 10 then what else 10)
end SF2
set_option maxHeartbeats 4000000 in
set_option maxRecDepth 100000 in
theorem c_X3_gain (l : Launch) (Γ : Gam) (n : Nat) (G : Nat → va_E) (se ot ts : Nat) (h1 : se < 2) (h2 : ot < 2) (h3 : ts < 2)  : Met l yX3_gain wsX3_gain ({ frames := 0, cells := 0, slots := 0, locals := 0 }) (va_Pc [.int (nI se), .int (nI ot), .int (nI ts)] (fun U => hw Γ n G U U.heap)) (vp_Si (fun z => z = gainV se ot ts)) 0 0 (fun _ => False) := by
  refine Met.ofW (cc := cX3_gain) (maxL := 4) (ret := (some .int)) (by decide) rfl ?_
  intro p e s m args below meth c s₁ B hml hv
  obtain ⟨rfl, hw⟩ := hv
  have hx := B.exec
  have hb := B.bytes
  have hr := B.returns
  have hts := atoms_spec (ws := wsX3_gain) B.pre
  have hown : s.vm.findClass RX3 = some m.cls := findClass_of_methodNamed B.named
  have hlocks := B.notSynchronized
  have hl := lv_entry ([.int (nI se), .int (nI ot), .int (nI ts)]) (n := 4) (Nat.le_of_ble_eq_true rfl)
  rw [lg_entry_eq]
  generalize (lg_sl ([.int (nI se), .int (nI ot), .int (nI ts)]) ++ List.replicate (4 - (lg_sl ([.int (nI se), .int (nI ot), .int (nI ts)])).length) Slot.unset).toArray = ls at hl ⊢
  have hl : lv_has ls 4 [(0, .int (nI se)), (1, .int (nI ot)), (2, .int (nI ts))] := hl
  rcases (show se = 0 ∨ se = 1 by omega) with rfl | rfl <;> rcases (show ot = 0 ∨ ot = 1 by omega) with rfl | rfl <;> rcases (show ts = 0 ∨ ts = 1 by omega) with rfl | rfl
  · refine lv_iconst (v := nI 0) hx hb dX3_gain_0 (by decide) ?_
    refine lv_istore_n (lv' := [(3, .int (nI 0)), (0, .int (nI 0)), (1, .int (nI 0)), (2, .int (nI 0))]) hx hb dX3_gain_1 rfl hl (by decide) rfl (fun ls hl => ?_)
    refine lv_iload_n hx hb dX3_gain_2 rfl (lv_at hl 2 rfl) ?_
    refine nr_if_eq (tgt := 9) hx hb (by decide) dX3_gain_3 (by decide) (fun c1 => ?_) (fun c1 => absurd c1 (by decide))
    refine lv_iload_n hx hb dX3_gain_9 rfl (lv_at hl 1 rfl) ?_
    refine nr_if_eq (tgt := 26) hx hb (by decide) dX3_gain_10 (by decide) (fun c2 => ?_) (fun c2 => absurd c2 (by decide))
    refine lv_iload_n hx hb dX3_gain_26 rfl (lv_at hl 1 rfl) ?_
    refine nr_if_eq (tgt := 37) hx hb (by decide) dX3_gain_27 (by decide) (fun c3 => ?_) (fun c3 => absurd c3 (by decide))
    refine lv_iload_n hx hb dX3_gain_37 rfl (lv_at hl 1 rfl) ?_
    refine nr_if_ne (tgt := 48) hx hb (by decide) dX3_gain_38 (by decide) (fun c4 => absurd c4 (by decide)) (fun c4 => ?_)
    refine lv_iload_n hx hb dX3_gain_41 rfl (lv_at hl 2 rfl) ?_
    refine nr_if_ne (tgt := 48) hx hb (by decide) dX3_gain_42 (by decide) (fun c5 => absurd c5 (by decide)) (fun c5 => ?_)
    refine lv_iinc (v := (-4)) (k := 0) (lv' := [(3, .int (-4)), (0, .int (nI 0)), (1, .int (nI 0)), (2, .int (nI 0))]) hx hb dX3_gain_45 hl rfl (by decide) (by decide) rfl (fun ls hl => ?_)
    refine lv_iload_n hx hb dX3_gain_48 rfl (lv_at hl 0 rfl) ?_
    exact nr_retS hx hb hr hlocks (by decide) rfl dX3_gain_49
  · refine lv_iconst (v := nI 0) hx hb dX3_gain_0 (by decide) ?_
    refine lv_istore_n (lv' := [(3, .int (nI 0)), (0, .int (nI 0)), (1, .int (nI 0)), (2, .int (nI 1))]) hx hb dX3_gain_1 rfl hl (by decide) rfl (fun ls hl => ?_)
    refine lv_iload_n hx hb dX3_gain_2 rfl (lv_at hl 2 rfl) ?_
    refine nr_if_eq (tgt := 9) hx hb (by decide) dX3_gain_3 (by decide) (fun c6 => ?_) (fun c6 => absurd c6 (by decide))
    refine lv_iload_n hx hb dX3_gain_9 rfl (lv_at hl 1 rfl) ?_
    refine nr_if_eq (tgt := 26) hx hb (by decide) dX3_gain_10 (by decide) (fun c7 => ?_) (fun c7 => absurd c7 (by decide))
    refine lv_iload_n hx hb dX3_gain_26 rfl (lv_at hl 1 rfl) ?_
    refine nr_if_eq (tgt := 37) hx hb (by decide) dX3_gain_27 (by decide) (fun c8 => ?_) (fun c8 => absurd c8 (by decide))
    refine lv_iload_n hx hb dX3_gain_37 rfl (lv_at hl 1 rfl) ?_
    refine nr_if_ne (tgt := 48) hx hb (by decide) dX3_gain_38 (by decide) (fun c9 => absurd c9 (by decide)) (fun c9 => ?_)
    refine lv_iload_n hx hb dX3_gain_41 rfl (lv_at hl 2 rfl) ?_
    refine nr_if_ne (tgt := 48) hx hb (by decide) dX3_gain_42 (by decide) (fun c10 => absurd c10 (by decide)) (fun c10 => ?_)
    refine lv_iinc (v := (-4)) (k := 0) (lv' := [(3, .int (-4)), (0, .int (nI 0)), (1, .int (nI 0)), (2, .int (nI 1))]) hx hb dX3_gain_45 hl rfl (by decide) (by decide) rfl (fun ls hl => ?_)
    refine lv_iload_n hx hb dX3_gain_48 rfl (lv_at hl 0 rfl) ?_
    exact nr_retS hx hb hr hlocks (by decide) rfl dX3_gain_49
  · refine lv_iconst (v := nI 0) hx hb dX3_gain_0 (by decide) ?_
    refine lv_istore_n (lv' := [(3, .int (nI 0)), (0, .int (nI 0)), (1, .int (nI 1)), (2, .int (nI 0))]) hx hb dX3_gain_1 rfl hl (by decide) rfl (fun ls hl => ?_)
    refine lv_iload_n hx hb dX3_gain_2 rfl (lv_at hl 2 rfl) ?_
    refine nr_if_eq (tgt := 9) hx hb (by decide) dX3_gain_3 (by decide) (fun c11 => absurd c11 (by decide)) (fun c11 => ?_)
    refine nr_inc (d := 6) (k := 0) (lv' := [(3, .int (nI 6)), (0, .int (nI 0)), (1, .int (nI 1)), (2, .int (nI 0))]) hx hb dX3_gain_6 hl rfl (by decide) (by decide) rfl (fun ls hl => ?_)
    refine lv_iload_n hx hb dX3_gain_9 rfl (lv_at hl 1 rfl) ?_
    refine nr_if_eq (tgt := 26) hx hb (by decide) dX3_gain_10 (by decide) (fun c12 => ?_) (fun c12 => absurd c12 (by decide))
    refine lv_iload_n hx hb dX3_gain_26 rfl (lv_at hl 1 rfl) ?_
    refine nr_if_eq (tgt := 37) hx hb (by decide) dX3_gain_27 (by decide) (fun c13 => ?_) (fun c13 => absurd c13 (by decide))
    refine lv_iload_n hx hb dX3_gain_37 rfl (lv_at hl 1 rfl) ?_
    refine nr_if_ne (tgt := 48) hx hb (by decide) dX3_gain_38 (by decide) (fun c14 => absurd c14 (by decide)) (fun c14 => ?_)
    refine lv_iload_n hx hb dX3_gain_41 rfl (lv_at hl 2 rfl) ?_
    refine nr_if_ne (tgt := 48) hx hb (by decide) dX3_gain_42 (by decide) (fun c15 => ?_) (fun c15 => absurd c15 (by decide))
    refine lv_iload_n hx hb dX3_gain_48 rfl (lv_at hl 0 rfl) ?_
    exact nr_retS hx hb hr hlocks (by decide) rfl dX3_gain_49
  · refine lv_iconst (v := nI 0) hx hb dX3_gain_0 (by decide) ?_
    refine lv_istore_n (lv' := [(3, .int (nI 0)), (0, .int (nI 0)), (1, .int (nI 1)), (2, .int (nI 1))]) hx hb dX3_gain_1 rfl hl (by decide) rfl (fun ls hl => ?_)
    refine lv_iload_n hx hb dX3_gain_2 rfl (lv_at hl 2 rfl) ?_
    refine nr_if_eq (tgt := 9) hx hb (by decide) dX3_gain_3 (by decide) (fun c16 => absurd c16 (by decide)) (fun c16 => ?_)
    refine nr_inc (d := 6) (k := 0) (lv' := [(3, .int (nI 6)), (0, .int (nI 0)), (1, .int (nI 1)), (2, .int (nI 1))]) hx hb dX3_gain_6 hl rfl (by decide) (by decide) rfl (fun ls hl => ?_)
    refine lv_iload_n hx hb dX3_gain_9 rfl (lv_at hl 1 rfl) ?_
    refine nr_if_eq (tgt := 26) hx hb (by decide) dX3_gain_10 (by decide) (fun c17 => ?_) (fun c17 => absurd c17 (by decide))
    refine lv_iload_n hx hb dX3_gain_26 rfl (lv_at hl 1 rfl) ?_
    refine nr_if_eq (tgt := 37) hx hb (by decide) dX3_gain_27 (by decide) (fun c18 => ?_) (fun c18 => absurd c18 (by decide))
    refine lv_iload_n hx hb dX3_gain_37 rfl (lv_at hl 1 rfl) ?_
    refine nr_if_ne (tgt := 48) hx hb (by decide) dX3_gain_38 (by decide) (fun c19 => absurd c19 (by decide)) (fun c19 => ?_)
    refine lv_iload_n hx hb dX3_gain_41 rfl (lv_at hl 2 rfl) ?_
    refine nr_if_ne (tgt := 48) hx hb (by decide) dX3_gain_42 (by decide) (fun c20 => ?_) (fun c20 => absurd c20 (by decide))
    refine lv_iload_n hx hb dX3_gain_48 rfl (lv_at hl 0 rfl) ?_
    exact nr_retS hx hb hr hlocks (by decide) rfl dX3_gain_49
  · refine lv_iconst (v := nI 0) hx hb dX3_gain_0 (by decide) ?_
    refine lv_istore_n (lv' := [(3, .int (nI 0)), (0, .int (nI 1)), (1, .int (nI 0)), (2, .int (nI 0))]) hx hb dX3_gain_1 rfl hl (by decide) rfl (fun ls hl => ?_)
    refine lv_iload_n hx hb dX3_gain_2 rfl (lv_at hl 2 rfl) ?_
    refine nr_if_eq (tgt := 9) hx hb (by decide) dX3_gain_3 (by decide) (fun c21 => ?_) (fun c21 => absurd c21 (by decide))
    refine lv_iload_n hx hb dX3_gain_9 rfl (lv_at hl 1 rfl) ?_
    refine nr_if_eq (tgt := 26) hx hb (by decide) dX3_gain_10 (by decide) (fun c22 => absurd c22 (by decide)) (fun c22 => ?_)
    refine lv_iload_n hx hb dX3_gain_13 rfl (lv_at hl 0 rfl) ?_
    refine lv_iload_n hx hb dX3_gain_14 rfl (lv_at hl 3 rfl) ?_
    refine nr_if_eq (tgt := 23) hx hb (by decide) dX3_gain_15 (by decide) (fun c23 => ?_) (fun c23 => absurd c23 (by decide))
    refine lv_iconst (v := nI 2) hx hb dX3_gain_23 (by decide) ?_
    refine lv_isub hx hb dX3_gain_24 ?_
    rw [show (nI 0) - (nI 2) = (-2) from by decide]
    refine lv_istore_n (lv' := [(3, .int (-2)), (0, .int (nI 1)), (1, .int (nI 0)), (2, .int (nI 0))]) hx hb dX3_gain_25 rfl hl (by decide) rfl (fun ls hl => ?_)
    refine lv_iload_n hx hb dX3_gain_26 rfl (lv_at hl 1 rfl) ?_
    refine nr_if_eq (tgt := 37) hx hb (by decide) dX3_gain_27 (by decide) (fun c24 => absurd c24 (by decide)) (fun c24 => ?_)
    refine lv_iload_n hx hb dX3_gain_30 rfl (lv_at hl 2 rfl) ?_
    refine nr_if_eq (tgt := 37) hx hb (by decide) dX3_gain_31 (by decide) (fun c25 => ?_) (fun c25 => absurd c25 (by decide))
    refine lv_iload_n hx hb dX3_gain_37 rfl (lv_at hl 1 rfl) ?_
    refine nr_if_ne (tgt := 48) hx hb (by decide) dX3_gain_38 (by decide) (fun c26 => ?_) (fun c26 => absurd c26 (by decide))
    refine lv_iload_n hx hb dX3_gain_48 rfl (lv_at hl 0 rfl) ?_
    exact nr_retS hx hb hr hlocks (by decide) rfl dX3_gain_49
  · refine lv_iconst (v := nI 0) hx hb dX3_gain_0 (by decide) ?_
    refine lv_istore_n (lv' := [(3, .int (nI 0)), (0, .int (nI 1)), (1, .int (nI 0)), (2, .int (nI 1))]) hx hb dX3_gain_1 rfl hl (by decide) rfl (fun ls hl => ?_)
    refine lv_iload_n hx hb dX3_gain_2 rfl (lv_at hl 2 rfl) ?_
    refine nr_if_eq (tgt := 9) hx hb (by decide) dX3_gain_3 (by decide) (fun c27 => ?_) (fun c27 => absurd c27 (by decide))
    refine lv_iload_n hx hb dX3_gain_9 rfl (lv_at hl 1 rfl) ?_
    refine nr_if_eq (tgt := 26) hx hb (by decide) dX3_gain_10 (by decide) (fun c28 => absurd c28 (by decide)) (fun c28 => ?_)
    refine lv_iload_n hx hb dX3_gain_13 rfl (lv_at hl 0 rfl) ?_
    refine lv_iload_n hx hb dX3_gain_14 rfl (lv_at hl 3 rfl) ?_
    refine nr_if_eq (tgt := 23) hx hb (by decide) dX3_gain_15 (by decide) (fun c29 => absurd c29 (by decide)) (fun c29 => ?_)
    refine lv_bipush (v := nI 11) hx hb dX3_gain_18 (by decide) ?_
    refine lv_goto (tgt := 24) hx hb dX3_gain_20 (by decide) ?_
    refine lv_isub hx hb dX3_gain_24 ?_
    rw [show (nI 0) - (nI 11) = (-11) from by decide]
    refine lv_istore_n (lv' := [(3, .int (-11)), (0, .int (nI 1)), (1, .int (nI 0)), (2, .int (nI 1))]) hx hb dX3_gain_25 rfl hl (by decide) rfl (fun ls hl => ?_)
    refine lv_iload_n hx hb dX3_gain_26 rfl (lv_at hl 1 rfl) ?_
    refine nr_if_eq (tgt := 37) hx hb (by decide) dX3_gain_27 (by decide) (fun c30 => absurd c30 (by decide)) (fun c30 => ?_)
    refine lv_iload_n hx hb dX3_gain_30 rfl (lv_at hl 2 rfl) ?_
    refine nr_if_eq (tgt := 37) hx hb (by decide) dX3_gain_31 (by decide) (fun c31 => ?_) (fun c31 => absurd c31 (by decide))
    refine lv_iload_n hx hb dX3_gain_37 rfl (lv_at hl 1 rfl) ?_
    refine nr_if_ne (tgt := 48) hx hb (by decide) dX3_gain_38 (by decide) (fun c32 => ?_) (fun c32 => absurd c32 (by decide))
    refine lv_iload_n hx hb dX3_gain_48 rfl (lv_at hl 0 rfl) ?_
    exact nr_retS hx hb hr hlocks (by decide) rfl dX3_gain_49
  · refine lv_iconst (v := nI 0) hx hb dX3_gain_0 (by decide) ?_
    refine lv_istore_n (lv' := [(3, .int (nI 0)), (0, .int (nI 1)), (1, .int (nI 1)), (2, .int (nI 0))]) hx hb dX3_gain_1 rfl hl (by decide) rfl (fun ls hl => ?_)
    refine lv_iload_n hx hb dX3_gain_2 rfl (lv_at hl 2 rfl) ?_
    refine nr_if_eq (tgt := 9) hx hb (by decide) dX3_gain_3 (by decide) (fun c33 => absurd c33 (by decide)) (fun c33 => ?_)
    refine nr_inc (d := 6) (k := 0) (lv' := [(3, .int (nI 6)), (0, .int (nI 1)), (1, .int (nI 1)), (2, .int (nI 0))]) hx hb dX3_gain_6 hl rfl (by decide) (by decide) rfl (fun ls hl => ?_)
    refine lv_iload_n hx hb dX3_gain_9 rfl (lv_at hl 1 rfl) ?_
    refine nr_if_eq (tgt := 26) hx hb (by decide) dX3_gain_10 (by decide) (fun c34 => absurd c34 (by decide)) (fun c34 => ?_)
    refine lv_iload_n hx hb dX3_gain_13 rfl (lv_at hl 0 rfl) ?_
    refine lv_iload_n hx hb dX3_gain_14 rfl (lv_at hl 3 rfl) ?_
    refine nr_if_eq (tgt := 23) hx hb (by decide) dX3_gain_15 (by decide) (fun c35 => ?_) (fun c35 => absurd c35 (by decide))
    refine lv_iconst (v := nI 2) hx hb dX3_gain_23 (by decide) ?_
    refine lv_isub hx hb dX3_gain_24 ?_
    rw [show (nI 6) - (nI 2) = (nI 4) from by decide]
    refine lv_istore_n (lv' := [(3, .int (nI 4)), (0, .int (nI 1)), (1, .int (nI 1)), (2, .int (nI 0))]) hx hb dX3_gain_25 rfl hl (by decide) rfl (fun ls hl => ?_)
    refine lv_iload_n hx hb dX3_gain_26 rfl (lv_at hl 1 rfl) ?_
    refine nr_if_eq (tgt := 37) hx hb (by decide) dX3_gain_27 (by decide) (fun c36 => absurd c36 (by decide)) (fun c36 => ?_)
    refine lv_iload_n hx hb dX3_gain_30 rfl (lv_at hl 2 rfl) ?_
    refine nr_if_eq (tgt := 37) hx hb (by decide) dX3_gain_31 (by decide) (fun c37 => absurd c37 (by decide)) (fun c37 => ?_)
    refine nr_inc (d := 3) (k := 0) (lv' := [(3, .int (nI 7)), (0, .int (nI 1)), (1, .int (nI 1)), (2, .int (nI 0))]) hx hb dX3_gain_34 hl rfl (by decide) (by decide) rfl (fun ls hl => ?_)
    refine lv_iload_n hx hb dX3_gain_37 rfl (lv_at hl 1 rfl) ?_
    refine nr_if_ne (tgt := 48) hx hb (by decide) dX3_gain_38 (by decide) (fun c38 => ?_) (fun c38 => absurd c38 (by decide))
    refine lv_iload_n hx hb dX3_gain_48 rfl (lv_at hl 0 rfl) ?_
    exact nr_retS hx hb hr hlocks (by decide) rfl dX3_gain_49
  · refine lv_iconst (v := nI 0) hx hb dX3_gain_0 (by decide) ?_
    refine lv_istore_n (lv' := [(3, .int (nI 0)), (0, .int (nI 1)), (1, .int (nI 1)), (2, .int (nI 1))]) hx hb dX3_gain_1 rfl hl (by decide) rfl (fun ls hl => ?_)
    refine lv_iload_n hx hb dX3_gain_2 rfl (lv_at hl 2 rfl) ?_
    refine nr_if_eq (tgt := 9) hx hb (by decide) dX3_gain_3 (by decide) (fun c39 => absurd c39 (by decide)) (fun c39 => ?_)
    refine nr_inc (d := 6) (k := 0) (lv' := [(3, .int (nI 6)), (0, .int (nI 1)), (1, .int (nI 1)), (2, .int (nI 1))]) hx hb dX3_gain_6 hl rfl (by decide) (by decide) rfl (fun ls hl => ?_)
    refine lv_iload_n hx hb dX3_gain_9 rfl (lv_at hl 1 rfl) ?_
    refine nr_if_eq (tgt := 26) hx hb (by decide) dX3_gain_10 (by decide) (fun c40 => absurd c40 (by decide)) (fun c40 => ?_)
    refine lv_iload_n hx hb dX3_gain_13 rfl (lv_at hl 0 rfl) ?_
    refine lv_iload_n hx hb dX3_gain_14 rfl (lv_at hl 3 rfl) ?_
    refine nr_if_eq (tgt := 23) hx hb (by decide) dX3_gain_15 (by decide) (fun c41 => absurd c41 (by decide)) (fun c41 => ?_)
    refine lv_bipush (v := nI 11) hx hb dX3_gain_18 (by decide) ?_
    refine lv_goto (tgt := 24) hx hb dX3_gain_20 (by decide) ?_
    refine lv_isub hx hb dX3_gain_24 ?_
    rw [show (nI 6) - (nI 11) = (-5) from by decide]
    refine lv_istore_n (lv' := [(3, .int (-5)), (0, .int (nI 1)), (1, .int (nI 1)), (2, .int (nI 1))]) hx hb dX3_gain_25 rfl hl (by decide) rfl (fun ls hl => ?_)
    refine lv_iload_n hx hb dX3_gain_26 rfl (lv_at hl 1 rfl) ?_
    refine nr_if_eq (tgt := 37) hx hb (by decide) dX3_gain_27 (by decide) (fun c42 => absurd c42 (by decide)) (fun c42 => ?_)
    refine lv_iload_n hx hb dX3_gain_30 rfl (lv_at hl 2 rfl) ?_
    refine nr_if_eq (tgt := 37) hx hb (by decide) dX3_gain_31 (by decide) (fun c43 => absurd c43 (by decide)) (fun c43 => ?_)
    refine lv_iinc (v := (-2)) (k := 0) (lv' := [(3, .int (-2)), (0, .int (nI 1)), (1, .int (nI 1)), (2, .int (nI 1))]) hx hb dX3_gain_34 hl rfl (by decide) (by decide) rfl (fun ls hl => ?_)
    refine lv_iload_n hx hb dX3_gain_37 rfl (lv_at hl 1 rfl) ?_
    refine nr_if_ne (tgt := 48) hx hb (by decide) dX3_gain_38 (by decide) (fun c44 => ?_) (fun c44 => absurd c44 (by decide))
    refine lv_iload_n hx hb dX3_gain_48 rfl (lv_at hl 0 rfl) ?_
    exact nr_retS hx hb hr hlocks (by decide) rfl dX3_gain_49
theorem wl_X3_resting_1 : Cond.static yX11_holds ∈ wsX3_resting := List.mem_of_getElem? (i := 1) rfl
theorem wl_X3_resting_2 : Cond.initialized RX11 ∈ wsX3_resting := List.mem_of_getElem? (i := 2) rfl
set_option maxHeartbeats 4000000 in
set_option maxRecDepth 100000 in
theorem c_X3_resting (l : Launch) (Γ : Gam) (n : Nat) (G : Nat → va_E) (sa sb : Nat) (ha : sa < 2) (hb9 : sb < 2)  : Met l yX3_resting wsX3_resting ({ frames := 1, cells := 0, slots := 0, locals := 23 }) (va_Pc [.int (nI sa), .int (nI sb)] (fun U => hw Γ n G U U.heap)) (vp_Si (fun z => z = nI (restV sa sb))) 0 0 (fun _ => False) := by
  refine Met.ofW (cc := cX3_resting) (maxL := 6) (ret := (some .int)) (by decide) rfl ?_
  intro p e s m args below meth c s₁ B hml hv
  obtain ⟨rfl, hw⟩ := hv
  have hx := B.exec
  have hb := B.bytes
  have hr := B.returns
  have hts := atoms_spec (ws := wsX3_resting) B.pre
  have hown : s.vm.findClass RX3 = some m.cls := findClass_of_methodNamed B.named
  have hlocks := B.notSynchronized
  have hl := lv_entry ([.int (nI sa), .int (nI sb)]) (n := 6) (Nat.le_of_ble_eq_true rfl)
  rw [lg_entry_eq]
  generalize (lg_sl ([.int (nI sa), .int (nI sb)]) ++ List.replicate (6 - (lg_sl ([.int (nI sa), .int (nI sb)])).length) Slot.unset).toArray = ls at hl ⊢
  have hl : lv_has ls 6 [(0, .int (nI sa)), (1, .int (nI sb))] := hl
  refine lv_iconst (v := nI 0) hx hb dX3_resting_0 (by decide) ?_
  refine lv_istore_n (lv' := [(2, .int (nI 0)), (0, .int (nI sa)), (1, .int (nI sb))]) hx hb dX3_resting_1 rfl hl (by decide) rfl (fun ls hl => ?_)
  refine lv_iconst (v := nI 0) hx hb dX3_resting_2 (by decide) ?_
  refine lv_istore_n (lv' := [(3, .int (nI 0)), (2, .int (nI 0)), (0, .int (nI sa)), (1, .int (nI sb))]) hx hb dX3_resting_3 rfl hl (by decide) rfl (fun ls hl => ?_)
  refine nr_lp (σ := Nat × Nat) (pc := 4) (fun x lv => lv = [(0, .int (nI sa)), (1, .int (nI sb)), (2, .int (nI x.2)), (3, .int (nI x.1))] ∧ (x.1 ≤ 4) ∧ (x.2 = bitsOf (restP sa sb) x.1)) (fun x => 4 - x.1) (0, 0) (lv_sub hl [2, 3, 1, 0] rfl) ⟨rfl, by (try dsimp only); omega, rfl⟩ ?_
  intro x lv ls hl hI ih4
  obtain ⟨q, f⟩ := x
  obtain ⟨rfl, hq, hf⟩ := hI
  try dsimp only at hq hf hl ih4
  refine lv_iload_n hx hb dX3_resting_4 rfl (lv_at hl 3 rfl) ?_
  refine lv_iconst (v := nI 4) hx hb dX3_resting_5 (by decide) ?_
  refine nr_icmp_ge (tgt := 89) hx hb (by omega) (by decide) dX3_resting_6 (by decide) (fun c1 => ?_) (fun c1 => ?_)
  · refine lv_iload_n hx hb dX3_resting_89 rfl (lv_at hl 2 rfl) ?_
    exact nr_retS hx hb hr hlocks (by rw [hf, show q = 4 by omega]; rfl) rfl dX3_resting_90
  · refine lv_iload_n hx hb dX3_resting_9 rfl (lv_at hl 3 rfl) ?_
    refine lv_iconst (v := nI 0) hx hb dX3_resting_10 (by decide) ?_
    refine nr_goB (P := bt q 0) (nr_runN (As := [.int (nI q), .int (nI 0)]) ⟨hx, hb, hml, hown, hts⟩ hw (c_X11_holds l Γ n G q 0 (by omega) (by decide)) ⟨va_cnB 2 hts gX3_resting_X11_holds_n7 rfl rfl rfl (hw.2.2 _ (List.mem_of_getElem? (i := 8) rfl)) (hts _ wl_X3_resting_2) (by decide +kernel) ⟨Nat.le_of_ble_eq_true rfl, Nat.le_of_ble_eq_true rfl⟩, hts _ wl_X3_resting_1, trivial⟩ rfl hl.1 rfl (Nat.le_of_ble_eq_true rfl) dX3_resting_11 ⟨Nat.zero_le _, Nat.zero_le _⟩) (fun b2 => ?_) (fun b2 => ?_)
    · have e1 : q % 2 = 1 := by omega
      refine lv_istore (lv' := [(4, .int (nI 1)), (0, .int (nI sa)), (1, .int (nI sb)), (2, .int (nI f)), (3, .int (nI q))]) hx hb dX3_resting_14 hl (by decide) rfl (fun ls hl => ?_)
      refine lv_iload_n hx hb dX3_resting_16 rfl (lv_at hl 4 rfl) ?_
      refine lv_iconst (v := nI 1) hx hb dX3_resting_17 (by decide) ?_
      refine nr_goB (P := bt q 1) (nr_runN (As := [.int (nI q), .int (nI 1)]) ⟨hx, hb, hml, hown, hts⟩ hw (c_X11_holds l Γ n G q 1 (by omega) (by decide)) ⟨va_cnB 2 hts gX3_resting_X11_holds_n7 rfl rfl rfl (hw.2.2 _ (List.mem_of_getElem? (i := 8) rfl)) (hts _ wl_X3_resting_2) (by decide +kernel) ⟨Nat.le_of_ble_eq_true rfl, Nat.le_of_ble_eq_true rfl⟩, hts _ wl_X3_resting_1, trivial⟩ rfl hl.1 rfl (Nat.le_of_ble_eq_true rfl) dX3_resting_18 ⟨Nat.zero_le _, Nat.zero_le _⟩) (fun b3 => ?_) (fun b3 => ?_)
      · have e2 : q / 2 % 2 = 1 := by omega
        refine lv_istore (lv' := [(5, .int (nI 1)), (4, .int (nI 1)), (0, .int (nI sa)), (1, .int (nI sb)), (2, .int (nI f)), (3, .int (nI q))]) hx hb dX3_resting_21 hl (by decide) rfl (fun ls hl => ?_)
        refine lv_iload hx hb dX3_resting_23 (lv_at hl 1 rfl) ?_
        refine lv_iload hx hb dX3_resting_25 (lv_at hl 0 rfl) ?_
        refine lv_iload_n hx hb dX3_resting_27 rfl (lv_at hl 2 rfl) ?_
        refine nr_goS (nr_runS (As := [.int (nI 1), .int (nI 1), .int (nI sa)]) ⟨hx, hb, hml, hown, hts⟩ hw (c_X3_gain l Γ n G 1 1 sa (by omega) (by omega) (by omega)) (va_cwS 3 hts gX3_resting_X3_gain rfl rfl rfl (by decide +kernel) ⟨Nat.le_of_ble_eq_true rfl, Nat.le_of_ble_eq_true rfl⟩) rfl hl.1 rfl (Nat.le_of_ble_eq_true rfl) dX3_resting_28 ⟨Nat.zero_le _, Nat.zero_le _⟩) (fun r4 hr4 => ?_)
        obtain rfl : r4 = (gainV 1 1 sa) := hr4
        refine lv_iload hx hb dX3_resting_31 (lv_at hl 1 rfl) ?_
        refine nr_if_ne (tgt := 40) hx hb (by decide) dX3_resting_33 (by decide) (fun c5 => ?_) (fun c5 => absurd c5 (by decide))
        refine lv_iconst (v := nI 0) hx hb dX3_resting_40 (by decide) ?_
        refine lv_iload hx hb dX3_resting_41 (lv_at hl 0 rfl) ?_
        refine lv_iload_n hx hb dX3_resting_43 rfl (lv_at hl 2 rfl) ?_
        refine nr_goS (nr_runS (As := [.int (nI 0), .int (nI 1), .int (nI sa)]) ⟨hx, hb, hml, hown, hts⟩ hw (c_X3_gain l Γ n G 0 1 sa (by omega) (by omega) (by omega)) (va_cwS 3 hts gX3_resting_X3_gain rfl rfl rfl (by decide +kernel) ⟨Nat.le_of_ble_eq_true rfl, Nat.le_of_ble_eq_true rfl⟩) rfl hl.1 rfl (Nat.le_of_ble_eq_true rfl) dX3_resting_44 ⟨Nat.zero_le _, Nat.zero_le _⟩) (fun r6 hr6 => ?_)
        obtain rfl : r6 = (gainV 0 1 sa) := hr6
        refine lv_icmp_lt (tgt := 83) hx hb dX3_resting_47 (by decide) (fun c7 => ?_) (fun c7 => ?_)
        · refine nr_inc (d := 1) (k := 5) (lv' := [(3, .int (nI (q + 1))), (5, .int (nI 1)), (4, .int (nI 1)), (0, .int (nI sa)), (1, .int (nI sb)), (2, .int (nI f))]) hx hb dX3_resting_83 hl rfl (by decide) (by decide) rfl (fun ls hl => ?_)
          refine lv_goto (tgt := 4) hx hb dX3_resting_86 (by decide) ?_
          exact ih4 (q + 1, f) _ _ (lv_sub hl [3, 4, 5, 0] rfl) ⟨rfl, by (try dsimp only); omega, by (try dsimp only); rw [hf]; simp only [bitsOf]; rw [if_neg (show ¬ restP sa sb q from by unfold restP; rw [e1, e2]; exact fun hh => Int32.not_le.mpr c7 hh.1)]⟩ (by (try dsimp only); omega)
        · have hk1 := Int32.not_lt.mp c7
          refine lv_iload hx hb dX3_resting_50 (lv_at hl 0 rfl) ?_
          refine lv_iload hx hb dX3_resting_52 (lv_at hl 1 rfl) ?_
          refine lv_iload_n hx hb dX3_resting_54 rfl (lv_at hl 3 rfl) ?_
          refine nr_goS (nr_runS (As := [.int (nI 1), .int (nI 1), .int (nI sb)]) ⟨hx, hb, hml, hown, hts⟩ hw (c_X3_gain l Γ n G 1 1 sb (by omega) (by omega) (by omega)) (va_cwS 3 hts gX3_resting_X3_gain rfl rfl rfl (by decide +kernel) ⟨Nat.le_of_ble_eq_true rfl, Nat.le_of_ble_eq_true rfl⟩) rfl hl.1 rfl (Nat.le_of_ble_eq_true rfl) dX3_resting_55 ⟨Nat.zero_le _, Nat.zero_le _⟩) (fun r8 hr8 => ?_)
          obtain rfl : r8 = (gainV 1 1 sb) := hr8
          refine lv_iload hx hb dX3_resting_58 (lv_at hl 0 rfl) ?_
          refine nr_if_ne (tgt := 67) hx hb (by decide) dX3_resting_60 (by decide) (fun c9 => ?_) (fun c9 => absurd c9 (by decide))
          refine lv_iconst (v := nI 0) hx hb dX3_resting_67 (by decide) ?_
          refine lv_iload hx hb dX3_resting_68 (lv_at hl 1 rfl) ?_
          refine lv_iload_n hx hb dX3_resting_70 rfl (lv_at hl 3 rfl) ?_
          refine nr_goS (nr_runS (As := [.int (nI 0), .int (nI 1), .int (nI sb)]) ⟨hx, hb, hml, hown, hts⟩ hw (c_X3_gain l Γ n G 0 1 sb (by omega) (by omega) (by omega)) (va_cwS 3 hts gX3_resting_X3_gain rfl rfl rfl (by decide +kernel) ⟨Nat.le_of_ble_eq_true rfl, Nat.le_of_ble_eq_true rfl⟩) rfl hl.1 rfl (Nat.le_of_ble_eq_true rfl) dX3_resting_71 ⟨Nat.zero_le _, Nat.zero_le _⟩) (fun r10 hr10 => ?_)
          obtain rfl : r10 = (gainV 0 1 sb) := hr10
          refine lv_icmp_lt (tgt := 83) hx hb dX3_resting_74 (by decide) (fun c11 => ?_) (fun c11 => ?_)
          · refine nr_inc (d := 1) (k := 5) (lv' := [(3, .int (nI (q + 1))), (5, .int (nI 1)), (4, .int (nI 1)), (0, .int (nI sa)), (1, .int (nI sb)), (2, .int (nI f))]) hx hb dX3_resting_83 hl rfl (by decide) (by decide) rfl (fun ls hl => ?_)
            refine lv_goto (tgt := 4) hx hb dX3_resting_86 (by decide) ?_
            exact ih4 (q + 1, f) _ _ (lv_sub hl [3, 4, 5, 0] rfl) ⟨rfl, by (try dsimp only); omega, by (try dsimp only); rw [hf]; simp only [bitsOf]; rw [if_neg (show ¬ restP sa sb q from by unfold restP; rw [e1, e2]; exact fun hh => Int32.not_le.mpr c11 hh.2)]⟩ (by (try dsimp only); omega)
          · have hk2 := Int32.not_lt.mp c11
            refine lv_iload_n hx hb dX3_resting_77 rfl (lv_at hl 4 rfl) ?_
            refine lv_iconst (v := nI 1) hx hb dX3_resting_78 (by decide) ?_
            refine lv_iload_n hx hb dX3_resting_79 rfl (lv_at hl 5 rfl) ?_
            refine nr_ishl1 hx hb (by omega) dX3_resting_80 ?_
            refine nr_ior hx hb dX3_resting_81 ?_
            refine lv_istore_n (lv' := [(2, .int (nI (f ||| (2 ^ q)))), (5, .int (nI 1)), (4, .int (nI 1)), (0, .int (nI sa)), (1, .int (nI sb)), (3, .int (nI q))]) hx hb dX3_resting_82 rfl hl (by decide) rfl (fun ls hl => ?_)
            refine nr_inc (d := 1) (k := 5) (lv' := [(3, .int (nI (q + 1))), (2, .int (nI (f ||| (2 ^ q)))), (5, .int (nI 1)), (4, .int (nI 1)), (0, .int (nI sa)), (1, .int (nI sb))]) hx hb dX3_resting_83 hl rfl (by decide) (by decide) rfl (fun ls hl => ?_)
            refine lv_goto (tgt := 4) hx hb dX3_resting_86 (by decide) ?_
            exact ih4 (q + 1, f ||| (2 ^ q)) _ _ (lv_sub hl [4, 5, 1, 0] rfl) ⟨rfl, by (try dsimp only); omega, by (try dsimp only); rw [hf]; simp only [bitsOf]; rw [if_pos (show restP sa sb q from by unfold restP; rw [e1, e2]; exact ⟨hk1, hk2⟩)]⟩ (by (try dsimp only); omega)
      · have e2 : q / 2 % 2 = 0 := by omega
        refine lv_istore (lv' := [(5, .int (nI 0)), (4, .int (nI 1)), (0, .int (nI sa)), (1, .int (nI sb)), (2, .int (nI f)), (3, .int (nI q))]) hx hb dX3_resting_21 hl (by decide) rfl (fun ls hl => ?_)
        refine lv_iload hx hb dX3_resting_23 (lv_at hl 1 rfl) ?_
        refine lv_iload hx hb dX3_resting_25 (lv_at hl 0 rfl) ?_
        refine lv_iload_n hx hb dX3_resting_27 rfl (lv_at hl 2 rfl) ?_
        refine nr_goS (nr_runS (As := [.int (nI 1), .int (nI 0), .int (nI sa)]) ⟨hx, hb, hml, hown, hts⟩ hw (c_X3_gain l Γ n G 1 0 sa (by omega) (by omega) (by omega)) (va_cwS 3 hts gX3_resting_X3_gain rfl rfl rfl (by decide +kernel) ⟨Nat.le_of_ble_eq_true rfl, Nat.le_of_ble_eq_true rfl⟩) rfl hl.1 rfl (Nat.le_of_ble_eq_true rfl) dX3_resting_28 ⟨Nat.zero_le _, Nat.zero_le _⟩) (fun r12 hr12 => ?_)
        obtain rfl : r12 = (gainV 1 0 sa) := hr12
        refine lv_iload hx hb dX3_resting_31 (lv_at hl 1 rfl) ?_
        refine nr_if_ne (tgt := 40) hx hb (by decide) dX3_resting_33 (by decide) (fun c13 => ?_) (fun c13 => absurd c13 (by decide))
        refine lv_iconst (v := nI 0) hx hb dX3_resting_40 (by decide) ?_
        refine lv_iload hx hb dX3_resting_41 (lv_at hl 0 rfl) ?_
        refine lv_iload_n hx hb dX3_resting_43 rfl (lv_at hl 2 rfl) ?_
        refine nr_goS (nr_runS (As := [.int (nI 0), .int (nI 0), .int (nI sa)]) ⟨hx, hb, hml, hown, hts⟩ hw (c_X3_gain l Γ n G 0 0 sa (by omega) (by omega) (by omega)) (va_cwS 3 hts gX3_resting_X3_gain rfl rfl rfl (by decide +kernel) ⟨Nat.le_of_ble_eq_true rfl, Nat.le_of_ble_eq_true rfl⟩) rfl hl.1 rfl (Nat.le_of_ble_eq_true rfl) dX3_resting_44 ⟨Nat.zero_le _, Nat.zero_le _⟩) (fun r14 hr14 => ?_)
        obtain rfl : r14 = (gainV 0 0 sa) := hr14
        refine lv_icmp_lt (tgt := 83) hx hb dX3_resting_47 (by decide) (fun c15 => ?_) (fun c15 => ?_)
        · refine nr_inc (d := 1) (k := 5) (lv' := [(3, .int (nI (q + 1))), (5, .int (nI 0)), (4, .int (nI 1)), (0, .int (nI sa)), (1, .int (nI sb)), (2, .int (nI f))]) hx hb dX3_resting_83 hl rfl (by decide) (by decide) rfl (fun ls hl => ?_)
          refine lv_goto (tgt := 4) hx hb dX3_resting_86 (by decide) ?_
          exact ih4 (q + 1, f) _ _ (lv_sub hl [3, 4, 5, 0] rfl) ⟨rfl, by (try dsimp only); omega, by (try dsimp only); rw [hf]; simp only [bitsOf]; rw [if_neg (show ¬ restP sa sb q from by unfold restP; rw [e1, e2]; exact fun hh => Int32.not_le.mpr c15 hh.1)]⟩ (by (try dsimp only); omega)
        · have hk1 := Int32.not_lt.mp c15
          refine lv_iload hx hb dX3_resting_50 (lv_at hl 0 rfl) ?_
          refine lv_iload hx hb dX3_resting_52 (lv_at hl 1 rfl) ?_
          refine lv_iload_n hx hb dX3_resting_54 rfl (lv_at hl 3 rfl) ?_
          refine nr_goS (nr_runS (As := [.int (nI 0), .int (nI 1), .int (nI sb)]) ⟨hx, hb, hml, hown, hts⟩ hw (c_X3_gain l Γ n G 0 1 sb (by omega) (by omega) (by omega)) (va_cwS 3 hts gX3_resting_X3_gain rfl rfl rfl (by decide +kernel) ⟨Nat.le_of_ble_eq_true rfl, Nat.le_of_ble_eq_true rfl⟩) rfl hl.1 rfl (Nat.le_of_ble_eq_true rfl) dX3_resting_55 ⟨Nat.zero_le _, Nat.zero_le _⟩) (fun r16 hr16 => ?_)
          obtain rfl : r16 = (gainV 0 1 sb) := hr16
          refine lv_iload hx hb dX3_resting_58 (lv_at hl 0 rfl) ?_
          refine nr_if_ne (tgt := 67) hx hb (by decide) dX3_resting_60 (by decide) (fun c17 => absurd c17 (by decide)) (fun c17 => ?_)
          refine lv_iconst (v := nI 1) hx hb dX3_resting_63 (by decide) ?_
          refine lv_goto (tgt := 68) hx hb dX3_resting_64 (by decide) ?_
          refine lv_iload hx hb dX3_resting_68 (lv_at hl 1 rfl) ?_
          refine lv_iload_n hx hb dX3_resting_70 rfl (lv_at hl 3 rfl) ?_
          refine nr_goS (nr_runS (As := [.int (nI 1), .int (nI 1), .int (nI sb)]) ⟨hx, hb, hml, hown, hts⟩ hw (c_X3_gain l Γ n G 1 1 sb (by omega) (by omega) (by omega)) (va_cwS 3 hts gX3_resting_X3_gain rfl rfl rfl (by decide +kernel) ⟨Nat.le_of_ble_eq_true rfl, Nat.le_of_ble_eq_true rfl⟩) rfl hl.1 rfl (Nat.le_of_ble_eq_true rfl) dX3_resting_71 ⟨Nat.zero_le _, Nat.zero_le _⟩) (fun r18 hr18 => ?_)
          obtain rfl : r18 = (gainV 1 1 sb) := hr18
          refine lv_icmp_lt (tgt := 83) hx hb dX3_resting_74 (by decide) (fun c19 => ?_) (fun c19 => ?_)
          · refine nr_inc (d := 1) (k := 5) (lv' := [(3, .int (nI (q + 1))), (5, .int (nI 0)), (4, .int (nI 1)), (0, .int (nI sa)), (1, .int (nI sb)), (2, .int (nI f))]) hx hb dX3_resting_83 hl rfl (by decide) (by decide) rfl (fun ls hl => ?_)
            refine lv_goto (tgt := 4) hx hb dX3_resting_86 (by decide) ?_
            exact ih4 (q + 1, f) _ _ (lv_sub hl [3, 4, 5, 0] rfl) ⟨rfl, by (try dsimp only); omega, by (try dsimp only); rw [hf]; simp only [bitsOf]; rw [if_neg (show ¬ restP sa sb q from by unfold restP; rw [e1, e2]; exact fun hh => Int32.not_le.mpr c19 hh.2)]⟩ (by (try dsimp only); omega)
          · have hk2 := Int32.not_lt.mp c19
            refine lv_iload_n hx hb dX3_resting_77 rfl (lv_at hl 4 rfl) ?_
            refine lv_iconst (v := nI 1) hx hb dX3_resting_78 (by decide) ?_
            refine lv_iload_n hx hb dX3_resting_79 rfl (lv_at hl 5 rfl) ?_
            refine nr_ishl1 hx hb (by omega) dX3_resting_80 ?_
            refine nr_ior hx hb dX3_resting_81 ?_
            refine lv_istore_n (lv' := [(2, .int (nI (f ||| (2 ^ q)))), (5, .int (nI 0)), (4, .int (nI 1)), (0, .int (nI sa)), (1, .int (nI sb)), (3, .int (nI q))]) hx hb dX3_resting_82 rfl hl (by decide) rfl (fun ls hl => ?_)
            refine nr_inc (d := 1) (k := 5) (lv' := [(3, .int (nI (q + 1))), (2, .int (nI (f ||| (2 ^ q)))), (5, .int (nI 0)), (4, .int (nI 1)), (0, .int (nI sa)), (1, .int (nI sb))]) hx hb dX3_resting_83 hl rfl (by decide) (by decide) rfl (fun ls hl => ?_)
            refine lv_goto (tgt := 4) hx hb dX3_resting_86 (by decide) ?_
            exact ih4 (q + 1, f ||| (2 ^ q)) _ _ (lv_sub hl [4, 5, 1, 0] rfl) ⟨rfl, by (try dsimp only); omega, by (try dsimp only); rw [hf]; simp only [bitsOf]; rw [if_pos (show restP sa sb q from by unfold restP; rw [e1, e2]; exact ⟨hk1, hk2⟩)]⟩ (by (try dsimp only); omega)
    · have e1 : q % 2 = 0 := by omega
      refine lv_istore (lv' := [(4, .int (nI 0)), (0, .int (nI sa)), (1, .int (nI sb)), (2, .int (nI f)), (3, .int (nI q))]) hx hb dX3_resting_14 hl (by decide) rfl (fun ls hl => ?_)
      refine lv_iload_n hx hb dX3_resting_16 rfl (lv_at hl 4 rfl) ?_
      refine lv_iconst (v := nI 1) hx hb dX3_resting_17 (by decide) ?_
      refine nr_goB (P := bt q 1) (nr_runN (As := [.int (nI q), .int (nI 1)]) ⟨hx, hb, hml, hown, hts⟩ hw (c_X11_holds l Γ n G q 1 (by omega) (by decide)) ⟨va_cnB 2 hts gX3_resting_X11_holds_n7 rfl rfl rfl (hw.2.2 _ (List.mem_of_getElem? (i := 8) rfl)) (hts _ wl_X3_resting_2) (by decide +kernel) ⟨Nat.le_of_ble_eq_true rfl, Nat.le_of_ble_eq_true rfl⟩, hts _ wl_X3_resting_1, trivial⟩ rfl hl.1 rfl (Nat.le_of_ble_eq_true rfl) dX3_resting_18 ⟨Nat.zero_le _, Nat.zero_le _⟩) (fun b20 => ?_) (fun b20 => ?_)
      · have e2 : q / 2 % 2 = 1 := by omega
        refine lv_istore (lv' := [(5, .int (nI 1)), (4, .int (nI 0)), (0, .int (nI sa)), (1, .int (nI sb)), (2, .int (nI f)), (3, .int (nI q))]) hx hb dX3_resting_21 hl (by decide) rfl (fun ls hl => ?_)
        refine lv_iload hx hb dX3_resting_23 (lv_at hl 1 rfl) ?_
        refine lv_iload hx hb dX3_resting_25 (lv_at hl 0 rfl) ?_
        refine lv_iload_n hx hb dX3_resting_27 rfl (lv_at hl 2 rfl) ?_
        refine nr_goS (nr_runS (As := [.int (nI 0), .int (nI 1), .int (nI sa)]) ⟨hx, hb, hml, hown, hts⟩ hw (c_X3_gain l Γ n G 0 1 sa (by omega) (by omega) (by omega)) (va_cwS 3 hts gX3_resting_X3_gain rfl rfl rfl (by decide +kernel) ⟨Nat.le_of_ble_eq_true rfl, Nat.le_of_ble_eq_true rfl⟩) rfl hl.1 rfl (Nat.le_of_ble_eq_true rfl) dX3_resting_28 ⟨Nat.zero_le _, Nat.zero_le _⟩) (fun r21 hr21 => ?_)
        obtain rfl : r21 = (gainV 0 1 sa) := hr21
        refine lv_iload hx hb dX3_resting_31 (lv_at hl 1 rfl) ?_
        refine nr_if_ne (tgt := 40) hx hb (by decide) dX3_resting_33 (by decide) (fun c22 => absurd c22 (by decide)) (fun c22 => ?_)
        refine lv_iconst (v := nI 1) hx hb dX3_resting_36 (by decide) ?_
        refine lv_goto (tgt := 41) hx hb dX3_resting_37 (by decide) ?_
        refine lv_iload hx hb dX3_resting_41 (lv_at hl 0 rfl) ?_
        refine lv_iload_n hx hb dX3_resting_43 rfl (lv_at hl 2 rfl) ?_
        refine nr_goS (nr_runS (As := [.int (nI 1), .int (nI 1), .int (nI sa)]) ⟨hx, hb, hml, hown, hts⟩ hw (c_X3_gain l Γ n G 1 1 sa (by omega) (by omega) (by omega)) (va_cwS 3 hts gX3_resting_X3_gain rfl rfl rfl (by decide +kernel) ⟨Nat.le_of_ble_eq_true rfl, Nat.le_of_ble_eq_true rfl⟩) rfl hl.1 rfl (Nat.le_of_ble_eq_true rfl) dX3_resting_44 ⟨Nat.zero_le _, Nat.zero_le _⟩) (fun r23 hr23 => ?_)
        obtain rfl : r23 = (gainV 1 1 sa) := hr23
        refine lv_icmp_lt (tgt := 83) hx hb dX3_resting_47 (by decide) (fun c24 => ?_) (fun c24 => ?_)
        · refine nr_inc (d := 1) (k := 5) (lv' := [(3, .int (nI (q + 1))), (5, .int (nI 1)), (4, .int (nI 0)), (0, .int (nI sa)), (1, .int (nI sb)), (2, .int (nI f))]) hx hb dX3_resting_83 hl rfl (by decide) (by decide) rfl (fun ls hl => ?_)
          refine lv_goto (tgt := 4) hx hb dX3_resting_86 (by decide) ?_
          exact ih4 (q + 1, f) _ _ (lv_sub hl [3, 4, 5, 0] rfl) ⟨rfl, by (try dsimp only); omega, by (try dsimp only); rw [hf]; simp only [bitsOf]; rw [if_neg (show ¬ restP sa sb q from by unfold restP; rw [e1, e2]; exact fun hh => Int32.not_le.mpr c24 hh.1)]⟩ (by (try dsimp only); omega)
        · have hk1 := Int32.not_lt.mp c24
          refine lv_iload hx hb dX3_resting_50 (lv_at hl 0 rfl) ?_
          refine lv_iload hx hb dX3_resting_52 (lv_at hl 1 rfl) ?_
          refine lv_iload_n hx hb dX3_resting_54 rfl (lv_at hl 3 rfl) ?_
          refine nr_goS (nr_runS (As := [.int (nI 1), .int (nI 0), .int (nI sb)]) ⟨hx, hb, hml, hown, hts⟩ hw (c_X3_gain l Γ n G 1 0 sb (by omega) (by omega) (by omega)) (va_cwS 3 hts gX3_resting_X3_gain rfl rfl rfl (by decide +kernel) ⟨Nat.le_of_ble_eq_true rfl, Nat.le_of_ble_eq_true rfl⟩) rfl hl.1 rfl (Nat.le_of_ble_eq_true rfl) dX3_resting_55 ⟨Nat.zero_le _, Nat.zero_le _⟩) (fun r25 hr25 => ?_)
          obtain rfl : r25 = (gainV 1 0 sb) := hr25
          refine lv_iload hx hb dX3_resting_58 (lv_at hl 0 rfl) ?_
          refine nr_if_ne (tgt := 67) hx hb (by decide) dX3_resting_60 (by decide) (fun c26 => ?_) (fun c26 => absurd c26 (by decide))
          refine lv_iconst (v := nI 0) hx hb dX3_resting_67 (by decide) ?_
          refine lv_iload hx hb dX3_resting_68 (lv_at hl 1 rfl) ?_
          refine lv_iload_n hx hb dX3_resting_70 rfl (lv_at hl 3 rfl) ?_
          refine nr_goS (nr_runS (As := [.int (nI 0), .int (nI 0), .int (nI sb)]) ⟨hx, hb, hml, hown, hts⟩ hw (c_X3_gain l Γ n G 0 0 sb (by omega) (by omega) (by omega)) (va_cwS 3 hts gX3_resting_X3_gain rfl rfl rfl (by decide +kernel) ⟨Nat.le_of_ble_eq_true rfl, Nat.le_of_ble_eq_true rfl⟩) rfl hl.1 rfl (Nat.le_of_ble_eq_true rfl) dX3_resting_71 ⟨Nat.zero_le _, Nat.zero_le _⟩) (fun r27 hr27 => ?_)
          obtain rfl : r27 = (gainV 0 0 sb) := hr27
          refine lv_icmp_lt (tgt := 83) hx hb dX3_resting_74 (by decide) (fun c28 => ?_) (fun c28 => ?_)
          · refine nr_inc (d := 1) (k := 5) (lv' := [(3, .int (nI (q + 1))), (5, .int (nI 1)), (4, .int (nI 0)), (0, .int (nI sa)), (1, .int (nI sb)), (2, .int (nI f))]) hx hb dX3_resting_83 hl rfl (by decide) (by decide) rfl (fun ls hl => ?_)
            refine lv_goto (tgt := 4) hx hb dX3_resting_86 (by decide) ?_
            exact ih4 (q + 1, f) _ _ (lv_sub hl [3, 4, 5, 0] rfl) ⟨rfl, by (try dsimp only); omega, by (try dsimp only); rw [hf]; simp only [bitsOf]; rw [if_neg (show ¬ restP sa sb q from by unfold restP; rw [e1, e2]; exact fun hh => Int32.not_le.mpr c28 hh.2)]⟩ (by (try dsimp only); omega)
          · have hk2 := Int32.not_lt.mp c28
            refine lv_iload_n hx hb dX3_resting_77 rfl (lv_at hl 4 rfl) ?_
            refine lv_iconst (v := nI 1) hx hb dX3_resting_78 (by decide) ?_
            refine lv_iload_n hx hb dX3_resting_79 rfl (lv_at hl 5 rfl) ?_
            refine nr_ishl1 hx hb (by omega) dX3_resting_80 ?_
            refine nr_ior hx hb dX3_resting_81 ?_
            refine lv_istore_n (lv' := [(2, .int (nI (f ||| (2 ^ q)))), (5, .int (nI 1)), (4, .int (nI 0)), (0, .int (nI sa)), (1, .int (nI sb)), (3, .int (nI q))]) hx hb dX3_resting_82 rfl hl (by decide) rfl (fun ls hl => ?_)
            refine nr_inc (d := 1) (k := 5) (lv' := [(3, .int (nI (q + 1))), (2, .int (nI (f ||| (2 ^ q)))), (5, .int (nI 1)), (4, .int (nI 0)), (0, .int (nI sa)), (1, .int (nI sb))]) hx hb dX3_resting_83 hl rfl (by decide) (by decide) rfl (fun ls hl => ?_)
            refine lv_goto (tgt := 4) hx hb dX3_resting_86 (by decide) ?_
            exact ih4 (q + 1, f ||| (2 ^ q)) _ _ (lv_sub hl [4, 5, 1, 0] rfl) ⟨rfl, by (try dsimp only); omega, by (try dsimp only); rw [hf]; simp only [bitsOf]; rw [if_pos (show restP sa sb q from by unfold restP; rw [e1, e2]; exact ⟨hk1, hk2⟩)]⟩ (by (try dsimp only); omega)
      · have e2 : q / 2 % 2 = 0 := by omega
        refine lv_istore (lv' := [(5, .int (nI 0)), (4, .int (nI 0)), (0, .int (nI sa)), (1, .int (nI sb)), (2, .int (nI f)), (3, .int (nI q))]) hx hb dX3_resting_21 hl (by decide) rfl (fun ls hl => ?_)
        refine lv_iload hx hb dX3_resting_23 (lv_at hl 1 rfl) ?_
        refine lv_iload hx hb dX3_resting_25 (lv_at hl 0 rfl) ?_
        refine lv_iload_n hx hb dX3_resting_27 rfl (lv_at hl 2 rfl) ?_
        refine nr_goS (nr_runS (As := [.int (nI 0), .int (nI 0), .int (nI sa)]) ⟨hx, hb, hml, hown, hts⟩ hw (c_X3_gain l Γ n G 0 0 sa (by omega) (by omega) (by omega)) (va_cwS 3 hts gX3_resting_X3_gain rfl rfl rfl (by decide +kernel) ⟨Nat.le_of_ble_eq_true rfl, Nat.le_of_ble_eq_true rfl⟩) rfl hl.1 rfl (Nat.le_of_ble_eq_true rfl) dX3_resting_28 ⟨Nat.zero_le _, Nat.zero_le _⟩) (fun r29 hr29 => ?_)
        obtain rfl : r29 = (gainV 0 0 sa) := hr29
        refine lv_iload hx hb dX3_resting_31 (lv_at hl 1 rfl) ?_
        refine nr_if_ne (tgt := 40) hx hb (by decide) dX3_resting_33 (by decide) (fun c30 => absurd c30 (by decide)) (fun c30 => ?_)
        refine lv_iconst (v := nI 1) hx hb dX3_resting_36 (by decide) ?_
        refine lv_goto (tgt := 41) hx hb dX3_resting_37 (by decide) ?_
        refine lv_iload hx hb dX3_resting_41 (lv_at hl 0 rfl) ?_
        refine lv_iload_n hx hb dX3_resting_43 rfl (lv_at hl 2 rfl) ?_
        refine nr_goS (nr_runS (As := [.int (nI 1), .int (nI 0), .int (nI sa)]) ⟨hx, hb, hml, hown, hts⟩ hw (c_X3_gain l Γ n G 1 0 sa (by omega) (by omega) (by omega)) (va_cwS 3 hts gX3_resting_X3_gain rfl rfl rfl (by decide +kernel) ⟨Nat.le_of_ble_eq_true rfl, Nat.le_of_ble_eq_true rfl⟩) rfl hl.1 rfl (Nat.le_of_ble_eq_true rfl) dX3_resting_44 ⟨Nat.zero_le _, Nat.zero_le _⟩) (fun r31 hr31 => ?_)
        obtain rfl : r31 = (gainV 1 0 sa) := hr31
        refine lv_icmp_lt (tgt := 83) hx hb dX3_resting_47 (by decide) (fun c32 => ?_) (fun c32 => ?_)
        · refine nr_inc (d := 1) (k := 5) (lv' := [(3, .int (nI (q + 1))), (5, .int (nI 0)), (4, .int (nI 0)), (0, .int (nI sa)), (1, .int (nI sb)), (2, .int (nI f))]) hx hb dX3_resting_83 hl rfl (by decide) (by decide) rfl (fun ls hl => ?_)
          refine lv_goto (tgt := 4) hx hb dX3_resting_86 (by decide) ?_
          exact ih4 (q + 1, f) _ _ (lv_sub hl [3, 4, 5, 0] rfl) ⟨rfl, by (try dsimp only); omega, by (try dsimp only); rw [hf]; simp only [bitsOf]; rw [if_neg (show ¬ restP sa sb q from by unfold restP; rw [e1, e2]; exact fun hh => Int32.not_le.mpr c32 hh.1)]⟩ (by (try dsimp only); omega)
        · have hk1 := Int32.not_lt.mp c32
          refine lv_iload hx hb dX3_resting_50 (lv_at hl 0 rfl) ?_
          refine lv_iload hx hb dX3_resting_52 (lv_at hl 1 rfl) ?_
          refine lv_iload_n hx hb dX3_resting_54 rfl (lv_at hl 3 rfl) ?_
          refine nr_goS (nr_runS (As := [.int (nI 0), .int (nI 0), .int (nI sb)]) ⟨hx, hb, hml, hown, hts⟩ hw (c_X3_gain l Γ n G 0 0 sb (by omega) (by omega) (by omega)) (va_cwS 3 hts gX3_resting_X3_gain rfl rfl rfl (by decide +kernel) ⟨Nat.le_of_ble_eq_true rfl, Nat.le_of_ble_eq_true rfl⟩) rfl hl.1 rfl (Nat.le_of_ble_eq_true rfl) dX3_resting_55 ⟨Nat.zero_le _, Nat.zero_le _⟩) (fun r33 hr33 => ?_)
          obtain rfl : r33 = (gainV 0 0 sb) := hr33
          refine lv_iload hx hb dX3_resting_58 (lv_at hl 0 rfl) ?_
          refine nr_if_ne (tgt := 67) hx hb (by decide) dX3_resting_60 (by decide) (fun c34 => absurd c34 (by decide)) (fun c34 => ?_)
          refine lv_iconst (v := nI 1) hx hb dX3_resting_63 (by decide) ?_
          refine lv_goto (tgt := 68) hx hb dX3_resting_64 (by decide) ?_
          refine lv_iload hx hb dX3_resting_68 (lv_at hl 1 rfl) ?_
          refine lv_iload_n hx hb dX3_resting_70 rfl (lv_at hl 3 rfl) ?_
          refine nr_goS (nr_runS (As := [.int (nI 1), .int (nI 0), .int (nI sb)]) ⟨hx, hb, hml, hown, hts⟩ hw (c_X3_gain l Γ n G 1 0 sb (by omega) (by omega) (by omega)) (va_cwS 3 hts gX3_resting_X3_gain rfl rfl rfl (by decide +kernel) ⟨Nat.le_of_ble_eq_true rfl, Nat.le_of_ble_eq_true rfl⟩) rfl hl.1 rfl (Nat.le_of_ble_eq_true rfl) dX3_resting_71 ⟨Nat.zero_le _, Nat.zero_le _⟩) (fun r35 hr35 => ?_)
          obtain rfl : r35 = (gainV 1 0 sb) := hr35
          refine lv_icmp_lt (tgt := 83) hx hb dX3_resting_74 (by decide) (fun c36 => ?_) (fun c36 => ?_)
          · refine nr_inc (d := 1) (k := 5) (lv' := [(3, .int (nI (q + 1))), (5, .int (nI 0)), (4, .int (nI 0)), (0, .int (nI sa)), (1, .int (nI sb)), (2, .int (nI f))]) hx hb dX3_resting_83 hl rfl (by decide) (by decide) rfl (fun ls hl => ?_)
            refine lv_goto (tgt := 4) hx hb dX3_resting_86 (by decide) ?_
            exact ih4 (q + 1, f) _ _ (lv_sub hl [3, 4, 5, 0] rfl) ⟨rfl, by (try dsimp only); omega, by (try dsimp only); rw [hf]; simp only [bitsOf]; rw [if_neg (show ¬ restP sa sb q from by unfold restP; rw [e1, e2]; exact fun hh => Int32.not_le.mpr c36 hh.2)]⟩ (by (try dsimp only); omega)
          · have hk2 := Int32.not_lt.mp c36
            refine lv_iload_n hx hb dX3_resting_77 rfl (lv_at hl 4 rfl) ?_
            refine lv_iconst (v := nI 1) hx hb dX3_resting_78 (by decide) ?_
            refine lv_iload_n hx hb dX3_resting_79 rfl (lv_at hl 5 rfl) ?_
            refine nr_ishl1 hx hb (by omega) dX3_resting_80 ?_
            refine nr_ior hx hb dX3_resting_81 ?_
            refine lv_istore_n (lv' := [(2, .int (nI (f ||| (2 ^ q)))), (5, .int (nI 0)), (4, .int (nI 0)), (0, .int (nI sa)), (1, .int (nI sb)), (3, .int (nI q))]) hx hb dX3_resting_82 rfl hl (by decide) rfl (fun ls hl => ?_)
            refine nr_inc (d := 1) (k := 5) (lv' := [(3, .int (nI (q + 1))), (2, .int (nI (f ||| (2 ^ q)))), (5, .int (nI 0)), (4, .int (nI 0)), (0, .int (nI sa)), (1, .int (nI sb))]) hx hb dX3_resting_83 hl rfl (by decide) (by decide) rfl (fun ls hl => ?_)
            refine lv_goto (tgt := 4) hx hb dX3_resting_86 (by decide) ?_
            exact ih4 (q + 1, f ||| (2 ^ q)) _ _ (lv_sub hl [4, 5, 1, 0] rfl) ⟨rfl, by (try dsimp only); omega, by (try dsimp only); rw [hf]; simp only [bitsOf]; rw [if_pos (show restP sa sb q from by unfold restP; rw [e1, e2]; exact ⟨hk1, hk2⟩)]⟩ (by (try dsimp only); omega)
set_option maxHeartbeats 4000000 in
set_option maxRecDepth 100000 in
theorem c_X11_highest (l : Launch) (Γ : Gam) (n : Nat) (G : Nat → va_E) (q : Nat) (hq : q < 2147483648)  : Met l yX11_highest wsX11_highest ({ frames := 1, cells := 0, slots := 0, locals := 21 }) (va_Pc [.int (nI q)] (fun U => hw Γ n G U U.heap)) (vp_Si (fun z => (∃ k, k < 31 ∧ bt q k ∧ (∀ j, k < j → j < 31 → ¬ bt q j) ∧ z = nI k) ∨ ((∀ j, j < 31 → ¬ bt q j) ∧ z = -1))) 0 0 (fun _ => False) := by
  refine Met.ofW (cc := cX11_highest) (maxL := 2) (ret := (some .int)) (by decide) rfl ?_
  intro p e s m args below meth c s₁ B hml hv
  obtain ⟨rfl, hw⟩ := hv
  have hx := B.exec
  have hb := B.bytes
  have hr := B.returns
  have hts := atoms_spec (ws := wsX11_highest) B.pre
  have hown : s.vm.findClass RX11 = some m.cls := findClass_of_methodNamed B.named
  have hlocks := B.notSynchronized
  have hl := lv_entry ([.int (nI q)]) (n := 2) (Nat.le_of_ble_eq_true rfl)
  rw [lg_entry_eq]
  generalize (lg_sl ([.int (nI q)]) ++ List.replicate (2 - (lg_sl ([.int (nI q)])).length) Slot.unset).toArray = ls at hl ⊢
  have hl : lv_has ls 2 [(0, .int (nI q))] := hl
  refine lv_bipush (v := nI 30) hx hb dX11_highest_0 (by decide) ?_
  refine lv_istore_n (lv' := [(1, .int (nI 30)), (0, .int (nI q))]) hx hb dX11_highest_2 rfl hl (by decide) rfl (fun ls hl => ?_)
  rw [show nI 30 = nI 31 - nI 1 from by decide] at hl
  refine nr_lp (σ := Nat) (pc := 3) (fun x lv => lv = [(0, .int (nI q)), (1, .int (nI x - nI 1))] ∧ (x ≤ 31) ∧ (∀ j, x ≤ j → j < 31 → ¬ bt q j)) (fun x => x) 31 (lv_sub hl [1, 0] rfl) ⟨rfl, by (try dsimp only); omega, by (try dsimp only); exact (fun j h1 h2 => by omega)⟩ ?_
  intro c0 lv ls hl hI ih3
  obtain ⟨rfl, hk, hn⟩ := hI
  try dsimp only at hk hn hl ih3
  refine lv_iload_n hx hb dX11_highest_3 rfl (lv_at hl 1 rfl) ?_
  refine lv_if_lt (tgt := 23) hx hb dX11_highest_4 (by decide) (fun c1 => ?_) (fun c1 => ?_)
  · refine lv_iconst (v := (-1)) hx hb dX11_highest_23 (by decide) ?_
    exact nr_retS hx hb hr hlocks (by have h9 := (nr_m1n (c := c0) (by omega)).mp (by assumption); exact Or.inr ⟨fun j hj => hn j (by omega) hj, rfl⟩) rfl dX11_highest_24
  · obtain ⟨w, rfl⟩ : ∃ w, c0 = w + 1 := ⟨c0 - 1, (Nat.sub_add_cancel (Nat.pos_of_ne_zero (fun q => absurd ((nr_m1n (by omega)).mpr q) (by assumption)))).symm⟩
    rw [show nI (w + 1) - nI 1 = nI w from (by rw [pk_sub (by omega)]; rfl)] at hl
    refine lv_iload_n hx hb dX11_highest_7 rfl (lv_at hl 0 rfl) ?_
    refine lv_iload_n hx hb dX11_highest_8 rfl (lv_at hl 1 rfl) ?_
    refine nr_goB (P := bt q w) (nr_runS (As := [.int (nI q), .int (nI w)]) ⟨hx, hb, hml, hown, hts⟩ hw (c_X11_holds l Γ n G q w (by omega) (by omega)) (va_cwS 2 hts gX11_highest_X11_holds rfl rfl rfl (by decide +kernel) ⟨Nat.le_of_ble_eq_true rfl, Nat.le_of_ble_eq_true rfl⟩) rfl hl.1 rfl (Nat.le_of_ble_eq_true rfl) dX11_highest_9 ⟨Nat.zero_le _, Nat.zero_le _⟩) (fun b2 => ?_) (fun b2 => ?_)
    · refine nr_if_eq (tgt := 17) hx hb (by decide) dX11_highest_12 (by decide) (fun c3 => absurd c3 (by decide)) (fun c3 => ?_)
      refine lv_iload_n hx hb dX11_highest_15 rfl (lv_at hl 1 rfl) ?_
      exact nr_retS hx hb hr hlocks (Or.inl ⟨w, by omega, by assumption, fun j h1 h2 => hn j (by omega) h2, rfl⟩) rfl dX11_highest_16
    · refine nr_if_eq (tgt := 17) hx hb (by decide) dX11_highest_12 (by decide) (fun c4 => ?_) (fun c4 => absurd c4 (by decide))
      refine lv_iinc (v := nI w - nI 1) (k := 1) (lv' := [(1, .int (nI w - nI 1)), (0, .int (nI q))]) hx hb dX11_highest_17 hl rfl (nr_m1 _) (by decide) rfl (fun ls hl => ?_)
      refine lv_goto (tgt := 3) hx hb dX11_highest_20 (by decide) ?_
      exact ih3 w _ _ (lv_sub hl [1, 0] rfl) ⟨rfl, by (try dsimp only); omega, by (try dsimp only); exact (fun j h1 h2 => by
          rcases Nat.lt_or_eq_of_le h1 with z | z
          · exact hn j (by omega) h2
          · rw [← z]; assumption)⟩ (by (try dsimp only); omega)
theorem wl_X6_size_1 : Cond.fieldLink RX6 15 "BellForgiven$Valley" "letOff" "I" ∈ wsX6_size := List.mem_of_getElem? (i := 1) rfl
theorem wl_X6_size_2 : Cond.fieldLink RX6 9 "BellForgiven$Row" "left" "[I" ∈ wsX6_size := List.mem_of_getElem? (i := 2) rfl
theorem wl_X6_size_3 : Cond.static yX11_holds ∈ wsX6_size := List.mem_of_getElem? (i := 3) rfl
theorem wl_X6_size_4 : Cond.initialized RX11 ∈ wsX6_size := List.mem_of_getElem? (i := 4) rfl
theorem hi_X6_size_X10 : ∀ w ∈ u_ws RX10 TX10 15, w ∈ wsX6_size := fun w h => (List.mem_cons_of_mem _ (List.mem_append_left _ (List.mem_append_right _ h)))
theorem hi_X6_size_X6 : ∀ w ∈ u_ws RX6 TX6 1, w ∈ wsX6_size := fun w h => (List.mem_cons_of_mem _ (List.mem_append_right _ h))
set_option maxHeartbeats 4000000 in
set_option maxRecDepth 100000 in
theorem c_X6_size (l : Launch) (Γ : Gam) (n : Nat) (G : Nat → va_E) (rw0 b : Nat) (lf V : Nat → Nat) (hRw : isRw Γ G rw0 lf) (hV : isV Γ G b V) (hn_rw0 : rw0 + 2 ≤ n) (hn_b : b + 16 ≤ n) (hj : winj Γ n) (k : Nat) (hI : vI V) (hk : k < 8) (hL : ∀ j, lf j ≤ 100) (hdis : b + 16 ≤ rw0 ∨ rw0 + 2 ≤ b)  : Met l yX6_size wsX6_size ({ frames := 5, cells := 0, slots := 0, locals := 119 }) (va_Pc [.ref (ad Γ (rw0 + 0)), .ref (ad Γ (b + 0)), .int (nI k)] (fun U => hw Γ n G U U.heap)) (wQi Γ n (fun z G2 => ∃ lf2 : Nat → Nat, (∀ j, lf2 j ≤ 100) ∧ (¬ bt (V 20) k → sizR V lf2 k 0) ∧ z = nI (fewZ V lf2 k) ∧ isRw Γ G2 rw0 lf2 ∧ fr G G2 (rw0 + 0) (rw0 + 2))) 0 0 (wA Γ n) := by
  refine Met.ofW (cc := cX6_size) (maxL := 4) (ret := (some .int)) (by decide) rfl ?_
  intro p e s m args below meth c s₁ B hml hv
  obtain ⟨rfl, hw⟩ := hv
  have hx := B.exec
  have hb := B.bytes
  have hr := B.returns
  have hts := atoms_spec (ws := wsX6_size) B.pre
  have hown : s.vm.findClass RX6 = some m.cls := findClass_of_methodNamed B.named
  have hlocks := B.notSynchronized
  have hS : va_S (wA Γ n) s.heap s.heap [] := va_S.rf
  have hA : ∀ q, wA Γ n q → wA Γ n q := fun _ h => h
  have hl := lv_entry ([.ref (ad Γ (rw0 + 0)), .ref (ad Γ (b + 0)), .int (nI k)]) (n := 4) (Nat.le_of_ble_eq_true rfl)
  rw [lg_entry_eq]
  generalize (lg_sl ([.ref (ad Γ (rw0 + 0)), .ref (ad Γ (b + 0)), .int (nI k)]) ++ List.replicate (4 - (lg_sl ([.ref (ad Γ (rw0 + 0)), .ref (ad Γ (b + 0)), .int (nI k)])).length) Slot.unset).toArray = ls at hl ⊢
  have hl : lv_has ls 4 [(0, .ref (ad Γ (rw0 + 0))), (1, .ref (ad Γ (b + 0))), (2, .int (nI k))] := hl
  have hfr := fr_rf G (rw0 + 0) (rw0 + 2)
  have hB := hI.1
  have hB0 := hI.2.1
  have hB1 := hI.2.2.1
  have hB20 := hI.2.2.2.2.2.2.2.2.2
  have hBz2 := hI.2.2.2.1
  have hBz3 := hI.2.2.2.2.1
  have hBz4 := hI.2.2.2.2.2.1
  have hBz5 := hI.2.2.2.2.2.2.1
  have hBd := hB 21
  have h2p := p2_le hB1
  have h2q := Nat.one_le_two_pow (n := V 1)
  refine lv_aload_n hx hb dX6_size_0 rfl (lv_at hl 1 rfl) ?_
  refine nr_get (own := RX6) (C := RX10) (T := TX10) (N := 15) (v := .int (nI (V 20))) hx hb hts hi_X6_size_X10 hown hw (by omega) (isV_0 hV) rfl 9 (by decide) wl_X6_size_1 rfl rfl dX6_size_1 ?_
  refine lv_iload_n hx hb dX6_size_4 rfl (lv_at hl 2 rfl) ?_
  refine nr_goB (P := bt (V 20) k) (nr_runN (As := [.int (nI (V 20)), .int (nI k)]) ⟨hx, hb, hml, hown, hts⟩ hw (c_X11_holds l Γ n G (V 20) k (by omega) (by omega)) ⟨va_cnB 2 hts gX6_size_X11_holds_n21 rfl rfl rfl (hw.2.2 _ (List.mem_of_getElem? (i := 11) rfl)) (hts _ wl_X6_size_4) (by decide +kernel) ⟨Nat.le_of_ble_eq_true rfl, Nat.le_of_ble_eq_true rfl⟩, hts _ wl_X6_size_3, trivial⟩ rfl hl.1 rfl (Nat.le_of_ble_eq_true rfl) dX6_size_5 ⟨Nat.zero_le _, Nat.zero_le _⟩) (fun b1 => ?_) (fun b1 => ?_)
  · refine nr_if_eq (tgt := 13) hx hb (by decide) dX6_size_8 (by decide) (fun c2 => absurd c2 (by decide)) (fun c2 => ?_)
    refine lv_iconst (v := nI 0) hx hb dX6_size_11 (by decide) ?_
    exact nr_retI hx hb hr hlocks hw hS (⟨_, hL, fun hh => absurd (by assumption) hh, by unfold fewZ; rw [if_pos (by assumption)], hRw, hfr⟩) dX6_size_12
  · refine nr_if_eq (tgt := 13) hx hb (by decide) dX6_size_8 (by decide) (fun c3 => ?_) (fun c3 => absurd c3 (by decide))
    refine lv_aload_n hx hb dX6_size_13 rfl (lv_at hl 1 rfl) ?_
    refine nr_goS (nr_runV (As := []) (C := RX10) (T := TX10) (N := 15) ⟨hx, hb, hml, hown, hts⟩ hw (by omega) (isV_0 hV) rfl (c_X10_allWrongs l Γ n G b V hV (by assumption) (by omega)) (cwV 0 hts gX6_size_X10_allWrongs rfl rfl rfl (by decide +kernel) ⟨Nat.le_of_ble_eq_true rfl, Nat.le_of_ble_eq_true rfl⟩) rfl hl.1 rfl (Nat.le_of_ble_eq_true rfl) dX6_size_14 ⟨Nat.zero_le _, Nat.zero_le _⟩) (fun r4 hr4 => ?_)
    obtain rfl : r4 = (nI (2 ^ V 1 - 1)) := hr4
    refine lv_istore_n (lv' := [(3, .int (nI (2 ^ V 1 - 1))), (0, .ref (ad Γ (rw0 + 0))), (1, .ref (ad Γ (b + 0))), (2, .int (nI k))]) hx hb dX6_size_17 rfl hl (by decide) rfl (fun ls hl => ?_)
    rw [show nI (2 ^ V 1 - 1) = nI (2 ^ V 1) - nI 1 from (by rw [pk_sub (by omega)])] at hl
    refine nr_lpI (σ := (Nat → va_E) × Nat × (Nat → Nat)) 18 (fun x => x.1) (fun x lv => lv = [(0, .ref (ad Γ (rw0 + 0))), (1, .ref (ad Γ (b + 0))), (2, .int (nI k)), (3, .int (nI x.2.1 - nI 1))] ∧ isRw Γ x.1 rw0 x.2.2 ∧ isV Γ x.1 b V ∧ fr G x.1 (rw0 + 0) (rw0 + 2) ∧ (x.2.1 ≤ 2 ^ V 1) ∧ (sizR V x.2.2 k x.2.1) ∧ (∀ j, x.2.2 j ≤ 100)) (fun x => x.2.1) (G, 2 ^ V 1, lf) hw hS (lv_sub hl [1, 2, 3, 0] rfl) ⟨rfl, hRw, hV, hfr, by (try dsimp only); omega, by (try dsimp only); exact (fun w h1 h2 => by omega), by (try dsimp only); exact (hL)⟩ ?_
    intro x lv ls H locs hw hS hl hI ih18
    obtain ⟨Gl18, c0, lfL18⟩ := x
    obtain ⟨rfl, hRw, hV, hfr, hc0, hF, hL2⟩ := hI
    try dsimp only at hRw hV hfr hc0 hF hL2 hw hl ih18
    refine lv_iload_n hx hb dX6_size_18 rfl (lv_at hl 3 rfl) ?_
    refine lv_if_lt (tgt := 52) hx hb dX6_size_19 (by decide) (fun c5 => ?_) (fun c5 => ?_)
    · have hF0 : sizR V lfL18 k 0 := by rw [(nr_m1n (c := c0) (by omega)).mp (by assumption)] at hF; exact hF
      have hz9 := hL2 0
      refine lv_aload_n hx hb dX6_size_52 rfl (lv_at hl 0 rfl) ?_
      refine nr_get (own := RX6) (C := RX6) (T := TX6) (N := 1) (v := .ref (ad Γ (rw0 + 1))) hx hb hts hi_X6_size_X6 hown hw (by omega) (isRw_0 hRw) rfl 0 (by decide) wl_X6_size_2 rfl rfl dX6_size_53 ?_
      refine lv_iconst (v := nI 0) hx hb dX6_size_56 (by decide) ?_
      refine nr_iald (x := (lfL18 0)) hx hb hw (by omega) (isRw_1 hRw) rfl (by omega) (by decide) dX6_size_57 ?_
      exact nr_retI hx hb hr hlocks hw hS (⟨_, hL2, fun _ => hF0, by unfold fewZ; rw [if_neg (by assumption)], hRw, hfr⟩) dX6_size_58
    · obtain ⟨w, rfl⟩ : ∃ w, c0 = w + 1 := ⟨c0 - 1, (Nat.sub_add_cancel (Nat.pos_of_ne_zero (fun q => absurd ((nr_m1n (by omega)).mpr q) (by assumption)))).symm⟩
      rw [show nI (w + 1) - nI 1 = nI w from (by rw [pk_sub (by omega)]; rfl)] at hl
      refine lv_aload_n hx hb dX6_size_22 rfl (lv_at hl 0 rfl) ?_
      refine nr_get (own := RX6) (C := RX6) (T := TX6) (N := 1) (v := .ref (ad Γ (rw0 + 1))) hx hb hts hi_X6_size_X6 hown hw (by omega) (isRw_0 hRw) rfl 0 (by decide) wl_X6_size_2 rfl rfl dX6_size_23 ?_
      refine lv_iload_n hx hb dX6_size_26 rfl (lv_at hl 3 rfl) ?_
      refine lv_iload_n hx hb dX6_size_27 rfl (lv_at hl 3 rfl) ?_
      refine lv_iload_n hx hb dX6_size_28 rfl (lv_at hl 2 rfl) ?_
      have hfe := fewF_le V lfL18 w (V 1)
      refine nr_goB (P := bt w k) (nr_runN (As := [.int (nI w), .int (nI k)]) ⟨hx, hb, hml, hown, hts⟩ hw (c_X11_holds l Γ n Gl18 w k (by omega) (by omega)) ⟨va_cnB 2 hts gX6_size_X11_holds_n21 rfl rfl rfl (hw.2.2 _ (List.mem_of_getElem? (i := 11) rfl)) (hts _ wl_X6_size_4) (by decide +kernel) ⟨Nat.le_of_ble_eq_true rfl, Nat.le_of_ble_eq_true rfl⟩, hts _ wl_X6_size_3, trivial⟩ rfl hl.1 rfl (Nat.le_of_ble_eq_true rfl) dX6_size_29 ⟨Nat.zero_le _, Nat.zero_le _⟩) (fun b6 => ?_) (fun b6 => ?_)
      · refine nr_if_eq (tgt := 39) hx hb (by decide) dX6_size_32 (by decide) (fun c7 => absurd c7 (by decide)) (fun c7 => ?_)
        refine lv_iconst (v := nI 0) hx hb dX6_size_35 (by decide) ?_
        refine lv_goto (tgt := 45) hx hb dX6_size_36 (by decide) ?_
        refine nr_iast (k := w) (v := 0) hx hb hw hj hA hS (by omega) (isRw_1 hRw) (by omega) (by decide) dX6_size_45 (fun H locs hw hS => ?_)
        obtain ⟨G8, hw, hRw, hf8⟩ := nRw_c1 hRw (va_up lfL18 w 0) hw
        have hV := isV_fr hV hf8 (by omega)
        have hfr := fr_tr hfr hf8 (by omega) (by omega)
        refine lv_iinc (v := nI w - nI 1) (k := 3) (lv' := [(3, .int (nI w - nI 1)), (0, .ref (ad Γ (rw0 + 0))), (1, .ref (ad Γ (b + 0))), (2, .int (nI k))]) hx hb dX6_size_46 hl rfl (nr_m1 _) (by decide) rfl (fun ls hl => ?_)
        refine lv_goto (tgt := 18) hx hb dX6_size_49 (by decide) ?_
        exact ih18 (G8, w, va_up lfL18 w 0) _ _ _ _ hw hS (lv_sub hl [1, 2, 3, 0] rfl) ⟨rfl, hRw, hV, hfr, by (try dsimp only); omega, by (try dsimp only); exact (siz_up hF (by omega) (by unfold sizE; first | rw [if_pos (by assumption)] | rw [if_neg (by assumption)])), by (try dsimp only); exact (up_le hL2 (by first | omega | exact fewF_le _ _ _ _))⟩ (by (try dsimp only); omega)
      · refine nr_if_eq (tgt := 39) hx hb (by decide) dX6_size_32 (by decide) (fun c9 => ?_) (fun c9 => absurd c9 (by decide))
        refine lv_aload_n hx hb dX6_size_39 rfl (lv_at hl 0 rfl) ?_
        refine lv_aload_n hx hb dX6_size_40 rfl (lv_at hl 1 rfl) ?_
        refine lv_iload_n hx hb dX6_size_41 rfl (lv_at hl 3 rfl) ?_
        refine nr_goS (nr_runV (As := [.ref (ad Γ (b + 0)), .int (nI w)]) (C := RX6) (T := TX6) (N := 1) ⟨hx, hb, hml, hown, hts⟩ hw (by omega) (isRw_0 hRw) rfl (c_X6_fewestFrom l Γ n Gl18 (rw0 + 0) (rw0 + 1) lfL18 (isRw_0 hRw) (isRw_1 hRw) (by omega) (by omega) (by assumption) b V hV (by assumption) (by omega) w (by omega)) (cwV 2 hts gX6_size_X6_fewestFrom rfl rfl rfl (by decide +kernel) ⟨Nat.le_of_ble_eq_true rfl, Nat.le_of_ble_eq_true rfl⟩) rfl hl.1 rfl (Nat.le_of_ble_eq_true rfl) dX6_size_42 ⟨Nat.zero_le _, Nat.zero_le _⟩) (fun r10 hr10 => ?_)
        obtain rfl : r10 = (nI (fewF V lfL18 w (V 1))) := hr10
        refine nr_iast (k := w) (v := fewF V lfL18 w (V 1)) hx hb hw hj hA hS (by omega) (isRw_1 hRw) (by omega) (by decide) dX6_size_45 (fun H locs hw hS => ?_)
        obtain ⟨G11, hw, hRw, hf11⟩ := nRw_c1 hRw (va_up lfL18 w (fewF V lfL18 w (V 1))) hw
        have hV := isV_fr hV hf11 (by omega)
        have hfr := fr_tr hfr hf11 (by omega) (by omega)
        refine lv_iinc (v := nI w - nI 1) (k := 3) (lv' := [(3, .int (nI w - nI 1)), (0, .ref (ad Γ (rw0 + 0))), (1, .ref (ad Γ (b + 0))), (2, .int (nI k))]) hx hb dX6_size_46 hl rfl (nr_m1 _) (by decide) rfl (fun ls hl => ?_)
        refine lv_goto (tgt := 18) hx hb dX6_size_49 (by decide) ?_
        exact ih18 (G11, w, va_up lfL18 w (fewF V lfL18 w (V 1))) _ _ _ _ hw hS (lv_sub hl [1, 2, 3, 0] rfl) ⟨rfl, hRw, hV, hfr, by (try dsimp only); omega, by (try dsimp only); exact (siz_up hF (by omega) (by unfold sizE; first | rw [if_pos (by assumption)] | rw [if_neg (by assumption)])), by (try dsimp only); exact (up_le hL2 (by first | omega | exact fewF_le _ _ _ _))⟩ (by (try dsimp only); omega)
set_option maxHeartbeats 4000000 in
set_option maxRecDepth 100000 in
theorem c_X6_stroke (l : Launch) (Γ : Gam) (n : Nat) (G : Nat → va_E) (rw0 b : Nat) (lf V : Nat → Nat) (hRw : isRw Γ G rw0 lf) (hV : isV Γ G b V) (hn_rw0 : rw0 + 2 ≤ n) (hn_b : b + 16 ≤ n) (q : Nat) (hI : vI V) (hL : ∀ j, lf j ≤ 100) (k : Nat) (hF : sizR V lf k 0) (h0 : lf 0 < 100) (hq : q < lf 0)  : Met l yX6_stroke wsX6_stroke ({ frames := 5, cells := 0, slots := 0, locals := 118 }) (va_Pc [.ref (ad Γ (rw0 + 0)), .ref (ad Γ (b + 0)), .int (nI q)] (fun U => hw Γ n G U U.heap)) (vp_Si (fun z => ∃ g w, pathC V lf q g ∧ wayS V lf g w ∧ z = nI w)) 0 0 (fun _ => False) := by
  refine Met.ofW (cc := cX6_stroke) (maxL := 6) (ret := (some .int)) (by decide) rfl ?_
  intro p e s m args below meth c s₁ B hml hv
  obtain ⟨rfl, hw⟩ := hv
  have hx := B.exec
  have hb := B.bytes
  have hr := B.returns
  have hts := atoms_spec (ws := wsX6_stroke) B.pre
  have hown : s.vm.findClass RX6 = some m.cls := findClass_of_methodNamed B.named
  have hlocks := B.notSynchronized
  have hl := lv_entry ([.ref (ad Γ (rw0 + 0)), .ref (ad Γ (b + 0)), .int (nI q)]) (n := 6) (Nat.le_of_ble_eq_true rfl)
  rw [lg_entry_eq]
  generalize (lg_sl ([.ref (ad Γ (rw0 + 0)), .ref (ad Γ (b + 0)), .int (nI q)]) ++ List.replicate (6 - (lg_sl ([.ref (ad Γ (rw0 + 0)), .ref (ad Γ (b + 0)), .int (nI q)])).length) Slot.unset).toArray = ls at hl ⊢
  have hl : lv_has ls 6 [(0, .ref (ad Γ (rw0 + 0))), (1, .ref (ad Γ (b + 0))), (2, .int (nI q))] := hl
  have hB := hI.1
  have hB0 := hI.2.1
  have hB1 := hI.2.2.1
  have hB20 := hI.2.2.2.2.2.2.2.2.2
  have hBz2 := hI.2.2.2.1
  have hBz3 := hI.2.2.2.2.1
  have hBz4 := hI.2.2.2.2.2.1
  have hBz5 := hI.2.2.2.2.2.2.1
  have hBd := hB 21
  have h2p := p2_le hB1
  refine lv_iconst (v := nI 0) hx hb dX6_stroke_0 (by decide) ?_
  refine lv_istore_n (lv' := [(3, .int (nI 0)), (0, .ref (ad Γ (rw0 + 0))), (1, .ref (ad Γ (b + 0))), (2, .int (nI q))]) hx hb dX6_stroke_1 rfl hl (by decide) rfl (fun ls hl => ?_)
  refine lv_iconst (v := (-1)) hx hb dX6_stroke_2 (by decide) ?_
  refine lv_istore (lv' := [(4, .int (-1)), (3, .int (nI 0)), (0, .ref (ad Γ (rw0 + 0))), (1, .ref (ad Γ (b + 0))), (2, .int (nI q))]) hx hb dX6_stroke_3 hl (by decide) rfl (fun ls hl => ?_)
  refine lv_iconst (v := nI 0) hx hb dX6_stroke_5 (by decide) ?_
  refine lv_istore (lv' := [(5, .int (nI 0)), (4, .int (-1)), (3, .int (nI 0)), (0, .ref (ad Γ (rw0 + 0))), (1, .ref (ad Γ (b + 0))), (2, .int (nI q))]) hx hb dX6_stroke_6 hl (by decide) rfl (fun ls hl => ?_)
  refine nr_lp (σ := Nat × Nat × Int32) (pc := 8) (fun x lv => lv = [(0, .ref (ad Γ (rw0 + 0))), (1, .ref (ad Γ (b + 0))), (2, .int (nI q)), (3, .int (nI x.2.1)), (4, .int x.2.2), (5, .int (nI x.1))] ∧ (x.1 ≤ q + 1) ∧ (pathC V lf x.1 x.2.1) ∧ (x.1 = 0 ∨ ∃ s0 w, pathC V lf (x.1 - 1) s0 ∧ wayS V lf s0 w ∧ x.2.2 = nI w)) (fun x => q + 1 - x.1) (0, 0, (-1)) (lv_sub hl [3, 4, 5, 2, 1, 0] rfl) ⟨rfl, by (try dsimp only); omega, rfl, by (try dsimp only); exact (Or.inl rfl)⟩ ?_
  intro x lv ls hl hI ih8
  obtain ⟨t, go, r0⟩ := x
  obtain ⟨rfl, ht, hpa, hor⟩ := hI
  try dsimp only at ht hpa hor hl ih8
  refine lv_iload hx hb dX6_stroke_8 (lv_at hl 5 rfl) ?_
  refine lv_iload_n hx hb dX6_stroke_10 rfl (lv_at hl 2 rfl) ?_
  refine nr_icmp_gt (tgt := 43) hx hb (by omega) (by omega) dX6_stroke_11 (by decide) (fun c1 => ?_) (fun c1 => ?_)
  · refine lv_iload hx hb dX6_stroke_43 (lv_at hl 4 rfl) ?_
    exact nr_retS hx hb hr hlocks (by rcases hor with z | ⟨s0, w, h1, h2, h3⟩; omega; exact ⟨s0, w, by rw [show q = t - 1 by omega]; exact h1, h2, h3⟩) rfl dX6_stroke_45
  · obtain ⟨hg1, hg2⟩ := path_c hF h0 t go hpa (by omega)
    refine lv_aload_n hx hb dX6_stroke_14 rfl (lv_at hl 0 rfl) ?_
    refine lv_aload_n hx hb dX6_stroke_15 rfl (lv_at hl 1 rfl) ?_
    refine lv_iload_n hx hb dX6_stroke_16 rfl (lv_at hl 3 rfl) ?_
    refine nr_goS (nr_runV (As := [.ref (ad Γ (b + 0)), .int (nI go)]) (C := RX6) (T := TX6) (N := 1) ⟨hx, hb, hml, hown, hts⟩ hw (by omega) (isRw_0 hRw) rfl (c_X6_firstOnTheWay l Γ n G (rw0 + 0) (rw0 + 1) lf (isRw_0 hRw) (isRw_1 hRw) (by omega) (by omega) (by assumption) b V hV (by assumption) (by omega) go (by omega) (by omega)) (cwV 2 hts gX6_stroke_X6_firstOnTheWay rfl rfl rfl (by decide +kernel) ⟨Nat.le_of_ble_eq_true rfl, Nat.le_of_ble_eq_true rfl⟩) rfl hl.1 rfl (Nat.le_of_ble_eq_true rfl) dX6_stroke_17 ⟨Nat.zero_le _, Nat.zero_le _⟩) (fun r2 hr2 => ?_)
    obtain ⟨w, hw9, rfl⟩ : ∃ w, wayS V lf go w ∧ r2 = nI w := by
          rcases hr2 with ⟨w, w1, w2, w3, w4⟩ | ⟨w1, w2⟩
          · exact ⟨w, ⟨w1, w2, w3⟩, w4⟩
          · obtain ⟨w, g1, g2⟩ := way_ex hF hg1 (by omega) (by omega)
            exact absurd g2 (w1 w g1)
    have hw10 := hw9.1
    refine lv_istore (lv' := [(4, .int (nI w)), (0, .ref (ad Γ (rw0 + 0))), (1, .ref (ad Γ (b + 0))), (2, .int (nI q)), (3, .int (nI go)), (5, .int (nI t))]) hx hb dX6_stroke_20 hl (by decide) rfl (fun ls hl => ?_)
    refine lv_iload hx hb dX6_stroke_22 (lv_at hl 0 rfl) ?_
    refine lv_iconst (v := (-1)) hx hb dX6_stroke_24 (by decide) ?_
    refine lv_icmp_ne (tgt := 30) hx hb dX6_stroke_25 (by decide) (fun c3 => ?_) (fun c3 => ?_)
    · refine lv_iload_n hx hb dX6_stroke_30 rfl (lv_at hl 4 rfl) ?_
      refine lv_iconst (v := nI 1) hx hb dX6_stroke_31 (by decide) ?_
      refine lv_iload hx hb dX6_stroke_32 (lv_at hl 0 rfl) ?_
      refine nr_ishl1 hx hb (by omega) dX6_stroke_34 ?_
      refine nr_ior hx hb dX6_stroke_35 ?_
      refine lv_istore_n (lv' := [(3, .int (nI (go ||| (2 ^ w)))), (4, .int (nI w)), (0, .ref (ad Γ (rw0 + 0))), (1, .ref (ad Γ (b + 0))), (2, .int (nI q)), (5, .int (nI t))]) hx hb dX6_stroke_36 rfl hl (by decide) rfl (fun ls hl => ?_)
      refine nr_inc (d := 1) (k := 5) (lv' := [(5, .int (nI (t + 1))), (3, .int (nI (go ||| (2 ^ w)))), (4, .int (nI w)), (0, .ref (ad Γ (rw0 + 0))), (1, .ref (ad Γ (b + 0))), (2, .int (nI q))]) hx hb dX6_stroke_37 hl rfl (by decide) (by decide) rfl (fun ls hl => ?_)
      refine lv_goto (tgt := 8) hx hb dX6_stroke_40 (by decide) ?_
      exact ih8 (t + 1, go ||| (2 ^ w), (nI w)) _ _ (lv_sub hl [3, 4, 5, 1, 2, 0] rfl) ⟨rfl, by (try dsimp only); omega, by (try dsimp only); exact (⟨go, w, hpa, hw9, rfl⟩), by (try dsimp only); exact (Or.inr ⟨go, w, hpa, hw9, rfl⟩)⟩ (by (try dsimp only); omega)
    · exact absurd c3 (nI_ne_m1 (by omega))
theorem wl_X8_silence_8 : Cond.static yX11_holds ∈ wsX8_silence := List.mem_of_getElem? (i := 8) rfl
theorem wl_X8_silence_9 : Cond.initialized RX11 ∈ wsX8_silence := List.mem_of_getElem? (i := 9) rfl
set_option maxHeartbeats 4000000 in
set_option maxRecDepth 100000 in
theorem c_X8_silence (l : Launch) (Γ : Gam) (n : Nat) (G : Nat → va_E) (b : Nat) (V : Nat → Nat) (hV : isV Γ G b V) (hI : vI V) (hbn : b + 16 ≤ n) (k : Nat) (hk : k < 8)  : Met l yX8_silence wsX8_silence ({ frames := 5, cells := 0, slots := 0, locals := 120 }) (va_Pc [.ref (ad Γ (b + 0)), .int (nI k)] (fun U => hw Γ n G U U.heap)) (vp_Si (fun z => silR V k z)) 0 0 (fun _ => False) := by
  refine Met.ofW (cc := cX8_silence) (maxL := 6) (ret := (some .int)) (by decide) rfl ?_
  intro p e s m args below meth c s₁ B hml hv
  obtain ⟨rfl, hw⟩ := hv
  have hx := B.exec
  have hb := B.bytes
  have hr := B.returns
  have hts := atoms_spec (ws := wsX8_silence) B.pre
  have hown : s.vm.findClass RX8 = some m.cls := findClass_of_methodNamed B.named
  have hlocks := B.notSynchronized
  have hl := lv_entry ([.ref (ad Γ (b + 0)), .int (nI k)]) (n := 6) (Nat.le_of_ble_eq_true rfl)
  rw [lg_entry_eq]
  generalize (lg_sl ([.ref (ad Γ (b + 0)), .int (nI k)]) ++ List.replicate (6 - (lg_sl ([.ref (ad Γ (b + 0)), .int (nI k)])).length) Slot.unset).toArray = ls at hl ⊢
  have hl : lv_has ls 6 [(0, .ref (ad Γ (b + 0))), (1, .int (nI k))] := hl
  have hB := hI.1
  have hB0 := hI.2.1
  have hB1 := hI.2.2.1
  have hB20 := hI.2.2.2.2.2.2.2.2.2
  have hBz2 := hI.2.2.2.1
  have hBz3 := hI.2.2.2.2.1
  have hBz4 := hI.2.2.2.2.2.1
  have hBz5 := hI.2.2.2.2.2.2.1
  have hBd := hB 21
  have hcl := fun st => clo_lt hB1 st (V 1)
  have hcl0 := hcl 0
  refine lv_aload_n hx hb dX8_silence_0 rfl (lv_at hl 0 rfl) ?_
  refine lv_iload_n hx hb dX8_silence_1 rfl (lv_at hl 1 rfl) ?_
  refine lv_iconst (v := nI 0) hx hb dX8_silence_2 (by decide) ?_
  refine lv_iconst (v := nI 0) hx hb dX8_silence_3 (by decide) ?_
  refine lv_iconst (v := nI 0) hx hb dX8_silence_4 (by decide) ?_
  refine nr_goB (P := could V k 0 0 0) (nr_runV (As := [.int (nI k), .int (nI 0), .int (nI 0), .int (nI 0)]) (C := RX10) (T := TX10) (N := 15) ⟨hx, hb, hml, hown, hts⟩ hw (by omega) (isV_0 hV) rfl (c_X10_could l Γ n G b V hV hI hbn k 0 0 0 (by omega) (by omega) (by omega) (by omega)) (cwV 4 hts gX8_silence_X10_could rfl rfl rfl (by decide +kernel) ⟨Nat.le_of_ble_eq_true rfl, Nat.le_of_ble_eq_true rfl⟩) rfl hl.1 rfl (Nat.le_of_ble_eq_true rfl) dX8_silence_5 ⟨Nat.zero_le _, Nat.zero_le _⟩) (fun b1 => ?_) (fun b1 => ?_)
  · refine nr_if_eq (tgt := 13) hx hb (by decide) dX8_silence_8 (by decide) (fun c2 => absurd c2 (by decide)) (fun c2 => ?_)
    refine lv_iconst (v := (-1)) hx hb dX8_silence_11 (by decide) ?_
    exact nr_retS hx hb hr hlocks (by first | exact Or.inl ⟨by assumption, rfl⟩ | exact Or.inr (Or.inl ⟨by assumption, by assumption, rfl⟩) | exact Or.inr (Or.inr ⟨by assumption, by assumption, by rw [← hot, hbs]; refine congrArg nI ?_; by_cases z : ot = 0; (rw [show t - 1 = 0 by omega, show ot - 1 = 0 by omega]); (rw [show t = ot by omega])⟩)) rfl dX8_silence_12
  · refine nr_if_eq (tgt := 13) hx hb (by decide) dX8_silence_8 (by decide) (fun c3 => ?_) (fun c3 => absurd c3 (by decide))
    refine lv_aload_n hx hb dX8_silence_13 rfl (lv_at hl 0 rfl) ?_
    refine lv_iconst (v := nI 0) hx hb dX8_silence_14 (by decide) ?_
    refine nr_goS (nr_runS (As := [.ref (ad Γ (b + 0)), .int (nI 0)]) ⟨hx, hb, hml, hown, hts⟩ hw (c_X8_allWithout l Γ n G b V hV hI hbn 0 (by omega)) (va_cwS 2 hts gX8_silence_X8_allWithout rfl rfl rfl (by decide +kernel) ⟨Nat.le_of_ble_eq_true rfl, Nat.le_of_ble_eq_true rfl⟩) rfl hl.1 rfl (Nat.le_of_ble_eq_true rfl) dX8_silence_15 ⟨Nat.zero_le _, Nat.zero_le _⟩) (fun r4 hr4 => ?_)
    obtain rfl : r4 = (nI (clo V 0 (V 1))) := hr4
    refine lv_istore_n (lv' := [(2, .int (nI (clo V 0 (V 1)))), (0, .ref (ad Γ (b + 0))), (1, .int (nI k))]) hx hb dX8_silence_18 rfl hl (by decide) rfl (fun ls hl => ?_)
    refine lv_iload_n hx hb dX8_silence_19 rfl (lv_at hl 0 rfl) ?_
    refine lv_iload_n hx hb dX8_silence_20 rfl (lv_at hl 2 rfl) ?_
    refine nr_goB (P := bt (clo V 0 (V 1)) k) (nr_runN (As := [.int (nI (clo V 0 (V 1))), .int (nI k)]) ⟨hx, hb, hml, hown, hts⟩ hw (c_X11_holds l Γ n G (clo V 0 (V 1)) k (by omega) (by omega)) ⟨va_cnB 2 hts gX8_silence_X11_holds_n19 rfl rfl rfl (hw.2.2 _ (List.mem_of_getElem? (i := 12) rfl)) (hts _ wl_X8_silence_9) (by decide +kernel) ⟨Nat.le_of_ble_eq_true rfl, Nat.le_of_ble_eq_true rfl⟩, hts _ wl_X8_silence_8, trivial⟩ rfl hl.1 rfl (Nat.le_of_ble_eq_true rfl) dX8_silence_21 ⟨Nat.zero_le _, Nat.zero_le _⟩) (fun b5 => ?_) (fun b5 => ?_)
    · refine nr_if_ne (tgt := 29) hx hb (by decide) dX8_silence_24 (by decide) (fun c6 => ?_) (fun c6 => absurd c6 (by decide))
      refine lv_iload_n hx hb dX8_silence_29 rfl (lv_at hl 0 rfl) ?_
      refine lv_iconst (v := nI 1) hx hb dX8_silence_30 (by decide) ?_
      refine lv_iload_n hx hb dX8_silence_31 rfl (lv_at hl 2 rfl) ?_
      refine nr_ishl1 hx hb (by omega) dX8_silence_32 ?_
      refine lv_iconst (v := (-1)) hx hb dX8_silence_33 (by decide) ?_
      refine nr_not hx hb dX8_silence_34 ?_
      refine nr_iand hx hb dX8_silence_35 ?_
      refine lv_istore_n (lv' := [(3, .int (nI ((clo V 0 (V 1)) &&& ((2 ^ k) ^^^ 4294967295)))), (2, .int (nI (clo V 0 (V 1)))), (0, .ref (ad Γ (b + 0))), (1, .int (nI k))]) hx hb dX8_silence_36 rfl hl (by decide) rfl (fun ls hl => ?_)
      obtain ⟨ot, hot⟩ : ∃ y, y = (clo V 0 (V 1)) &&& ((2 ^ k) ^^^ 4294967295) := ⟨_, rfl⟩
      rw [← hot] at hl
      have hol : ot < 256 := by rw [hot]; exact and_lt _ hcl0
      refine lv_iload_n hx hb dX8_silence_37 rfl (lv_at hl 0 rfl) ?_
      refine lv_istore (lv' := [(4, .int (nI ot)), (3, .int (nI ot)), (2, .int (nI (clo V 0 (V 1)))), (0, .ref (ad Γ (b + 0))), (1, .int (nI k))]) hx hb dX8_silence_38 hl (by decide) rfl (fun ls hl => ?_)
      refine lv_iconst (v := nI 1) hx hb dX8_silence_40 (by decide) ?_
      refine lv_istore (lv' := [(5, .int (nI 1)), (4, .int (nI ot)), (3, .int (nI ot)), (2, .int (nI (clo V 0 (V 1)))), (0, .ref (ad Γ (b + 0))), (1, .int (nI k))]) hx hb dX8_silence_41 hl (by decide) rfl (fun ls hl => ?_)
      refine nr_lp (σ := Nat × Nat) (pc := 43) (fun x lv => lv = [(0, .ref (ad Γ (b + 0))), (1, .int (nI k)), (2, .int (nI (clo V 0 (V 1)))), (3, .int (nI ot)), (4, .int (nI x.2)), (5, .int (nI x.1))] ∧ (1 ≤ x.1) ∧ (x.1 ≤ max 1 ot) ∧ (x.2 = silB V k ot (x.1 - 1)) ∧ (x.2 < 256)) (fun x => ot - x.1) (1, ot) (lv_sub hl [4, 5, 3, 2, 1, 0] rfl) ⟨rfl, by (try dsimp only); omega, by (try dsimp only); omega, rfl, by (try dsimp only); omega⟩ ?_
      intro x lv ls hl hI ih43
      obtain ⟨t, bs⟩ := x
      obtain ⟨rfl, ht1, ht2, hbs, hbl⟩ := hI
      try dsimp only at ht1 ht2 hbs hbl hl ih43
      have hclt := hcl t
      refine lv_iload hx hb dX8_silence_43 (lv_at hl 5 rfl) ?_
      refine lv_iload_n hx hb dX8_silence_45 rfl (lv_at hl 3 rfl) ?_
      refine nr_icmp_ge (tgt := 94) hx hb (by omega) (by omega) dX8_silence_46 (by decide) (fun c7 => ?_) (fun c7 => ?_)
      · refine lv_iload hx hb dX8_silence_94 (lv_at hl 4 rfl) ?_
        exact nr_retS hx hb hr hlocks (by first | exact Or.inl ⟨by assumption, rfl⟩ | exact Or.inr (Or.inl ⟨by assumption, by assumption, rfl⟩) | exact Or.inr (Or.inr ⟨by assumption, by assumption, by rw [← hot, hbs]; refine congrArg nI ?_; by_cases z : ot = 0; (rw [show t - 1 = 0 by omega, show ot - 1 = 0 by omega]); (rw [show t = ot by omega])⟩)) rfl dX8_silence_96
      · have hta : t &&& (ot ^^^ 4294967295) ≤ t := Nat.and_le_left
        have hp1 := pc8_le t
        have hp2 := pc8_le bs
        refine lv_iload hx hb dX8_silence_49 (lv_at hl 5 rfl) ?_
        refine lv_iload_n hx hb dX8_silence_51 rfl (lv_at hl 3 rfl) ?_
        refine lv_iconst (v := (-1)) hx hb dX8_silence_52 (by decide) ?_
        refine nr_not hx hb dX8_silence_53 ?_
        refine nr_iand hx hb dX8_silence_54 ?_
        refine nr_if_ne (tgt := 88) hx hb (by omega) dX8_silence_55 (by decide) (fun c8 => ?_) (fun c8 => ?_)
        · refine nr_inc (d := 1) (k := 5) (lv' := [(5, .int (nI (t + 1))), (0, .ref (ad Γ (b + 0))), (1, .int (nI k)), (2, .int (nI (clo V 0 (V 1)))), (3, .int (nI ot)), (4, .int (nI bs))]) hx hb dX8_silence_88 hl rfl (by decide) (by decide) rfl (fun ls hl => ?_)
          refine lv_goto (tgt := 43) hx hb dX8_silence_91 (by decide) ?_
          exact ih43 (t + 1, bs) _ _ (lv_sub hl [1, 2, 3, 4, 5, 0] rfl) ⟨rfl, by (try dsimp only); omega, by (try dsimp only); omega, by
          (try dsimp only)
          obtain ⟨d, rfl⟩ : ∃ d, t = d + 1 := ⟨t - 1, by omega⟩
          rw [Nat.add_sub_cancel] at hbs ⊢
          show _ = silB V k ot (d + 1)
          unfold silB
          rw [← hbs]
          first
          | rw [if_pos ⟨by assumption, by assumption, by assumption⟩]
          | (rw [if_neg]; intro hh; first | exact absurd hh.1 (by assumption) | exact absurd hh.2.1 (by omega) | exact hh.2.2 (by assumption)), by (try dsimp only); omega⟩ (by (try dsimp only); omega)
        · refine lv_iload hx hb dX8_silence_58 (lv_at hl 5 rfl) ?_
          refine nr_goS (nr_runS (As := [.int (nI t)]) ⟨hx, hb, hml, hown, hts⟩ hw (c_J6_bitCount_0f7a4 l Γ n G t (by omega)) (va_cwS 1 hts gX8_silence_J6_bitCount_0f7a4 rfl rfl rfl (by decide +kernel) ⟨Nat.le_of_ble_eq_true rfl, Nat.le_of_ble_eq_true rfl⟩) rfl hl.1 rfl (Nat.le_of_ble_eq_true rfl) dX8_silence_60 ⟨Nat.zero_le _, Nat.zero_le _⟩) (fun r9 hr9 => ?_)
          obtain rfl : r9 = (nI (pc8 t)) := hr9
          refine lv_iload hx hb dX8_silence_63 (lv_at hl 4 rfl) ?_
          refine nr_goS (nr_runS (As := [.int (nI bs)]) ⟨hx, hb, hml, hown, hts⟩ hw (c_J6_bitCount_0f7a4 l Γ n G bs (by omega)) (va_cwS 1 hts gX8_silence_J6_bitCount_0f7a4 rfl rfl rfl (by decide +kernel) ⟨Nat.le_of_ble_eq_true rfl, Nat.le_of_ble_eq_true rfl⟩) rfl hl.1 rfl (Nat.le_of_ble_eq_true rfl) dX8_silence_65 ⟨Nat.zero_le _, Nat.zero_le _⟩) (fun r10 hr10 => ?_)
          obtain rfl : r10 = (nI (pc8 bs)) := hr10
          refine nr_icmp_ge (tgt := 88) hx hb (by omega) (by omega) dX8_silence_68 (by decide) (fun c11 => ?_) (fun c11 => ?_)
          · refine nr_inc (d := 1) (k := 5) (lv' := [(5, .int (nI (t + 1))), (0, .ref (ad Γ (b + 0))), (1, .int (nI k)), (2, .int (nI (clo V 0 (V 1)))), (3, .int (nI ot)), (4, .int (nI bs))]) hx hb dX8_silence_88 hl rfl (by decide) (by decide) rfl (fun ls hl => ?_)
            refine lv_goto (tgt := 43) hx hb dX8_silence_91 (by decide) ?_
            exact ih43 (t + 1, bs) _ _ (lv_sub hl [1, 2, 3, 4, 5, 0] rfl) ⟨rfl, by (try dsimp only); omega, by (try dsimp only); omega, by
          (try dsimp only)
          obtain ⟨d, rfl⟩ : ∃ d, t = d + 1 := ⟨t - 1, by omega⟩
          rw [Nat.add_sub_cancel] at hbs ⊢
          show _ = silB V k ot (d + 1)
          unfold silB
          rw [← hbs]
          first
          | rw [if_pos ⟨by assumption, by assumption, by assumption⟩]
          | (rw [if_neg]; intro hh; first | exact absurd hh.1 (by assumption) | exact absurd hh.2.1 (by omega) | exact hh.2.2 (by assumption)), by (try dsimp only); omega⟩ (by (try dsimp only); omega)
          · refine lv_aload_n hx hb dX8_silence_71 rfl (lv_at hl 0 rfl) ?_
            refine lv_iload hx hb dX8_silence_72 (lv_at hl 5 rfl) ?_
            refine nr_goS (nr_runS (As := [.ref (ad Γ (b + 0)), .int (nI t)]) ⟨hx, hb, hml, hown, hts⟩ hw (c_X8_allWithout l Γ n G b V hV hI hbn t (by omega)) (va_cwS 2 hts gX8_silence_X8_allWithout rfl rfl rfl (by decide +kernel) ⟨Nat.le_of_ble_eq_true rfl, Nat.le_of_ble_eq_true rfl⟩) rfl hl.1 rfl (Nat.le_of_ble_eq_true rfl) dX8_silence_74 ⟨Nat.zero_le _, Nat.zero_le _⟩) (fun r12 hr12 => ?_)
            obtain rfl : r12 = (nI (clo V t (V 1))) := hr12
            refine lv_iload_n hx hb dX8_silence_77 rfl (lv_at hl 1 rfl) ?_
            refine nr_goB (P := bt (clo V t (V 1)) k) (nr_runN (As := [.int (nI (clo V t (V 1))), .int (nI k)]) ⟨hx, hb, hml, hown, hts⟩ hw (c_X11_holds l Γ n G (clo V t (V 1)) k (by omega) (by omega)) ⟨va_cnB 2 hts gX8_silence_X11_holds_n19 rfl rfl rfl (hw.2.2 _ (List.mem_of_getElem? (i := 12) rfl)) (hts _ wl_X8_silence_9) (by decide +kernel) ⟨Nat.le_of_ble_eq_true rfl, Nat.le_of_ble_eq_true rfl⟩, hts _ wl_X8_silence_8, trivial⟩ rfl hl.1 rfl (Nat.le_of_ble_eq_true rfl) dX8_silence_78 ⟨Nat.zero_le _, Nat.zero_le _⟩) (fun b13 => ?_) (fun b13 => ?_)
            · refine nr_if_ne (tgt := 88) hx hb (by decide) dX8_silence_81 (by decide) (fun c14 => ?_) (fun c14 => absurd c14 (by decide))
              refine nr_inc (d := 1) (k := 5) (lv' := [(5, .int (nI (t + 1))), (0, .ref (ad Γ (b + 0))), (1, .int (nI k)), (2, .int (nI (clo V 0 (V 1)))), (3, .int (nI ot)), (4, .int (nI bs))]) hx hb dX8_silence_88 hl rfl (by decide) (by decide) rfl (fun ls hl => ?_)
              refine lv_goto (tgt := 43) hx hb dX8_silence_91 (by decide) ?_
              exact ih43 (t + 1, bs) _ _ (lv_sub hl [1, 2, 3, 4, 5, 0] rfl) ⟨rfl, by (try dsimp only); omega, by (try dsimp only); omega, by
          (try dsimp only)
          obtain ⟨d, rfl⟩ : ∃ d, t = d + 1 := ⟨t - 1, by omega⟩
          rw [Nat.add_sub_cancel] at hbs ⊢
          show _ = silB V k ot (d + 1)
          unfold silB
          rw [← hbs]
          first
          | rw [if_pos ⟨by assumption, by assumption, by assumption⟩]
          | (rw [if_neg]; intro hh; first | exact absurd hh.1 (by assumption) | exact absurd hh.2.1 (by omega) | exact hh.2.2 (by assumption)), by (try dsimp only); omega⟩ (by (try dsimp only); omega)
            · refine nr_if_ne (tgt := 88) hx hb (by decide) dX8_silence_81 (by decide) (fun c15 => absurd c15 (by decide)) (fun c15 => ?_)
              refine lv_iload hx hb dX8_silence_84 (lv_at hl 5 rfl) ?_
              refine lv_istore (lv' := [(4, .int (nI t)), (0, .ref (ad Γ (b + 0))), (1, .int (nI k)), (2, .int (nI (clo V 0 (V 1)))), (3, .int (nI ot)), (5, .int (nI t))]) hx hb dX8_silence_86 hl (by decide) rfl (fun ls hl => ?_)
              refine nr_inc (d := 1) (k := 5) (lv' := [(5, .int (nI (t + 1))), (4, .int (nI t)), (0, .ref (ad Γ (b + 0))), (1, .int (nI k)), (2, .int (nI (clo V 0 (V 1)))), (3, .int (nI ot))]) hx hb dX8_silence_88 hl rfl (by decide) (by decide) rfl (fun ls hl => ?_)
              refine lv_goto (tgt := 43) hx hb dX8_silence_91 (by decide) ?_
              exact ih43 (t + 1, t) _ _ (lv_sub hl [2, 3, 4, 5, 1, 0] rfl) ⟨rfl, by (try dsimp only); omega, by (try dsimp only); omega, by
          (try dsimp only)
          obtain ⟨d, rfl⟩ : ∃ d, t = d + 1 := ⟨t - 1, by omega⟩
          rw [Nat.add_sub_cancel] at hbs ⊢
          show _ = silB V k ot (d + 1)
          unfold silB
          rw [← hbs]
          first
          | rw [if_pos ⟨by assumption, by assumption, by assumption⟩]
          | (rw [if_neg]; intro hh; first | exact absurd hh.1 (by assumption) | exact absurd hh.2.1 (by omega) | exact hh.2.2 (by assumption)), by (try dsimp only); omega⟩ (by (try dsimp only); omega)
    · refine nr_if_ne (tgt := 29) hx hb (by decide) dX8_silence_24 (by decide) (fun c16 => absurd c16 (by decide)) (fun c16 => ?_)
      refine lv_iconst (v := nI 0) hx hb dX8_silence_27 (by decide) ?_
      exact nr_retS hx hb hr hlocks (by first | exact Or.inl ⟨by assumption, rfl⟩ | exact Or.inr (Or.inl ⟨by assumption, by assumption, rfl⟩) | exact Or.inr (Or.inr ⟨by assumption, by assumption, by rw [← hot, hbs]; refine congrArg nI ?_; by_cases z : ot = 0; (rw [show t - 1 = 0 by omega, show ot - 1 = 0 by omega]); (rw [show t = ot by omega])⟩)) rfl dX8_silence_28
theorem wl_X1_nextLook_1 : Cond.fieldLink RX1 9 "BellForgiven$Guess" "values" "[I" ∈ wsX1_nextLook := List.mem_of_getElem? (i := 1) rfl
theorem wl_X1_nextLook_2 : Cond.fieldLink RX1 73 "BellForgiven$Valley" "gravity" "[I" ∈ wsX1_nextLook := List.mem_of_getElem? (i := 2) rfl
theorem hi_X1_nextLook_X1 : ∀ w ∈ u_ws RX1 TX1 1, w ∈ wsX1_nextLook := fun w h => (List.mem_cons_of_mem _ (List.mem_append_left _ (List.mem_append_left _ (List.mem_append_right _ h))))
theorem hi_X1_nextLook_X10 : ∀ w ∈ u_ws RX10 TX10 15, w ∈ wsX1_nextLook := fun w h => (List.mem_cons_of_mem _ (List.mem_append_left _ (List.mem_append_right _ h)))
set_option maxHeartbeats 4000000 in
set_option maxRecDepth 100000 in
theorem c_X1_nextLook (l : Launch) (Γ : Gam) (n : Nat) (G : Nat → va_E) (gs b : Nat) (vs V : Nat → Nat) (hGs : isGs Γ G gs vs) (hV : isV Γ G b V) (hn_gs : gs + 2 ≤ n) (hn_b : b + 16 ≤ n) (hj : winj Γ n) (k : Nat) (hI : vI V) (hk : k < 8) (hvs : ∀ j, vs j < 2147483648) (hdis : b + 16 ≤ gs ∨ gs + 2 ≤ b)  : Met l yX1_nextLook wsX1_nextLook ({ frames := 3, cells := 0, slots := 0, locals := 69 }) (va_Pc [.ref (ad Γ (gs + 0)), .ref (ad Γ (b + 0)), .int (nI k)] (fun U => hw Γ n G U U.heap)) (wQi Γ n (fun z G2 => (lookM V k 100 z) ∧ (∃ vs2 : Nat → Nat, (∀ j, vs2 j < 2147483648) ∧ isGs Γ G2 gs vs2 ∧ fr G G2 (gs + 0) (gs + 2)))) 0 0 (wA Γ n) := by
  refine Met.ofW (cc := cX1_nextLook) (maxL := 8) (ret := (some .int)) (by decide) rfl ?_
  intro p e s m args below meth c s₁ B hml hv
  obtain ⟨rfl, hw⟩ := hv
  have hx := B.exec
  have hb := B.bytes
  have hr := B.returns
  have hts := atoms_spec (ws := wsX1_nextLook) B.pre
  have hown : s.vm.findClass RX1 = some m.cls := findClass_of_methodNamed B.named
  have hlocks := B.notSynchronized
  have hS : va_S (wA Γ n) s.heap s.heap [] := va_S.rf
  have hA : ∀ q, wA Γ n q → wA Γ n q := fun _ h => h
  have hl := lv_entry ([.ref (ad Γ (gs + 0)), .ref (ad Γ (b + 0)), .int (nI k)]) (n := 8) (Nat.le_of_ble_eq_true rfl)
  rw [lg_entry_eq]
  generalize (lg_sl ([.ref (ad Γ (gs + 0)), .ref (ad Γ (b + 0)), .int (nI k)]) ++ List.replicate (8 - (lg_sl ([.ref (ad Γ (gs + 0)), .ref (ad Γ (b + 0)), .int (nI k)])).length) Slot.unset).toArray = ls at hl ⊢
  have hl : lv_has ls 8 [(0, .ref (ad Γ (gs + 0))), (1, .ref (ad Γ (b + 0))), (2, .int (nI k))] := hl
  have hfr := fr_rf G (gs + 0) (gs + 2)
  have hB := hI.1
  have hB0 := hI.2.1
  have hB1 := hI.2.2.1
  have hB20 := hI.2.2.2.2.2.2.2.2.2
  have hBz2 := hI.2.2.2.1
  have hBz3 := hI.2.2.2.2.1
  have hBz4 := hI.2.2.2.2.2.1
  have hBz5 := hI.2.2.2.2.2.2.1
  have hBd := hB 21
  have hwl := fun k => (show wkinds V k < 64 from bitsOf_lt _ 6)
  have hwl1 := hwl k
  refine lv_aload_n hx hb dX1_nextLook_0 rfl (lv_at hl 1 rfl) ?_
  refine lv_iload_n hx hb dX1_nextLook_1 rfl (lv_at hl 2 rfl) ?_
  refine nr_goS (nr_runS (As := [.ref (ad Γ (b + 0)), .int (nI k)]) ⟨hx, hb, hml, hown, hts⟩ hw (c_X1_wrongKinds l Γ n G b V hV (by assumption) (by omega) k (by omega)) (va_cwS 2 hts gX1_nextLook_X1_wrongKinds rfl rfl rfl (by decide +kernel) ⟨Nat.le_of_ble_eq_true rfl, Nat.le_of_ble_eq_true rfl⟩) rfl hl.1 rfl (Nat.le_of_ble_eq_true rfl) dX1_nextLook_2 ⟨Nat.zero_le _, Nat.zero_le _⟩) (fun r1 hr1 => ?_)
  obtain rfl : r1 = (nI (wkinds V k)) := hr1
  refine lv_istore_n (lv' := [(3, .int (nI (wkinds V k))), (0, .ref (ad Γ (gs + 0))), (1, .ref (ad Γ (b + 0))), (2, .int (nI k))]) hx hb dX1_nextLook_5 rfl hl (by decide) rfl (fun ls hl => ?_)
  refine lv_iload_n hx hb dX1_nextLook_6 rfl (lv_at hl 0 rfl) ?_
  refine nr_if_ne (tgt := 12) hx hb (by omega) dX1_nextLook_7 (by decide) (fun c2 => ?_) (fun c2 => ?_)
  · refine lv_iconst (v := (-1)) hx hb dX1_nextLook_12 (by decide) ?_
    refine lv_istore (lv' := [(4, .int (-1)), (3, .int (nI (wkinds V k))), (0, .ref (ad Γ (gs + 0))), (1, .ref (ad Γ (b + 0))), (2, .int (nI k))]) hx hb dX1_nextLook_13 hl (by decide) rfl (fun ls hl => ?_)
    refine lv_bipush (v := nI 100) hx hb dX1_nextLook_15 (by decide) ?_
    refine lv_istore (lv' := [(5, .int (nI 100)), (4, .int (-1)), (3, .int (nI (wkinds V k))), (0, .ref (ad Γ (gs + 0))), (1, .ref (ad Γ (b + 0))), (2, .int (nI k))]) hx hb dX1_nextLook_17 hl (by decide) rfl (fun ls hl => ?_)
    refine lv_iconst (v := nI 0) hx hb dX1_nextLook_19 (by decide) ?_
    refine lv_istore (lv' := [(6, .int (nI 0)), (5, .int (nI 100)), (4, .int (-1)), (3, .int (nI (wkinds V k))), (0, .ref (ad Γ (gs + 0))), (1, .ref (ad Γ (b + 0))), (2, .int (nI k))]) hx hb dX1_nextLook_20 hl (by decide) rfl (fun ls hl => ?_)
    refine nr_lpI (σ := (Nat → va_E) × Nat × Nat × Int32 × (Nat → Nat)) 22 (fun x => x.1) (fun x lv => lv = [(0, .ref (ad Γ (gs + 0))), (1, .ref (ad Γ (b + 0))), (2, .int (nI k)), (3, .int (nI (wkinds V k))), (4, .int x.2.2.2.1), (5, .int (nI x.2.2.1)), (6, .int (nI x.2.1))] ∧ isGs Γ x.1 gs x.2.2.2.2 ∧ isV Γ x.1 b V ∧ fr G x.1 (gs + 0) (gs + 2) ∧ (x.2.1 ≤ 31) ∧ (amin (lookF V k) nI 100 x.2.1 x.2.2.1 x.2.2.2.1) ∧ (x.2.2.1 ≤ 100) ∧ (∀ j, x.2.2.2.2 j < 2147483648)) (fun x => 31 - x.2.1) (G, 0, 100, (-1), vs) hw hS (lv_sub hl [4, 5, 6, 3, 2, 1, 0] rfl) ⟨rfl, hGs, hV, hfr, by (try dsimp only); omega, amin_0 _ _ _, by (try dsimp only); omega, by (try dsimp only); exact (hvs)⟩ ?_
    intro x lv ls H locs hw hS hl hI ih22
    obtain ⟨Gl22, d, lo, bs, vsL22⟩ := x
    obtain ⟨rfl, hGs, hV, hfr, hdd, hm, hlo, hvs2⟩ := hI
    try dsimp only at hGs hV hfr hdd hm hlo hvs2 hw hl ih22
    refine lv_iload hx hb dX1_nextLook_22 (lv_at hl 6 rfl) ?_
    refine lv_bipush (v := nI 30) hx hb dX1_nextLook_24 (by decide) ?_
    refine nr_icmp_gt (tgt := 93) hx hb (by omega) (by decide) dX1_nextLook_26 (by decide) (fun c3 => ?_) (fun c3 => ?_)
    · refine lv_iload hx hb dX1_nextLook_93 (lv_at hl 4 rfl) ?_
      exact nr_retI hx hb hr hlocks hw hS (⟨by first | exact Or.inl ⟨by assumption, rfl⟩ | exact Or.inr ⟨by assumption, lo, by rw [show 31 = d by omega]; exact hm⟩, _, by assumption, hGs, hfr⟩) dX1_nextLook_95
    · refine lv_iconst (v := nI 0) hx hb dX1_nextLook_29 (by decide) ?_
      refine lv_istore (lv' := [(7, .int (nI 0)), (0, .ref (ad Γ (gs + 0))), (1, .ref (ad Γ (b + 0))), (2, .int (nI k)), (3, .int (nI (wkinds V k))), (4, .int bs), (5, .int (nI lo)), (6, .int (nI d))]) hx hb dX1_nextLook_30 hl (by decide) rfl (fun ls hl => ?_)
      refine nr_lpI (σ := (Nat → va_E) × Nat × (Nat → Nat)) 32 (fun x => x.1) (fun x lv => lv = [(0, .ref (ad Γ (gs + 0))), (1, .ref (ad Γ (b + 0))), (2, .int (nI k)), (3, .int (nI (wkinds V k))), (4, .int bs), (5, .int (nI lo)), (6, .int (nI d)), (7, .int (nI x.2.1))] ∧ isGs Γ x.1 gs x.2.2 ∧ isV Γ x.1 b V ∧ fr G x.1 (gs + 0) (gs + 2) ∧ (x.2.1 ≤ 6) ∧ (∀ j, x.2.2 j < 2147483648) ∧ (∀ j, j < x.2.1 → x.2.2 j = sWeight j (V (52 + k)) d)) (fun x => 6 - x.2.1) (Gl22, 0, vsL22) hw hS (lv_sub hl [1, 2, 3, 4, 5, 6, 7, 0] rfl) ⟨rfl, hGs, hV, hfr, by (try dsimp only); omega, by (try dsimp only); exact (hvs2), by (try dsimp only); exact (fun j hj => absurd hj (Nat.not_lt_zero j))⟩ ?_
      intro x lv ls H locs hw hS hl hI ih32
      obtain ⟨Gl32, kd, vsL32⟩ := x
      obtain ⟨rfl, hGs, hV, hfr, hkd, hvs3, htv⟩ := hI
      try dsimp only at hGs hV hfr hkd hvs3 htv hw hl ih32
      have hWl := sWeight_le kd (V (52 + k)) d
      have hL9 := hB (52 + k)
      refine lv_iload hx hb dX1_nextLook_32 (lv_at hl 7 rfl) ?_
      refine lv_bipush (v := nI 6) hx hb dX1_nextLook_34 (by decide) ?_
      refine nr_icmp_ge (tgt := 65) hx hb (by omega) (by decide) dX1_nextLook_36 (by decide) (fun c4 => ?_) (fun c4 => ?_)
      · have hlf : lookF V k d = most vsL32 (wkinds V k) 6 := most_cong (fun j hj => (htv j (by omega)).symm) (Nat.le_refl _)
        have hmo9 := most_le vsL32 (wkinds V k) 6
        refine lv_aload_n hx hb dX1_nextLook_65 rfl (lv_at hl 0 rfl) ?_
        refine lv_iload_n hx hb dX1_nextLook_66 rfl (lv_at hl 3 rfl) ?_
        refine nr_goS (nr_runV (As := [.int (nI (wkinds V k))]) (C := RX1) (T := TX1) (N := 1) ⟨hx, hb, hml, hown, hts⟩ hw (by omega) (isGs_0 hGs) rfl (c_X1_mostAlike l Γ n Gl32 (gs + 0) (gs + 1) vsL32 (isGs_0 hGs) (isGs_1 hGs) (by omega) (by omega) (by assumption) (wkinds V k) (by omega)) (cwV 1 hts gX1_nextLook_X1_mostAlike rfl rfl rfl (by decide +kernel) ⟨Nat.le_of_ble_eq_true rfl, Nat.le_of_ble_eq_true rfl⟩) rfl hl.1 rfl (Nat.le_of_ble_eq_true rfl) dX1_nextLook_67 ⟨Nat.zero_le _, Nat.zero_le _⟩) (fun r5 hr5 => ?_)
        obtain rfl : r5 = (nI (most vsL32 (wkinds V k) 6)) := hr5
        refine lv_istore (lv' := [(7, .int (nI (most vsL32 (wkinds V k) 6))), (0, .ref (ad Γ (gs + 0))), (1, .ref (ad Γ (b + 0))), (2, .int (nI k)), (3, .int (nI (wkinds V k))), (4, .int bs), (5, .int (nI lo)), (6, .int (nI d))]) hx hb dX1_nextLook_70 hl (by decide) rfl (fun ls hl => ?_)
        refine lv_iload hx hb dX1_nextLook_72 (lv_at hl 0 rfl) ?_
        refine lv_iload hx hb dX1_nextLook_74 (lv_at hl 6 rfl) ?_
        refine nr_icmp_ge (tgt := 87) hx hb (by omega) (by omega) dX1_nextLook_76 (by decide) (fun c6 => ?_) (fun c6 => ?_)
        · refine nr_inc (d := 1) (k := 7) (lv' := [(6, .int (nI (d + 1))), (7, .int (nI (most vsL32 (wkinds V k) 6))), (0, .ref (ad Γ (gs + 0))), (1, .ref (ad Γ (b + 0))), (2, .int (nI k)), (3, .int (nI (wkinds V k))), (4, .int bs), (5, .int (nI lo))]) hx hb dX1_nextLook_87 hl rfl (by decide) (by decide) rfl (fun ls hl => ?_)
          refine lv_goto (tgt := 22) hx hb dX1_nextLook_90 (by decide) ?_
          exact ih22 (Gl32, d + 1, lo, bs, vsL32) _ _ _ _ hw hS (lv_sub hl [2, 3, 4, 5, 6, 7, 0] rfl) ⟨rfl, hGs, hV, hfr, by (try dsimp only); omega, by (try dsimp only); first | (have h9 := amin_y hm (show lookF V k d < lo by rw [hlf]; assumption); rw [hlf] at h9; exact h9) | exact amin_n hm (show lookF V k d < 100 by rw [hlf]; omega) (show ¬ lookF V k d < lo by rw [hlf]; omega), by (try dsimp only); omega, by (try dsimp only); exact (hvs3)⟩ (by (try dsimp only); omega)
        · refine lv_iload hx hb dX1_nextLook_79 (lv_at hl 0 rfl) ?_
          refine lv_istore (lv' := [(5, .int (nI (most vsL32 (wkinds V k) 6))), (7, .int (nI (most vsL32 (wkinds V k) 6))), (0, .ref (ad Γ (gs + 0))), (1, .ref (ad Γ (b + 0))), (2, .int (nI k)), (3, .int (nI (wkinds V k))), (4, .int bs), (6, .int (nI d))]) hx hb dX1_nextLook_81 hl (by decide) rfl (fun ls hl => ?_)
          refine lv_iload hx hb dX1_nextLook_83 (lv_at hl 7 rfl) ?_
          refine lv_istore (lv' := [(4, .int (nI d)), (5, .int (nI (most vsL32 (wkinds V k) 6))), (7, .int (nI (most vsL32 (wkinds V k) 6))), (0, .ref (ad Γ (gs + 0))), (1, .ref (ad Γ (b + 0))), (2, .int (nI k)), (3, .int (nI (wkinds V k))), (6, .int (nI d))]) hx hb dX1_nextLook_85 hl (by decide) rfl (fun ls hl => ?_)
          refine nr_inc (d := 1) (k := 7) (lv' := [(6, .int (nI (d + 1))), (4, .int (nI d)), (5, .int (nI (most vsL32 (wkinds V k) 6))), (7, .int (nI (most vsL32 (wkinds V k) 6))), (0, .ref (ad Γ (gs + 0))), (1, .ref (ad Γ (b + 0))), (2, .int (nI k)), (3, .int (nI (wkinds V k)))]) hx hb dX1_nextLook_87 hl rfl (by decide) (by decide) rfl (fun ls hl => ?_)
          refine lv_goto (tgt := 22) hx hb dX1_nextLook_90 (by decide) ?_
          exact ih22 (Gl32, d + 1, most vsL32 (wkinds V k) 6, (nI d), vsL32) _ _ _ _ hw hS (lv_sub hl [4, 5, 6, 7, 1, 2, 0] rfl) ⟨rfl, hGs, hV, hfr, by (try dsimp only); omega, by (try dsimp only); first | (have h9 := amin_y hm (show lookF V k d < lo by rw [hlf]; assumption); rw [hlf] at h9; exact h9) | exact amin_n hm (show lookF V k d < 100 by rw [hlf]; omega) (show ¬ lookF V k d < lo by rw [hlf]; omega), by (try dsimp only); omega, by (try dsimp only); exact (hvs3)⟩ (by (try dsimp only); omega)
      · refine lv_aload_n hx hb dX1_nextLook_39 rfl (lv_at hl 0 rfl) ?_
        refine nr_get (own := RX1) (C := RX1) (T := TX1) (N := 1) (v := .ref (ad Γ (gs + 1))) hx hb hts hi_X1_nextLook_X1 hown hw (by omega) (isGs_0 hGs) rfl 0 (by decide) wl_X1_nextLook_1 rfl rfl dX1_nextLook_40 ?_
        refine lv_iload hx hb dX1_nextLook_43 (lv_at hl 7 rfl) ?_
        refine lv_iload hx hb dX1_nextLook_45 (lv_at hl 7 rfl) ?_
        refine lv_aload_n hx hb dX1_nextLook_47 rfl (lv_at hl 1 rfl) ?_
        refine nr_get (own := RX1) (C := RX10) (T := TX10) (N := 15) (v := .ref (ad Γ (b + 6))) hx hb hts hi_X1_nextLook_X10 hown hw (by omega) (isV_0 hV) rfl 7 (by decide) wl_X1_nextLook_2 rfl rfl dX1_nextLook_48 ?_
        refine lv_iload_n hx hb dX1_nextLook_51 rfl (lv_at hl 2 rfl) ?_
        refine nr_iald (x := (V (52 + k))) hx hb hw (by omega) (isV_6 hV) rfl (by omega) (by decide) dX1_nextLook_52 ?_
        have hL7 := hB (52 + k)
        refine lv_iload hx hb dX1_nextLook_53 (lv_at hl 6 rfl) ?_
        refine nr_goS (nr_runS (As := [.int (nI kd), .int (nI (V (52 + k))), .int (nI d)]) ⟨hx, hb, hml, hown, hts⟩ hw (c_X2_weight l Γ n Gl32 kd (V (52 + k)) d (by omega) (by omega) (by omega)) (va_cwS 3 hts gX1_nextLook_X2_weight rfl rfl rfl (by decide +kernel) ⟨Nat.le_of_ble_eq_true rfl, Nat.le_of_ble_eq_true rfl⟩) rfl hl.1 rfl (Nat.le_of_ble_eq_true rfl) dX1_nextLook_55 ⟨Nat.zero_le _, Nat.zero_le _⟩) (fun r8 hr8 => ?_)
        obtain rfl : r8 = (nI (sWeight kd (V (52 + k)) d)) := hr8
        refine nr_iast (k := kd) (v := sWeight kd (V (52 + k)) d) hx hb hw hj hA hS (by omega) (isGs_1 hGs) (by omega) (by decide) dX1_nextLook_58 (fun H locs hw hS => ?_)
        obtain ⟨G9, hw, hGs, hf9⟩ := nGs_c1 hGs (va_up vsL32 kd (sWeight kd (V (52 + k)) d)) hw
        have hV := isV_fr hV hf9 (by omega)
        have hfr := fr_tr hfr hf9 (by omega) (by omega)
        refine nr_inc (d := 1) (k := 7) (lv' := [(7, .int (nI (kd + 1))), (0, .ref (ad Γ (gs + 0))), (1, .ref (ad Γ (b + 0))), (2, .int (nI k)), (3, .int (nI (wkinds V k))), (4, .int bs), (5, .int (nI lo)), (6, .int (nI d))]) hx hb dX1_nextLook_59 hl rfl (by decide) (by decide) rfl (fun ls hl => ?_)
        refine lv_goto (tgt := 32) hx hb dX1_nextLook_62 (by decide) ?_
        exact ih32 (G9, kd + 1, va_up vsL32 kd (sWeight kd (V (52 + k)) d)) _ _ _ _ hw hS (lv_sub hl [1, 2, 3, 4, 5, 6, 7, 0] rfl) ⟨rfl, hGs, hV, hfr, by (try dsimp only); omega, by (try dsimp only); exact (fun j => by
          by_cases q : j = kd
          · rw [q, va_up_self]; omega
          · rw [va_up_ne _ _ q]; exact hvs3 j), by (try dsimp only); exact (fun j hj => by
          by_cases q : j = kd
          · rw [q, va_up_self]
          · rw [va_up_ne _ _ q]; exact htv j (by omega))⟩ (by (try dsimp only); omega)
  · refine lv_iconst (v := (-1)) hx hb dX1_nextLook_10 (by decide) ?_
    exact nr_retI hx hb hr hlocks hw hS (⟨by first | exact Or.inl ⟨by assumption, rfl⟩ | exact Or.inr ⟨by assumption, lo, by rw [show 31 = d by omega]; exact hm⟩, _, by assumption, hGs, hfr⟩) dX1_nextLook_11
theorem wl_X1_nextAsk_1 : Cond.fieldLink RX1 9 "BellForgiven$Guess" "values" "[I" ∈ wsX1_nextAsk := List.mem_of_getElem? (i := 1) rfl
theorem hi_X1_nextAsk_X1 : ∀ w ∈ u_ws RX1 TX1 1, w ∈ wsX1_nextAsk := fun w h => (List.mem_cons_of_mem _ (List.mem_append_left _ (List.mem_append_left _ (List.mem_append_right _ h))))
set_option maxHeartbeats 4000000 in
set_option maxRecDepth 100000 in
theorem c_X1_nextAsk (l : Launch) (Γ : Gam) (n : Nat) (G : Nat → va_E) (gs b : Nat) (vs V : Nat → Nat) (hGs : isGs Γ G gs vs) (hV : isV Γ G b V) (hn_gs : gs + 2 ≤ n) (hn_b : b + 16 ≤ n) (hj : winj Γ n) (i : Nat) (hI : vI V) (hi : i < 8) (hvs : ∀ j, vs j < 2147483648) (hdis : b + 16 ≤ gs ∨ gs + 2 ≤ b)  : Met l yX1_nextAsk wsX1_nextAsk ({ frames := 3, cells := 0, slots := 0, locals := 70 }) (va_Pc [.ref (ad Γ (gs + 0)), .ref (ad Γ (b + 0)), .int (nI i)] (fun U => hw Γ n G U U.heap)) (wQi Γ n (fun z G2 => (askM V i 100 z) ∧ (∃ vs2 : Nat → Nat, (∀ j, vs2 j < 2147483648) ∧ isGs Γ G2 gs vs2 ∧ fr G G2 (gs + 0) (gs + 2)))) 0 0 (wA Γ n) := by
  refine Met.ofW (cc := cX1_nextAsk) (maxL := 9) (ret := (some .int)) (by decide) rfl ?_
  intro p e s m args below meth c s₁ B hml hv
  obtain ⟨rfl, hw⟩ := hv
  have hx := B.exec
  have hb := B.bytes
  have hr := B.returns
  have hts := atoms_spec (ws := wsX1_nextAsk) B.pre
  have hown : s.vm.findClass RX1 = some m.cls := findClass_of_methodNamed B.named
  have hlocks := B.notSynchronized
  have hS : va_S (wA Γ n) s.heap s.heap [] := va_S.rf
  have hA : ∀ q, wA Γ n q → wA Γ n q := fun _ h => h
  have hl := lv_entry ([.ref (ad Γ (gs + 0)), .ref (ad Γ (b + 0)), .int (nI i)]) (n := 9) (Nat.le_of_ble_eq_true rfl)
  rw [lg_entry_eq]
  generalize (lg_sl ([.ref (ad Γ (gs + 0)), .ref (ad Γ (b + 0)), .int (nI i)]) ++ List.replicate (9 - (lg_sl ([.ref (ad Γ (gs + 0)), .ref (ad Γ (b + 0)), .int (nI i)])).length) Slot.unset).toArray = ls at hl ⊢
  have hl : lv_has ls 9 [(0, .ref (ad Γ (gs + 0))), (1, .ref (ad Γ (b + 0))), (2, .int (nI i))] := hl
  have hfr := fr_rf G (gs + 0) (gs + 2)
  have hB := hI.1
  have hB0 := hI.2.1
  have hB1 := hI.2.2.1
  have hB20 := hI.2.2.2.2.2.2.2.2.2
  have hBz2 := hI.2.2.2.1
  have hBz3 := hI.2.2.2.2.1
  have hBz4 := hI.2.2.2.2.2.1
  have hBz5 := hI.2.2.2.2.2.2.1
  have hBd := hB 21
  have hwl1 := (show pkinds V i < 64 from bitsOf_lt _ 6)
  refine lv_aload_n hx hb dX1_nextAsk_0 rfl (lv_at hl 1 rfl) ?_
  refine lv_iload_n hx hb dX1_nextAsk_1 rfl (lv_at hl 2 rfl) ?_
  refine nr_goS (nr_runS (As := [.ref (ad Γ (b + 0)), .int (nI i)]) ⟨hx, hb, hml, hown, hts⟩ hw (c_X1_peopleKinds l Γ n G b V hV (by assumption) (by omega) i (by omega)) (va_cwS 2 hts gX1_nextAsk_X1_peopleKinds rfl rfl rfl (by decide +kernel) ⟨Nat.le_of_ble_eq_true rfl, Nat.le_of_ble_eq_true rfl⟩) rfl hl.1 rfl (Nat.le_of_ble_eq_true rfl) dX1_nextAsk_2 ⟨Nat.zero_le _, Nat.zero_le _⟩) (fun r1 hr1 => ?_)
  obtain rfl : r1 = (nI (pkinds V i)) := hr1
  refine lv_istore_n (lv' := [(3, .int (nI (pkinds V i))), (0, .ref (ad Γ (gs + 0))), (1, .ref (ad Γ (b + 0))), (2, .int (nI i))]) hx hb dX1_nextAsk_5 rfl hl (by decide) rfl (fun ls hl => ?_)
  refine lv_iload_n hx hb dX1_nextAsk_6 rfl (lv_at hl 0 rfl) ?_
  refine nr_if_ne (tgt := 12) hx hb (by omega) dX1_nextAsk_7 (by decide) (fun c2 => ?_) (fun c2 => ?_)
  · refine lv_iconst (v := (-1)) hx hb dX1_nextAsk_12 (by decide) ?_
    refine lv_istore (lv' := [(4, .int (-1)), (3, .int (nI (pkinds V i))), (0, .ref (ad Γ (gs + 0))), (1, .ref (ad Γ (b + 0))), (2, .int (nI i))]) hx hb dX1_nextAsk_13 hl (by decide) rfl (fun ls hl => ?_)
    refine lv_bipush (v := nI 100) hx hb dX1_nextAsk_15 (by decide) ?_
    refine lv_istore (lv' := [(5, .int (nI 100)), (4, .int (-1)), (3, .int (nI (pkinds V i))), (0, .ref (ad Γ (gs + 0))), (1, .ref (ad Γ (b + 0))), (2, .int (nI i))]) hx hb dX1_nextAsk_17 hl (by decide) rfl (fun ls hl => ?_)
    refine lv_iconst (v := nI 0) hx hb dX1_nextAsk_19 (by decide) ?_
    refine lv_istore (lv' := [(6, .int (nI 0)), (5, .int (nI 100)), (4, .int (-1)), (3, .int (nI (pkinds V i))), (0, .ref (ad Γ (gs + 0))), (1, .ref (ad Γ (b + 0))), (2, .int (nI i))]) hx hb dX1_nextAsk_20 hl (by decide) rfl (fun ls hl => ?_)
    refine nr_lpI (σ := (Nat → va_E) × Nat × Nat × Int32 × (Nat → Nat)) 22 (fun x => x.1) (fun x lv => lv = [(0, .ref (ad Γ (gs + 0))), (1, .ref (ad Γ (b + 0))), (2, .int (nI i)), (3, .int (nI (pkinds V i))), (4, .int x.2.2.2.1), (5, .int (nI x.2.2.1)), (6, .int (nI x.2.1))] ∧ isGs Γ x.1 gs x.2.2.2.2 ∧ isV Γ x.1 b V ∧ fr G x.1 (gs + 0) (gs + 2) ∧ (x.2.1 ≤ 6) ∧ (amin (askF V i) (tOut 31) 100 (31 * x.2.1) x.2.2.1 x.2.2.2.1) ∧ (x.2.2.1 ≤ 100) ∧ (∀ j, x.2.2.2.2 j < 2147483648)) (fun x => 6 - x.2.1) (G, 0, 100, (-1), vs) hw hS (lv_sub hl [4, 5, 6, 3, 2, 1, 0] rfl) ⟨rfl, hGs, hV, hfr, by (try dsimp only); omega, amin_0 _ _ _, by (try dsimp only); omega, by (try dsimp only); exact (hvs)⟩ ?_
    intro x lv ls H locs hw hS hl hI ih22
    obtain ⟨Gl22, r, lo, bs, vsL22⟩ := x
    obtain ⟨rfl, hGs, hV, hfr, hr6, hm, hlo, hvs2⟩ := hI
    try dsimp only at hGs hV hfr hr6 hm hlo hvs2 hw hl ih22
    refine lv_iload hx hb dX1_nextAsk_22 (lv_at hl 6 rfl) ?_
    refine lv_iconst (v := nI 5) hx hb dX1_nextAsk_24 (by decide) ?_
    refine nr_icmp_gt (tgt := 110) hx hb (by omega) (by decide) dX1_nextAsk_25 (by decide) (fun c3 => ?_) (fun c3 => ?_)
    · refine lv_iload hx hb dX1_nextAsk_110 (lv_at hl 4 rfl) ?_
      exact nr_retI hx hb hr hlocks hw hS (⟨by first | exact Or.inl ⟨by assumption, rfl⟩ | exact Or.inr ⟨by assumption, lo, by rw [show 186 = 31 * r by omega]; exact hm⟩, _, by assumption, hGs, hfr⟩) dX1_nextAsk_112
    · refine lv_iconst (v := nI 0) hx hb dX1_nextAsk_28 (by decide) ?_
      refine lv_istore (lv' := [(7, .int (nI 0)), (0, .ref (ad Γ (gs + 0))), (1, .ref (ad Γ (b + 0))), (2, .int (nI i)), (3, .int (nI (pkinds V i))), (4, .int bs), (5, .int (nI lo)), (6, .int (nI r))]) hx hb dX1_nextAsk_29 hl (by decide) rfl (fun ls hl => ?_)
      refine nr_lpI (σ := (Nat → va_E) × Nat × Nat × Int32 × (Nat → Nat)) 31 (fun x => x.1) (fun x lv => lv = [(0, .ref (ad Γ (gs + 0))), (1, .ref (ad Γ (b + 0))), (2, .int (nI i)), (3, .int (nI (pkinds V i))), (4, .int x.2.2.2.1), (5, .int (nI x.2.2.1)), (6, .int (nI r)), (7, .int (nI x.2.1))] ∧ isGs Γ x.1 gs x.2.2.2.2 ∧ isV Γ x.1 b V ∧ fr G x.1 (gs + 0) (gs + 2) ∧ (x.2.1 ≤ 31) ∧ (amin (askF V i) (tOut 31) 100 (31 * r + x.2.1) x.2.2.1 x.2.2.2.1) ∧ (x.2.2.1 ≤ 100) ∧ (∀ j, x.2.2.2.2 j < 2147483648)) (fun x => 31 - x.2.1) (Gl22, 0, lo, bs, vsL22) hw hS (lv_sub hl [1, 2, 3, 4, 5, 6, 7, 0] rfl) ⟨rfl, hGs, hV, hfr, by (try dsimp only); omega, by (try dsimp only); rw [Nat.add_zero]; exact hm, by (try dsimp only); omega, by (try dsimp only); exact (hvs2)⟩ ?_
      intro x lv ls H locs hw hS hl hI ih31
      obtain ⟨Gl31, t, lo2, bs2, vsL31⟩ := x
      obtain ⟨rfl, hGs, hV, hfr, ht31, hm2, hlo2, hvs5⟩ := hI
      try dsimp only at hGs hV hfr ht31 hm2 hlo2 hvs5 hw hl ih31
      refine lv_iload hx hb dX1_nextAsk_31 (lv_at hl 7 rfl) ?_
      refine lv_bipush (v := nI 30) hx hb dX1_nextAsk_33 (by decide) ?_
      refine nr_icmp_gt (tgt := 104) hx hb (by omega) (by decide) dX1_nextAsk_35 (by decide) (fun c4 => ?_) (fun c4 => ?_)
      · refine nr_inc (d := 1) (k := 6) (lv' := [(6, .int (nI (r + 1))), (0, .ref (ad Γ (gs + 0))), (1, .ref (ad Γ (b + 0))), (2, .int (nI i)), (3, .int (nI (pkinds V i))), (4, .int bs2), (5, .int (nI lo2)), (7, .int (nI t))]) hx hb dX1_nextAsk_104 hl rfl (by decide) (by decide) rfl (fun ls hl => ?_)
        refine lv_goto (tgt := 22) hx hb dX1_nextAsk_107 (by decide) ?_
        exact ih22 (Gl31, r + 1, lo2, bs2, vsL31) _ _ _ _ hw hS (lv_sub hl [1, 2, 3, 4, 5, 6, 0] rfl) ⟨rfl, hGs, hV, hfr, by (try dsimp only); omega, by (try dsimp only); rw [show 31 * (r + 1) = 31 * r + t by omega]; exact hm2, by (try dsimp only); omega, by (try dsimp only); exact (hvs5)⟩ (by (try dsimp only); omega)
      · refine lv_iconst (v := nI 0) hx hb dX1_nextAsk_38 (by decide) ?_
        refine lv_istore (lv' := [(8, .int (nI 0)), (0, .ref (ad Γ (gs + 0))), (1, .ref (ad Γ (b + 0))), (2, .int (nI i)), (3, .int (nI (pkinds V i))), (4, .int bs2), (5, .int (nI lo2)), (6, .int (nI r)), (7, .int (nI t))]) hx hb dX1_nextAsk_39 hl (by decide) rfl (fun ls hl => ?_)
        refine nr_lpI (σ := (Nat → va_E) × Nat × (Nat → Nat)) 41 (fun x => x.1) (fun x lv => lv = [(0, .ref (ad Γ (gs + 0))), (1, .ref (ad Γ (b + 0))), (2, .int (nI i)), (3, .int (nI (pkinds V i))), (4, .int bs2), (5, .int (nI lo2)), (6, .int (nI r)), (7, .int (nI t)), (8, .int (nI x.2.1))] ∧ isGs Γ x.1 gs x.2.2 ∧ isV Γ x.1 b V ∧ fr G x.1 (gs + 0) (gs + 2) ∧ (x.2.1 ≤ 6) ∧ (∀ j, x.2.2 j < 2147483648) ∧ (∀ j, j < x.2.1 → x.2.2 j = sMercy j r t)) (fun x => 6 - x.2.1) (Gl31, 0, vsL31) hw hS (lv_sub hl [1, 2, 3, 4, 5, 6, 7, 8, 0] rfl) ⟨rfl, hGs, hV, hfr, by (try dsimp only); omega, by (try dsimp only); exact (hvs5), by (try dsimp only); exact (fun j hj => absurd hj (Nat.not_lt_zero j))⟩ ?_
        intro x lv ls H locs hw hS hl hI ih41
        obtain ⟨Gl41, kd, vsL41⟩ := x
        obtain ⟨rfl, hGs, hV, hfr, hkd, hvs3, htv⟩ := hI
        try dsimp only at hGs hV hfr hkd hvs3 htv hw hl ih41
        have hWl := sMercy_le kd r t
        refine lv_iload hx hb dX1_nextAsk_41 (lv_at hl 8 rfl) ?_
        refine lv_bipush (v := nI 6) hx hb dX1_nextAsk_43 (by decide) ?_
        refine nr_icmp_ge (tgt := 70) hx hb (by omega) (by decide) dX1_nextAsk_45 (by decide) (fun c5 => ?_) (fun c5 => ?_)
        · have hlf : askF V i (31 * r + t) = most vsL41 (pkinds V i) 6 := by unfold askF; rw [show (31 * r + t) / 31 = r by omega, show (31 * r + t) % 31 = t by omega]; exact most_cong (fun j hj => (htv j (by omega)).symm) (Nat.le_refl _)
          have hmo9 := most_le vsL41 (pkinds V i) 6
          refine lv_aload_n hx hb dX1_nextAsk_70 rfl (lv_at hl 0 rfl) ?_
          refine lv_iload_n hx hb dX1_nextAsk_71 rfl (lv_at hl 3 rfl) ?_
          refine nr_goS (nr_runV (As := [.int (nI (pkinds V i))]) (C := RX1) (T := TX1) (N := 1) ⟨hx, hb, hml, hown, hts⟩ hw (by omega) (isGs_0 hGs) rfl (c_X1_mostAlike l Γ n Gl41 (gs + 0) (gs + 1) vsL41 (isGs_0 hGs) (isGs_1 hGs) (by omega) (by omega) (by assumption) (pkinds V i) (by omega)) (cwV 1 hts gX1_nextAsk_X1_mostAlike rfl rfl rfl (by decide +kernel) ⟨Nat.le_of_ble_eq_true rfl, Nat.le_of_ble_eq_true rfl⟩) rfl hl.1 rfl (Nat.le_of_ble_eq_true rfl) dX1_nextAsk_72 ⟨Nat.zero_le _, Nat.zero_le _⟩) (fun r6 hr6 => ?_)
          obtain rfl : r6 = (nI (most vsL41 (pkinds V i) 6)) := hr6
          refine lv_istore (lv' := [(8, .int (nI (most vsL41 (pkinds V i) 6))), (0, .ref (ad Γ (gs + 0))), (1, .ref (ad Γ (b + 0))), (2, .int (nI i)), (3, .int (nI (pkinds V i))), (4, .int bs2), (5, .int (nI lo2)), (6, .int (nI r)), (7, .int (nI t))]) hx hb dX1_nextAsk_75 hl (by decide) rfl (fun ls hl => ?_)
          refine lv_iload hx hb dX1_nextAsk_77 (lv_at hl 0 rfl) ?_
          refine lv_iload hx hb dX1_nextAsk_79 (lv_at hl 6 rfl) ?_
          refine nr_icmp_ge (tgt := 98) hx hb (by omega) (by omega) dX1_nextAsk_81 (by decide) (fun c7 => ?_) (fun c7 => ?_)
          · refine nr_inc (d := 1) (k := 8) (lv' := [(7, .int (nI (t + 1))), (8, .int (nI (most vsL41 (pkinds V i) 6))), (0, .ref (ad Γ (gs + 0))), (1, .ref (ad Γ (b + 0))), (2, .int (nI i)), (3, .int (nI (pkinds V i))), (4, .int bs2), (5, .int (nI lo2)), (6, .int (nI r))]) hx hb dX1_nextAsk_98 hl rfl (by decide) (by decide) rfl (fun ls hl => ?_)
            refine lv_goto (tgt := 31) hx hb dX1_nextAsk_101 (by decide) ?_
            exact ih31 (Gl41, t + 1, lo2, bs2, vsL41) _ _ _ _ hw hS (lv_sub hl [2, 3, 4, 5, 6, 7, 8, 0] rfl) ⟨rfl, hGs, hV, hfr, by (try dsimp only); omega, by (try dsimp only); first | (have h9 := amin_y hm2 (show askF V i (31 * r + t) < lo2 by rw [hlf]; assumption); rw [hlf, tOut_at (by omega)] at h9; exact h9) | exact amin_n hm2 (show askF V i (31 * r + t) < 100 by rw [hlf]; omega) (show ¬ askF V i (31 * r + t) < lo2 by rw [hlf]; omega), by (try dsimp only); omega, by (try dsimp only); exact (hvs3)⟩ (by (try dsimp only); omega)
          · refine lv_iload hx hb dX1_nextAsk_84 (lv_at hl 0 rfl) ?_
            refine lv_istore (lv' := [(5, .int (nI (most vsL41 (pkinds V i) 6))), (8, .int (nI (most vsL41 (pkinds V i) 6))), (0, .ref (ad Γ (gs + 0))), (1, .ref (ad Γ (b + 0))), (2, .int (nI i)), (3, .int (nI (pkinds V i))), (4, .int bs2), (6, .int (nI r)), (7, .int (nI t))]) hx hb dX1_nextAsk_86 hl (by decide) rfl (fun ls hl => ?_)
            refine lv_bipush (v := nI 100) hx hb dX1_nextAsk_88 (by decide) ?_
            refine lv_iload hx hb dX1_nextAsk_90 (lv_at hl 7 rfl) ?_
            refine nr_imul hx hb dX1_nextAsk_92 ?_
            refine lv_iload hx hb dX1_nextAsk_93 (lv_at hl 8 rfl) ?_
            refine nr_iadd hx hb dX1_nextAsk_95 ?_
            refine lv_istore (lv' := [(4, .int (nI (100 * r + t))), (5, .int (nI (most vsL41 (pkinds V i) 6))), (8, .int (nI (most vsL41 (pkinds V i) 6))), (0, .ref (ad Γ (gs + 0))), (1, .ref (ad Γ (b + 0))), (2, .int (nI i)), (3, .int (nI (pkinds V i))), (6, .int (nI r)), (7, .int (nI t))]) hx hb dX1_nextAsk_96 hl (by decide) rfl (fun ls hl => ?_)
            refine nr_inc (d := 1) (k := 8) (lv' := [(7, .int (nI (t + 1))), (4, .int (nI (100 * r + t))), (5, .int (nI (most vsL41 (pkinds V i) 6))), (8, .int (nI (most vsL41 (pkinds V i) 6))), (0, .ref (ad Γ (gs + 0))), (1, .ref (ad Γ (b + 0))), (2, .int (nI i)), (3, .int (nI (pkinds V i))), (6, .int (nI r))]) hx hb dX1_nextAsk_98 hl rfl (by decide) (by decide) rfl (fun ls hl => ?_)
            refine lv_goto (tgt := 31) hx hb dX1_nextAsk_101 (by decide) ?_
            exact ih31 (Gl41, t + 1, most vsL41 (pkinds V i) 6, (nI (100 * r + t)), vsL41) _ _ _ _ hw hS (lv_sub hl [4, 5, 6, 7, 1, 2, 8, 0] rfl) ⟨rfl, hGs, hV, hfr, by (try dsimp only); omega, by (try dsimp only); first | (have h9 := amin_y hm2 (show askF V i (31 * r + t) < lo2 by rw [hlf]; assumption); rw [hlf, tOut_at (by omega)] at h9; exact h9) | exact amin_n hm2 (show askF V i (31 * r + t) < 100 by rw [hlf]; omega) (show ¬ askF V i (31 * r + t) < lo2 by rw [hlf]; omega), by (try dsimp only); omega, by (try dsimp only); exact (hvs3)⟩ (by (try dsimp only); omega)
        · refine lv_aload_n hx hb dX1_nextAsk_48 rfl (lv_at hl 0 rfl) ?_
          refine nr_get (own := RX1) (C := RX1) (T := TX1) (N := 1) (v := .ref (ad Γ (gs + 1))) hx hb hts hi_X1_nextAsk_X1 hown hw (by omega) (isGs_0 hGs) rfl 0 (by decide) wl_X1_nextAsk_1 rfl rfl dX1_nextAsk_49 ?_
          refine lv_iload hx hb dX1_nextAsk_52 (lv_at hl 8 rfl) ?_
          refine lv_iload hx hb dX1_nextAsk_54 (lv_at hl 8 rfl) ?_
          refine lv_iload hx hb dX1_nextAsk_56 (lv_at hl 6 rfl) ?_
          refine lv_iload hx hb dX1_nextAsk_58 (lv_at hl 7 rfl) ?_
          refine nr_goS (nr_runS (As := [.int (nI kd), .int (nI r), .int (nI t)]) ⟨hx, hb, hml, hown, hts⟩ hw (c_X2_mercy l Γ n Gl41 kd r t (by omega) (by omega) (by omega)) (va_cwS 3 hts gX1_nextAsk_X2_mercy rfl rfl rfl (by decide +kernel) ⟨Nat.le_of_ble_eq_true rfl, Nat.le_of_ble_eq_true rfl⟩) rfl hl.1 rfl (Nat.le_of_ble_eq_true rfl) dX1_nextAsk_60 ⟨Nat.zero_le _, Nat.zero_le _⟩) (fun r8 hr8 => ?_)
          obtain rfl : r8 = (nI (sMercy kd r t)) := hr8
          refine nr_iast (k := kd) (v := sMercy kd r t) hx hb hw hj hA hS (by omega) (isGs_1 hGs) (by omega) (by decide) dX1_nextAsk_63 (fun H locs hw hS => ?_)
          obtain ⟨G9, hw, hGs, hf9⟩ := nGs_c1 hGs (va_up vsL41 kd (sMercy kd r t)) hw
          have hV := isV_fr hV hf9 (by omega)
          have hfr := fr_tr hfr hf9 (by omega) (by omega)
          refine nr_inc (d := 1) (k := 8) (lv' := [(8, .int (nI (kd + 1))), (0, .ref (ad Γ (gs + 0))), (1, .ref (ad Γ (b + 0))), (2, .int (nI i)), (3, .int (nI (pkinds V i))), (4, .int bs2), (5, .int (nI lo2)), (6, .int (nI r)), (7, .int (nI t))]) hx hb dX1_nextAsk_64 hl rfl (by decide) (by decide) rfl (fun ls hl => ?_)
          refine lv_goto (tgt := 41) hx hb dX1_nextAsk_67 (by decide) ?_
          exact ih41 (G9, kd + 1, va_up vsL41 kd (sMercy kd r t)) _ _ _ _ hw hS (lv_sub hl [1, 2, 3, 4, 5, 6, 7, 8, 0] rfl) ⟨rfl, hGs, hV, hfr, by (try dsimp only); omega, by (try dsimp only); exact (fun j => by
          by_cases q : j = kd
          · rw [q, va_up_self]; omega
          · rw [va_up_ne _ _ q]; exact hvs3 j), by (try dsimp only); exact (fun j hj => by
          by_cases q : j = kd
          · rw [q, va_up_self]
          · rw [va_up_ne _ _ q]; exact htv j (by omega))⟩ (by (try dsimp only); omega)
  · refine lv_iconst (v := (-1)) hx hb dX1_nextAsk_10 (by decide) ?_
    exact nr_retI hx hb hr hlocks hw hS (⟨by first | exact Or.inl ⟨by assumption, rfl⟩ | exact Or.inr ⟨by assumption, lo, by rw [show 186 = 31 * r by omega]; exact hm⟩, _, by assumption, hGs, hfr⟩) dX1_nextAsk_11
theorem wl_X0_set_1 : Cond.fieldLink RX0 53 "BellForgiven$Chance" "above" "J" ∈ wsX0_set := List.mem_of_getElem? (i := 1) rfl
theorem wl_X0_set_2 : Cond.fieldLink RX0 9 "BellForgiven$Chance" "below" "J" ∈ wsX0_set := List.mem_of_getElem? (i := 2) rfl
theorem hi_X0_set_X0 : ∀ w ∈ u_ws RX0 TX0 2, w ∈ wsX0_set := fun w h => (List.mem_cons_of_mem _ (List.mem_append_right _ h))
set_option maxHeartbeats 4000000 in
set_option maxRecDepth 100000 in
theorem c_X0_set (l : Launch) (Γ : Gam) (n : Nat) (G : Nat → va_E) (ch : Nat) (cv : Nat → Nat) (hCh : isCh Γ G ch cv) (hn_ch : ch + 1 ≤ n) (hj : winj Γ n) (ga al : Nat) (hga : ga < 4611686018427387904) (hal : al < 4611686018427387904) (hp0 : 0 < al)  : Met l yX0_set wsX0_set ({ frames := 1, cells := 0, slots := 0, locals := 30 }) (va_Pc [.ref (ad Γ (ch + 0)), .long (lN ga), .long (lN al)] (fun U => hw Γ n G U U.heap)) (wQv Γ n (fun G2 => isCh Γ G2 ch (fracC cv ga al) ∧ fr G G2 (ch + 0) (ch + 1))) 0 0 (wA Γ n) := by
  refine Met.ofW (cc := cX0_set) (maxL := 7) (ret := none) (by decide) rfl ?_
  intro p e s m args below meth c s₁ B hml hv
  obtain ⟨rfl, hw⟩ := hv
  have hx := B.exec
  have hb := B.bytes
  have hr := B.returns
  have hts := atoms_spec (ws := wsX0_set) B.pre
  have hown : s.vm.findClass RX0 = some m.cls := findClass_of_methodNamed B.named
  have hlocks := B.notSynchronized
  have hS : va_S (wA Γ n) s.heap s.heap [] := va_S.rf
  have hA : ∀ q, wA Γ n q → wA Γ n q := fun _ h => h
  have hl := lv_entry ([.ref (ad Γ (ch + 0)), .long (lN ga), .long (lN al)]) (n := 7) (Nat.le_of_ble_eq_true rfl)
  rw [lg_entry_eq]
  generalize (lg_sl ([.ref (ad Γ (ch + 0)), .long (lN ga), .long (lN al)]) ++ List.replicate (7 - (lg_sl ([.ref (ad Γ (ch + 0)), .long (lN ga), .long (lN al)])).length) Slot.unset).toArray = ls at hl ⊢
  have hl : lv_has ls 7 [(0, .ref (ad Γ (ch + 0))), (1, .long (lN ga)), (3, .long (lN al))] := hl
  have hfr := fr_rf G (ch + 0) (ch + 1)
  have hgp := gcd_p (a := ga) hp0
  have hgl : Nat.gcd ga al ≤ al := Nat.gcd_le_right _ hp0
  refine lv_lload_n hx hb dX0_set_0 rfl (lv_at hl 1 rfl) ?_
  refine lv_lload_n hx hb dX0_set_1 rfl (lv_at hl 2 rfl) ?_
  refine nr_goL (nr_runS (As := [.long (lN ga), .long (lN al)]) ⟨hx, hb, hml, hown, hts⟩ hw (c_X0_greatestDivisor l Γ n G ga al (by omega) (by omega)) (va_cwS 2 hts gX0_set_X0_greatestDivisor rfl rfl rfl (by decide +kernel) ⟨Nat.le_of_ble_eq_true rfl, Nat.le_of_ble_eq_true rfl⟩) rfl hl.1 rfl (Nat.le_of_ble_eq_true rfl) dX0_set_2 ⟨Nat.zero_le _, Nat.zero_le _⟩) (fun r1 hr1 => ?_)
  obtain rfl : r1 = (lN (Nat.gcd ga al)) := hr1
  refine lv_lstore (lv' := [(5, .long (lN (Nat.gcd ga al))), (0, .ref (ad Γ (ch + 0))), (1, .long (lN ga)), (3, .long (lN al))]) hx hb dX0_set_5 hl (by decide) rfl (fun ls hl => ?_)
  refine lv_aload_n hx hb dX0_set_7 rfl (lv_at hl 1 rfl) ?_
  refine lv_lload hx hb dX0_set_8 (lv_at hl 0 rfl) ?_
  refine lv_lconst (v := lN 1) hx hb dX0_set_10 rfl ?_
  refine W.lcmp hx hb dX0_set_11 ?_
  refine lv_if_le (tgt := 22) hx hb dX0_set_12 (by decide) (fun c2 => ?_) (fun c2 => ?_)
  · refine lv_lload_n hx hb dX0_set_22 rfl (lv_at hl 2 rfl) ?_
    obtain ⟨w4, ew4⟩ : ∃ f, f = va_up cv 0 ga := ⟨_, rfl⟩
    refine nr_put (own := RX0) (C := RX0) (T := TX0) (N := 2) (ty := .long) (v := .long (lN ga)) (fs' := [.long (lN (w4 0)), .long (lN (w4 1))]) hx hb hts hi_X0_set_X0 tyX0 tyX0_ok nmX0 hown hw hj hA hS (by omega) (isCh_0 hCh) rfl 0 (by decide) wl_X0_set_1 rfl rfl (by decide +kernel) rfl rfl (Nat.le_of_ble_eq_true rfl) (by rw [ew4]; rfl) dX0_set_23 (fun H locs hw hS => ?_)
    subst ew4
    obtain ⟨G3, hw, hCh, hf3⟩ := nCh_c0 hCh (va_up cv 0 ga) hw
    have hfr := fr_tr hfr hf3 (by omega) (by omega)
    refine lv_aload_n hx hb dX0_set_26 rfl (lv_at hl 1 rfl) ?_
    refine lv_lload hx hb dX0_set_27 (lv_at hl 0 rfl) ?_
    refine lv_lconst (v := lN 1) hx hb dX0_set_29 rfl ?_
    refine W.lcmp hx hb dX0_set_30 ?_
    refine lv_if_le (tgt := 41) hx hb dX0_set_31 (by decide) (fun c5 => ?_) (fun c5 => ?_)
    · refine lv_lload_n hx hb dX0_set_41 rfl (lv_at hl 3 rfl) ?_
      obtain ⟨w7, ew7⟩ : ∃ f, f = va_up (va_up cv 0 ga) 1 al := ⟨_, rfl⟩
      refine nr_put (own := RX0) (C := RX0) (T := TX0) (N := 2) (ty := .long) (v := .long (lN al)) (fs' := [.long (lN (w7 0)), .long (lN (w7 1))]) hx hb hts hi_X0_set_X0 tyX0 tyX0_ok nmX0 hown hw hj hA hS (by omega) (isCh_0 hCh) rfl 1 (by decide) wl_X0_set_2 rfl rfl (by decide +kernel) rfl rfl (Nat.le_of_ble_eq_true rfl) (by rw [ew7]; rfl) dX0_set_42 (fun H locs hw hS => ?_)
      subst ew7
      obtain ⟨G6, hw, hCh, hf6⟩ := nCh_c0 hCh (va_up (va_up cv 0 ga) 1 al) hw
      have hfr := fr_tr hfr hf6 (by omega) (by omega)
      exact nr_retV hx hb hr hlocks hw hS (⟨by rw [show fracC cv ga al = va_up (va_up cv 0 ga) 1 al from (by unfold fracC; first | rfl | (rw [← div_g hgp (by first | (have := (lg_cmp_le _ _).mp (by assumption); have h9 := (pk_lLE (by omega) (by decide)).mp this; exact h9)), ← div_g hgp (by have := (lg_cmp_le _ _).mp (by assumption); exact (pk_lLE (by omega) (by decide)).mp this)]))]; exact hCh, hfr⟩) dX0_set_45
    · refine lv_lload_n hx hb dX0_set_34 rfl (lv_at hl 3 rfl) ?_
      refine lv_lload hx hb dX0_set_35 (lv_at hl 0 rfl) ?_
      refine nr_ldiv hx hb (by omega) (by omega) (by omega) dX0_set_37 ?_
      refine lv_goto (tgt := 42) hx hb dX0_set_38 (by decide) ?_
      obtain ⟨w9, ew9⟩ : ∃ f, f = va_up (va_up cv 0 ga) 1 (al / (Nat.gcd ga al)) := ⟨_, rfl⟩
      refine nr_put (own := RX0) (C := RX0) (T := TX0) (N := 2) (ty := .long) (v := .long (lN (al / (Nat.gcd ga al)))) (fs' := [.long (lN (w9 0)), .long (lN (w9 1))]) hx hb hts hi_X0_set_X0 tyX0 tyX0_ok nmX0 hown hw hj hA hS (by omega) (isCh_0 hCh) rfl 1 (by decide) wl_X0_set_2 rfl rfl (by decide +kernel) rfl rfl (Nat.le_of_ble_eq_true rfl) (by rw [ew9]; rfl) dX0_set_42 (fun H locs hw hS => ?_)
      subst ew9
      obtain ⟨G8, hw, hCh, hf8⟩ := nCh_c0 hCh (va_up (va_up cv 0 ga) 1 (al / (Nat.gcd ga al))) hw
      have hfr := fr_tr hfr hf8 (by omega) (by omega)
      exact nr_retV hx hb hr hlocks hw hS (⟨by rw [show fracC cv ga al = va_up (va_up cv 0 ga) 1 (al / (Nat.gcd ga al)) from (by unfold fracC; first | rfl | (rw [← div_g hgp (by first | (have := (lg_cmp_le _ _).mp (by assumption); have h9 := (pk_lLE (by omega) (by decide)).mp this; exact h9)), ← div_g hgp (by have := (lg_cmp_le _ _).mp (by assumption); exact (pk_lLE (by omega) (by decide)).mp this)]))]; exact hCh, hfr⟩) dX0_set_45
  · refine lv_lload_n hx hb dX0_set_15 rfl (lv_at hl 2 rfl) ?_
    refine lv_lload hx hb dX0_set_16 (lv_at hl 0 rfl) ?_
    refine nr_ldiv hx hb (by omega) (by omega) (by omega) dX0_set_18 ?_
    refine lv_goto (tgt := 23) hx hb dX0_set_19 (by decide) ?_
    obtain ⟨w11, ew11⟩ : ∃ f, f = va_up cv 0 (ga / (Nat.gcd ga al)) := ⟨_, rfl⟩
    refine nr_put (own := RX0) (C := RX0) (T := TX0) (N := 2) (ty := .long) (v := .long (lN (ga / (Nat.gcd ga al)))) (fs' := [.long (lN (w11 0)), .long (lN (w11 1))]) hx hb hts hi_X0_set_X0 tyX0 tyX0_ok nmX0 hown hw hj hA hS (by omega) (isCh_0 hCh) rfl 0 (by decide) wl_X0_set_1 rfl rfl (by decide +kernel) rfl rfl (Nat.le_of_ble_eq_true rfl) (by rw [ew11]; rfl) dX0_set_23 (fun H locs hw hS => ?_)
    subst ew11
    obtain ⟨G10, hw, hCh, hf10⟩ := nCh_c0 hCh (va_up cv 0 (ga / (Nat.gcd ga al))) hw
    have hfr := fr_tr hfr hf10 (by omega) (by omega)
    refine lv_aload_n hx hb dX0_set_26 rfl (lv_at hl 1 rfl) ?_
    refine lv_lload hx hb dX0_set_27 (lv_at hl 0 rfl) ?_
    refine lv_lconst (v := lN 1) hx hb dX0_set_29 rfl ?_
    refine W.lcmp hx hb dX0_set_30 ?_
    refine lv_if_le (tgt := 41) hx hb dX0_set_31 (by decide) (fun c12 => ?_) (fun c12 => ?_)
    · refine lv_lload_n hx hb dX0_set_41 rfl (lv_at hl 3 rfl) ?_
      obtain ⟨w14, ew14⟩ : ∃ f, f = va_up (va_up cv 0 (ga / (Nat.gcd ga al))) 1 al := ⟨_, rfl⟩
      refine nr_put (own := RX0) (C := RX0) (T := TX0) (N := 2) (ty := .long) (v := .long (lN al)) (fs' := [.long (lN (w14 0)), .long (lN (w14 1))]) hx hb hts hi_X0_set_X0 tyX0 tyX0_ok nmX0 hown hw hj hA hS (by omega) (isCh_0 hCh) rfl 1 (by decide) wl_X0_set_2 rfl rfl (by decide +kernel) rfl rfl (Nat.le_of_ble_eq_true rfl) (by rw [ew14]; rfl) dX0_set_42 (fun H locs hw hS => ?_)
      subst ew14
      obtain ⟨G13, hw, hCh, hf13⟩ := nCh_c0 hCh (va_up (va_up cv 0 (ga / (Nat.gcd ga al))) 1 al) hw
      have hfr := fr_tr hfr hf13 (by omega) (by omega)
      exact nr_retV hx hb hr hlocks hw hS (⟨by rw [show fracC cv ga al = va_up (va_up cv 0 (ga / (Nat.gcd ga al))) 1 al from (by unfold fracC; first | rfl | (rw [← div_g hgp (by first | (have := (lg_cmp_le _ _).mp (by assumption); have h9 := (pk_lLE (by omega) (by decide)).mp this; exact h9)), ← div_g hgp (by have := (lg_cmp_le _ _).mp (by assumption); exact (pk_lLE (by omega) (by decide)).mp this)]))]; exact hCh, hfr⟩) dX0_set_45
    · refine lv_lload_n hx hb dX0_set_34 rfl (lv_at hl 3 rfl) ?_
      refine lv_lload hx hb dX0_set_35 (lv_at hl 0 rfl) ?_
      refine nr_ldiv hx hb (by omega) (by omega) (by omega) dX0_set_37 ?_
      refine lv_goto (tgt := 42) hx hb dX0_set_38 (by decide) ?_
      obtain ⟨w16, ew16⟩ : ∃ f, f = va_up (va_up cv 0 (ga / (Nat.gcd ga al))) 1 (al / (Nat.gcd ga al)) := ⟨_, rfl⟩
      refine nr_put (own := RX0) (C := RX0) (T := TX0) (N := 2) (ty := .long) (v := .long (lN (al / (Nat.gcd ga al)))) (fs' := [.long (lN (w16 0)), .long (lN (w16 1))]) hx hb hts hi_X0_set_X0 tyX0 tyX0_ok nmX0 hown hw hj hA hS (by omega) (isCh_0 hCh) rfl 1 (by decide) wl_X0_set_2 rfl rfl (by decide +kernel) rfl rfl (Nat.le_of_ble_eq_true rfl) (by rw [ew16]; rfl) dX0_set_42 (fun H locs hw hS => ?_)
      subst ew16
      obtain ⟨G15, hw, hCh, hf15⟩ := nCh_c0 hCh (va_up (va_up cv 0 (ga / (Nat.gcd ga al))) 1 (al / (Nat.gcd ga al))) hw
      have hfr := fr_tr hfr hf15 (by omega) (by omega)
      exact nr_retV hx hb hr hlocks hw hS (⟨by rw [show fracC cv ga al = va_up (va_up cv 0 (ga / (Nat.gcd ga al))) 1 (al / (Nat.gcd ga al)) from (by unfold fracC; first | rfl | (rw [← div_g hgp (by first | (have := (lg_cmp_le _ _).mp (by assumption); have h9 := (pk_lLE (by omega) (by decide)).mp this; exact h9)), ← div_g hgp (by have := (lg_cmp_le _ _).mp (by assumption); exact (pk_lLE (by omega) (by decide)).mp this)]))]; exact hCh, hfr⟩) dX0_set_45
theorem wl_X0_ofRust_1 : Cond.constantLong RX0 21 (10) ∈ wsX0_ofRust := List.mem_of_getElem? (i := 1) rfl
set_option maxHeartbeats 4000000 in
set_option maxRecDepth 100000 in
theorem c_X0_ofRust (l : Launch) (Γ : Gam) (n : Nat) (G : Nat → va_E) (ch b : Nat) (cv V : Nat → Nat) (hCh : isCh Γ G ch cv) (hV : isV Γ G b V) (hn_ch : ch + 1 ≤ n) (hn_b : b + 16 ≤ n) (hj : winj Γ n) (k ws c0 : Nat) (hI : vI V) (hk : k < 8) (hws : ws < 256) (hc0 : c0 ≤ 10) (hdis : b + 16 ≤ ch ∨ ch + 1 ≤ b)  : Met l yX0_ofRust wsX0_ofRust ({ frames := 5, cells := 0, slots := 0, locals := 120 }) (va_Pc [.ref (ad Γ (ch + 0)), .ref (ad Γ (b + 0)), .int (nI k), .int (nI ws), .int (nI c0)] (fun U => hw Γ n G U U.heap)) (wQv Γ n (fun G2 => isCh Γ G2 ch (fracC cv (sumC V k ws c0 (ws + 1)) (10 ^ pc8 ws)) ∧ fr G G2 (ch + 0) (ch + 1))) 0 0 (wA Γ n) := by
  refine Met.ofW (cc := cX0_ofRust) (maxL := 10) (ret := none) (by decide) rfl ?_
  intro p e s m args below meth c s₁ B hml hv
  obtain ⟨rfl, hw⟩ := hv
  have hx := B.exec
  have hb := B.bytes
  have hr := B.returns
  have hts := atoms_spec (ws := wsX0_ofRust) B.pre
  have hown : s.vm.findClass RX0 = some m.cls := findClass_of_methodNamed B.named
  have hlocks := B.notSynchronized
  have hS : va_S (wA Γ n) s.heap s.heap [] := va_S.rf
  have hA : ∀ q, wA Γ n q → wA Γ n q := fun _ h => h
  have hl := lv_entry ([.ref (ad Γ (ch + 0)), .ref (ad Γ (b + 0)), .int (nI k), .int (nI ws), .int (nI c0)]) (n := 10) (Nat.le_of_ble_eq_true rfl)
  rw [lg_entry_eq]
  generalize (lg_sl ([.ref (ad Γ (ch + 0)), .ref (ad Γ (b + 0)), .int (nI k), .int (nI ws), .int (nI c0)]) ++ List.replicate (10 - (lg_sl ([.ref (ad Γ (ch + 0)), .ref (ad Γ (b + 0)), .int (nI k), .int (nI ws), .int (nI c0)])).length) Slot.unset).toArray = ls at hl ⊢
  have hl : lv_has ls 10 [(0, .ref (ad Γ (ch + 0))), (1, .ref (ad Γ (b + 0))), (2, .int (nI k)), (3, .int (nI ws)), (4, .int (nI c0))] := hl
  have hfr := fr_rf G (ch + 0) (ch + 1)
  have hB := hI.1
  have hB0 := hI.2.1
  have hB1 := hI.2.2.1
  have hB20 := hI.2.2.2.2.2.2.2.2.2
  have hBz2 := hI.2.2.2.1
  have hBz3 := hI.2.2.2.2.1
  have hBz4 := hI.2.2.2.2.2.1
  have hBz5 := hI.2.2.2.2.2.2.1
  have hBd := hB 21
  have hp8 := pc8_le ws
  have hpw := p10_le hp8
  have hpp : 0 < 10 ^ pc8 ws := Nat.pow_pos (by decide)
  refine lv_lconst (v := lN 0) hx hb dX0_ofRust_0 rfl ?_
  refine lv_lstore (lv' := [(5, .long (lN 0)), (0, .ref (ad Γ (ch + 0))), (1, .ref (ad Γ (b + 0))), (2, .int (nI k)), (3, .int (nI ws)), (4, .int (nI c0))]) hx hb dX0_ofRust_1 hl (by decide) rfl (fun ls hl => ?_)
  refine lv_lconst (v := lN 1) hx hb dX0_ofRust_3 rfl ?_
  refine lv_lstore (lv' := [(7, .long (lN 1)), (5, .long (lN 0)), (0, .ref (ad Γ (ch + 0))), (1, .ref (ad Γ (b + 0))), (2, .int (nI k)), (3, .int (nI ws)), (4, .int (nI c0))]) hx hb dX0_ofRust_4 hl (by decide) rfl (fun ls hl => ?_)
  refine lv_iconst (v := nI 0) hx hb dX0_ofRust_6 (by decide) ?_
  refine lv_istore (lv' := [(9, .int (nI 0)), (7, .long (lN 1)), (5, .long (lN 0)), (0, .ref (ad Γ (ch + 0))), (1, .ref (ad Γ (b + 0))), (2, .int (nI k)), (3, .int (nI ws)), (4, .int (nI c0))]) hx hb dX0_ofRust_7 hl (by decide) rfl (fun ls hl => ?_)
  refine nr_lpI (σ := (Nat → va_E) × Nat × Nat) 9 (fun x => x.1) (fun x lv => lv = [(0, .ref (ad Γ (ch + 0))), (1, .ref (ad Γ (b + 0))), (2, .int (nI k)), (3, .int (nI ws)), (4, .int (nI c0)), (5, .long (lN 0)), (7, .long (lN x.2.2)), (9, .int (nI x.2.1))] ∧ isCh Γ x.1 ch cv ∧ isV Γ x.1 b V ∧ fr G x.1 (ch + 0) (ch + 1) ∧ (x.2.1 ≤ pc8 ws) ∧ (x.2.2 = 10 ^ x.2.1) ∧ (x.2.2 ≤ 100000000)) (fun x => pc8 ws - x.2.1) (G, 0, 1) hw hS (lv_sub hl [3, 4, 5, 6, 7, 2, 1, 0] rfl) ⟨rfl, hCh, hV, hfr, by (try dsimp only); omega, rfl, by (try dsimp only); omega⟩ ?_
  intro x lv ls H locs hw hS hl hI ih9
  obtain ⟨Gl9, t, al⟩ := x
  obtain ⟨rfl, hCh, hV, hfr, ht, hal, hal2⟩ := hI
  try dsimp only at hCh hV hfr ht hal hal2 hw hl ih9
  refine lv_iload hx hb dX0_ofRust_9 (lv_at hl 7 rfl) ?_
  refine lv_iload_n hx hb dX0_ofRust_11 rfl (lv_at hl 3 rfl) ?_
  refine nr_goS (nr_runS (As := [.int (nI ws)]) ⟨hx, hb, hml, hown, hts⟩ hw (c_J6_bitCount_0f7a4 l Γ n Gl9 ws (by omega)) (va_cwS 1 hts gX0_ofRust_J6_bitCount_0f7a4 rfl rfl rfl (by decide +kernel) ⟨Nat.le_of_ble_eq_true rfl, Nat.le_of_ble_eq_true rfl⟩) rfl hl.1 rfl (Nat.le_of_ble_eq_true rfl) dX0_ofRust_12 ⟨Nat.zero_le _, Nat.zero_le _⟩) (fun r1 hr1 => ?_)
  obtain rfl : r1 = (nI (pc8 ws)) := hr1
  refine nr_icmp_ge (tgt := 32) hx hb (by omega) (by omega) dX0_ofRust_15 (by decide) (fun c2 => ?_) (fun c2 => ?_)
  · refine lv_iconst (v := nI 0) hx hb dX0_ofRust_32 (by decide) ?_
    refine lv_istore (lv' := [(9, .int (nI 0)), (0, .ref (ad Γ (ch + 0))), (1, .ref (ad Γ (b + 0))), (2, .int (nI k)), (3, .int (nI ws)), (4, .int (nI c0)), (5, .long (lN 0)), (7, .long (lN al))]) hx hb dX0_ofRust_33 hl (by decide) rfl (fun ls hl => ?_)
    refine nr_lpI (σ := (Nat → va_E) × Nat × Nat) 35 (fun x => x.1) (fun x lv => lv = [(0, .ref (ad Γ (ch + 0))), (1, .ref (ad Γ (b + 0))), (2, .int (nI k)), (3, .int (nI ws)), (4, .int (nI c0)), (5, .long (lN x.2.2)), (7, .long (lN al)), (9, .int (nI x.2.1))] ∧ isCh Γ x.1 ch cv ∧ isV Γ x.1 b V ∧ fr G x.1 (ch + 0) (ch + 1) ∧ (x.2.1 ≤ ws + 1) ∧ (x.2.2 = sumC V k ws c0 x.2.1) ∧ (x.2.2 ≤ 25600000000)) (fun x => ws + 1 - x.2.1) (Gl9, 0, 0) hw hS (lv_sub hl [1, 2, 3, 4, 5, 6, 7, 0] rfl) ⟨rfl, hCh, hV, hfr, by (try dsimp only); omega, rfl, by (try dsimp only); omega⟩ ?_
    intro x lv ls H locs hw hS hl hI ih35
    obtain ⟨Gl35, si, ga⟩ := x
    obtain ⟨rfl, hCh, hV, hfr, hsi, hga, hga2⟩ := hI
    try dsimp only at hCh hV hfr hsi hga hga2 hw hl ih35
    have hand9 : si &&& (ws ^^^ 4294967295) ≤ si := Nat.and_le_left
    have hwy : waysF ws si c0 8 ≤ 10 ^ 8 := waysF_le (ws := ws) (si := si) hc0 8
    have hwy2 : (10 : Nat) ^ 8 = 100000000 := rfl
    have hsl := sumC_le (V := V) (k := k) (ws := ws) hc0 si
    refine lv_iload hx hb dX0_ofRust_35 (lv_at hl 7 rfl) ?_
    refine lv_iload_n hx hb dX0_ofRust_37 rfl (lv_at hl 3 rfl) ?_
    refine nr_icmp_gt (tgt := 80) hx hb (by omega) (by omega) dX0_ofRust_38 (by decide) (fun c3 => ?_) (fun c3 => ?_)
    · have ha9 : al = 10 ^ pc8 ws := by rw [hal, show t = pc8 ws by omega]
      have hg9 : ga = sumC V k ws c0 (ws + 1) := by rw [hga, show si = ws + 1 by omega]
      refine lv_aload_n hx hb dX0_ofRust_80 rfl (lv_at hl 0 rfl) ?_
      refine lv_lload hx hb dX0_ofRust_81 (lv_at hl 5 rfl) ?_
      refine lv_lload hx hb dX0_ofRust_83 (lv_at hl 6 rfl) ?_
      refine nr_goV (nr_runV (As := [.long (lN ga), .long (lN al)]) (C := RX0) (T := TX0) (N := 2) ⟨hx, hb, hml, hown, hts⟩ hw (by omega) (isCh_0 hCh) rfl (c_X0_set l Γ n Gl35 ch cv hCh (by omega) hj ga al (by first | assumption | omega) (by first | assumption | omega) (by first | assumption | omega)) (cwV 2 hts gX0_ofRust_X0_set rfl rfl rfl (by decide +kernel) ⟨Nat.le_of_ble_eq_true rfl, Nat.le_of_ble_eq_true rfl⟩) rfl hl.1 rfl (Nat.le_of_ble_eq_true rfl) dX0_ofRust_85 ⟨Nat.zero_le _, Nat.zero_le _⟩) hw hA hS (fun G4 H locs hp hw hS => ?_)
      obtain ⟨hCh, hf4⟩ := hp
      have hV := isV_fr hV hf4 (by omega)
      have hfr := fr_tr hfr hf4 (by omega) (by omega)
      have hCh : isCh Γ G4 ch (fracC cv ga al) := hCh
      exact nr_retV hx hb hr hlocks hw hS (⟨by rw [← ha9, ← hg9]; exact hCh, hfr⟩) dX0_ofRust_88
    · refine lv_iload hx hb dX0_ofRust_41 (lv_at hl 7 rfl) ?_
      refine lv_iload_n hx hb dX0_ofRust_43 rfl (lv_at hl 3 rfl) ?_
      refine lv_iconst (v := (-1)) hx hb dX0_ofRust_44 (by decide) ?_
      refine nr_not hx hb dX0_ofRust_45 ?_
      refine nr_iand hx hb dX0_ofRust_46 ?_
      refine nr_if_ne (tgt := 74) hx hb (by omega) dX0_ofRust_47 (by decide) (fun c5 => ?_) (fun c5 => ?_)
      · refine nr_inc (d := 1) (k := 7) (lv' := [(9, .int (nI (si + 1))), (0, .ref (ad Γ (ch + 0))), (1, .ref (ad Γ (b + 0))), (2, .int (nI k)), (3, .int (nI ws)), (4, .int (nI c0)), (5, .long (lN ga)), (7, .long (lN al))]) hx hb dX0_ofRust_74 hl rfl (by decide) (by decide) rfl (fun ls hl => ?_)
        refine lv_goto (tgt := 35) hx hb dX0_ofRust_77 (by decide) ?_
        exact ih35 (Gl35, si + 1, ga) _ _ _ _ hw hS (lv_sub hl [1, 2, 3, 4, 5, 6, 7, 0] rfl) ⟨rfl, hCh, hV, hfr, by (try dsimp only); omega, by (try dsimp only); rw [hga]; simp only [sumC]; first | rw [if_pos ⟨by assumption, by assumption⟩] | (rw [if_neg]; intro hh; first | exact absurd hh.1 (by assumption) | exact absurd hh.2 (by assumption)), by (try dsimp only); omega⟩ (by (try dsimp only); omega)
      · refine lv_aload_n hx hb dX0_ofRust_50 rfl (lv_at hl 1 rfl) ?_
        refine lv_iload_n hx hb dX0_ofRust_51 rfl (lv_at hl 2 rfl) ?_
        refine lv_iload_n hx hb dX0_ofRust_52 rfl (lv_at hl 3 rfl) ?_
        refine lv_iload hx hb dX0_ofRust_53 (lv_at hl 7 rfl) ?_
        refine nr_goB (P := could V k 0 (soundF V ws si (V 1)) 0) (nr_runS (As := [.ref (ad Γ (b + 0)), .int (nI k), .int (nI ws), .int (nI si)]) ⟨hx, hb, hml, hown, hts⟩ hw (c_X0_couldBehind l Γ n Gl35 b V hV (by assumption) (by omega) k ws si (by omega) (by omega) (by omega)) (va_cwS 4 hts gX0_ofRust_X0_couldBehind rfl rfl rfl (by decide +kernel) ⟨Nat.le_of_ble_eq_true rfl, Nat.le_of_ble_eq_true rfl⟩) rfl hl.1 rfl (Nat.le_of_ble_eq_true rfl) dX0_ofRust_55 ⟨Nat.zero_le _, Nat.zero_le _⟩) (fun b6 => ?_) (fun b6 => ?_)
        · refine nr_if_eq (tgt := 74) hx hb (by decide) dX0_ofRust_58 (by decide) (fun c7 => absurd c7 (by decide)) (fun c7 => ?_)
          refine lv_lload hx hb dX0_ofRust_61 (lv_at hl 5 rfl) ?_
          refine lv_iload_n hx hb dX0_ofRust_63 rfl (lv_at hl 3 rfl) ?_
          refine lv_iload hx hb dX0_ofRust_64 (lv_at hl 7 rfl) ?_
          refine lv_iload hx hb dX0_ofRust_66 (lv_at hl 4 rfl) ?_
          refine nr_goL (nr_runS (As := [.int (nI ws), .int (nI si), .int (nI c0)]) ⟨hx, hb, hml, hown, hts⟩ hw (c_X0_ways l Γ n Gl35 ws si c0 (by omega) (by omega) (by omega)) (va_cwS 3 hts gX0_ofRust_X0_ways rfl rfl rfl (by decide +kernel) ⟨Nat.le_of_ble_eq_true rfl, Nat.le_of_ble_eq_true rfl⟩) rfl hl.1 rfl (Nat.le_of_ble_eq_true rfl) dX0_ofRust_68 ⟨Nat.zero_le _, Nat.zero_le _⟩) (fun r8 hr8 => ?_)
          obtain rfl : r8 = (lN (waysF ws si c0 8)) := hr8
          refine nr_ladd hx hb dX0_ofRust_71 ?_
          refine lv_lstore (lv' := [(5, .long (lN (ga + (waysF ws si c0 8)))), (0, .ref (ad Γ (ch + 0))), (1, .ref (ad Γ (b + 0))), (2, .int (nI k)), (3, .int (nI ws)), (4, .int (nI c0)), (7, .long (lN al)), (9, .int (nI si))]) hx hb dX0_ofRust_72 hl (by decide) rfl (fun ls hl => ?_)
          refine nr_inc (d := 1) (k := 7) (lv' := [(9, .int (nI (si + 1))), (5, .long (lN (ga + (waysF ws si c0 8)))), (0, .ref (ad Γ (ch + 0))), (1, .ref (ad Γ (b + 0))), (2, .int (nI k)), (3, .int (nI ws)), (4, .int (nI c0)), (7, .long (lN al))]) hx hb dX0_ofRust_74 hl rfl (by decide) (by decide) rfl (fun ls hl => ?_)
          refine lv_goto (tgt := 35) hx hb dX0_ofRust_77 (by decide) ?_
          exact ih35 (Gl35, si + 1, ga + (waysF ws si c0 8)) _ _ _ _ hw hS (lv_sub hl [2, 3, 4, 5, 6, 1, 7, 0] rfl) ⟨rfl, hCh, hV, hfr, by (try dsimp only); omega, by (try dsimp only); rw [hga]; simp only [sumC]; first | rw [if_pos ⟨by assumption, by assumption⟩] | (rw [if_neg]; intro hh; first | exact absurd hh.1 (by assumption) | exact absurd hh.2 (by assumption)), by (try dsimp only); omega⟩ (by (try dsimp only); omega)
        · refine nr_if_eq (tgt := 74) hx hb (by decide) dX0_ofRust_58 (by decide) (fun c9 => ?_) (fun c9 => absurd c9 (by decide))
          refine nr_inc (d := 1) (k := 7) (lv' := [(9, .int (nI (si + 1))), (0, .ref (ad Γ (ch + 0))), (1, .ref (ad Γ (b + 0))), (2, .int (nI k)), (3, .int (nI ws)), (4, .int (nI c0)), (5, .long (lN ga)), (7, .long (lN al))]) hx hb dX0_ofRust_74 hl rfl (by decide) (by decide) rfl (fun ls hl => ?_)
          refine lv_goto (tgt := 35) hx hb dX0_ofRust_77 (by decide) ?_
          exact ih35 (Gl35, si + 1, ga) _ _ _ _ hw hS (lv_sub hl [1, 2, 3, 4, 5, 6, 7, 0] rfl) ⟨rfl, hCh, hV, hfr, by (try dsimp only); omega, by (try dsimp only); rw [hga]; simp only [sumC]; first | rw [if_pos ⟨by assumption, by assumption⟩] | (rw [if_neg]; intro hh; first | exact absurd hh.1 (by assumption) | exact absurd hh.2 (by assumption)), by (try dsimp only); omega⟩ (by (try dsimp only); omega)
  · refine lv_lload hx hb dX0_ofRust_18 (lv_at hl 6 rfl) ?_
    refine nr_ldc2 (k := 10) hx hb hown (hts _ wl_X0_ofRust_1) (by decide) dX0_ofRust_20 ?_
    refine nr_lmul hx hb dX0_ofRust_23 ?_
    refine lv_lstore (lv' := [(7, .long (lN (al * 10))), (0, .ref (ad Γ (ch + 0))), (1, .ref (ad Γ (b + 0))), (2, .int (nI k)), (3, .int (nI ws)), (4, .int (nI c0)), (5, .long (lN 0)), (9, .int (nI t))]) hx hb dX0_ofRust_24 hl (by decide) rfl (fun ls hl => ?_)
    refine nr_inc (d := 1) (k := 7) (lv' := [(9, .int (nI (t + 1))), (7, .long (lN (al * 10))), (0, .ref (ad Γ (ch + 0))), (1, .ref (ad Γ (b + 0))), (2, .int (nI k)), (3, .int (nI ws)), (4, .int (nI c0)), (5, .long (lN 0))]) hx hb dX0_ofRust_26 hl rfl (by decide) (by decide) rfl (fun ls hl => ?_)
    refine lv_goto (tgt := 9) hx hb dX0_ofRust_29 (by decide) ?_
    exact ih9 (Gl9, t + 1, al * 10) _ _ _ _ hw hS (lv_sub hl [2, 3, 4, 5, 6, 7, 1, 0] rfl) ⟨rfl, hCh, hV, hfr, by (try dsimp only); omega, by (try dsimp only); rw [hal, Nat.pow_succ], by (try dsimp only); rw [show al * 10 = 10 ^ (t + 1) from (by rw [hal, Nat.pow_succ])]; exact p10_le (by omega)⟩ (by (try dsimp only); omega)
theorem wl_X11_tally_1 : Cond.fieldLink RX11 10 "BellForgiven" "now" "LBellForgiven$Valley;" ∈ wsX11_tally := List.mem_of_getElem? (i := 1) rfl
theorem wl_X11_tally_2 : Cond.fieldLink RX11 59 "BellForgiven$Valley" "people" "I" ∈ wsX11_tally := List.mem_of_getElem? (i := 2) rfl
theorem wl_X11_tally_3 : Cond.fieldLink RX11 94 "BellForgiven$Valley" "wrongs" "I" ∈ wsX11_tally := List.mem_of_getElem? (i := 3) rfl
theorem wl_X11_tally_4 : Cond.fieldLink RX11 287 "BellForgiven$Valley" "letOff" "I" ∈ wsX11_tally := List.mem_of_getElem? (i := 4) rfl
theorem wl_X11_tally_5 : Cond.fieldLink RX11 128 "BellForgiven$Valley" "day" "I" ∈ wsX11_tally := List.mem_of_getElem? (i := 5) rfl
theorem wl_X11_tally_6 : Cond.fieldLink RX11 188 "BellForgiven$Valley" "seen" "LBellForgiven$Rows;" ∈ wsX11_tally := List.mem_of_getElem? (i := 6) rfl
theorem wl_X11_tally_7 : Cond.fieldLink RX11 296 "BellForgiven$Rows" "size" "I" ∈ wsX11_tally := List.mem_of_getElem? (i := 7) rfl
theorem wl_X11_tally_8 : Cond.fieldLink RX11 217 "BellForgiven$Valley" "notes" "LBellForgiven$Rows;" ∈ wsX11_tally := List.mem_of_getElem? (i := 8) rfl
theorem wl_X11_tally_9 : Cond.fieldLink RX11 220 "BellForgiven$Valley" "marks" "LBellForgiven$Rows;" ∈ wsX11_tally := List.mem_of_getElem? (i := 9) rfl
theorem wl_X11_tally_10 : Cond.fieldLink RX11 77 "BellForgiven$Valley" "past" "LBellForgiven$Past;" ∈ wsX11_tally := List.mem_of_getElem? (i := 10) rfl
theorem wl_X11_tally_11 : Cond.fieldLink RX11 81 "BellForgiven$Past" "size" "I" ∈ wsX11_tally := List.mem_of_getElem? (i := 11) rfl
theorem wl_X11_tally_12 : Cond.fieldLink RX11 27 "BellForgiven" "text" "LBellForgiven$Text;" ∈ wsX11_tally := List.mem_of_getElem? (i := 12) rfl
theorem wl_X11_tally_13 : Cond.fieldLink RX11 101 "BellForgiven$Text" "length" "I" ∈ wsX11_tally := List.mem_of_getElem? (i := 13) rfl
theorem hi_X11_tally_X11 : ∀ w ∈ u_ws RX11 TX11 11, w ∈ wsX11_tally := fun w h => (List.mem_cons_of_mem _ (List.mem_append_left _ (List.mem_append_left _ (List.mem_append_left _ (List.mem_append_left _ (List.mem_append_right _ h))))))
theorem hi_X11_tally_X10 : ∀ w ∈ u_ws RX10 TX10 15, w ∈ wsX11_tally := fun w h => (List.mem_cons_of_mem _ (List.mem_append_left _ (List.mem_append_left _ (List.mem_append_left _ (List.mem_append_right _ h)))))
theorem hi_X11_tally_X7 : ∀ w ∈ u_ws RX7 TX7 3, w ∈ wsX11_tally := fun w h => (List.mem_cons_of_mem _ (List.mem_append_left _ (List.mem_append_left _ (List.mem_append_right _ h))))
theorem hi_X11_tally_X4 : ∀ w ∈ u_ws RX4 TX4 2, w ∈ wsX11_tally := fun w h => (List.mem_cons_of_mem _ (List.mem_append_left _ (List.mem_append_right _ h)))
theorem hi_X11_tally_X9 : ∀ w ∈ u_ws RX9 TX9 6, w ∈ wsX11_tally := fun w h => (List.mem_cons_of_mem _ (List.mem_append_right _ h))
set_option maxHeartbeats 4000000 in
set_option maxRecDepth 100000 in
theorem c_X11_tally (l : Launch) (Γ : Gam) (n : Nat) (G : Nat → va_E) (co : Nat) (kp rf by0 tv V : Nat → Nat) (hO : isO Γ G co kp rf) (hT : isT Γ G (co + 3) by0 tv) (hV : isV Γ G (co + 28) V) (hn_co : co + 44 ≤ n) (what : Nat) (hI : vI V) (hwh : what < 2147483648)  : Met l yX11_tally wsX11_tally ({ frames := 3, cells := 0, slots := 0, locals := 65 }) (va_Pc [.ref (ad Γ (co + 0)), .int (nI what)] (fun U => hw Γ n G U U.heap)) (vp_Si (fun z => z = nI (tlyC V tv what))) 0 0 (fun _ => False) := by
  refine Met.ofW (cc := cX11_tally) (maxL := 2) (ret := (some .int)) (by decide) rfl ?_
  intro p e s m args below meth c s₁ B hml hv
  obtain ⟨rfl, hw⟩ := hv
  have hx := B.exec
  have hb := B.bytes
  have hr := B.returns
  have hts := atoms_spec (ws := wsX11_tally) B.pre
  have hown : s.vm.findClass RX11 = some m.cls := findClass_of_methodNamed B.named
  have hlocks := B.notSynchronized
  have hl := lv_entry ([.ref (ad Γ (co + 0)), .int (nI what)]) (n := 2) (Nat.le_of_ble_eq_true rfl)
  rw [lg_entry_eq]
  generalize (lg_sl ([.ref (ad Γ (co + 0)), .int (nI what)]) ++ List.replicate (2 - (lg_sl ([.ref (ad Γ (co + 0)), .int (nI what)])).length) Slot.unset).toArray = ls at hl ⊢
  have hl : lv_has ls 2 [(0, .ref (ad Γ (co + 0))), (1, .int (nI what))] := hl
  have hB := hI.1
  have hB0 := hI.2.1
  have hB1 := hI.2.2.1
  have hB20 := hI.2.2.2.2.2.2.2.2.2
  have hBz2 := hI.2.2.2.1
  have hBz3 := hI.2.2.2.2.1
  have hBz4 := hI.2.2.2.2.2.1
  have hBz5 := hI.2.2.2.2.2.2.1
  have hBd := hB 21
  refine lv_iload_n hx hb dX11_tally_0 rfl (lv_at hl 1 rfl) ?_
  rcases (show what = 0 ∨ what = 1 ∨ what = 2 ∨ what = 3 ∨ what = 4 ∨ what = 5 ∨ what = 6 ∨ what = 7 ∨ what = 8 ∨ what = 9 ∨ 9 < what by omega) with c1 | c1 | c1 | c1 | c1 | c1 | c1 | c1 | c1 | c1 | c1
  · refine nr_tabIn (j := 0) (tgt := 56) hx hb (by omega) c1 dX11_tally_1 (by decide) (by decide) rfl (by decide) ?_
    refine lv_aload_n hx hb dX11_tally_56 rfl (lv_at hl 0 rfl) ?_
    refine nr_get (own := RX11) (C := RX11) (T := TX11) (N := 11) (v := .ref (ad Γ (co + 28))) hx hb hts hi_X11_tally_X11 hown hw (by omega) (isO_0 hO) rfl 0 (by decide) wl_X11_tally_1 rfl rfl dX11_tally_57 ?_
    refine nr_get (own := RX11) (C := RX10) (T := TX10) (N := 15) (v := .int (nI (V 0))) hx hb hts hi_X11_tally_X10 hown hw (by omega) (isV_0 hV) rfl 0 (by decide) wl_X11_tally_2 rfl rfl dX11_tally_60 ?_
    exact nr_retS hx hb hr hlocks (by refine congrArg nI ?_; unfold tlyC rTally; (repeat' split) <;> first | rfl | omega | (subst_vars; rfl)) rfl dX11_tally_63
  · refine nr_tabIn (j := 1) (tgt := 64) hx hb (by omega) c1 dX11_tally_1 (by decide) (by decide) rfl (by decide) ?_
    refine lv_aload_n hx hb dX11_tally_64 rfl (lv_at hl 0 rfl) ?_
    refine nr_get (own := RX11) (C := RX11) (T := TX11) (N := 11) (v := .ref (ad Γ (co + 28))) hx hb hts hi_X11_tally_X11 hown hw (by omega) (isO_0 hO) rfl 0 (by decide) wl_X11_tally_1 rfl rfl dX11_tally_65 ?_
    refine nr_get (own := RX11) (C := RX10) (T := TX10) (N := 15) (v := .int (nI (V 1))) hx hb hts hi_X11_tally_X10 hown hw (by omega) (isV_0 hV) rfl 3 (by decide) wl_X11_tally_3 rfl rfl dX11_tally_68 ?_
    exact nr_retS hx hb hr hlocks (by refine congrArg nI ?_; unfold tlyC rTally; (repeat' split) <;> first | rfl | omega | (subst_vars; rfl)) rfl dX11_tally_71
  · refine nr_tabIn (j := 2) (tgt := 72) hx hb (by omega) c1 dX11_tally_1 (by decide) (by decide) rfl (by decide) ?_
    refine lv_aload_n hx hb dX11_tally_72 rfl (lv_at hl 0 rfl) ?_
    refine nr_get (own := RX11) (C := RX11) (T := TX11) (N := 11) (v := .ref (ad Γ (co + 28))) hx hb hts hi_X11_tally_X11 hown hw (by omega) (isO_0 hO) rfl 0 (by decide) wl_X11_tally_1 rfl rfl dX11_tally_73 ?_
    refine nr_get (own := RX11) (C := RX10) (T := TX10) (N := 15) (v := .int (nI (V 20))) hx hb hts hi_X11_tally_X10 hown hw (by omega) (isV_0 hV) rfl 9 (by decide) wl_X11_tally_4 rfl rfl dX11_tally_76 ?_
    refine nr_goS (nr_runS (As := [.int (nI (V 20))]) ⟨hx, hb, hml, hown, hts⟩ hw (c_J6_bitCount_0f7a4 l Γ n G (V 20) (by omega)) (va_cwS 1 hts gX11_tally_J6_bitCount_0f7a4 rfl rfl rfl (by decide +kernel) ⟨Nat.le_of_ble_eq_true rfl, Nat.le_of_ble_eq_true rfl⟩) rfl hl.1 rfl (Nat.le_of_ble_eq_true rfl) dX11_tally_79 ⟨Nat.zero_le _, Nat.zero_le _⟩) (fun r2 hr2 => ?_)
    obtain rfl : r2 = (nI (pc8 (V 20))) := hr2
    exact nr_retS hx hb hr hlocks (by refine congrArg nI ?_; unfold tlyC rTally; (repeat' split) <;> first | rfl | omega | (subst_vars; rfl)) rfl dX11_tally_82
  · refine nr_tabIn (j := 3) (tgt := 83) hx hb (by omega) c1 dX11_tally_1 (by decide) (by decide) rfl (by decide) ?_
    refine lv_aload_n hx hb dX11_tally_83 rfl (lv_at hl 0 rfl) ?_
    refine nr_get (own := RX11) (C := RX11) (T := TX11) (N := 11) (v := .ref (ad Γ (co + 28))) hx hb hts hi_X11_tally_X11 hown hw (by omega) (isO_0 hO) rfl 0 (by decide) wl_X11_tally_1 rfl rfl dX11_tally_84 ?_
    refine nr_goS (nr_runV (As := []) (C := RX10) (T := TX10) (N := 15) ⟨hx, hb, hml, hown, hts⟩ hw (by omega) (isV_0 hV) rfl (c_X10_guilty l Γ n G (co + 28) V hV (by assumption) (by omega)) (cwV 0 hts gX11_tally_X10_guilty rfl rfl rfl (by decide +kernel) ⟨Nat.le_of_ble_eq_true rfl, Nat.le_of_ble_eq_true rfl⟩) rfl hl.1 rfl (Nat.le_of_ble_eq_true rfl) dX11_tally_87 ⟨Nat.zero_le _, Nat.zero_le _⟩) (fun r3 hr3 => ?_)
    obtain rfl : r3 = (nI (cnt (guiltyP V) (V 0))) := hr3
    exact nr_retS hx hb hr hlocks (by refine congrArg nI ?_; unfold tlyC rTally; (repeat' split) <;> first | rfl | omega | (subst_vars; rfl)) rfl dX11_tally_90
  · refine nr_tabIn (j := 4) (tgt := 91) hx hb (by omega) c1 dX11_tally_1 (by decide) (by decide) rfl (by decide) ?_
    refine lv_aload_n hx hb dX11_tally_91 rfl (lv_at hl 0 rfl) ?_
    refine nr_get (own := RX11) (C := RX11) (T := TX11) (N := 11) (v := .ref (ad Γ (co + 28))) hx hb hts hi_X11_tally_X11 hown hw (by omega) (isO_0 hO) rfl 0 (by decide) wl_X11_tally_1 rfl rfl dX11_tally_92 ?_
    refine nr_get (own := RX11) (C := RX10) (T := TX10) (N := 15) (v := .int (nI (V 21))) hx hb hts hi_X11_tally_X10 hown hw (by omega) (isV_0 hV) rfl 10 (by decide) wl_X11_tally_5 rfl rfl dX11_tally_95 ?_
    exact nr_retS hx hb hr hlocks (by refine congrArg nI ?_; unfold tlyC rTally; (repeat' split) <;> first | rfl | omega | (subst_vars; rfl)) rfl dX11_tally_98
  · refine nr_tabIn (j := 5) (tgt := 99) hx hb (by omega) c1 dX11_tally_1 (by decide) (by decide) rfl (by decide) ?_
    refine lv_aload_n hx hb dX11_tally_99 rfl (lv_at hl 0 rfl) ?_
    refine nr_get (own := RX11) (C := RX11) (T := TX11) (N := 11) (v := .ref (ad Γ (co + 28))) hx hb hts hi_X11_tally_X11 hown hw (by omega) (isO_0 hO) rfl 0 (by decide) wl_X11_tally_1 rfl rfl dX11_tally_100 ?_
    refine nr_goS (nr_runV (As := []) (C := RX10) (T := TX10) (N := 15) ⟨hx, hb, hml, hown, hts⟩ hw (by omega) (isV_0 hV) rfl (c_X10_strokes l Γ n G (co + 28) V hV (by assumption) (by omega)) (cwV 0 hts gX11_tally_X10_strokes rfl rfl rfl (by decide +kernel) ⟨Nat.le_of_ble_eq_true rfl, Nat.le_of_ble_eq_true rfl⟩) rfl hl.1 rfl (Nat.le_of_ble_eq_true rfl) dX11_tally_103 ⟨Nat.zero_le _, Nat.zero_le _⟩) (fun r4 hr4 => ?_)
    obtain rfl : r4 = (nI (sumN (fun j => V (6 + j)) (V 0))) := hr4
    exact nr_retS hx hb hr hlocks (by refine congrArg nI ?_; unfold tlyC rTally; (repeat' split) <;> first | rfl | omega | (subst_vars; rfl)) rfl dX11_tally_106
  · refine nr_tabIn (j := 6) (tgt := 107) hx hb (by omega) c1 dX11_tally_1 (by decide) (by decide) rfl (by decide) ?_
    refine lv_aload_n hx hb dX11_tally_107 rfl (lv_at hl 0 rfl) ?_
    refine nr_get (own := RX11) (C := RX11) (T := TX11) (N := 11) (v := .ref (ad Γ (co + 28))) hx hb hts hi_X11_tally_X11 hown hw (by omega) (isO_0 hO) rfl 0 (by decide) wl_X11_tally_1 rfl rfl dX11_tally_108 ?_
    refine nr_get (own := RX11) (C := RX10) (T := TX10) (N := 15) (v := .ref (ad Γ (co + 36))) hx hb hts hi_X11_tally_X10 hown hw (by omega) (isV_0 hV) rfl 11 (by decide) wl_X11_tally_6 rfl rfl dX11_tally_111 ?_
    refine nr_get (own := RX11) (C := RX7) (T := TX7) (N := 3) (v := .int (nI (V 2))) hx hb hts hi_X11_tally_X7 hown hw (by omega) (isV_8 hV) rfl 2 (by decide) wl_X11_tally_7 rfl rfl dX11_tally_114 ?_
    exact nr_retS hx hb hr hlocks (by refine congrArg nI ?_; unfold tlyC rTally; (repeat' split) <;> first | rfl | omega | (subst_vars; rfl)) rfl dX11_tally_117
  · refine nr_tabIn (j := 7) (tgt := 118) hx hb (by omega) c1 dX11_tally_1 (by decide) (by decide) rfl (by decide) ?_
    refine lv_aload_n hx hb dX11_tally_118 rfl (lv_at hl 0 rfl) ?_
    refine nr_get (own := RX11) (C := RX11) (T := TX11) (N := 11) (v := .ref (ad Γ (co + 28))) hx hb hts hi_X11_tally_X11 hown hw (by omega) (isO_0 hO) rfl 0 (by decide) wl_X11_tally_1 rfl rfl dX11_tally_119 ?_
    refine nr_get (own := RX11) (C := RX10) (T := TX10) (N := 15) (v := .ref (ad Γ (co + 37))) hx hb hts hi_X11_tally_X10 hown hw (by omega) (isV_0 hV) rfl 12 (by decide) wl_X11_tally_8 rfl rfl dX11_tally_122 ?_
    refine nr_get (own := RX11) (C := RX7) (T := TX7) (N := 3) (v := .int (nI (V 3))) hx hb hts hi_X11_tally_X7 hown hw (by omega) (isV_9 hV) rfl 2 (by decide) wl_X11_tally_7 rfl rfl dX11_tally_125 ?_
    exact nr_retS hx hb hr hlocks (by refine congrArg nI ?_; unfold tlyC rTally; (repeat' split) <;> first | rfl | omega | (subst_vars; rfl)) rfl dX11_tally_128
  · refine nr_tabIn (j := 8) (tgt := 129) hx hb (by omega) c1 dX11_tally_1 (by decide) (by decide) rfl (by decide) ?_
    refine lv_aload_n hx hb dX11_tally_129 rfl (lv_at hl 0 rfl) ?_
    refine nr_get (own := RX11) (C := RX11) (T := TX11) (N := 11) (v := .ref (ad Γ (co + 28))) hx hb hts hi_X11_tally_X11 hown hw (by omega) (isO_0 hO) rfl 0 (by decide) wl_X11_tally_1 rfl rfl dX11_tally_130 ?_
    refine nr_get (own := RX11) (C := RX10) (T := TX10) (N := 15) (v := .ref (ad Γ (co + 38))) hx hb hts hi_X11_tally_X10 hown hw (by omega) (isV_0 hV) rfl 13 (by decide) wl_X11_tally_9 rfl rfl dX11_tally_133 ?_
    refine nr_get (own := RX11) (C := RX7) (T := TX7) (N := 3) (v := .int (nI (V 4))) hx hb hts hi_X11_tally_X7 hown hw (by omega) (isV_10 hV) rfl 2 (by decide) wl_X11_tally_7 rfl rfl dX11_tally_136 ?_
    exact nr_retS hx hb hr hlocks (by refine congrArg nI ?_; unfold tlyC rTally; (repeat' split) <;> first | rfl | omega | (subst_vars; rfl)) rfl dX11_tally_139
  · refine nr_tabIn (j := 9) (tgt := 140) hx hb (by omega) c1 dX11_tally_1 (by decide) (by decide) rfl (by decide) ?_
    refine lv_aload_n hx hb dX11_tally_140 rfl (lv_at hl 0 rfl) ?_
    refine nr_get (own := RX11) (C := RX11) (T := TX11) (N := 11) (v := .ref (ad Γ (co + 28))) hx hb hts hi_X11_tally_X11 hown hw (by omega) (isO_0 hO) rfl 0 (by decide) wl_X11_tally_1 rfl rfl dX11_tally_141 ?_
    refine nr_get (own := RX11) (C := RX10) (T := TX10) (N := 15) (v := .ref (ad Γ (co + 39))) hx hb hts hi_X11_tally_X10 hown hw (by omega) (isV_0 hV) rfl 14 (by decide) wl_X11_tally_10 rfl rfl dX11_tally_144 ?_
    refine nr_get (own := RX11) (C := RX4) (T := TX4) (N := 2) (v := .int (nI (V 5))) hx hb hts hi_X11_tally_X4 hown hw (by omega) (isV_11 hV) rfl 1 (by decide) wl_X11_tally_11 rfl rfl dX11_tally_147 ?_
    exact nr_retS hx hb hr hlocks (by refine congrArg nI ?_; unfold tlyC rTally; (repeat' split) <;> first | rfl | omega | (subst_vars; rfl)) rfl dX11_tally_150
  · refine nr_tabOut (tgt := 151) hx hb (by omega) dX11_tally_1 (by omega) (by decide) ?_
    refine lv_aload_n hx hb dX11_tally_151 rfl (lv_at hl 0 rfl) ?_
    refine nr_get (own := RX11) (C := RX11) (T := TX11) (N := 11) (v := .ref (ad Γ (co + 3))) hx hb hts hi_X11_tally_X11 hown hw (by omega) (isO_0 hO) rfl 3 (by decide) wl_X11_tally_12 rfl rfl dX11_tally_152 ?_
    refine nr_get (own := RX11) (C := RX9) (T := TX9) (N := 6) (v := .int (nI (tv 0))) hx hb hts hi_X11_tally_X9 hown hw (by omega) (isT_0 hT) rfl 1 (by decide) wl_X11_tally_13 rfl rfl dX11_tally_155 ?_
    exact nr_retS hx hb hr hlocks (by refine congrArg nI ?_; unfold tlyC rTally; (repeat' split) <;> first | rfl | omega | (subst_vars; rfl)) rfl dX11_tally_158
