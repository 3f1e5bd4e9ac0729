section SB
abbrev guiltyP (V : Nat → Nat) (i : Nat) : Prop := ∃ k, k < V 1 ∧ V (36 + k) = i ∧ ¬ bt (V 20) k
def cnt (P : Nat → Prop) [DecidablePred P] : Nat → Nat
  | 0 => 0
  | k + 1 => if P k then cnt P k + 1 else cnt P k
theorem cnt_le (P : Nat → Prop) [DecidablePred P] : ∀ m, cnt P m ≤ m
  | 0 => Nat.le_refl 0
  | k + 1 => by
    have h := cnt_le P k
    unfold cnt
    split <;> omega
def sumN (f : Nat → Nat) : Nat → Nat
  | 0 => 0
  | k + 1 => sumN f k + f k
theorem sumN_le {f : Nat → Nat} {c : Nat} (h : ∀ j, f j ≤ c) : ∀ m, sumN f m ≤ c * m
  | 0 => Nat.zero_le _
  | k + 1 => by
    have h1 := sumN_le h k
    have h2 := h k
    simp only [sumN, Nat.mul_add, Nat.mul_one]
    omega
def sTold (V : Nat → Nat) (k what : Nat) : Nat := if what = 0 then V (28 + k) else if what = 1 then V (36 + k) else if what = 2 then V (44 + k) else if what = 3 then V (52 + k) else if what = 4 then V (12 + k) else if what = 5 then (if bt (V 20) k then 1 else 0) else sW V k 0
theorem sTold_le {V : Nat → Nat} (hI : vI V) (k what : Nat) : sTold V k what < 2147483648 := by
  have hB := hI.1
  have h1 := hB (28 + k)
  have h2 := hB (36 + k)
  have h3 := hB (44 + k)
  have h4 := hB (52 + k)
  have h5 := hB (12 + k)
  have h6 := sWeight_le (V (28 + k)) (V (52 + k)) (min 99 (V (12 + k) + 0))
  unfold sTold sW
  (repeat' split) <;> omega
def dg (f : Nat → Nat) (h : Nat) : Nat → Nat
  | 0 => h
  | k + 1 => 31 * dg f h k + f k
def dgP (V : Nat → Nat) (h : Nat) : Nat → Nat
  | 0 => h
  | i + 1 => 31 * (31 * dgP V h i + V (22 + i)) + V (6 + i)
def dgR (V : Nat → Nat) (h : Nat) : Nat → Nat
  | 0 => h
  | k + 1 => dg (sTold V k) (dgR V h k) 6
def dgV (V : Nat → Nat) (h : Nat) : Nat := dg (fun j => V (104 + j)) (dg (fun j => V (80 + j)) (dg (fun j => V (60 + j)) (dgR V (dgP V h (V 0)) (V 1)) (V 2 * 4)) (V 3 * 4)) (V 4 * 4)
def passF (V : Nat → Nat) (st g : Nat) : Nat → Nat
  | 0 => g
  | k + 1 => if ¬ bt st k ∧ could V k (passF V st g k) (passF V st g k) 0 then passF V st g k ||| 2 ^ k else passF V st g k
theorem or_lt256 {a k : Nat} (ha : a < 256) (hk : k < 8) : a ||| 2 ^ k < 256 := Nat.or_lt_two_pow (n := 8) ha (Nat.pow_lt_pow_right (by omega) hk)
theorem passF_lt (V : Nat → Nat) (st : Nat) {g : Nat} (hg : g < 256) : ∀ m, m ≤ 8 → passF V st g m < 256
  | 0, _ => hg
  | k + 1, hm => by
    have h := passF_lt V st hg k (by omega)
    unfold passF
    split
    · exact or_lt256 h (by omega)
    · exact h
def clo (V : Nat → Nat) (st : Nat) : Nat → Nat
  | 0 => 0
  | a + 1 => passF V st (clo V st a) (V 1)
theorem clo_lt {V : Nat → Nat} (hV : V 1 ≤ 8) (st : Nat) : ∀ m, clo V st m < 256
  | 0 => by show (0 : Nat) < 256; decide
  | a + 1 => passF_lt V st (clo_lt hV st a) _ hV
theorem clo_fix {V : Nat → Nat} {st a : Nat} (h : passF V st (clo V st a) (V 1) = clo V st a) : ∀ d, clo V st (a + d) = clo V st a
  | 0 => rfl
  | d + 1 => by
    show passF V st (clo V st (a + d)) (V 1) = _
    rw [clo_fix h d, h]
theorem clo_end {V : Nat → Nat} {st a : Nat} (ha : a ≤ V 1) (h : passF V st (clo V st a) (V 1) = clo V st a) : clo V st (V 1) = clo V st a := by
  rw [show V 1 = a + (V 1 - a) by omega]
  exact clo_fix h _
def whenR (V : Nat → Nat) (k : Nat) (z : Int32) : Prop := (∃ d, d ≤ 60 ∧ could V k 0 0 d ∧ (∀ j, j < d → ¬ could V k 0 0 j) ∧ z = nI d) ∨ ((∀ j, j ≤ 60 → ¬ could V k 0 0 j) ∧ z = -1)
/-- who was wronged by those in w, by wrongs that are not let off -/
def wrd (V : Nat → Nat) (w : Nat) : Nat → Nat
  | 0 => 0
  | k + 1 => if ¬ bt (V 20) k ∧ bt w (V (36 + k)) then wrd V w k ||| 2 ^ V (44 + k) else wrd V w k
theorem wrd_lt {V : Nat → Nat} (hI : vI V) (w : Nat) : ∀ m, m ≤ 8 → wrd V w m < 256
  | 0, _ => by show (0 : Nat) < 256; decide
  | k + 1, hm => by
    have h := wrd_lt hI w k (by omega)
    have h2 := hI.2.2.2.2.2.2.2.2.1 k (by omega)
    unfold wrd
    split
    · exact or_lt256 h (by omega)
    · exact h
def wrdN (V : Nat → Nat) (w : Nat) : Nat → Nat
  | 0 => w
  | n + 1 => wrd V (wrdN V w n) (V 1)
theorem wrdN_lt {V : Nat → Nat} (hI : vI V) {w : Nat} (hw : w < 256) : ∀ m, wrdN V w m < 256
  | 0 => hw
  | n + 1 => wrd_lt hI _ _ hI.2.2.1
/-- the first n >= 1, at most m, by which i is reached again -/
def ringR (V : Nat → Nat) (i m : Nat) (z : Int32) : Prop := (∃ n, 1 ≤ n ∧ n ≤ m ∧ bt (wrdN V (2 ^ i) n) i ∧ (∀ j, 1 ≤ j → j < n → ¬ bt (wrdN V (2 ^ i) j) i) ∧ z = nI n) ∨ ((∀ j, 1 ≤ j → j ≤ m → ¬ bt (wrdN V (2 ^ i) j) i) ∧ z = -1)
theorem p2_lt {k : Nat} (hk : k < 8) : 2 ^ k < 256 := Nat.pow_lt_pow_right (m := k) (n := 8) (by omega) hk
end SB
theorem wl_X10_isGuilty_1 : Cond.fieldLink RX10 59 "BellForgiven$Valley" "wrongs" "I" ∈ wsX10_isGuilty := List.mem_of_getElem? (i := 1) rfl
theorem wl_X10_isGuilty_2 : Cond.fieldLink RX10 21 "BellForgiven$Valley" "by" "[I" ∈ wsX10_isGuilty := List.mem_of_getElem? (i := 2) rfl
theorem wl_X10_isGuilty_3 : Cond.fieldLink RX10 62 "BellForgiven$Valley" "letOff" "I" ∈ wsX10_isGuilty := List.mem_of_getElem? (i := 3) rfl
theorem wl_X10_isGuilty_4 : Cond.static yX11_holds ∈ wsX10_isGuilty := List.mem_of_getElem? (i := 4) rfl
theorem wl_X10_isGuilty_5 : Cond.initialized RX11 ∈ wsX10_isGuilty := List.mem_of_getElem? (i := 5) rfl
theorem hi_X10_isGuilty_X10 : ∀ w ∈ u_ws RX10 TX10 15, w ∈ wsX10_isGuilty := fun w h => (List.mem_cons_of_mem _ (List.mem_append_right _ h))
set_option maxHeartbeats 4000000 in
set_option maxRecDepth 100000 in
theorem c_X10_isGuilty (l : Launch) (Γ : Gam) (n : Nat) (G : Nat → va_E) (b : Nat) (V : Nat → Nat) (hV : isV Γ G b V) (hI : vI V) (hbn : b + 16 ≤ n) (i : Nat) (hi : i < 2147483648)  : Met l yX10_isGuilty wsX10_isGuilty ({ frames := 1, cells := 0, slots := 0, locals := 21 }) (va_Pc [.ref (ad Γ (b + 0)), .int (nI i)] (fun U => hw Γ n G U U.heap)) (vp_Si (bp (guiltyP V i))) 0 0 (fun _ => False) := by
  refine Met.ofW (cc := cX10_isGuilty) (maxL := 3) (ret := (some .boolean)) (by decide) rfl ?_
  intro p e s m args below meth c s₁ B hml hv
  obtain ⟨rfl, hw⟩ := hv
  have hx := B.exec
  have hb := B.bytes
  have hr := B.returns
  have hts := atoms_spec (ws := wsX10_isGuilty) B.pre
  have hown : s.vm.findClass RX10 = some m.cls := findClass_of_methodNamed B.named
  have hlocks := B.notSynchronized
  have hl := lv_entry ([.ref (ad Γ (b + 0)), .int (nI i)]) (n := 3) (Nat.le_of_ble_eq_true rfl)
  rw [lg_entry_eq]
  generalize (lg_sl ([.ref (ad Γ (b + 0)), .int (nI i)]) ++ List.replicate (3 - (lg_sl ([.ref (ad Γ (b + 0)), .int (nI i)])).length) Slot.unset).toArray = ls at hl ⊢
  have hl : lv_has ls 3 [(0, .ref (ad Γ (b + 0))), (1, .int (nI i))] := hl
  have hB := hI.1
  have hB0 := hI.2.1
  have hB1 := hI.2.2.1
  have hB20 := hI.2.2.2.2.2.2.2.2.2
  have hBd := hB 21
  refine lv_iconst (v := nI 0) hx hb dX10_isGuilty_0 (by decide) ?_
  refine lv_istore_n (lv' := [(2, .int (nI 0)), (0, .ref (ad Γ (b + 0))), (1, .int (nI i))]) hx hb dX10_isGuilty_1 rfl hl (by decide) rfl (fun ls hl => ?_)
  refine nr_lp (σ := Nat) (pc := 2) (fun x lv => lv = [(0, .ref (ad Γ (b + 0))), (1, .int (nI i)), (2, .int (nI x))] ∧ (x ≤ V 1) ∧ (∀ j, j < x → ¬ (V (36 + j) = i ∧ ¬ bt (V 20) j))) (fun x => V 1 - x) 0 (lv_sub hl [1, 2, 0] rfl) ⟨rfl, by omega, fun j hj => absurd hj (Nat.not_lt_zero j)⟩ ?_
  intro k lv ls hl hI ih2
  obtain ⟨rfl, hk, hn⟩ := hI
  try dsimp only at hk hn hl ih2
  refine lv_iload_n hx hb dX10_isGuilty_2 rfl (lv_at hl 2 rfl) ?_
  refine lv_aload_n hx hb dX10_isGuilty_3 rfl (lv_at hl 0 rfl) ?_
  refine nr_get (own := RX10) (C := RX10) (T := TX10) (N := 15) (v := .int (nI (V 1))) hx hb hts hi_X10_isGuilty_X10 hown hw (by omega) (isV_0 hV) rfl 3 (by decide) wl_X10_isGuilty_1 rfl rfl dX10_isGuilty_4 ?_
  refine nr_icmp_ge (tgt := 39) hx hb (by omega) (by omega) dX10_isGuilty_7 (by decide) (fun c1 => ?_) (fun c1 => ?_)
  · refine lv_iconst (v := nI 0) hx hb dX10_isGuilty_39 (by decide) ?_
    exact nr_retB hx hb hr hlocks (Or.inr ⟨by rintro ⟨j, h1, h2, h3⟩; exact hn j (by omega) ⟨h2, h3⟩, rfl⟩) rfl dX10_isGuilty_40
  · refine lv_aload_n hx hb dX10_isGuilty_10 rfl (lv_at hl 0 rfl) ?_
    refine nr_get (own := RX10) (C := RX10) (T := TX10) (N := 15) (v := .ref (ad Γ (b + 4))) hx hb hts hi_X10_isGuilty_X10 hown hw (by omega) (isV_0 hV) rfl 5 (by decide) wl_X10_isGuilty_2 rfl rfl dX10_isGuilty_11 ?_
    refine lv_iload_n hx hb dX10_isGuilty_14 rfl (lv_at hl 2 rfl) ?_
    refine nr_iald (x := (V (36 + k))) hx hb hw (by omega) (isV_4 hV) rfl (by omega) (by decide) dX10_isGuilty_15 ?_
    have hL2 := hB (36 + k)
    refine lv_iload_n hx hb dX10_isGuilty_16 rfl (lv_at hl 1 rfl) ?_
    refine nr_icmp_ne (tgt := 33) hx hb (by omega) (by omega) dX10_isGuilty_17 (by decide) (fun c3 => ?_) (fun c3 => ?_)
    · refine nr_inc (d := 1) (k := 2) (lv' := [(2, .int (nI (k + 1))), (0, .ref (ad Γ (b + 0))), (1, .int (nI i))]) hx hb dX10_isGuilty_33 hl rfl (by decide) (by decide) rfl (fun ls hl => ?_)
      refine lv_goto (tgt := 2) hx hb dX10_isGuilty_36 (by decide) ?_
      exact ih2 (k + 1) _ _ (lv_sub hl [1, 2, 0] rfl) ⟨rfl, by omega, fun j hj => by
          rcases Nat.lt_or_eq_of_le (Nat.le_of_lt_succ hj) with q | q
          · exact hn j q
          · subst q; intro hh; first | exact absurd hh.1 (by assumption) | exact hh.2 (by assumption)⟩ (by (try dsimp only); omega)
    · refine lv_aload_n hx hb dX10_isGuilty_20 rfl (lv_at hl 0 rfl) ?_
      refine nr_get (own := RX10) (C := RX10) (T := TX10) (N := 15) (v := .int (nI (V 20))) hx hb hts hi_X10_isGuilty_X10 hown hw (by omega) (isV_0 hV) rfl 9 (by decide) wl_X10_isGuilty_3 rfl rfl dX10_isGuilty_21 ?_
      refine lv_iload_n hx hb dX10_isGuilty_24 rfl (lv_at hl 2 rfl) ?_
      refine nr_goB (P := bt (V 20) k) (nr_runN (As := [.int (nI (V 20)), .int (nI k)]) ⟨hx, hb, hml, hown, hts⟩ hw (c_X11_holds l Γ n G (V 20) k (by omega) (by omega)) ⟨va_cnB 2 hts gX10_isGuilty_X11_holds_n95 rfl rfl rfl (hw.2.2 _ (List.mem_of_getElem? (i := 15) rfl)) (hts _ wl_X10_isGuilty_5) (by decide +kernel) ⟨Nat.le_of_ble_eq_true rfl, Nat.le_of_ble_eq_true rfl⟩, hts _ wl_X10_isGuilty_4, trivial⟩ rfl hl.1 rfl (Nat.le_of_ble_eq_true rfl) dX10_isGuilty_25 ⟨Nat.zero_le _, Nat.zero_le _⟩) (fun b4 => ?_) (fun b4 => ?_)
      · refine nr_if_ne (tgt := 33) hx hb (by decide) dX10_isGuilty_28 (by decide) (fun c5 => ?_) (fun c5 => absurd c5 (by decide))
        refine nr_inc (d := 1) (k := 2) (lv' := [(2, .int (nI (k + 1))), (0, .ref (ad Γ (b + 0))), (1, .int (nI i))]) hx hb dX10_isGuilty_33 hl rfl (by decide) (by decide) rfl (fun ls hl => ?_)
        refine lv_goto (tgt := 2) hx hb dX10_isGuilty_36 (by decide) ?_
        exact ih2 (k + 1) _ _ (lv_sub hl [1, 2, 0] rfl) ⟨rfl, by omega, fun j hj => by
          rcases Nat.lt_or_eq_of_le (Nat.le_of_lt_succ hj) with q | q
          · exact hn j q
          · subst q; intro hh; first | exact absurd hh.1 (by assumption) | exact hh.2 (by assumption)⟩ (by (try dsimp only); omega)
      · refine nr_if_ne (tgt := 33) hx hb (by decide) dX10_isGuilty_28 (by decide) (fun c6 => absurd c6 (by decide)) (fun c6 => ?_)
        refine lv_iconst (v := nI 1) hx hb dX10_isGuilty_31 (by decide) ?_
        exact nr_retB hx hb hr hlocks (Or.inl ⟨⟨k, by assumption, by assumption, by assumption⟩, rfl⟩) rfl dX10_isGuilty_32
theorem wl_X10_guilty_1 : Cond.fieldLink RX10 55 "BellForgiven$Valley" "people" "I" ∈ wsX10_guilty := List.mem_of_getElem? (i := 1) rfl
theorem hi_X10_guilty_X10 : ∀ w ∈ u_ws RX10 TX10 15, w ∈ wsX10_guilty := fun w h => (List.mem_cons_of_mem _ (List.mem_append_right _ h))
set_option maxHeartbeats 4000000 in
set_option maxRecDepth 100000 in
theorem c_X10_guilty (l : Launch) (Γ : Gam) (n : Nat) (G : Nat → va_E) (b : Nat) (V : Nat → Nat) (hV : isV Γ G b V) (hI : vI V) (hbn : b + 16 ≤ n)  : Met l yX10_guilty wsX10_guilty ({ frames := 2, cells := 0, slots := 0, locals := 43 }) (va_Pc [.ref (ad Γ (b + 0))] (fun U => hw Γ n G U U.heap)) (vp_Si (fun z => z = nI (cnt (guiltyP V) (V 0)))) 0 0 (fun _ => False) := by
  refine Met.ofW (cc := cX10_guilty) (maxL := 3) (ret := (some .int)) (by decide) rfl ?_
  intro p e s m args below meth c s₁ B hml hv
  obtain ⟨rfl, hw⟩ := hv
  have hx := B.exec
  have hb := B.bytes
  have hr := B.returns
  have hts := atoms_spec (ws := wsX10_guilty) B.pre
  have hown : s.vm.findClass RX10 = some m.cls := findClass_of_methodNamed B.named
  have hlocks := B.notSynchronized
  have hl := lv_entry ([.ref (ad Γ (b + 0))]) (n := 3) (Nat.le_of_ble_eq_true rfl)
  rw [lg_entry_eq]
  generalize (lg_sl ([.ref (ad Γ (b + 0))]) ++ List.replicate (3 - (lg_sl ([.ref (ad Γ (b + 0))])).length) Slot.unset).toArray = ls at hl ⊢
  have hl : lv_has ls 3 [(0, .ref (ad Γ (b + 0)))] := hl
  have hB := hI.1
  have hB0 := hI.2.1
  have hB1 := hI.2.2.1
  have hB20 := hI.2.2.2.2.2.2.2.2.2
  have hBd := hB 21
  refine lv_iconst (v := nI 0) hx hb dX10_guilty_0 (by decide) ?_
  refine lv_istore_n (lv' := [(1, .int (nI 0)), (0, .ref (ad Γ (b + 0)))]) hx hb dX10_guilty_1 rfl hl (by decide) rfl (fun ls hl => ?_)
  refine lv_iconst (v := nI 0) hx hb dX10_guilty_2 (by decide) ?_
  refine lv_istore_n (lv' := [(2, .int (nI 0)), (1, .int (nI 0)), (0, .ref (ad Γ (b + 0)))]) hx hb dX10_guilty_3 rfl hl (by decide) rfl (fun ls hl => ?_)
  refine nr_lp (σ := Nat × Nat) (pc := 4) (fun x lv => lv = [(0, .ref (ad Γ (b + 0))), (1, .int (nI x.2)), (2, .int (nI x.1))] ∧ (x.1 ≤ V 0) ∧ (x.2 = cnt (guiltyP V) x.1)) (fun x => V 0 - x.1) (0, 0) (lv_sub hl [2, 1, 0] rfl) ⟨rfl, by omega, rfl⟩ ?_
  intro x lv ls hl hI ih4
  obtain ⟨i, t⟩ := x
  obtain ⟨rfl, hi, ht⟩ := hI
  try dsimp only at hi ht hl ih4
  have ht2 := cnt_le (guiltyP V) i
  refine lv_iload_n hx hb dX10_guilty_4 rfl (lv_at hl 2 rfl) ?_
  refine lv_aload_n hx hb dX10_guilty_5 rfl (lv_at hl 0 rfl) ?_
  refine nr_get (own := RX10) (C := RX10) (T := TX10) (N := 15) (v := .int (nI (V 0))) hx hb hts hi_X10_guilty_X10 hown hw (by omega) (isV_0 hV) rfl 0 (by decide) wl_X10_guilty_1 rfl rfl dX10_guilty_6 ?_
  refine nr_icmp_ge (tgt := 29) hx hb (by omega) (by omega) dX10_guilty_9 (by decide) (fun c1 => ?_) (fun c1 => ?_)
  · refine lv_iload_n hx hb dX10_guilty_29 rfl (lv_at hl 1 rfl) ?_
    exact nr_retS hx hb hr hlocks (by rw [ht, show i = V 0 by omega]) rfl dX10_guilty_30
  · refine lv_aload_n hx hb dX10_guilty_12 rfl (lv_at hl 0 rfl) ?_
    refine lv_iload_n hx hb dX10_guilty_13 rfl (lv_at hl 2 rfl) ?_
    refine nr_goB (P := guiltyP V i) (nr_runV (As := [.int (nI i)]) (C := RX10) (T := TX10) (N := 15) ⟨hx, hb, hml, hown, hts⟩ hw (by omega) (isV_0 hV) rfl (c_X10_isGuilty l Γ n G b V hV hI hbn i (by omega)) (cwV 1 hts gX10_guilty_X10_isGuilty rfl rfl rfl (by decide +kernel) ⟨Nat.le_of_ble_eq_true rfl, Nat.le_of_ble_eq_true rfl⟩) rfl hl.1 rfl (Nat.le_of_ble_eq_true rfl) dX10_guilty_14 ⟨Nat.zero_le _, Nat.zero_le _⟩) (fun b2 => ?_) (fun b2 => ?_)
    · refine nr_if_eq (tgt := 23) hx hb (by decide) dX10_guilty_17 (by decide) (fun c3 => absurd c3 (by decide)) (fun c3 => ?_)
      refine nr_inc (d := 1) (k := 1) (lv' := [(1, .int (nI (t + 1))), (0, .ref (ad Γ (b + 0))), (2, .int (nI i))]) hx hb dX10_guilty_20 hl rfl (by decide) (by decide) rfl (fun ls hl => ?_)
      refine nr_inc (d := 1) (k := 2) (lv' := [(2, .int (nI (i + 1))), (1, .int (nI (t + 1))), (0, .ref (ad Γ (b + 0)))]) hx hb dX10_guilty_23 hl rfl (by decide) (by decide) rfl (fun ls hl => ?_)
      refine lv_goto (tgt := 4) hx hb dX10_guilty_26 (by decide) ?_
      exact ih4 (i + 1, t + 1) _ _ (lv_sub hl [2, 1, 0] rfl) ⟨rfl, by omega, by rw [ht]; simp only [cnt]; first | rw [if_pos (by assumption)] | rw [if_neg (by assumption)]⟩ (by (try dsimp only); omega)
    · refine nr_if_eq (tgt := 23) hx hb (by decide) dX10_guilty_17 (by decide) (fun c4 => ?_) (fun c4 => absurd c4 (by decide))
      refine nr_inc (d := 1) (k := 2) (lv' := [(2, .int (nI (i + 1))), (0, .ref (ad Γ (b + 0))), (1, .int (nI t))]) hx hb dX10_guilty_23 hl rfl (by decide) (by decide) rfl (fun ls hl => ?_)
      refine lv_goto (tgt := 4) hx hb dX10_guilty_26 (by decide) ?_
      exact ih4 (i + 1, t) _ _ (lv_sub hl [1, 2, 0] rfl) ⟨rfl, by omega, by rw [ht]; simp only [cnt]; first | rw [if_pos (by assumption)] | rw [if_neg (by assumption)]⟩ (by (try dsimp only); omega)
theorem wl_X10_strokes_1 : Cond.fieldLink RX10 55 "BellForgiven$Valley" "people" "I" ∈ wsX10_strokes := List.mem_of_getElem? (i := 1) rfl
theorem wl_X10_strokes_2 : Cond.fieldLink RX10 15 "BellForgiven$Valley" "rung" "[I" ∈ wsX10_strokes := List.mem_of_getElem? (i := 2) rfl
theorem hi_X10_strokes_X10 : ∀ w ∈ u_ws RX10 TX10 15, w ∈ wsX10_strokes := fun w h => (List.mem_cons_of_mem _ (List.mem_append_right _ h))
set_option maxHeartbeats 4000000 in
set_option maxRecDepth 100000 in
theorem c_X10_strokes (l : Launch) (Γ : Gam) (n : Nat) (G : Nat → va_E) (b : Nat) (V : Nat → Nat) (hV : isV Γ G b V) (hI : vI V) (hbn : b + 16 ≤ n)  : Met l yX10_strokes wsX10_strokes ({ frames := 0, cells := 0, slots := 0, locals := 0 }) (va_Pc [.ref (ad Γ (b + 0))] (fun U => hw Γ n G U U.heap)) (vp_Si (fun z => z = nI (sumN (fun j => V (6 + j)) (V 0)))) 0 0 (fun _ => False) := by
  refine Met.ofW (cc := cX10_strokes) (maxL := 3) (ret := (some .int)) (by decide) rfl ?_
  intro p e s m args below meth c s₁ B hml hv
  obtain ⟨rfl, hw⟩ := hv
  have hx := B.exec
  have hb := B.bytes
  have hr := B.returns
  have hts := atoms_spec (ws := wsX10_strokes) B.pre
  have hown : s.vm.findClass RX10 = some m.cls := findClass_of_methodNamed B.named
  have hlocks := B.notSynchronized
  have hl := lv_entry ([.ref (ad Γ (b + 0))]) (n := 3) (Nat.le_of_ble_eq_true rfl)
  rw [lg_entry_eq]
  generalize (lg_sl ([.ref (ad Γ (b + 0))]) ++ List.replicate (3 - (lg_sl ([.ref (ad Γ (b + 0))])).length) Slot.unset).toArray = ls at hl ⊢
  have hl : lv_has ls 3 [(0, .ref (ad Γ (b + 0)))] := hl
  have hB := hI.1
  have hB0 := hI.2.1
  have hB1 := hI.2.2.1
  have hB20 := hI.2.2.2.2.2.2.2.2.2
  have hBd := hB 21
  refine lv_iconst (v := nI 0) hx hb dX10_strokes_0 (by decide) ?_
  refine lv_istore_n (lv' := [(1, .int (nI 0)), (0, .ref (ad Γ (b + 0)))]) hx hb dX10_strokes_1 rfl hl (by decide) rfl (fun ls hl => ?_)
  refine lv_iconst (v := nI 0) hx hb dX10_strokes_2 (by decide) ?_
  refine lv_istore_n (lv' := [(2, .int (nI 0)), (1, .int (nI 0)), (0, .ref (ad Γ (b + 0)))]) hx hb dX10_strokes_3 rfl hl (by decide) rfl (fun ls hl => ?_)
  refine nr_lp (σ := Nat × Nat) (pc := 4) (fun x lv => lv = [(0, .ref (ad Γ (b + 0))), (1, .int (nI x.2)), (2, .int (nI x.1))] ∧ (x.1 ≤ V 0) ∧ (x.2 = sumN (fun j => V (6 + j)) x.1)) (fun x => V 0 - x.1) (0, 0) (lv_sub hl [2, 1, 0] rfl) ⟨rfl, by omega, rfl⟩ ?_
  intro x lv ls hl hI ih4
  obtain ⟨i, t⟩ := x
  obtain ⟨rfl, hi, ht⟩ := hI
  try dsimp only at hi ht hl ih4
  have ht2 := sumN_le (f := fun j => V (6 + j)) (c := 1999) (fun j => hB _) i
  refine lv_iload_n hx hb dX10_strokes_4 rfl (lv_at hl 2 rfl) ?_
  refine lv_aload_n hx hb dX10_strokes_5 rfl (lv_at hl 0 rfl) ?_
  refine nr_get (own := RX10) (C := RX10) (T := TX10) (N := 15) (v := .int (nI (V 0))) hx hb hts hi_X10_strokes_X10 hown hw (by omega) (isV_0 hV) rfl 0 (by decide) wl_X10_strokes_1 rfl rfl dX10_strokes_6 ?_
  refine nr_icmp_ge (tgt := 27) hx hb (by omega) (by omega) dX10_strokes_9 (by decide) (fun c1 => ?_) (fun c1 => ?_)
  · refine lv_iload_n hx hb dX10_strokes_27 rfl (lv_at hl 1 rfl) ?_
    exact nr_retS hx hb hr hlocks (by rw [ht, show i = V 0 by omega]) rfl dX10_strokes_28
  · refine lv_iload_n hx hb dX10_strokes_12 rfl (lv_at hl 1 rfl) ?_
    refine lv_aload_n hx hb dX10_strokes_13 rfl (lv_at hl 0 rfl) ?_
    refine nr_get (own := RX10) (C := RX10) (T := TX10) (N := 15) (v := .ref (ad Γ (b + 2))) hx hb hts hi_X10_strokes_X10 hown hw (by omega) (isV_0 hV) rfl 2 (by decide) wl_X10_strokes_2 rfl rfl dX10_strokes_14 ?_
    refine lv_iload_n hx hb dX10_strokes_17 rfl (lv_at hl 2 rfl) ?_
    refine nr_iald (x := (V (6 + i))) hx hb hw (by omega) (isV_2 hV) rfl (by omega) (by decide) dX10_strokes_18 ?_
    have hL2 := hB (6 + i)
    refine nr_iadd hx hb dX10_strokes_19 ?_
    refine lv_istore_n (lv' := [(1, .int (nI (t + (V (6 + i))))), (0, .ref (ad Γ (b + 0))), (2, .int (nI i))]) hx hb dX10_strokes_20 rfl hl (by decide) rfl (fun ls hl => ?_)
    refine nr_inc (d := 1) (k := 2) (lv' := [(2, .int (nI (i + 1))), (1, .int (nI (t + (V (6 + i))))), (0, .ref (ad Γ (b + 0)))]) hx hb dX10_strokes_21 hl rfl (by decide) (by decide) rfl (fun ls hl => ?_)
    refine lv_goto (tgt := 4) hx hb dX10_strokes_24 (by decide) ?_
    exact ih4 (i + 1, t + (V (6 + i))) _ _ (lv_sub hl [2, 1, 0] rfl) ⟨rfl, by omega, by rw [ht]; rfl⟩ (by (try dsimp only); omega)
theorem wl_X10_told_1 : Cond.fieldLink RX10 18 "BellForgiven$Valley" "kind" "[I" ∈ wsX10_told := List.mem_of_getElem? (i := 1) rfl
theorem wl_X10_told_2 : Cond.fieldLink RX10 21 "BellForgiven$Valley" "by" "[I" ∈ wsX10_told := List.mem_of_getElem? (i := 2) rfl
theorem wl_X10_told_3 : Cond.fieldLink RX10 24 "BellForgiven$Valley" "to" "[I" ∈ wsX10_told := List.mem_of_getElem? (i := 3) rfl
theorem wl_X10_told_4 : Cond.fieldLink RX10 27 "BellForgiven$Valley" "gravity" "[I" ∈ wsX10_told := List.mem_of_getElem? (i := 4) rfl
theorem wl_X10_told_5 : Cond.fieldLink RX10 30 "BellForgiven$Valley" "age" "[I" ∈ wsX10_told := List.mem_of_getElem? (i := 5) rfl
theorem wl_X10_told_6 : Cond.fieldLink RX10 62 "BellForgiven$Valley" "letOff" "I" ∈ wsX10_told := List.mem_of_getElem? (i := 6) rfl
theorem wl_X10_told_7 : Cond.static yX11_holds ∈ wsX10_told := List.mem_of_getElem? (i := 7) rfl
theorem wl_X10_told_8 : Cond.initialized RX11 ∈ wsX10_told := List.mem_of_getElem? (i := 8) rfl
theorem hi_X10_told_X10 : ∀ w ∈ u_ws RX10 TX10 15, w ∈ wsX10_told := fun w h => (List.mem_cons_of_mem _ (List.mem_append_right _ h))
set_option maxHeartbeats 4000000 in
set_option maxRecDepth 100000 in
theorem c_X10_told (l : Launch) (Γ : Gam) (n : Nat) (G : Nat → va_E) (b : Nat) (V : Nat → Nat) (hV : isV Γ G b V) (hI : vI V) (hbn : b + 16 ≤ n) (k what : Nat) (hk : k < 8) (hwh : what < 2147483648)  : Met l yX10_told wsX10_told ({ frames := 3, cells := 0, slots := 0, locals := 67 }) (va_Pc [.ref (ad Γ (b + 0)), .int (nI k), .int (nI what)] (fun U => hw Γ n G U U.heap)) (vp_Si (fun z => z = nI (sTold V k what))) 0 0 (fun _ => False) := by
  refine Met.ofW (cc := cX10_told) (maxL := 3) (ret := (some .int)) (by decide) rfl ?_
  intro p e s m args below meth c s₁ B hml hv
  obtain ⟨rfl, hw⟩ := hv
  have hx := B.exec
  have hb := B.bytes
  have hr := B.returns
  have hts := atoms_spec (ws := wsX10_told) B.pre
  have hown : s.vm.findClass RX10 = some m.cls := findClass_of_methodNamed B.named
  have hlocks := B.notSynchronized
  have hl := lv_entry ([.ref (ad Γ (b + 0)), .int (nI k), .int (nI what)]) (n := 3) (Nat.le_of_ble_eq_true rfl)
  rw [lg_entry_eq]
  generalize (lg_sl ([.ref (ad Γ (b + 0)), .int (nI k), .int (nI what)]) ++ List.replicate (3 - (lg_sl ([.ref (ad Γ (b + 0)), .int (nI k), .int (nI what)])).length) Slot.unset).toArray = ls at hl ⊢
  have hl : lv_has ls 3 [(0, .ref (ad Γ (b + 0))), (1, .int (nI k)), (2, .int (nI what))] := hl
  have hB := hI.1
  have hB0 := hI.2.1
  have hB1 := hI.2.2.1
  have hB20 := hI.2.2.2.2.2.2.2.2.2
  have hBd := hB 21
  refine lv_iload_n hx hb dX10_told_0 rfl (lv_at hl 2 rfl) ?_
  rcases (show what = 0 ∨ what = 1 ∨ what = 2 ∨ what = 3 ∨ what = 4 ∨ what = 5 ∨ 5 < what by omega) with c1 | c1 | c1 | c1 | c1 | c1 | c1
  · refine nr_tabIn (j := 0) (tgt := 40) hx hb (by omega) c1 dX10_told_1 (by decide) (by decide) rfl (by decide) ?_
    refine lv_aload_n hx hb dX10_told_40 rfl (lv_at hl 0 rfl) ?_
    refine nr_get (own := RX10) (C := RX10) (T := TX10) (N := 15) (v := .ref (ad Γ (b + 3))) hx hb hts hi_X10_told_X10 hown hw (by omega) (isV_0 hV) rfl 4 (by decide) wl_X10_told_1 rfl rfl dX10_told_41 ?_
    refine lv_iload_n hx hb dX10_told_44 rfl (lv_at hl 1 rfl) ?_
    refine nr_iald (x := (V (28 + k))) hx hb hw (by omega) (isV_3 hV) rfl (by omega) (by decide) dX10_told_45 ?_
    have hL2 := hB (28 + k)
    exact nr_retS hx hb hr hlocks (by refine congrArg nI ?_; unfold sTold; (repeat' split) <;> first | rfl | omega) rfl dX10_told_46
  · refine nr_tabIn (j := 1) (tgt := 47) hx hb (by omega) c1 dX10_told_1 (by decide) (by decide) rfl (by decide) ?_
    refine lv_aload_n hx hb dX10_told_47 rfl (lv_at hl 0 rfl) ?_
    refine nr_get (own := RX10) (C := RX10) (T := TX10) (N := 15) (v := .ref (ad Γ (b + 4))) hx hb hts hi_X10_told_X10 hown hw (by omega) (isV_0 hV) rfl 5 (by decide) wl_X10_told_2 rfl rfl dX10_told_48 ?_
    refine lv_iload_n hx hb dX10_told_51 rfl (lv_at hl 1 rfl) ?_
    refine nr_iald (x := (V (36 + k))) hx hb hw (by omega) (isV_4 hV) rfl (by omega) (by decide) dX10_told_52 ?_
    have hL3 := hB (36 + k)
    exact nr_retS hx hb hr hlocks (by refine congrArg nI ?_; unfold sTold; (repeat' split) <;> first | rfl | omega) rfl dX10_told_53
  · refine nr_tabIn (j := 2) (tgt := 54) hx hb (by omega) c1 dX10_told_1 (by decide) (by decide) rfl (by decide) ?_
    refine lv_aload_n hx hb dX10_told_54 rfl (lv_at hl 0 rfl) ?_
    refine nr_get (own := RX10) (C := RX10) (T := TX10) (N := 15) (v := .ref (ad Γ (b + 5))) hx hb hts hi_X10_told_X10 hown hw (by omega) (isV_0 hV) rfl 6 (by decide) wl_X10_told_3 rfl rfl dX10_told_55 ?_
    refine lv_iload_n hx hb dX10_told_58 rfl (lv_at hl 1 rfl) ?_
    refine nr_iald (x := (V (44 + k))) hx hb hw (by omega) (isV_5 hV) rfl (by omega) (by decide) dX10_told_59 ?_
    have hL4 := hB (44 + k)
    exact nr_retS hx hb hr hlocks (by refine congrArg nI ?_; unfold sTold; (repeat' split) <;> first | rfl | omega) rfl dX10_told_60
  · refine nr_tabIn (j := 3) (tgt := 61) hx hb (by omega) c1 dX10_told_1 (by decide) (by decide) rfl (by decide) ?_
    refine lv_aload_n hx hb dX10_told_61 rfl (lv_at hl 0 rfl) ?_
    refine nr_get (own := RX10) (C := RX10) (T := TX10) (N := 15) (v := .ref (ad Γ (b + 6))) hx hb hts hi_X10_told_X10 hown hw (by omega) (isV_0 hV) rfl 7 (by decide) wl_X10_told_4 rfl rfl dX10_told_62 ?_
    refine lv_iload_n hx hb dX10_told_65 rfl (lv_at hl 1 rfl) ?_
    refine nr_iald (x := (V (52 + k))) hx hb hw (by omega) (isV_6 hV) rfl (by omega) (by decide) dX10_told_66 ?_
    have hL5 := hB (52 + k)
    exact nr_retS hx hb hr hlocks (by refine congrArg nI ?_; unfold sTold; (repeat' split) <;> first | rfl | omega) rfl dX10_told_67
  · refine nr_tabIn (j := 4) (tgt := 68) hx hb (by omega) c1 dX10_told_1 (by decide) (by decide) rfl (by decide) ?_
    refine lv_aload_n hx hb dX10_told_68 rfl (lv_at hl 0 rfl) ?_
    refine nr_get (own := RX10) (C := RX10) (T := TX10) (N := 15) (v := .ref (ad Γ (b + 7))) hx hb hts hi_X10_told_X10 hown hw (by omega) (isV_0 hV) rfl 8 (by decide) wl_X10_told_5 rfl rfl dX10_told_69 ?_
    refine lv_iload_n hx hb dX10_told_72 rfl (lv_at hl 1 rfl) ?_
    refine nr_iald (x := (V (12 + k))) hx hb hw (by omega) (isV_7 hV) rfl (by omega) (by decide) dX10_told_73 ?_
    have hL6 := hB (12 + k)
    exact nr_retS hx hb hr hlocks (by refine congrArg nI ?_; unfold sTold; (repeat' split) <;> first | rfl | omega) rfl dX10_told_74
  · refine nr_tabIn (j := 5) (tgt := 75) hx hb (by omega) c1 dX10_told_1 (by decide) (by decide) rfl (by decide) ?_
    refine lv_aload_n hx hb dX10_told_75 rfl (lv_at hl 0 rfl) ?_
    refine nr_get (own := RX10) (C := RX10) (T := TX10) (N := 15) (v := .int (nI (V 20))) hx hb hts hi_X10_told_X10 hown hw (by omega) (isV_0 hV) rfl 9 (by decide) wl_X10_told_6 rfl rfl dX10_told_76 ?_
    refine lv_iload_n hx hb dX10_told_79 rfl (lv_at hl 1 rfl) ?_
    refine nr_goB (P := bt (V 20) k) (nr_runN (As := [.int (nI (V 20)), .int (nI k)]) ⟨hx, hb, hml, hown, hts⟩ hw (c_X11_holds l Γ n G (V 20) k (by omega) (by omega)) ⟨va_cnB 2 hts gX10_told_X11_holds_n95 rfl rfl rfl (hw.2.2 _ (List.mem_of_getElem? (i := 15) rfl)) (hts _ wl_X10_told_8) (by decide +kernel) ⟨Nat.le_of_ble_eq_true rfl, Nat.le_of_ble_eq_true rfl⟩, hts _ wl_X10_told_7, trivial⟩ rfl hl.1 rfl (Nat.le_of_ble_eq_true rfl) dX10_told_80 ⟨Nat.zero_le _, Nat.zero_le _⟩) (fun b7 => ?_) (fun b7 => ?_)
    · refine nr_if_eq (tgt := 90) hx hb (by decide) dX10_told_83 (by decide) (fun c8 => absurd c8 (by decide)) (fun c8 => ?_)
      refine lv_iconst (v := nI 1) hx hb dX10_told_86 (by decide) ?_
      refine lv_goto (tgt := 91) hx hb dX10_told_87 (by decide) ?_
      exact nr_retS hx hb hr hlocks (by refine congrArg nI ?_; unfold sTold; (repeat' split) <;> first | rfl | omega) rfl dX10_told_91
    · refine nr_if_eq (tgt := 90) hx hb (by decide) dX10_told_83 (by decide) (fun c9 => ?_) (fun c9 => absurd c9 (by decide))
      refine lv_iconst (v := nI 0) hx hb dX10_told_90 (by decide) ?_
      exact nr_retS hx hb hr hlocks (by refine congrArg nI ?_; unfold sTold; (repeat' split) <;> first | rfl | omega) rfl dX10_told_91
  · refine nr_tabOut (tgt := 92) hx hb (by omega) dX10_told_1 (by omega) (by decide) ?_
    refine lv_aload_n hx hb dX10_told_92 rfl (lv_at hl 0 rfl) ?_
    refine lv_iload_n hx hb dX10_told_93 rfl (lv_at hl 1 rfl) ?_
    refine lv_iconst (v := nI 0) hx hb dX10_told_94 (by decide) ?_
    refine nr_goS (nr_runV (As := [.int (nI k), .int (nI 0)]) (C := RX10) (T := TX10) (N := 15) ⟨hx, hb, hml, hown, hts⟩ hw (by omega) (isV_0 hV) rfl (c_X10_weight l Γ n G b V hV hI hbn k 0 (by omega) (by omega)) (cwV 2 hts gX10_told_X10_weight rfl rfl rfl (by decide +kernel) ⟨Nat.le_of_ble_eq_true rfl, Nat.le_of_ble_eq_true rfl⟩) rfl hl.1 rfl (Nat.le_of_ble_eq_true rfl) dX10_told_95 ⟨Nat.zero_le _, Nat.zero_le _⟩) (fun r10 hr10 => ?_)
    obtain rfl : r10 = (nI (sW V k 0)) := hr10
    exact nr_retS hx hb hr hlocks (by refine congrArg nI ?_; unfold sTold; (repeat' split) <;> first | rfl | omega) rfl dX10_told_98
theorem wl_X10_allWrongs_1 : Cond.fieldLink RX10 59 "BellForgiven$Valley" "wrongs" "I" ∈ wsX10_allWrongs := List.mem_of_getElem? (i := 1) rfl
theorem hi_X10_allWrongs_X10 : ∀ w ∈ u_ws RX10 TX10 15, w ∈ wsX10_allWrongs := fun w h => (List.mem_cons_of_mem _ (List.mem_append_right _ h))
set_option maxHeartbeats 4000000 in
set_option maxRecDepth 100000 in
theorem c_X10_allWrongs (l : Launch) (Γ : Gam) (n : Nat) (G : Nat → va_E) (b : Nat) (V : Nat → Nat) (hV : isV Γ G b V) (hI : vI V) (hbn : b + 16 ≤ n)  : Met l yX10_allWrongs wsX10_allWrongs ({ frames := 0, cells := 0, slots := 0, locals := 0 }) (va_Pc [.ref (ad Γ (b + 0))] (fun U => hw Γ n G U U.heap)) (vp_Si (fun z => z = nI (2 ^ V 1 - 1))) 0 0 (fun _ => False) := by
  refine Met.ofW (cc := cX10_allWrongs) (maxL := 1) (ret := (some .int)) (by decide) rfl ?_
  intro p e s m args below meth c s₁ B hml hv
  obtain ⟨rfl, hw⟩ := hv
  have hx := B.exec
  have hb := B.bytes
  have hr := B.returns
  have hts := atoms_spec (ws := wsX10_allWrongs) B.pre
  have hown : s.vm.findClass RX10 = some m.cls := findClass_of_methodNamed B.named
  have hlocks := B.notSynchronized
  have hl := lv_entry ([.ref (ad Γ (b + 0))]) (n := 1) (Nat.le_of_ble_eq_true rfl)
  rw [lg_entry_eq]
  generalize (lg_sl ([.ref (ad Γ (b + 0))]) ++ List.replicate (1 - (lg_sl ([.ref (ad Γ (b + 0))])).length) Slot.unset).toArray = ls at hl ⊢
  have hl : lv_has ls 1 [(0, .ref (ad Γ (b + 0)))] := hl
  have hB := hI.1
  have hB0 := hI.2.1
  have hB1 := hI.2.2.1
  have hB20 := hI.2.2.2.2.2.2.2.2.2
  have hBd := hB 21
  have h2 := Nat.one_le_two_pow (n := V 1)
  refine lv_iconst (v := nI 1) hx hb dX10_allWrongs_0 (by decide) ?_
  refine lv_aload_n hx hb dX10_allWrongs_1 rfl (lv_at hl 0 rfl) ?_
  refine nr_get (own := RX10) (C := RX10) (T := TX10) (N := 15) (v := .int (nI (V 1))) hx hb hts hi_X10_allWrongs_X10 hown hw (by omega) (isV_0 hV) rfl 3 (by decide) wl_X10_allWrongs_1 rfl rfl dX10_allWrongs_2 ?_
  refine nr_ishl1 hx hb (by omega) dX10_allWrongs_5 ?_
  refine lv_iconst (v := nI 1) hx hb dX10_allWrongs_6 (by decide) ?_
  refine nr_isub hx hb (by omega) dX10_allWrongs_7 ?_
  exact nr_retS hx hb hr hlocks (rfl) rfl dX10_allWrongs_8
theorem wl_X7_isFull_1 : Cond.fieldLink RX7 17 "BellForgiven$Rows" "size" "I" ∈ wsX7_isFull := List.mem_of_getElem? (i := 1) rfl
theorem wl_X7_isFull_2 : Cond.fieldLink RX7 7 "BellForgiven$Rows" "most" "I" ∈ wsX7_isFull := List.mem_of_getElem? (i := 2) rfl
theorem hi_X7_isFull_X7 : ∀ w ∈ u_ws RX7 TX7 3, w ∈ wsX7_isFull := fun w h => (List.mem_cons_of_mem _ (List.mem_append_right _ h))
set_option maxHeartbeats 4000000 in
set_option maxRecDepth 100000 in
theorem c_X7_isFull (l : Launch) (Γ : Gam) (n : Nat) (G : Nat → va_E) (ro rc off len most size : Nat) (V : Nat → Nat) (hR : G ro = .inr (5, [.ref (ad Γ rc), .int (nI most), .int (nI size)])) (hC : G rc = na Γ len (fun j => V (off + j))) (hro : ro < n) (hrc : rc < n) (hB : ∀ j, V j ≤ 1999) (hlen : len ≤ 200) (hm : most ≤ 6) (hz : size ≤ most) (hzl : most * 4 ≤ len)  : Met l yX7_isFull wsX7_isFull ({ frames := 0, cells := 0, slots := 0, locals := 0 }) (va_Pc [.ref (ad Γ ro)] (fun U => hw Γ n G U U.heap)) (vp_Si (bp (most ≤ size))) 0 0 (fun _ => False) := by
  refine Met.ofW (cc := cX7_isFull) (maxL := 1) (ret := (some .boolean)) (by decide) rfl ?_
  intro p e s m args below meth c s₁ B hml hv
  obtain ⟨rfl, hw⟩ := hv
  have hx := B.exec
  have hb := B.bytes
  have hr := B.returns
  have hts := atoms_spec (ws := wsX7_isFull) B.pre
  have hown : s.vm.findClass RX7 = some m.cls := findClass_of_methodNamed B.named
  have hlocks := B.notSynchronized
  have hl := lv_entry ([.ref (ad Γ ro)]) (n := 1) (Nat.le_of_ble_eq_true rfl)
  rw [lg_entry_eq]
  generalize (lg_sl ([.ref (ad Γ ro)]) ++ List.replicate (1 - (lg_sl ([.ref (ad Γ ro)])).length) Slot.unset).toArray = ls at hl ⊢
  have hl : lv_has ls 1 [(0, .ref (ad Γ ro))] := hl
  refine lv_aload_n hx hb dX7_isFull_0 rfl (lv_at hl 0 rfl) ?_
  refine nr_get (own := RX7) (C := RX7) (T := TX7) (N := 3) (v := .int (nI size)) hx hb hts hi_X7_isFull_X7 hown hw (by omega) hR rfl 2 (by decide) wl_X7_isFull_1 rfl rfl dX7_isFull_1 ?_
  refine lv_aload_n hx hb dX7_isFull_4 rfl (lv_at hl 0 rfl) ?_
  refine nr_get (own := RX7) (C := RX7) (T := TX7) (N := 3) (v := .int (nI most)) hx hb hts hi_X7_isFull_X7 hown hw (by omega) hR rfl 1 (by decide) wl_X7_isFull_2 rfl rfl dX7_isFull_5 ?_
  refine nr_icmp_lt (tgt := 15) hx hb (by omega) (by omega) dX7_isFull_8 (by decide) (fun c1 => ?_) (fun c1 => ?_)
  · refine lv_iconst (v := nI 0) hx hb dX7_isFull_15 (by decide) ?_
    exact nr_retB hx hb hr hlocks (Or.inr ⟨by omega, rfl⟩) rfl dX7_isFull_16
  · refine lv_iconst (v := nI 1) hx hb dX7_isFull_11 (by decide) ?_
    refine lv_goto (tgt := 16) hx hb dX7_isFull_12 (by decide) ?_
    exact nr_retB hx hb hr hlocks (Or.inl ⟨by omega, rfl⟩) rfl dX7_isFull_16
theorem wl_X7_cell_1 : Cond.fieldLink RX7 13 "BellForgiven$Rows" "cells" "[I" ∈ wsX7_cell := List.mem_of_getElem? (i := 1) rfl
theorem hi_X7_cell_X7 : ∀ w ∈ u_ws RX7 TX7 3, w ∈ wsX7_cell := fun w h => (List.mem_cons_of_mem _ (List.mem_append_right _ h))
set_option maxHeartbeats 4000000 in
set_option maxRecDepth 100000 in
theorem c_X7_cell (l : Launch) (Γ : Gam) (n : Nat) (G : Nat → va_E) (ro rc off len most size : Nat) (V : Nat → Nat) (hR : G ro = .inr (5, [.ref (ad Γ rc), .int (nI most), .int (nI size)])) (hC : G rc = na Γ len (fun j => V (off + j))) (hro : ro < n) (hrc : rc < n) (hB : ∀ j, V j ≤ 1999) (hlen : len ≤ 200) (hm : most ≤ 6) (hz : size ≤ most) (hzl : most * 4 ≤ len) (r col : Nat) (hr : r < size) (hc : col < 4)  : Met l yX7_cell wsX7_cell ({ frames := 0, cells := 0, slots := 0, locals := 0 }) (va_Pc [.ref (ad Γ ro), .int (nI r), .int (nI col)] (fun U => hw Γ n G U U.heap)) (vp_Si (fun z => z = nI (V (off + (r * 4 + col))))) 0 0 (fun _ => False) := by
  refine Met.ofW (cc := cX7_cell) (maxL := 3) (ret := (some .int)) (by decide) rfl ?_
  intro p e s m args below meth c s₁ B hml hv
  obtain ⟨rfl, hw⟩ := hv
  have hx := B.exec
  have hb := B.bytes
  have hr := B.returns
  have hts := atoms_spec (ws := wsX7_cell) B.pre
  have hown : s.vm.findClass RX7 = some m.cls := findClass_of_methodNamed B.named
  have hlocks := B.notSynchronized
  have hl := lv_entry ([.ref (ad Γ ro), .int (nI r), .int (nI col)]) (n := 3) (Nat.le_of_ble_eq_true rfl)
  rw [lg_entry_eq]
  generalize (lg_sl ([.ref (ad Γ ro), .int (nI r), .int (nI col)]) ++ List.replicate (3 - (lg_sl ([.ref (ad Γ ro), .int (nI r), .int (nI col)])).length) Slot.unset).toArray = ls at hl ⊢
  have hl : lv_has ls 3 [(0, .ref (ad Γ ro)), (1, .int (nI r)), (2, .int (nI col))] := hl
  refine lv_aload_n hx hb dX7_cell_0 rfl (lv_at hl 0 rfl) ?_
  refine nr_get (own := RX7) (C := RX7) (T := TX7) (N := 3) (v := .ref (ad Γ rc)) hx hb hts hi_X7_cell_X7 hown hw (by omega) hR rfl 0 (by decide) wl_X7_cell_1 rfl rfl dX7_cell_1 ?_
  refine lv_iload_n hx hb dX7_cell_4 rfl (lv_at hl 1 rfl) ?_
  refine lv_iconst (v := nI 4) hx hb dX7_cell_5 (by decide) ?_
  refine nr_imul hx hb dX7_cell_6 ?_
  refine lv_iload_n hx hb dX7_cell_7 rfl (lv_at hl 2 rfl) ?_
  refine nr_iadd hx hb dX7_cell_8 ?_
  refine nr_iald (x := (V (off + (r * 4 + col)))) hx hb hw (by omega) hC rfl (by omega) (by omega) dX7_cell_9 ?_
  have hL1 := hB (off + (r * 4 + col))
  exact nr_retS hx hb hr hlocks (rfl) rfl dX7_cell_10
theorem wl_X7_digestOn_1 : Cond.fieldLink RX7 17 "BellForgiven$Rows" "size" "I" ∈ wsX7_digestOn := List.mem_of_getElem? (i := 1) rfl
theorem wl_X7_digestOn_2 : Cond.constantLong RX7 26 (31) ∈ wsX7_digestOn := List.mem_of_getElem? (i := 2) rfl
theorem wl_X7_digestOn_3 : Cond.fieldLink RX7 13 "BellForgiven$Rows" "cells" "[I" ∈ wsX7_digestOn := List.mem_of_getElem? (i := 3) rfl
theorem hi_X7_digestOn_X7 : ∀ w ∈ u_ws RX7 TX7 3, w ∈ wsX7_digestOn := fun w h => (List.mem_cons_of_mem _ (List.mem_append_right _ h))
set_option maxHeartbeats 4000000 in
set_option maxRecDepth 100000 in
theorem c_X7_digestOn (l : Launch) (Γ : Gam) (n : Nat) (G : Nat → va_E) (ro rc off len most size : Nat) (V : Nat → Nat) (hR : G ro = .inr (5, [.ref (ad Γ rc), .int (nI most), .int (nI size)])) (hC : G rc = na Γ len (fun j => V (off + j))) (hro : ro < n) (hrc : rc < n) (hB : ∀ j, V j ≤ 1999) (hlen : len ≤ 200) (hm : most ≤ 6) (hz : size ≤ most) (hzl : most * 4 ≤ len) (h : Nat)  : Met l yX7_digestOn wsX7_digestOn ({ frames := 0, cells := 0, slots := 0, locals := 0 }) (va_Pc [.ref (ad Γ ro), .long (lN h)] (fun U => hw Γ n G U U.heap)) (vp_Sl (fun z => z = lN (dg (fun j => V (off + j)) h (size * 4)))) 0 0 (fun _ => False) := by
  refine Met.ofW (cc := cX7_digestOn) (maxL := 4) (ret := (some .long)) (by decide) rfl ?_
  intro p e s m args below meth c s₁ B hml hv
  obtain ⟨rfl, hw⟩ := hv
  have hx := B.exec
  have hb := B.bytes
  have hr := B.returns
  have hts := atoms_spec (ws := wsX7_digestOn) B.pre
  have hown : s.vm.findClass RX7 = some m.cls := findClass_of_methodNamed B.named
  have hlocks := B.notSynchronized
  have hl := lv_entry ([.ref (ad Γ ro), .long (lN h)]) (n := 4) (Nat.le_of_ble_eq_true rfl)
  rw [lg_entry_eq]
  generalize (lg_sl ([.ref (ad Γ ro), .long (lN h)]) ++ List.replicate (4 - (lg_sl ([.ref (ad Γ ro), .long (lN h)])).length) Slot.unset).toArray = ls at hl ⊢
  have hl : lv_has ls 4 [(0, .ref (ad Γ ro)), (1, .long (lN h))] := hl
  refine lv_iconst (v := nI 0) hx hb dX7_digestOn_0 (by decide) ?_
  refine lv_istore_n (lv' := [(3, .int (nI 0)), (0, .ref (ad Γ ro)), (1, .long (lN h))]) hx hb dX7_digestOn_1 rfl hl (by decide) rfl (fun ls hl => ?_)
  refine nr_lp (σ := Nat × Nat) (pc := 2) (fun x lv => lv = [(0, .ref (ad Γ ro)), (1, .long (lN x.2)), (3, .int (nI x.1))] ∧ (x.1 ≤ size * 4) ∧ (x.2 = dg (fun j => V (off + j)) h x.1)) (fun x => size * 4 - x.1) (0, h) (lv_sub hl [1, 2, 0] rfl) ⟨rfl, by omega, rfl⟩ ?_
  intro x lv ls hl hI ih2
  obtain ⟨k, a⟩ := x
  obtain ⟨rfl, hk, ha⟩ := hI
  try dsimp only at hk ha hl ih2
  refine lv_iload_n hx hb dX7_digestOn_2 rfl (lv_at hl 2 rfl) ?_
  refine lv_aload_n hx hb dX7_digestOn_3 rfl (lv_at hl 0 rfl) ?_
  refine nr_get (own := RX7) (C := RX7) (T := TX7) (N := 3) (v := .int (nI size)) hx hb hts hi_X7_digestOn_X7 hown hw (by omega) hR rfl 2 (by decide) wl_X7_digestOn_1 rfl rfl dX7_digestOn_4 ?_
  refine lv_iconst (v := nI 4) hx hb dX7_digestOn_7 (by decide) ?_
  refine nr_imul hx hb dX7_digestOn_8 ?_
  refine nr_icmp_ge (tgt := 32) hx hb (by omega) (by omega) dX7_digestOn_9 (by decide) (fun c1 => ?_) (fun c1 => ?_)
  · refine lv_lload_n hx hb dX7_digestOn_32 rfl (lv_at hl 1 rfl) ?_
    exact nr_retL hx hb hr hlocks (by rw [ha, show k = size * 4 by omega]) rfl dX7_digestOn_33
  · refine nr_ldc2 (k := 31) hx hb hown (hts _ wl_X7_digestOn_2) (by decide) dX7_digestOn_12 ?_
    refine lv_lload_n hx hb dX7_digestOn_15 rfl (lv_at hl 1 rfl) ?_
    refine nr_lmul hx hb dX7_digestOn_16 ?_
    refine lv_aload_n hx hb dX7_digestOn_17 rfl (lv_at hl 0 rfl) ?_
    refine nr_get (own := RX7) (C := RX7) (T := TX7) (N := 3) (v := .ref (ad Γ rc)) hx hb hts hi_X7_digestOn_X7 hown hw (by omega) hR rfl 0 (by decide) wl_X7_digestOn_3 rfl rfl dX7_digestOn_18 ?_
    refine lv_iload_n hx hb dX7_digestOn_21 rfl (lv_at hl 2 rfl) ?_
    refine nr_iald (x := (V (off + k))) hx hb hw (by omega) hC rfl (by omega) (by omega) dX7_digestOn_22 ?_
    have hL2 := hB (off + k)
    refine lv_i2l (v := lN (V (off + k))) hx hb dX7_digestOn_23 (nI_l (by omega)) ?_
    refine nr_ladd hx hb dX7_digestOn_24 ?_
    refine lv_lstore_n (lv' := [(1, .long (lN (31 * a + (V (off + k))))), (0, .ref (ad Γ ro)), (3, .int (nI k))]) hx hb dX7_digestOn_25 rfl hl (by decide) rfl (fun ls hl => ?_)
    refine nr_inc (d := 1) (k := 2) (lv' := [(3, .int (nI (k + 1))), (1, .long (lN (31 * a + (V (off + k))))), (0, .ref (ad Γ ro))]) hx hb dX7_digestOn_26 hl rfl (by decide) (by decide) rfl (fun ls hl => ?_)
    refine lv_goto (tgt := 2) hx hb dX7_digestOn_29 (by decide) ?_
    exact ih2 (k + 1, 31 * a + (V (off + k))) _ _ (lv_sub hl [2, 1, 0] rfl) ⟨rfl, by omega, by rw [ha]; rfl⟩ (by (try dsimp only); omega)
theorem wl_X10_digestOn_1 : Cond.fieldLink RX10 55 "BellForgiven$Valley" "people" "I" ∈ wsX10_digestOn := List.mem_of_getElem? (i := 1) rfl
theorem wl_X10_digestOn_2 : Cond.constantLong RX10 125 (31) ∈ wsX10_digestOn := List.mem_of_getElem? (i := 2) rfl
theorem wl_X10_digestOn_3 : Cond.fieldLink RX10 9 "BellForgiven$Valley" "nature" "[I" ∈ wsX10_digestOn := List.mem_of_getElem? (i := 3) rfl
theorem wl_X10_digestOn_4 : Cond.fieldLink RX10 15 "BellForgiven$Valley" "rung" "[I" ∈ wsX10_digestOn := List.mem_of_getElem? (i := 4) rfl
theorem wl_X10_digestOn_5 : Cond.fieldLink RX10 59 "BellForgiven$Valley" "wrongs" "I" ∈ wsX10_digestOn := List.mem_of_getElem? (i := 5) rfl
theorem wl_X10_digestOn_6 : Cond.fieldLink RX10 45 "BellForgiven$Valley" "marks" "LBellForgiven$Rows;" ∈ wsX10_digestOn := List.mem_of_getElem? (i := 6) rfl
theorem wl_X10_digestOn_7 : Cond.fieldLink RX10 42 "BellForgiven$Valley" "notes" "LBellForgiven$Rows;" ∈ wsX10_digestOn := List.mem_of_getElem? (i := 7) rfl
theorem wl_X10_digestOn_8 : Cond.fieldLink RX10 38 "BellForgiven$Valley" "seen" "LBellForgiven$Rows;" ∈ wsX10_digestOn := List.mem_of_getElem? (i := 8) rfl
theorem hi_X10_digestOn_X10 : ∀ w ∈ u_ws RX10 TX10 15, w ∈ wsX10_digestOn := fun w h => (List.mem_cons_of_mem _ (List.mem_append_left _ (List.mem_append_right _ h)))
set_option maxHeartbeats 4000000 in
set_option maxRecDepth 100000 in
theorem c_X10_digestOn (l : Launch) (Γ : Gam) (n : Nat) (G : Nat → va_E) (b : Nat) (V : Nat → Nat) (hV : isV Γ G b V) (hI : vI V) (hbn : b + 16 ≤ n) (h : Nat)  : Met l yX10_digestOn wsX10_digestOn ({ frames := 4, cells := 0, slots := 0, locals := 89 }) (va_Pc [.ref (ad Γ (b + 0)), .long (lN h)] (fun U => hw Γ n G U U.heap)) (vp_Sl (fun z => z = lN (dgV V h))) 0 0 (fun _ => False) := by
  refine Met.ofW (cc := cX10_digestOn) (maxL := 5) (ret := (some .long)) (by decide) rfl ?_
  intro p e s m args below meth c s₁ B hml hv
  obtain ⟨rfl, hw⟩ := hv
  have hx := B.exec
  have hb := B.bytes
  have hr := B.returns
  have hts := atoms_spec (ws := wsX10_digestOn) B.pre
  have hown : s.vm.findClass RX10 = some m.cls := findClass_of_methodNamed B.named
  have hlocks := B.notSynchronized
  have hl := lv_entry ([.ref (ad Γ (b + 0)), .long (lN h)]) (n := 5) (Nat.le_of_ble_eq_true rfl)
  rw [lg_entry_eq]
  generalize (lg_sl ([.ref (ad Γ (b + 0)), .long (lN h)]) ++ List.replicate (5 - (lg_sl ([.ref (ad Γ (b + 0)), .long (lN h)])).length) Slot.unset).toArray = ls at hl ⊢
  have hl : lv_has ls 5 [(0, .ref (ad Γ (b + 0))), (1, .long (lN h))] := hl
  have hB := hI.1
  have hB0 := hI.2.1
  have hB1 := hI.2.2.1
  have hB20 := hI.2.2.2.2.2.2.2.2.2
  have hBd := hB 21
  have hT := fun k w => sTold_le hI k w
  refine lv_iconst (v := nI 0) hx hb dX10_digestOn_0 (by decide) ?_
  refine lv_istore_n (lv' := [(3, .int (nI 0)), (0, .ref (ad Γ (b + 0))), (1, .long (lN h))]) hx hb dX10_digestOn_1 rfl hl (by decide) rfl (fun ls hl => ?_)
  refine nr_lp (σ := Nat × Nat) (pc := 2) (fun x lv => lv = [(0, .ref (ad Γ (b + 0))), (1, .long (lN x.2)), (3, .int (nI x.1))] ∧ (x.1 ≤ V 0) ∧ (x.2 = dgP V h x.1)) (fun x => V 0 - x.1) (0, h) (lv_sub hl [1, 2, 0] rfl) ⟨rfl, by omega, rfl⟩ ?_
  intro x lv ls hl hI ih2
  obtain ⟨i, a⟩ := x
  obtain ⟨rfl, hi, ha⟩ := hI
  try dsimp only at hi ha hl ih2
  refine lv_iload_n hx hb dX10_digestOn_2 rfl (lv_at hl 2 rfl) ?_
  refine lv_aload_n hx hb dX10_digestOn_3 rfl (lv_at hl 0 rfl) ?_
  refine nr_get (own := RX10) (C := RX10) (T := TX10) (N := 15) (v := .int (nI (V 0))) hx hb hts hi_X10_digestOn_X10 hown hw (by omega) (isV_0 hV) rfl 0 (by decide) wl_X10_digestOn_1 rfl rfl dX10_digestOn_4 ?_
  refine nr_icmp_ge (tgt := 44) hx hb (by omega) (by omega) dX10_digestOn_7 (by decide) (fun c1 => ?_) (fun c1 => ?_)
  · refine lv_iconst (v := nI 0) hx hb dX10_digestOn_44 (by decide) ?_
    refine lv_istore_n (lv' := [(3, .int (nI 0)), (0, .ref (ad Γ (b + 0))), (1, .long (lN a))]) hx hb dX10_digestOn_45 rfl hl (by decide) rfl (fun ls hl => ?_)
    refine nr_lp (σ := Nat × Nat) (pc := 46) (fun x lv => lv = [(0, .ref (ad Γ (b + 0))), (1, .long (lN x.2)), (3, .int (nI x.1))] ∧ (x.1 ≤ V 1) ∧ (x.2 = dgR V (dgP V h (V 0)) x.1)) (fun x => V 1 - x.1) (0, a) (lv_sub hl [1, 2, 0] rfl) ⟨rfl, by omega, by rw [ha, show i = V 0 by omega]; rfl⟩ ?_
    intro x lv ls hl hI ih46
    obtain ⟨k, a2⟩ := x
    obtain ⟨rfl, hk, ha2⟩ := hI
    try dsimp only at hk ha2 hl ih46
    refine lv_iload_n hx hb dX10_digestOn_46 rfl (lv_at hl 2 rfl) ?_
    refine lv_aload_n hx hb dX10_digestOn_47 rfl (lv_at hl 0 rfl) ?_
    refine nr_get (own := RX10) (C := RX10) (T := TX10) (N := 15) (v := .int (nI (V 1))) hx hb hts hi_X10_digestOn_X10 hown hw (by omega) (isV_0 hV) rfl 3 (by decide) wl_X10_digestOn_5 rfl rfl dX10_digestOn_48 ?_
    refine nr_icmp_ge (tgt := 91) hx hb (by omega) (by omega) dX10_digestOn_51 (by decide) (fun c2 => ?_) (fun c2 => ?_)
    · refine lv_aload_n hx hb dX10_digestOn_91 rfl (lv_at hl 0 rfl) ?_
      refine nr_get (own := RX10) (C := RX10) (T := TX10) (N := 15) (v := .ref (ad Γ (b + 10))) hx hb hts hi_X10_digestOn_X10 hown hw (by omega) (isV_0 hV) rfl 13 (by decide) wl_X10_digestOn_6 rfl rfl dX10_digestOn_92 ?_
      refine lv_aload_n hx hb dX10_digestOn_95 rfl (lv_at hl 0 rfl) ?_
      refine nr_get (own := RX10) (C := RX10) (T := TX10) (N := 15) (v := .ref (ad Γ (b + 9))) hx hb hts hi_X10_digestOn_X10 hown hw (by omega) (isV_0 hV) rfl 12 (by decide) wl_X10_digestOn_7 rfl rfl dX10_digestOn_96 ?_
      refine lv_aload_n hx hb dX10_digestOn_99 rfl (lv_at hl 0 rfl) ?_
      refine nr_get (own := RX10) (C := RX10) (T := TX10) (N := 15) (v := .ref (ad Γ (b + 8))) hx hb hts hi_X10_digestOn_X10 hown hw (by omega) (isV_0 hV) rfl 11 (by decide) wl_X10_digestOn_8 rfl rfl dX10_digestOn_100 ?_
      refine lv_lload_n hx hb dX10_digestOn_103 rfl (lv_at hl 1 rfl) ?_
      refine nr_goL (nr_runV (As := [.long (lN a2)]) (C := RX7) (T := TX7) (N := 3) ⟨hx, hb, hml, hown, hts⟩ hw (by omega) (isV_8 hV) rfl (c_X7_digestOn l Γ n G (b + 8) (b + 12) 60 20 5 (V 2) V (isV_8 hV) (isV_12 hV) (by omega) (by omega) hI.1 (by decide) (by decide) hI.2.2.2.1 (by decide) a2) (cwV 1 hts gX10_digestOn_X7_digestOn rfl rfl rfl (by decide +kernel) ⟨Nat.le_of_ble_eq_true rfl, Nat.le_of_ble_eq_true rfl⟩) rfl hl.1 rfl (Nat.le_of_ble_eq_true rfl) dX10_digestOn_104 ⟨Nat.zero_le _, Nat.zero_le _⟩) (fun r3 hr3 => ?_)
      obtain rfl : r3 = (lN (dg (fun j => V (60 + j)) a2 (V 2 * 4))) := hr3
      refine nr_goL (nr_runV (As := [.long (lN (dg (fun j => V (60 + j)) a2 (V 2 * 4)))]) (C := RX7) (T := TX7) (N := 3) ⟨hx, hb, hml, hown, hts⟩ hw (by omega) (isV_9 hV) rfl (c_X7_digestOn l Γ n G (b + 9) (b + 13) 80 24 6 (V 3) V (isV_9 hV) (isV_13 hV) (by omega) (by omega) hI.1 (by decide) (by decide) hI.2.2.2.2.1 (by decide) (dg (fun j => V (60 + j)) a2 (V 2 * 4))) (cwV 1 hts gX10_digestOn_X7_digestOn rfl rfl rfl (by decide +kernel) ⟨Nat.le_of_ble_eq_true rfl, Nat.le_of_ble_eq_true rfl⟩) rfl hl.1 rfl (Nat.le_of_ble_eq_true rfl) dX10_digestOn_107 ⟨Nat.zero_le _, Nat.zero_le _⟩) (fun r4 hr4 => ?_)
      obtain rfl : r4 = (lN (dg (fun j => V (80 + j)) (dg (fun j => V (60 + j)) a2 (V 2 * 4)) (V 3 * 4))) := hr4
      refine nr_goL (nr_runV (As := [.long (lN (dg (fun j => V (80 + j)) (dg (fun j => V (60 + j)) a2 (V 2 * 4)) (V 3 * 4)))]) (C := RX7) (T := TX7) (N := 3) ⟨hx, hb, hml, hown, hts⟩ hw (by omega) (isV_10 hV) rfl (c_X7_digestOn l Γ n G (b + 10) (b + 14) 104 24 6 (V 4) V (isV_10 hV) (isV_14 hV) (by omega) (by omega) hI.1 (by decide) (by decide) hI.2.2.2.2.2.1 (by decide) (dg (fun j => V (80 + j)) (dg (fun j => V (60 + j)) a2 (V 2 * 4)) (V 3 * 4))) (cwV 1 hts gX10_digestOn_X7_digestOn rfl rfl rfl (by decide +kernel) ⟨Nat.le_of_ble_eq_true rfl, Nat.le_of_ble_eq_true rfl⟩) rfl hl.1 rfl (Nat.le_of_ble_eq_true rfl) dX10_digestOn_110 ⟨Nat.zero_le _, Nat.zero_le _⟩) (fun r5 hr5 => ?_)
      obtain rfl : r5 = (lN (dg (fun j => V (104 + j)) (dg (fun j => V (80 + j)) (dg (fun j => V (60 + j)) a2 (V 2 * 4)) (V 3 * 4)) (V 4 * 4))) := hr5
      exact nr_retL hx hb hr hlocks (by rw [ha2, show k = V 1 by omega]; rfl) rfl dX10_digestOn_113
    · refine lv_iconst (v := nI 0) hx hb dX10_digestOn_54 (by decide) ?_
      refine lv_istore (lv' := [(4, .int (nI 0)), (0, .ref (ad Γ (b + 0))), (1, .long (lN a2)), (3, .int (nI k))]) hx hb dX10_digestOn_55 hl (by decide) rfl (fun ls hl => ?_)
      refine nr_lp (σ := Nat × Nat) (pc := 57) (fun x lv => lv = [(0, .ref (ad Γ (b + 0))), (1, .long (lN x.2)), (3, .int (nI k)), (4, .int (nI x.1))] ∧ (x.1 ≤ 6) ∧ (x.2 = dg (sTold V k) a2 x.1)) (fun x => 6 - x.1) (0, a2) (lv_sub hl [1, 2, 3, 0] rfl) ⟨rfl, by omega, rfl⟩ ?_
      intro x lv ls hl hI ih57
      obtain ⟨w, a3⟩ := x
      obtain ⟨rfl, hw6, ha3⟩ := hI
      try dsimp only at hw6 ha3 hl ih57
      have hT2 := hT k w
      refine lv_iload hx hb dX10_digestOn_57 (lv_at hl 3 rfl) ?_
      refine lv_bipush (v := nI 6) hx hb dX10_digestOn_59 (by decide) ?_
      refine nr_icmp_ge (tgt := 85) hx hb (by omega) (by decide) dX10_digestOn_61 (by decide) (fun c6 => ?_) (fun c6 => ?_)
      · refine nr_inc (d := 1) (k := 2) (lv' := [(3, .int (nI (k + 1))), (0, .ref (ad Γ (b + 0))), (1, .long (lN a3)), (4, .int (nI w))]) hx hb dX10_digestOn_85 hl rfl (by decide) (by decide) rfl (fun ls hl => ?_)
        refine lv_goto (tgt := 46) hx hb dX10_digestOn_88 (by decide) ?_
        exact ih46 (k + 1, a3) _ _ (lv_sub hl [1, 2, 0] rfl) ⟨rfl, by omega, by rw [ha3, show w = 6 by omega, ha2]; rfl⟩ (by (try dsimp only); omega)
      · refine nr_ldc2 (k := 31) hx hb hown (hts _ wl_X10_digestOn_2) (by decide) dX10_digestOn_64 ?_
        refine lv_lload_n hx hb dX10_digestOn_67 rfl (lv_at hl 1 rfl) ?_
        refine nr_lmul hx hb dX10_digestOn_68 ?_
        refine lv_aload_n hx hb dX10_digestOn_69 rfl (lv_at hl 0 rfl) ?_
        refine lv_iload_n hx hb dX10_digestOn_70 rfl (lv_at hl 2 rfl) ?_
        refine lv_iload hx hb dX10_digestOn_71 (lv_at hl 3 rfl) ?_
        refine nr_goS (nr_runV (As := [.int (nI k), .int (nI w)]) (C := RX10) (T := TX10) (N := 15) ⟨hx, hb, hml, hown, hts⟩ hw (by omega) (isV_0 hV) rfl (c_X10_told l Γ n G b V hV hI hbn k w (by omega) (by omega)) (cwV 2 hts gX10_digestOn_X10_told rfl rfl rfl (by decide +kernel) ⟨Nat.le_of_ble_eq_true rfl, Nat.le_of_ble_eq_true rfl⟩) rfl hl.1 rfl (Nat.le_of_ble_eq_true rfl) dX10_digestOn_73 ⟨Nat.zero_le _, Nat.zero_le _⟩) (fun r7 hr7 => ?_)
        obtain rfl : r7 = (nI (sTold V k w)) := hr7
        refine lv_i2l (v := lN (sTold V k w)) hx hb dX10_digestOn_76 (nI_l (by omega)) ?_
        refine nr_ladd hx hb dX10_digestOn_77 ?_
        refine lv_lstore_n (lv' := [(1, .long (lN (31 * a3 + (sTold V k w)))), (0, .ref (ad Γ (b + 0))), (3, .int (nI k)), (4, .int (nI w))]) hx hb dX10_digestOn_78 rfl hl (by decide) rfl (fun ls hl => ?_)
        refine nr_inc (d := 1) (k := 3) (lv' := [(4, .int (nI (w + 1))), (1, .long (lN (31 * a3 + (sTold V k w)))), (0, .ref (ad Γ (b + 0))), (3, .int (nI k))]) hx hb dX10_digestOn_79 hl rfl (by decide) (by decide) rfl (fun ls hl => ?_)
        refine lv_goto (tgt := 57) hx hb dX10_digestOn_82 (by decide) ?_
        exact ih57 (w + 1, 31 * a3 + (sTold V k w)) _ _ (lv_sub hl [2, 1, 3, 0] rfl) ⟨rfl, by omega, by rw [ha3]; rfl⟩ (by (try dsimp only); omega)
  · refine nr_ldc2 (k := 31) hx hb hown (hts _ wl_X10_digestOn_2) (by decide) dX10_digestOn_10 ?_
    refine lv_lload_n hx hb dX10_digestOn_13 rfl (lv_at hl 1 rfl) ?_
    refine nr_lmul hx hb dX10_digestOn_14 ?_
    refine lv_aload_n hx hb dX10_digestOn_15 rfl (lv_at hl 0 rfl) ?_
    refine nr_get (own := RX10) (C := RX10) (T := TX10) (N := 15) (v := .ref (ad Γ (b + 1))) hx hb hts hi_X10_digestOn_X10 hown hw (by omega) (isV_0 hV) rfl 1 (by decide) wl_X10_digestOn_3 rfl rfl dX10_digestOn_16 ?_
    refine lv_iload_n hx hb dX10_digestOn_19 rfl (lv_at hl 2 rfl) ?_
    refine nr_iald (x := (V (22 + i))) hx hb hw (by omega) (isV_1 hV) rfl (by omega) (by decide) dX10_digestOn_20 ?_
    have hL8 := hB (22 + i)
    refine lv_i2l (v := lN (V (22 + i))) hx hb dX10_digestOn_21 (nI_l (by omega)) ?_
    refine nr_ladd hx hb dX10_digestOn_22 ?_
    refine lv_lstore_n (lv' := [(1, .long (lN (31 * a + (V (22 + i))))), (0, .ref (ad Γ (b + 0))), (3, .int (nI i))]) hx hb dX10_digestOn_23 rfl hl (by decide) rfl (fun ls hl => ?_)
    refine nr_ldc2 (k := 31) hx hb hown (hts _ wl_X10_digestOn_2) (by decide) dX10_digestOn_24 ?_
    refine lv_lload_n hx hb dX10_digestOn_27 rfl (lv_at hl 0 rfl) ?_
    refine nr_lmul hx hb dX10_digestOn_28 ?_
    refine lv_aload_n hx hb dX10_digestOn_29 rfl (lv_at hl 1 rfl) ?_
    refine nr_get (own := RX10) (C := RX10) (T := TX10) (N := 15) (v := .ref (ad Γ (b + 2))) hx hb hts hi_X10_digestOn_X10 hown hw (by omega) (isV_0 hV) rfl 2 (by decide) wl_X10_digestOn_4 rfl rfl dX10_digestOn_30 ?_
    refine lv_iload_n hx hb dX10_digestOn_33 rfl (lv_at hl 2 rfl) ?_
    refine nr_iald (x := (V (6 + i))) hx hb hw (by omega) (isV_2 hV) rfl (by omega) (by decide) dX10_digestOn_34 ?_
    have hL9 := hB (6 + i)
    refine lv_i2l (v := lN (V (6 + i))) hx hb dX10_digestOn_35 (nI_l (by omega)) ?_
    refine nr_ladd hx hb dX10_digestOn_36 ?_
    refine lv_lstore_n (lv' := [(1, .long (lN (31 * (31 * a + (V (22 + i))) + (V (6 + i))))), (0, .ref (ad Γ (b + 0))), (3, .int (nI i))]) hx hb dX10_digestOn_37 rfl hl (by decide) rfl (fun ls hl => ?_)
    refine nr_inc (d := 1) (k := 2) (lv' := [(3, .int (nI (i + 1))), (1, .long (lN (31 * (31 * a + (V (22 + i))) + (V (6 + i))))), (0, .ref (ad Γ (b + 0)))]) hx hb dX10_digestOn_38 hl rfl (by decide) (by decide) rfl (fun ls hl => ?_)
    refine lv_goto (tgt := 2) hx hb dX10_digestOn_41 (by decide) ?_
    exact ih2 (i + 1, 31 * (31 * a + (V (22 + i))) + (V (6 + i))) _ _ (lv_sub hl [2, 1, 0] rfl) ⟨rfl, by omega, by rw [ha]; rfl⟩ (by (try dsimp only); omega)
theorem wl_X8_possible_1 : Cond.fieldLink RX8 9 "BellForgiven$Valley" "wrongs" "I" ∈ wsX8_possible := List.mem_of_getElem? (i := 1) rfl
theorem hi_X8_possible_X10 : ∀ w ∈ u_ws RX10 TX10 15, w ∈ wsX8_possible := fun w h => (List.mem_cons_of_mem _ (List.mem_append_right _ h))
set_option maxHeartbeats 4000000 in
set_option maxRecDepth 100000 in
theorem c_X8_possible (l : Launch) (Γ : Gam) (n : Nat) (G : Nat → va_E) (b : Nat) (V : Nat → Nat) (hV : isV Γ G b V) (hI : vI V) (hbn : b + 16 ≤ n)  : Met l yX8_possible wsX8_possible ({ frames := 4, cells := 0, slots := 0, locals := 95 }) (va_Pc [.ref (ad Γ (b + 0))] (fun U => hw Γ n G U U.heap)) (vp_Si (fun z => z = nI (bitsOf (fun k => could V k 0 0 0) (V 1)))) 0 0 (fun _ => False) := by
  refine Met.ofW (cc := cX8_possible) (maxL := 3) (ret := (some .int)) (by decide) rfl ?_
  intro p e s m args below meth c s₁ B hml hv
  obtain ⟨rfl, hw⟩ := hv
  have hx := B.exec
  have hb := B.bytes
  have hr := B.returns
  have hts := atoms_spec (ws := wsX8_possible) B.pre
  have hown : s.vm.findClass RX8 = some m.cls := findClass_of_methodNamed B.named
  have hlocks := B.notSynchronized
  have hl := lv_entry ([.ref (ad Γ (b + 0))]) (n := 3) (Nat.le_of_ble_eq_true rfl)
  rw [lg_entry_eq]
  generalize (lg_sl ([.ref (ad Γ (b + 0))]) ++ List.replicate (3 - (lg_sl ([.ref (ad Γ (b + 0))])).length) Slot.unset).toArray = ls at hl ⊢
  have hl : lv_has ls 3 [(0, .ref (ad Γ (b + 0)))] := hl
  have hB := hI.1
  have hB0 := hI.2.1
  have hB1 := hI.2.2.1
  have hB20 := hI.2.2.2.2.2.2.2.2.2
  have hBd := hB 21
  refine lv_iconst (v := nI 0) hx hb dX8_possible_0 (by decide) ?_
  refine lv_istore_n (lv' := [(1, .int (nI 0)), (0, .ref (ad Γ (b + 0)))]) hx hb dX8_possible_1 rfl hl (by decide) rfl (fun ls hl => ?_)
  refine lv_iconst (v := nI 0) hx hb dX8_possible_2 (by decide) ?_
  refine lv_istore_n (lv' := [(2, .int (nI 0)), (1, .int (nI 0)), (0, .ref (ad Γ (b + 0)))]) hx hb dX8_possible_3 rfl hl (by decide) rfl (fun ls hl => ?_)
  refine nr_lp (σ := Nat × Nat) (pc := 4) (fun x lv => lv = [(0, .ref (ad Γ (b + 0))), (1, .int (nI x.2)), (2, .int (nI x.1))] ∧ (x.1 ≤ V 1) ∧ (x.2 = bitsOf (fun k => could V k 0 0 0) x.1)) (fun x => V 1 - x.1) (0, 0) (lv_sub hl [2, 1, 0] rfl) ⟨rfl, by omega, rfl⟩ ?_
  intro x lv ls hl hI ih4
  obtain ⟨q, t⟩ := x
  obtain ⟨rfl, hk, ht⟩ := hI
  try dsimp only at hk ht hl ih4
  refine lv_iload_n hx hb dX8_possible_4 rfl (lv_at hl 2 rfl) ?_
  refine lv_aload_n hx hb dX8_possible_5 rfl (lv_at hl 0 rfl) ?_
  refine nr_get (own := RX8) (C := RX10) (T := TX10) (N := 15) (v := .int (nI (V 1))) hx hb hts hi_X8_possible_X10 hown hw (by omega) (isV_0 hV) rfl 3 (by decide) wl_X8_possible_1 rfl rfl dX8_possible_6 ?_
  refine nr_icmp_ge (tgt := 35) hx hb (by omega) (by omega) dX8_possible_9 (by decide) (fun c1 => ?_) (fun c1 => ?_)
  · refine lv_iload_n hx hb dX8_possible_35 rfl (lv_at hl 1 rfl) ?_
    exact nr_retS hx hb hr hlocks (by rw [ht, show q = V 1 by omega]) rfl dX8_possible_36
  · refine lv_aload_n hx hb dX8_possible_12 rfl (lv_at hl 0 rfl) ?_
    refine lv_iload_n hx hb dX8_possible_13 rfl (lv_at hl 2 rfl) ?_
    refine lv_iconst (v := nI 0) hx hb dX8_possible_14 (by decide) ?_
    refine lv_iconst (v := nI 0) hx hb dX8_possible_15 (by decide) ?_
    refine lv_iconst (v := nI 0) hx hb dX8_possible_16 (by decide) ?_
    refine nr_goB (P := could V q 0 0 0) (nr_runV (As := [.int (nI q), .int (nI 0), .int (nI 0), .int (nI 0)]) (C := RX10) (T := TX10) (N := 15) ⟨hx, hb, hml, hown, hts⟩ hw (by omega) (isV_0 hV) rfl (c_X10_could l Γ n G b V hV hI hbn q 0 0 0 (by omega) (by omega) (by omega) (by omega)) (cwV 4 hts gX8_possible_X10_could rfl rfl rfl (by decide +kernel) ⟨Nat.le_of_ble_eq_true rfl, Nat.le_of_ble_eq_true rfl⟩) rfl hl.1 rfl (Nat.le_of_ble_eq_true rfl) dX8_possible_17 ⟨Nat.zero_le _, Nat.zero_le _⟩) (fun b2 => ?_) (fun b2 => ?_)
    · refine nr_if_eq (tgt := 29) hx hb (by decide) dX8_possible_20 (by decide) (fun c3 => absurd c3 (by decide)) (fun c3 => ?_)
      refine lv_iload_n hx hb dX8_possible_23 rfl (lv_at hl 1 rfl) ?_
      refine lv_iconst (v := nI 1) hx hb dX8_possible_24 (by decide) ?_
      refine lv_iload_n hx hb dX8_possible_25 rfl (lv_at hl 2 rfl) ?_
      refine nr_ishl1 hx hb (by omega) dX8_possible_26 ?_
      refine nr_ior hx hb dX8_possible_27 ?_
      refine lv_istore_n (lv' := [(1, .int (nI (t ||| (2 ^ q)))), (0, .ref (ad Γ (b + 0))), (2, .int (nI q))]) hx hb dX8_possible_28 rfl hl (by decide) rfl (fun ls hl => ?_)
      refine nr_inc (d := 1) (k := 2) (lv' := [(2, .int (nI (q + 1))), (1, .int (nI (t ||| (2 ^ q)))), (0, .ref (ad Γ (b + 0)))]) hx hb dX8_possible_29 hl rfl (by decide) (by decide) rfl (fun ls hl => ?_)
      refine lv_goto (tgt := 4) hx hb dX8_possible_32 (by decide) ?_
      exact ih4 (q + 1, t ||| (2 ^ q)) _ _ (lv_sub hl [2, 1, 0] rfl) ⟨rfl, by omega, by rw [ht]; simp only [bitsOf]; first | rw [if_pos (by assumption)] | rw [if_neg (by assumption)]⟩ (by (try dsimp only); omega)
    · refine nr_if_eq (tgt := 29) hx hb (by decide) dX8_possible_20 (by decide) (fun c4 => ?_) (fun c4 => absurd c4 (by decide))
      refine nr_inc (d := 1) (k := 2) (lv' := [(2, .int (nI (q + 1))), (0, .ref (ad Γ (b + 0))), (1, .int (nI t))]) hx hb dX8_possible_29 hl rfl (by decide) (by decide) rfl (fun ls hl => ?_)
      refine lv_goto (tgt := 4) hx hb dX8_possible_32 (by decide) ?_
      exact ih4 (q + 1, t) _ _ (lv_sub hl [1, 2, 0] rfl) ⟨rfl, by omega, by rw [ht]; simp only [bitsOf]; first | rw [if_pos (by assumption)] | rw [if_neg (by assumption)]⟩ (by (try dsimp only); omega)
theorem wl_X8_allWithout_1 : Cond.fieldLink RX8 9 "BellForgiven$Valley" "wrongs" "I" ∈ wsX8_allWithout := List.mem_of_getElem? (i := 1) rfl
theorem wl_X8_allWithout_2 : Cond.static yX11_holds ∈ wsX8_allWithout := List.mem_of_getElem? (i := 2) rfl
theorem wl_X8_allWithout_3 : Cond.initialized RX11 ∈ wsX8_allWithout := List.mem_of_getElem? (i := 3) rfl
theorem hi_X8_allWithout_X10 : ∀ w ∈ u_ws RX10 TX10 15, w ∈ wsX8_allWithout := fun w h => (List.mem_cons_of_mem _ (List.mem_append_right _ h))
set_option maxHeartbeats 4000000 in
set_option maxRecDepth 100000 in
theorem c_X8_allWithout (l : Launch) (Γ : Gam) (n : Nat) (G : Nat → va_E) (b : Nat) (V : Nat → Nat) (hV : isV Γ G b V) (hI : vI V) (hbn : b + 16 ≤ n) (st : Nat) (hst : st < 256)  : Met l yX8_allWithout wsX8_allWithout ({ frames := 4, cells := 0, slots := 0, locals := 95 }) (va_Pc [.ref (ad Γ (b + 0)), .int (nI st)] (fun U => hw Γ n G U U.heap)) (vp_Si (fun z => z = nI (clo V st (V 1)))) 0 0 (fun _ => False) := by
  refine Met.ofW (cc := cX8_allWithout) (maxL := 6) (ret := (some .int)) (by decide) rfl ?_
  intro p e s m args below meth c s₁ B hml hv
  obtain ⟨rfl, hw⟩ := hv
  have hx := B.exec
  have hb := B.bytes
  have hr := B.returns
  have hts := atoms_spec (ws := wsX8_allWithout) B.pre
  have hown : s.vm.findClass RX8 = some m.cls := findClass_of_methodNamed B.named
  have hlocks := B.notSynchronized
  have hl := lv_entry ([.ref (ad Γ (b + 0)), .int (nI st)]) (n := 6) (Nat.le_of_ble_eq_true rfl)
  rw [lg_entry_eq]
  generalize (lg_sl ([.ref (ad Γ (b + 0)), .int (nI st)]) ++ List.replicate (6 - (lg_sl ([.ref (ad Γ (b + 0)), .int (nI st)])).length) Slot.unset).toArray = ls at hl ⊢
  have hl : lv_has ls 6 [(0, .ref (ad Γ (b + 0))), (1, .int (nI st))] := hl
  have hB := hI.1
  have hB0 := hI.2.1
  have hB1 := hI.2.2.1
  have hB20 := hI.2.2.2.2.2.2.2.2.2
  have hBd := hB 21
  have hcl := fun m => clo_lt hB1 st m
  refine lv_iconst (v := nI 0) hx hb dX8_allWithout_0 (by decide) ?_
  refine lv_istore_n (lv' := [(2, .int (nI 0)), (0, .ref (ad Γ (b + 0))), (1, .int (nI st))]) hx hb dX8_allWithout_1 rfl hl (by decide) rfl (fun ls hl => ?_)
  refine lv_iconst (v := nI 0) hx hb dX8_allWithout_2 (by decide) ?_
  refine lv_istore_n (lv' := [(3, .int (nI 0)), (2, .int (nI 0)), (0, .ref (ad Γ (b + 0))), (1, .int (nI st))]) hx hb dX8_allWithout_3 rfl hl (by decide) rfl (fun ls hl => ?_)
  refine nr_lp (σ := Nat × Nat) (pc := 4) (fun x lv => lv = [(0, .ref (ad Γ (b + 0))), (1, .int (nI st)), (2, .int (nI x.2)), (3, .int (nI x.1))] ∧ (x.1 ≤ V 1) ∧ (x.2 = clo V st x.1)) (fun x => V 1 - x.1) (0, 0) (lv_sub hl [2, 3, 1, 0] rfl) ⟨rfl, by omega, rfl⟩ ?_
  intro x lv ls hl hI ih4
  obtain ⟨a, g⟩ := x
  obtain ⟨rfl, ha, hg⟩ := hI
  try dsimp only at ha hg hl ih4
  have hg2 := hcl a
  refine lv_iload_n hx hb dX8_allWithout_4 rfl (lv_at hl 3 rfl) ?_
  refine lv_aload_n hx hb dX8_allWithout_5 rfl (lv_at hl 0 rfl) ?_
  refine nr_get (own := RX8) (C := RX10) (T := TX10) (N := 15) (v := .int (nI (V 1))) hx hb hts hi_X8_allWithout_X10 hown hw (by omega) (isV_0 hV) rfl 3 (by decide) wl_X8_allWithout_1 rfl rfl dX8_allWithout_6 ?_
  refine nr_icmp_ge (tgt := 76) hx hb (by omega) (by omega) dX8_allWithout_9 (by decide) (fun c1 => ?_) (fun c1 => ?_)
  · refine lv_iload_n hx hb dX8_allWithout_76 rfl (lv_at hl 2 rfl) ?_
    exact nr_retS hx hb hr hlocks (by
            first
            | rw [hg, show a = V 1 by omega]
            | (rw [show g2 = g by assumption, hg]; exact congrArg nI (clo_end (st := st) ha (by rw [← hg, show V 1 = k by omega, ← hg2e]; assumption)).symm)) rfl dX8_allWithout_77
  · refine lv_iload_n hx hb dX8_allWithout_12 rfl (lv_at hl 2 rfl) ?_
    refine lv_istore (lv' := [(4, .int (nI g)), (0, .ref (ad Γ (b + 0))), (1, .int (nI st)), (2, .int (nI g)), (3, .int (nI a))]) hx hb dX8_allWithout_13 hl (by decide) rfl (fun ls hl => ?_)
    refine lv_iconst (v := nI 0) hx hb dX8_allWithout_15 (by decide) ?_
    refine lv_istore (lv' := [(5, .int (nI 0)), (4, .int (nI g)), (0, .ref (ad Γ (b + 0))), (1, .int (nI st)), (2, .int (nI g)), (3, .int (nI a))]) hx hb dX8_allWithout_16 hl (by decide) rfl (fun ls hl => ?_)
    refine nr_lp (σ := Nat × Nat) (pc := 18) (fun x lv => lv = [(0, .ref (ad Γ (b + 0))), (1, .int (nI st)), (2, .int (nI x.2)), (3, .int (nI a)), (4, .int (nI g)), (5, .int (nI x.1))] ∧ (x.1 ≤ V 1) ∧ (x.2 = passF V st g x.1)) (fun x => V 1 - x.1) (0, g) (lv_sub hl [2, 3, 4, 5, 1, 0] rfl) ⟨rfl, by omega, rfl⟩ ?_
    intro x lv ls hl hI ih18
    obtain ⟨k, g2⟩ := x
    obtain ⟨rfl, hk, hg2e⟩ := hI
    try dsimp only at hk hg2e hl ih18
    have hg3 := passF_lt V st (g := g) (by omega) k (by omega)
    refine lv_iload hx hb dX8_allWithout_18 (lv_at hl 5 rfl) ?_
    refine lv_aload_n hx hb dX8_allWithout_20 rfl (lv_at hl 0 rfl) ?_
    refine nr_get (own := RX8) (C := RX10) (T := TX10) (N := 15) (v := .int (nI (V 1))) hx hb hts hi_X8_allWithout_X10 hown hw (by omega) (isV_0 hV) rfl 3 (by decide) wl_X8_allWithout_1 rfl rfl dX8_allWithout_21 ?_
    refine nr_icmp_ge (tgt := 61) hx hb (by omega) (by omega) dX8_allWithout_24 (by decide) (fun c2 => ?_) (fun c2 => ?_)
    · refine lv_iload_n hx hb dX8_allWithout_61 rfl (lv_at hl 2 rfl) ?_
      refine lv_iload hx hb dX8_allWithout_62 (lv_at hl 4 rfl) ?_
      refine nr_icmp_ne (tgt := 70) hx hb (by omega) (by omega) dX8_allWithout_64 (by decide) (fun c3 => ?_) (fun c3 => ?_)
      · refine nr_inc (d := 1) (k := 3) (lv' := [(3, .int (nI (a + 1))), (0, .ref (ad Γ (b + 0))), (1, .int (nI st)), (2, .int (nI g2)), (4, .int (nI g)), (5, .int (nI k))]) hx hb dX8_allWithout_70 hl rfl (by decide) (by decide) rfl (fun ls hl => ?_)
        refine lv_goto (tgt := 4) hx hb dX8_allWithout_73 (by decide) ?_
        exact ih4 (a + 1, g2) _ _ (lv_sub hl [1, 2, 3, 0] rfl) ⟨rfl, by omega, by rw [hg2e, show k = V 1 by omega, hg]; rfl⟩ (by (try dsimp only); omega)
      · refine lv_goto (tgt := 76) hx hb dX8_allWithout_67 (by decide) ?_
        refine lv_iload_n hx hb dX8_allWithout_76 rfl (lv_at hl 2 rfl) ?_
        exact nr_retS hx hb hr hlocks (by
            first
            | rw [hg, show a = V 1 by omega]
            | (rw [show g2 = g by assumption, hg]; exact congrArg nI (clo_end (st := st) ha (by rw [← hg, show V 1 = k by omega, ← hg2e]; assumption)).symm)) rfl dX8_allWithout_77
    · refine lv_iload_n hx hb dX8_allWithout_27 rfl (lv_at hl 1 rfl) ?_
      refine lv_iload hx hb dX8_allWithout_28 (lv_at hl 5 rfl) ?_
      refine nr_goB (P := bt st k) (nr_runN (As := [.int (nI st), .int (nI k)]) ⟨hx, hb, hml, hown, hts⟩ hw (c_X11_holds l Γ n G st k (by omega) (by omega)) ⟨va_cnB 2 hts gX8_allWithout_X11_holds_n19 rfl rfl rfl (hw.2.2 _ (List.mem_of_getElem? (i := 12) rfl)) (hts _ wl_X8_allWithout_3) (by decide +kernel) ⟨Nat.le_of_ble_eq_true rfl, Nat.le_of_ble_eq_true rfl⟩, hts _ wl_X8_allWithout_2, trivial⟩ rfl hl.1 rfl (Nat.le_of_ble_eq_true rfl) dX8_allWithout_30 ⟨Nat.zero_le _, Nat.zero_le _⟩) (fun b4 => ?_) (fun b4 => ?_)
      · refine nr_if_ne (tgt := 55) hx hb (by decide) dX8_allWithout_33 (by decide) (fun c5 => ?_) (fun c5 => absurd c5 (by decide))
        refine nr_inc (d := 1) (k := 5) (lv' := [(5, .int (nI (k + 1))), (0, .ref (ad Γ (b + 0))), (1, .int (nI st)), (2, .int (nI g2)), (3, .int (nI a)), (4, .int (nI g))]) hx hb dX8_allWithout_55 hl rfl (by decide) (by decide) rfl (fun ls hl => ?_)
        refine lv_goto (tgt := 18) hx hb dX8_allWithout_58 (by decide) ?_
        exact ih18 (k + 1, g2) _ _ (lv_sub hl [1, 2, 3, 4, 5, 0] rfl) ⟨rfl, by omega, by rw [hg2e]; simp only [passF]; rw [hg2e] at *; first | rw [if_pos ⟨by assumption, by assumption⟩] | (rw [if_neg]; intro hh; first | exact hh.1 (by assumption) | exact absurd hh.2 (by assumption))⟩ (by (try dsimp only); omega)
      · refine nr_if_ne (tgt := 55) hx hb (by decide) dX8_allWithout_33 (by decide) (fun c6 => absurd c6 (by decide)) (fun c6 => ?_)
        refine lv_aload_n hx hb dX8_allWithout_36 rfl (lv_at hl 0 rfl) ?_
        refine lv_iload hx hb dX8_allWithout_37 (lv_at hl 5 rfl) ?_
        refine lv_iload_n hx hb dX8_allWithout_39 rfl (lv_at hl 2 rfl) ?_
        refine lv_iload_n hx hb dX8_allWithout_40 rfl (lv_at hl 2 rfl) ?_
        refine lv_iconst (v := nI 0) hx hb dX8_allWithout_41 (by decide) ?_
        refine nr_goB (P := could V k g2 g2 0) (nr_runV (As := [.int (nI k), .int (nI g2), .int (nI g2), .int (nI 0)]) (C := RX10) (T := TX10) (N := 15) ⟨hx, hb, hml, hown, hts⟩ hw (by omega) (isV_0 hV) rfl (c_X10_could l Γ n G b V hV hI hbn k g2 g2 0 (by omega) (by omega) (by omega) (by omega)) (cwV 4 hts gX8_allWithout_X10_could rfl rfl rfl (by decide +kernel) ⟨Nat.le_of_ble_eq_true rfl, Nat.le_of_ble_eq_true rfl⟩) rfl hl.1 rfl (Nat.le_of_ble_eq_true rfl) dX8_allWithout_42 ⟨Nat.zero_le _, Nat.zero_le _⟩) (fun b7 => ?_) (fun b7 => ?_)
        · refine nr_if_eq (tgt := 55) hx hb (by decide) dX8_allWithout_45 (by decide) (fun c8 => absurd c8 (by decide)) (fun c8 => ?_)
          refine lv_iload_n hx hb dX8_allWithout_48 rfl (lv_at hl 2 rfl) ?_
          refine lv_iconst (v := nI 1) hx hb dX8_allWithout_49 (by decide) ?_
          refine lv_iload hx hb dX8_allWithout_50 (lv_at hl 5 rfl) ?_
          refine nr_ishl1 hx hb (by omega) dX8_allWithout_52 ?_
          refine nr_ior hx hb dX8_allWithout_53 ?_
          refine lv_istore_n (lv' := [(2, .int (nI (g2 ||| (2 ^ k)))), (0, .ref (ad Γ (b + 0))), (1, .int (nI st)), (3, .int (nI a)), (4, .int (nI g)), (5, .int (nI k))]) hx hb dX8_allWithout_54 rfl hl (by decide) rfl (fun ls hl => ?_)
          refine nr_inc (d := 1) (k := 5) (lv' := [(5, .int (nI (k + 1))), (2, .int (nI (g2 ||| (2 ^ k)))), (0, .ref (ad Γ (b + 0))), (1, .int (nI st)), (3, .int (nI a)), (4, .int (nI g))]) hx hb dX8_allWithout_55 hl rfl (by decide) (by decide) rfl (fun ls hl => ?_)
          refine lv_goto (tgt := 18) hx hb dX8_allWithout_58 (by decide) ?_
          exact ih18 (k + 1, g2 ||| (2 ^ k)) _ _ (lv_sub hl [2, 3, 1, 4, 5, 0] rfl) ⟨rfl, by omega, by rw [hg2e]; simp only [passF]; rw [hg2e] at *; first | rw [if_pos ⟨by assumption, by assumption⟩] | (rw [if_neg]; intro hh; first | exact hh.1 (by assumption) | exact absurd hh.2 (by assumption))⟩ (by (try dsimp only); omega)
        · refine nr_if_eq (tgt := 55) hx hb (by decide) dX8_allWithout_45 (by decide) (fun c9 => ?_) (fun c9 => absurd c9 (by decide))
          refine nr_inc (d := 1) (k := 5) (lv' := [(5, .int (nI (k + 1))), (0, .ref (ad Γ (b + 0))), (1, .int (nI st)), (2, .int (nI g2)), (3, .int (nI a)), (4, .int (nI g))]) hx hb dX8_allWithout_55 hl rfl (by decide) (by decide) rfl (fun ls hl => ?_)
          refine lv_goto (tgt := 18) hx hb dX8_allWithout_58 (by decide) ?_
          exact ih18 (k + 1, g2) _ _ (lv_sub hl [1, 2, 3, 4, 5, 0] rfl) ⟨rfl, by omega, by rw [hg2e]; simp only [passF]; rw [hg2e] at *; first | rw [if_pos ⟨by assumption, by assumption⟩] | (rw [if_neg]; intro hh; first | exact hh.1 (by assumption) | exact absurd hh.2 (by assumption))⟩ (by (try dsimp only); omega)
set_option maxHeartbeats 4000000 in
set_option maxRecDepth 100000 in
theorem c_X8_daysUntil (l : Launch) (Γ : Gam) (n : Nat) (G : Nat → va_E) (b : Nat) (V : Nat → Nat) (hV : isV Γ G b V) (hI : vI V) (hbn : b + 16 ≤ n) (k : Nat) (hk : k < 8)  : Met l yX8_daysUntil wsX8_daysUntil ({ frames := 4, cells := 0, slots := 0, locals := 95 }) (va_Pc [.ref (ad Γ (b + 0)), .int (nI k)] (fun U => hw Γ n G U U.heap)) (vp_Si (fun z => whenR V k z)) 0 0 (fun _ => False) := by
  refine Met.ofW (cc := cX8_daysUntil) (maxL := 3) (ret := (some .int)) (by decide) rfl ?_
  intro p e s m args below meth c s₁ B hml hv
  obtain ⟨rfl, hw⟩ := hv
  have hx := B.exec
  have hb := B.bytes
  have hr := B.returns
  have hts := atoms_spec (ws := wsX8_daysUntil) B.pre
  have hown : s.vm.findClass RX8 = some m.cls := findClass_of_methodNamed B.named
  have hlocks := B.notSynchronized
  have hl := lv_entry ([.ref (ad Γ (b + 0)), .int (nI k)]) (n := 3) (Nat.le_of_ble_eq_true rfl)
  rw [lg_entry_eq]
  generalize (lg_sl ([.ref (ad Γ (b + 0)), .int (nI k)]) ++ List.replicate (3 - (lg_sl ([.ref (ad Γ (b + 0)), .int (nI k)])).length) Slot.unset).toArray = ls at hl ⊢
  have hl : lv_has ls 3 [(0, .ref (ad Γ (b + 0))), (1, .int (nI k))] := hl
  have hB := hI.1
  have hB0 := hI.2.1
  have hB1 := hI.2.2.1
  have hB20 := hI.2.2.2.2.2.2.2.2.2
  have hBd := hB 21
  refine lv_iconst (v := nI 0) hx hb dX8_daysUntil_0 (by decide) ?_
  refine lv_istore_n (lv' := [(2, .int (nI 0)), (0, .ref (ad Γ (b + 0))), (1, .int (nI k))]) hx hb dX8_daysUntil_1 rfl hl (by decide) rfl (fun ls hl => ?_)
  refine nr_lp (σ := Nat) (pc := 2) (fun x lv => lv = [(0, .ref (ad Γ (b + 0))), (1, .int (nI k)), (2, .int (nI x))] ∧ (x ≤ 61) ∧ (∀ j, j < x → ¬ could V k 0 0 j)) (fun x => 61 - x) 0 (lv_sub hl [1, 2, 0] rfl) ⟨rfl, by omega, fun j hj => absurd hj (Nat.not_lt_zero j)⟩ ?_
  intro d lv ls hl hI ih2
  obtain ⟨rfl, hd, hn⟩ := hI
  try dsimp only at hd hn hl ih2
  refine lv_iload_n hx hb dX8_daysUntil_2 rfl (lv_at hl 2 rfl) ?_
  refine lv_bipush (v := nI 60) hx hb dX8_daysUntil_3 (by decide) ?_
  refine nr_icmp_gt (tgt := 27) hx hb (by omega) (by decide) dX8_daysUntil_5 (by decide) (fun c1 => ?_) (fun c1 => ?_)
  · refine lv_iconst (v := (-1)) hx hb dX8_daysUntil_27 (by decide) ?_
    exact nr_retS hx hb hr hlocks (by first | exact Or.inl ⟨d, by omega, by assumption, hn, rfl⟩ | exact Or.inr ⟨fun j hj => hn j (by omega), rfl⟩) rfl dX8_daysUntil_28
  · refine lv_aload_n hx hb dX8_daysUntil_8 rfl (lv_at hl 0 rfl) ?_
    refine lv_iload_n hx hb dX8_daysUntil_9 rfl (lv_at hl 1 rfl) ?_
    refine lv_iconst (v := nI 0) hx hb dX8_daysUntil_10 (by decide) ?_
    refine lv_iconst (v := nI 0) hx hb dX8_daysUntil_11 (by decide) ?_
    refine lv_iload_n hx hb dX8_daysUntil_12 rfl (lv_at hl 2 rfl) ?_
    refine nr_goB (P := could V k 0 0 d) (nr_runV (As := [.int (nI k), .int (nI 0), .int (nI 0), .int (nI d)]) (C := RX10) (T := TX10) (N := 15) ⟨hx, hb, hml, hown, hts⟩ hw (by omega) (isV_0 hV) rfl (c_X10_could l Γ n G b V hV hI hbn k 0 0 d (by omega) (by omega) (by omega) (by omega)) (cwV 4 hts gX8_daysUntil_X10_could rfl rfl rfl (by decide +kernel) ⟨Nat.le_of_ble_eq_true rfl, Nat.le_of_ble_eq_true rfl⟩) rfl hl.1 rfl (Nat.le_of_ble_eq_true rfl) dX8_daysUntil_13 ⟨Nat.zero_le _, Nat.zero_le _⟩) (fun b2 => ?_) (fun b2 => ?_)
    · refine nr_if_eq (tgt := 21) hx hb (by decide) dX8_daysUntil_16 (by decide) (fun c3 => absurd c3 (by decide)) (fun c3 => ?_)
      refine lv_iload_n hx hb dX8_daysUntil_19 rfl (lv_at hl 2 rfl) ?_
      exact nr_retS hx hb hr hlocks (by first | exact Or.inl ⟨d, by omega, by assumption, hn, rfl⟩ | exact Or.inr ⟨fun j hj => hn j (by omega), rfl⟩) rfl dX8_daysUntil_20
    · refine nr_if_eq (tgt := 21) hx hb (by decide) dX8_daysUntil_16 (by decide) (fun c4 => ?_) (fun c4 => absurd c4 (by decide))
      refine nr_inc (d := 1) (k := 2) (lv' := [(2, .int (nI (d + 1))), (0, .ref (ad Γ (b + 0))), (1, .int (nI k))]) hx hb dX8_daysUntil_21 hl rfl (by decide) (by decide) rfl (fun ls hl => ?_)
      refine lv_goto (tgt := 2) hx hb dX8_daysUntil_24 (by decide) ?_
      exact ih2 (d + 1) _ _ (lv_sub hl [1, 2, 0] rfl) ⟨rfl, by omega, fun j hj => by
          rcases Nat.lt_or_eq_of_le (Nat.le_of_lt_succ hj) with q | q
          · exact hn j q
          · subst q; assumption⟩ (by (try dsimp only); omega)
theorem wl_X8_wronged_1 : Cond.fieldLink RX8 9 "BellForgiven$Valley" "wrongs" "I" ∈ wsX8_wronged := List.mem_of_getElem? (i := 1) rfl
theorem wl_X8_wronged_2 : Cond.fieldLink RX8 41 "BellForgiven$Valley" "letOff" "I" ∈ wsX8_wronged := List.mem_of_getElem? (i := 2) rfl
theorem wl_X8_wronged_3 : Cond.fieldLink RX8 44 "BellForgiven$Valley" "by" "[I" ∈ wsX8_wronged := List.mem_of_getElem? (i := 3) rfl
theorem wl_X8_wronged_4 : Cond.fieldLink RX8 48 "BellForgiven$Valley" "to" "[I" ∈ wsX8_wronged := List.mem_of_getElem? (i := 4) rfl
theorem wl_X8_wronged_5 : Cond.static yX11_holds ∈ wsX8_wronged := List.mem_of_getElem? (i := 5) rfl
theorem wl_X8_wronged_6 : Cond.initialized RX11 ∈ wsX8_wronged := List.mem_of_getElem? (i := 6) rfl
theorem hi_X8_wronged_X10 : ∀ w ∈ u_ws RX10 TX10 15, w ∈ wsX8_wronged := fun w h => (List.mem_cons_of_mem _ (List.mem_append_right _ h))
set_option maxHeartbeats 4000000 in
set_option maxRecDepth 100000 in
theorem c_X8_wronged (l : Launch) (Γ : Gam) (n : Nat) (G : Nat → va_E) (b : Nat) (V : Nat → Nat) (hV : isV Γ G b V) (hI : vI V) (hbn : b + 16 ≤ n) (w : Nat) (hwh : w < 256)  : Met l yX8_wronged wsX8_wronged ({ frames := 1, cells := 0, slots := 0, locals := 21 }) (va_Pc [.ref (ad Γ (b + 0)), .int (nI w)] (fun U => hw Γ n G U U.heap)) (vp_Si (fun z => z = nI (wrd V w (V 1)))) 0 0 (fun _ => False) := by
  refine Met.ofW (cc := cX8_wronged) (maxL := 4) (ret := (some .int)) (by decide) rfl ?_
  intro p e s m args below meth c s₁ B hml hv
  obtain ⟨rfl, hw⟩ := hv
  have hx := B.exec
  have hb := B.bytes
  have hr := B.returns
  have hts := atoms_spec (ws := wsX8_wronged) B.pre
  have hown : s.vm.findClass RX8 = some m.cls := findClass_of_methodNamed B.named
  have hlocks := B.notSynchronized
  have hl := lv_entry ([.ref (ad Γ (b + 0)), .int (nI w)]) (n := 4) (Nat.le_of_ble_eq_true rfl)
  rw [lg_entry_eq]
  generalize (lg_sl ([.ref (ad Γ (b + 0)), .int (nI w)]) ++ List.replicate (4 - (lg_sl ([.ref (ad Γ (b + 0)), .int (nI w)])).length) Slot.unset).toArray = ls at hl ⊢
  have hl : lv_has ls 4 [(0, .ref (ad Γ (b + 0))), (1, .int (nI w))] := hl
  have hB := hI.1
  have hB0 := hI.2.1
  have hB1 := hI.2.2.1
  have hB20 := hI.2.2.2.2.2.2.2.2.2
  have hBd := hB 21
  have hby := hI.2.2.2.2.2.2.2.1
  have hto := hI.2.2.2.2.2.2.2.2.1
  refine lv_iconst (v := nI 0) hx hb dX8_wronged_0 (by decide) ?_
  refine lv_istore_n (lv' := [(2, .int (nI 0)), (0, .ref (ad Γ (b + 0))), (1, .int (nI w))]) hx hb dX8_wronged_1 rfl hl (by decide) rfl (fun ls hl => ?_)
  refine lv_iconst (v := nI 0) hx hb dX8_wronged_2 (by decide) ?_
  refine lv_istore_n (lv' := [(3, .int (nI 0)), (2, .int (nI 0)), (0, .ref (ad Γ (b + 0))), (1, .int (nI w))]) hx hb dX8_wronged_3 rfl hl (by decide) rfl (fun ls hl => ?_)
  refine nr_lp (σ := Nat × Nat) (pc := 4) (fun x lv => lv = [(0, .ref (ad Γ (b + 0))), (1, .int (nI w)), (2, .int (nI x.2)), (3, .int (nI x.1))] ∧ (x.1 ≤ V 1) ∧ (x.2 = wrd V w x.1)) (fun x => V 1 - x.1) (0, 0) (lv_sub hl [2, 3, 1, 0] rfl) ⟨rfl, by omega, rfl⟩ ?_
  intro x lv ls hl hI ih4
  obtain ⟨k, t⟩ := x
  obtain ⟨rfl, hk, ht⟩ := hI
  try dsimp only at hk ht hl ih4
  have hby1 := hby k
  have hto1 := hto k
  refine lv_iload_n hx hb dX8_wronged_4 rfl (lv_at hl 3 rfl) ?_
  refine lv_aload_n hx hb dX8_wronged_5 rfl (lv_at hl 0 rfl) ?_
  refine nr_get (own := RX8) (C := RX10) (T := TX10) (N := 15) (v := .int (nI (V 1))) hx hb hts hi_X8_wronged_X10 hown hw (by omega) (isV_0 hV) rfl 3 (by decide) wl_X8_wronged_1 rfl rfl dX8_wronged_6 ?_
  refine nr_icmp_ge (tgt := 53) hx hb (by omega) (by omega) dX8_wronged_9 (by decide) (fun c1 => ?_) (fun c1 => ?_)
  · refine lv_iload_n hx hb dX8_wronged_53 rfl (lv_at hl 2 rfl) ?_
    exact nr_retS hx hb hr hlocks (by rw [ht, show k = V 1 by omega]) rfl dX8_wronged_54
  · refine lv_aload_n hx hb dX8_wronged_12 rfl (lv_at hl 0 rfl) ?_
    refine nr_get (own := RX8) (C := RX10) (T := TX10) (N := 15) (v := .int (nI (V 20))) hx hb hts hi_X8_wronged_X10 hown hw (by omega) (isV_0 hV) rfl 9 (by decide) wl_X8_wronged_2 rfl rfl dX8_wronged_13 ?_
    refine lv_iload_n hx hb dX8_wronged_16 rfl (lv_at hl 3 rfl) ?_
    refine nr_goB (P := bt (V 20) k) (nr_runN (As := [.int (nI (V 20)), .int (nI k)]) ⟨hx, hb, hml, hown, hts⟩ hw (c_X11_holds l Γ n G (V 20) k (by omega) (by omega)) ⟨va_cnB 2 hts gX8_wronged_X11_holds_n19 rfl rfl rfl (hw.2.2 _ (List.mem_of_getElem? (i := 12) rfl)) (hts _ wl_X8_wronged_6) (by decide +kernel) ⟨Nat.le_of_ble_eq_true rfl, Nat.le_of_ble_eq_true rfl⟩, hts _ wl_X8_wronged_5, trivial⟩ rfl hl.1 rfl (Nat.le_of_ble_eq_true rfl) dX8_wronged_17 ⟨Nat.zero_le _, Nat.zero_le _⟩) (fun b2 => ?_) (fun b2 => ?_)
    · refine nr_if_ne (tgt := 47) hx hb (by decide) dX8_wronged_20 (by decide) (fun c3 => ?_) (fun c3 => absurd c3 (by decide))
      refine nr_inc (d := 1) (k := 3) (lv' := [(3, .int (nI (k + 1))), (0, .ref (ad Γ (b + 0))), (1, .int (nI w)), (2, .int (nI t))]) hx hb dX8_wronged_47 hl rfl (by decide) (by decide) rfl (fun ls hl => ?_)
      refine lv_goto (tgt := 4) hx hb dX8_wronged_50 (by decide) ?_
      exact ih4 (k + 1, t) _ _ (lv_sub hl [1, 2, 3, 0] rfl) ⟨rfl, by omega, by rw [ht]; simp only [wrd]; first | rw [if_pos ⟨by assumption, by assumption⟩] | (rw [if_neg]; intro hh; first | exact hh.1 (by assumption) | exact absurd hh.2 (by assumption))⟩ (by (try dsimp only); omega)
    · refine nr_if_ne (tgt := 47) hx hb (by decide) dX8_wronged_20 (by decide) (fun c4 => absurd c4 (by decide)) (fun c4 => ?_)
      refine lv_iload_n hx hb dX8_wronged_23 rfl (lv_at hl 1 rfl) ?_
      refine lv_aload_n hx hb dX8_wronged_24 rfl (lv_at hl 0 rfl) ?_
      refine nr_get (own := RX8) (C := RX10) (T := TX10) (N := 15) (v := .ref (ad Γ (b + 4))) hx hb hts hi_X8_wronged_X10 hown hw (by omega) (isV_0 hV) rfl 5 (by decide) wl_X8_wronged_3 rfl rfl dX8_wronged_25 ?_
      refine lv_iload_n hx hb dX8_wronged_28 rfl (lv_at hl 3 rfl) ?_
      refine nr_iald (x := (V (36 + k))) hx hb hw (by omega) (isV_4 hV) rfl (by omega) (by decide) dX8_wronged_29 ?_
      have hL5 := hB (36 + k)
      refine nr_goB (P := bt w (V (36 + k))) (nr_runN (As := [.int (nI w), .int (nI (V (36 + k)))]) ⟨hx, hb, hml, hown, hts⟩ hw (c_X11_holds l Γ n G w (V (36 + k)) (by omega) (by omega)) ⟨va_cnB 2 hts gX8_wronged_X11_holds_n19 rfl rfl rfl (hw.2.2 _ (List.mem_of_getElem? (i := 12) rfl)) (hts _ wl_X8_wronged_6) (by decide +kernel) ⟨Nat.le_of_ble_eq_true rfl, Nat.le_of_ble_eq_true rfl⟩, hts _ wl_X8_wronged_5, trivial⟩ rfl hl.1 rfl (Nat.le_of_ble_eq_true rfl) dX8_wronged_30 ⟨Nat.zero_le _, Nat.zero_le _⟩) (fun b6 => ?_) (fun b6 => ?_)
      · refine nr_if_eq (tgt := 47) hx hb (by decide) dX8_wronged_33 (by decide) (fun c7 => absurd c7 (by decide)) (fun c7 => ?_)
        refine lv_iload_n hx hb dX8_wronged_36 rfl (lv_at hl 2 rfl) ?_
        refine lv_iconst (v := nI 1) hx hb dX8_wronged_37 (by decide) ?_
        refine lv_aload_n hx hb dX8_wronged_38 rfl (lv_at hl 0 rfl) ?_
        refine nr_get (own := RX8) (C := RX10) (T := TX10) (N := 15) (v := .ref (ad Γ (b + 5))) hx hb hts hi_X8_wronged_X10 hown hw (by omega) (isV_0 hV) rfl 6 (by decide) wl_X8_wronged_4 rfl rfl dX8_wronged_39 ?_
        refine lv_iload_n hx hb dX8_wronged_42 rfl (lv_at hl 3 rfl) ?_
        refine nr_iald (x := (V (44 + k))) hx hb hw (by omega) (isV_5 hV) rfl (by omega) (by decide) dX8_wronged_43 ?_
        have hL8 := hB (44 + k)
        refine nr_ishl1 hx hb (by omega) dX8_wronged_44 ?_
        refine nr_ior hx hb dX8_wronged_45 ?_
        refine lv_istore_n (lv' := [(2, .int (nI (t ||| (2 ^ (V (44 + k)))))), (0, .ref (ad Γ (b + 0))), (1, .int (nI w)), (3, .int (nI k))]) hx hb dX8_wronged_46 rfl hl (by decide) rfl (fun ls hl => ?_)
        refine nr_inc (d := 1) (k := 3) (lv' := [(3, .int (nI (k + 1))), (2, .int (nI (t ||| (2 ^ (V (44 + k)))))), (0, .ref (ad Γ (b + 0))), (1, .int (nI w))]) hx hb dX8_wronged_47 hl rfl (by decide) (by decide) rfl (fun ls hl => ?_)
        refine lv_goto (tgt := 4) hx hb dX8_wronged_50 (by decide) ?_
        exact ih4 (k + 1, t ||| (2 ^ (V (44 + k)))) _ _ (lv_sub hl [2, 3, 1, 0] rfl) ⟨rfl, by omega, by rw [ht]; simp only [wrd]; first | rw [if_pos ⟨by assumption, by assumption⟩] | (rw [if_neg]; intro hh; first | exact hh.1 (by assumption) | exact absurd hh.2 (by assumption))⟩ (by (try dsimp only); omega)
      · refine nr_if_eq (tgt := 47) hx hb (by decide) dX8_wronged_33 (by decide) (fun c9 => ?_) (fun c9 => absurd c9 (by decide))
        refine nr_inc (d := 1) (k := 3) (lv' := [(3, .int (nI (k + 1))), (0, .ref (ad Γ (b + 0))), (1, .int (nI w)), (2, .int (nI t))]) hx hb dX8_wronged_47 hl rfl (by decide) (by decide) rfl (fun ls hl => ?_)
        refine lv_goto (tgt := 4) hx hb dX8_wronged_50 (by decide) ?_
        exact ih4 (k + 1, t) _ _ (lv_sub hl [1, 2, 3, 0] rfl) ⟨rfl, by omega, by rw [ht]; simp only [wrd]; first | rw [if_pos ⟨by assumption, by assumption⟩] | (rw [if_neg]; intro hh; first | exact hh.1 (by assumption) | exact absurd hh.2 (by assumption))⟩ (by (try dsimp only); omega)
theorem wl_X8_ring_1 : Cond.fieldLink RX8 35 "BellForgiven$Valley" "people" "I" ∈ wsX8_ring := List.mem_of_getElem? (i := 1) rfl
theorem wl_X8_ring_10 : Cond.static yX11_holds ∈ wsX8_ring := List.mem_of_getElem? (i := 10) rfl
theorem wl_X8_ring_11 : Cond.initialized RX11 ∈ wsX8_ring := List.mem_of_getElem? (i := 11) rfl
theorem hi_X8_ring_X10 : ∀ w ∈ u_ws RX10 TX10 15, w ∈ wsX8_ring := fun w h => (List.mem_cons_of_mem _ (List.mem_append_right _ h))
set_option maxHeartbeats 4000000 in
set_option maxRecDepth 100000 in
theorem c_X8_ring (l : Launch) (Γ : Gam) (n : Nat) (G : Nat → va_E) (b : Nat) (V : Nat → Nat) (hV : isV Γ G b V) (hI : vI V) (hbn : b + 16 ≤ n) (i : Nat) (hi : i < 6)  : Met l yX8_ring wsX8_ring ({ frames := 2, cells := 0, slots := 0, locals := 44 }) (va_Pc [.ref (ad Γ (b + 0)), .int (nI i)] (fun U => hw Γ n G U U.heap)) (vp_Si (fun z => ringR V i (V 0) z)) 0 0 (fun _ => False) := by
  refine Met.ofW (cc := cX8_ring) (maxL := 4) (ret := (some .int)) (by decide) rfl ?_
  intro p e s m args below meth c s₁ B hml hv
  obtain ⟨rfl, hw⟩ := hv
  have hx := B.exec
  have hb := B.bytes
  have hr := B.returns
  have hts := atoms_spec (ws := wsX8_ring) B.pre
  have hown : s.vm.findClass RX8 = some m.cls := findClass_of_methodNamed B.named
  have hlocks := B.notSynchronized
  have hl := lv_entry ([.ref (ad Γ (b + 0)), .int (nI i)]) (n := 4) (Nat.le_of_ble_eq_true rfl)
  rw [lg_entry_eq]
  generalize (lg_sl ([.ref (ad Γ (b + 0)), .int (nI i)]) ++ List.replicate (4 - (lg_sl ([.ref (ad Γ (b + 0)), .int (nI i)])).length) Slot.unset).toArray = ls at hl ⊢
  have hl : lv_has ls 4 [(0, .ref (ad Γ (b + 0))), (1, .int (nI i))] := hl
  have hB := hI.1
  have hB0 := hI.2.1
  have hB1 := hI.2.2.1
  have hB20 := hI.2.2.2.2.2.2.2.2.2
  have hBd := hB 21
  have hp := p2_lt (k := i) (by omega)
  have hwn := fun m => wrdN_lt hI (w := 2 ^ i) (by omega) m
  refine lv_iconst (v := nI 1) hx hb dX8_ring_0 (by decide) ?_
  refine lv_iload_n hx hb dX8_ring_1 rfl (lv_at hl 1 rfl) ?_
  refine nr_ishl1 hx hb (by omega) dX8_ring_2 ?_
  refine lv_istore_n (lv' := [(2, .int (nI (2 ^ i))), (0, .ref (ad Γ (b + 0))), (1, .int (nI i))]) hx hb dX8_ring_3 rfl hl (by decide) rfl (fun ls hl => ?_)
  refine lv_iconst (v := nI 1) hx hb dX8_ring_4 (by decide) ?_
  refine lv_istore_n (lv' := [(3, .int (nI 1)), (2, .int (nI (2 ^ i))), (0, .ref (ad Γ (b + 0))), (1, .int (nI i))]) hx hb dX8_ring_5 rfl hl (by decide) rfl (fun ls hl => ?_)
  refine nr_lp (σ := Nat × Nat) (pc := 6) (fun x lv => lv = [(0, .ref (ad Γ (b + 0))), (1, .int (nI i)), (2, .int (nI x.2)), (3, .int (nI x.1))] ∧ (1 ≤ x.1) ∧ (x.1 ≤ V 0 + 1) ∧ (x.2 = wrdN V (2 ^ i) (x.1 - 1)) ∧ (∀ j, 1 ≤ j → j < x.1 → ¬ bt (wrdN V (2 ^ i) j) i)) (fun x => V 0 + 1 - x.1) (1, 2 ^ i) (lv_sub hl [2, 3, 1, 0] rfl) ⟨rfl, by omega, by omega, rfl, fun j h1 h2 => absurd h2 (by omega)⟩ ?_
  intro x lv ls hl hI ih6
  obtain ⟨q, w⟩ := x
  obtain ⟨rfl, hq1, hq, hw2, hn⟩ := hI
  try dsimp only at hq1 hq hw2 hn hl ih6
  have hw3 := hwn (q - 1)
  have hw4 : wrd V w (V 1) = wrdN V (2 ^ i) q := by rw [hw2]; obtain ⟨q0, rfl⟩ : ∃ z, q = z + 1 := ⟨q - 1, by omega⟩; rfl
  have hw5 := hwn q
  refine lv_iload_n hx hb dX8_ring_6 rfl (lv_at hl 3 rfl) ?_
  refine lv_aload_n hx hb dX8_ring_7 rfl (lv_at hl 0 rfl) ?_
  refine nr_get (own := RX8) (C := RX10) (T := TX10) (N := 15) (v := .int (nI (V 0))) hx hb hts hi_X8_ring_X10 hown hw (by omega) (isV_0 hV) rfl 0 (by decide) wl_X8_ring_1 rfl rfl dX8_ring_8 ?_
  refine nr_icmp_gt (tgt := 36) hx hb (by omega) (by omega) dX8_ring_11 (by decide) (fun c1 => ?_) (fun c1 => ?_)
  · refine lv_iconst (v := (-1)) hx hb dX8_ring_36 (by decide) ?_
    exact nr_retS hx hb hr hlocks (by first | exact Or.inl ⟨q, hq1, by omega, by rw [← hw4]; assumption, hn, rfl⟩ | exact Or.inr ⟨fun j h1 hj => hn j h1 (by omega), rfl⟩) rfl dX8_ring_37
  · refine lv_aload_n hx hb dX8_ring_14 rfl (lv_at hl 0 rfl) ?_
    refine lv_iload_n hx hb dX8_ring_15 rfl (lv_at hl 2 rfl) ?_
    refine nr_goS (nr_runS (As := [.ref (ad Γ (b + 0)), .int (nI w)]) ⟨hx, hb, hml, hown, hts⟩ hw (c_X8_wronged l Γ n G b V hV hI hbn w (by omega)) (va_cwS 2 hts gX8_ring_X8_wronged rfl rfl rfl (by decide +kernel) ⟨Nat.le_of_ble_eq_true rfl, Nat.le_of_ble_eq_true rfl⟩) rfl hl.1 rfl (Nat.le_of_ble_eq_true rfl) dX8_ring_16 ⟨Nat.zero_le _, Nat.zero_le _⟩) (fun r2 hr2 => ?_)
    obtain rfl : r2 = (nI (wrd V w (V 1))) := hr2
    refine lv_istore_n (lv' := [(2, .int (nI (wrd V w (V 1)))), (0, .ref (ad Γ (b + 0))), (1, .int (nI i)), (3, .int (nI q))]) hx hb dX8_ring_19 rfl hl (by decide) rfl (fun ls hl => ?_)
    refine lv_iload_n hx hb dX8_ring_20 rfl (lv_at hl 0 rfl) ?_
    refine lv_iload_n hx hb dX8_ring_21 rfl (lv_at hl 2 rfl) ?_
    refine nr_goB (P := bt (wrd V w (V 1)) i) (nr_runN (As := [.int (nI (wrd V w (V 1))), .int (nI i)]) ⟨hx, hb, hml, hown, hts⟩ hw (c_X11_holds l Γ n G (wrd V w (V 1)) i (by omega) (by omega)) ⟨va_cnB 2 hts gX8_ring_X11_holds_n19 rfl rfl rfl (hw.2.2 _ (List.mem_of_getElem? (i := 12) rfl)) (hts _ wl_X8_ring_11) (by decide +kernel) ⟨Nat.le_of_ble_eq_true rfl, Nat.le_of_ble_eq_true rfl⟩, hts _ wl_X8_ring_10, trivial⟩ rfl hl.1 rfl (Nat.le_of_ble_eq_true rfl) dX8_ring_22 ⟨Nat.zero_le _, Nat.zero_le _⟩) (fun b3 => ?_) (fun b3 => ?_)
    · refine nr_if_eq (tgt := 30) hx hb (by decide) dX8_ring_25 (by decide) (fun c4 => absurd c4 (by decide)) (fun c4 => ?_)
      refine lv_iload_n hx hb dX8_ring_28 rfl (lv_at hl 3 rfl) ?_
      exact nr_retS hx hb hr hlocks (by first | exact Or.inl ⟨q, hq1, by omega, by rw [← hw4]; assumption, hn, rfl⟩ | exact Or.inr ⟨fun j h1 hj => hn j h1 (by omega), rfl⟩) rfl dX8_ring_29
    · refine nr_if_eq (tgt := 30) hx hb (by decide) dX8_ring_25 (by decide) (fun c5 => ?_) (fun c5 => absurd c5 (by decide))
      refine nr_inc (d := 1) (k := 3) (lv' := [(3, .int (nI (q + 1))), (2, .int (nI (wrd V w (V 1)))), (0, .ref (ad Γ (b + 0))), (1, .int (nI i))]) hx hb dX8_ring_30 hl rfl (by decide) (by decide) rfl (fun ls hl => ?_)
      refine lv_goto (tgt := 6) hx hb dX8_ring_33 (by decide) ?_
      exact ih6 (q + 1, wrd V w (V 1)) _ _ (lv_sub hl [2, 3, 1, 0] rfl) ⟨rfl, by omega, by omega, by rw [hw4, Nat.add_sub_cancel], fun j h1 hj => by
          rcases Nat.lt_or_eq_of_le (Nat.le_of_lt_succ hj) with z | z
          · exact hn j h1 z
          · subst z; rw [← hw4]; assumption⟩ (by (try dsimp only); omega)
