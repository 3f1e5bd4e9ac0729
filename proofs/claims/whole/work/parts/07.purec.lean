section SC
theorem bt_tb (s k : Nat) : bt s k ↔ s.testBit k = true := by
  rw [Nat.testBit_eq_decide_div_mod_eq]
  simp
theorem bt_or (a k j : Nat) : bt (a ||| 2 ^ k) j ↔ bt a j ∨ j = k := by
  rw [bt_tb, bt_tb, Nat.testBit_or, Nat.testBit_two_pow]
  simp only [Bool.or_eq_true, decide_eq_true_eq]
  constructor
  · rintro (h | h)
    · exact Or.inl h
    · exact Or.inr h.symm
  · rintro (h | h)
    · exact Or.inl h
    · exact Or.inr h.symm
theorem bt_orr (a b j : Nat) : bt (a ||| b) j ↔ bt a j ∨ bt b j := by
  rw [bt_tb, bt_tb, bt_tb, Nat.testBit_or]
  simp
theorem bt_and (a b j : Nat) : bt (a &&& b) j ↔ bt a j ∧ bt b j := by
  rw [bt_tb, bt_tb, bt_tb, Nat.testBit_and]
  simp
theorem bt_0 (j : Nat) : ¬ bt 0 j := by
  rw [bt_tb]
  simp
theorem bt_2 (k j : Nat) : bt (2 ^ k) j ↔ j = k := by
  rw [bt_tb, Nat.testBit_two_pow]
  simp only [decide_eq_true_eq]
  exact ⟨fun h => h.symm, fun h => h.symm⟩
theorem bt_hi {a m j : Nat} (ha : a < 2 ^ m) (hj : m ≤ j) : ¬ bt a j := by
  rw [bt_tb, Nat.testBit_lt_two_pow (Nat.lt_of_lt_of_le ha (Nat.pow_le_pow_right (by omega) hj))]
  decide
theorem bt_neg {b j : Nat} (hj : j < 32) : bt (b ^^^ 4294967295) j ↔ ¬ bt b j := by
  rw [bt_tb, bt_tb, Nat.testBit_xor, show (4294967295 : Nat) = 2 ^ 32 - 1 from rfl, Nat.testBit_two_pow_sub_one]
  simp [hj]
theorem bits_ext {a b : Nat} (m : Nat) (ha : a < 2 ^ m) (hb : b < 2 ^ m) (h : ∀ k, k < m → (bt a k ↔ bt b k)) : a = b := by
  apply Nat.eq_of_testBit_eq
  intro i
  by_cases hi : i < m
  · have h1 := h i hi
    rw [bt_tb, bt_tb] at h1
    cases ha2 : a.testBit i <;> cases hb2 : b.testBit i <;> simp_all
  · rw [Nat.testBit_lt_two_pow (Nat.lt_of_lt_of_le ha (Nat.pow_le_pow_right (by omega) (by omega))), Nat.testBit_lt_two_pow (Nat.lt_of_lt_of_le hb (Nat.pow_le_pow_right (by omega) (by omega)))]
theorem bt_bitsOf (P : Nat → Prop) [DecidablePred P] : ∀ (m k : Nat), bt (bitsOf P m) k ↔ k < m ∧ P k
  | 0, k => by
    constructor
    · intro h; exact absurd h (bt_0 k)
    · intro h; exact absurd h.1 (Nat.not_lt_zero k)
  | m + 1, k => by
    have ih := bt_bitsOf P m k
    unfold bitsOf
    split
    · rw [bt_or, ih]
      constructor
      · rintro (h | h)
        · exact ⟨by omega, h.2⟩
        · subst h; exact ⟨by omega, by assumption⟩
      · intro h
        rcases Nat.lt_or_eq_of_le (Nat.le_of_lt_succ h.1) with q | q
        · exact Or.inl ⟨q, h.2⟩
        · exact Or.inr q
    · rw [ih]
      constructor
      · intro h; exact ⟨by omega, h.2⟩
      · intro h
        rcases Nat.lt_or_eq_of_le (Nat.le_of_lt_succ h.1) with q | q
        · exact ⟨q, h.2⟩
        · subst q; exact absurd h.2 (by assumption)
theorem and_lt {a m : Nat} (b : Nat) (ha : a < m) : a &&& b < m := Nat.lt_of_le_of_lt Nat.and_le_left ha
/-- what was seen of k fits gravity g -/
abbrev fitsP (V : Nat → Nat) (k g : Nat) : Prop := ∀ r, r < V 2 → V (60 + (r * 4 + 0)) = k → (sWeight (V (28 + k)) g (V (60 + (r * 4 + 1))) ≤ V (60 + (r * 4 + 2)) ↔ V (60 + (r * 4 + 3)) = 1)
def sFit (V : Nat → Nat) (k : Nat) : Nat := bitsOf (fun g => 1 ≤ g ∧ fitsP V k g) 10
/-- off, not: how many of the g below m that fit are let off -/
def gpO (kind fit d lim : Nat) (m : Nat) : Nat := cnt (fun g => (1 ≤ g ∧ bt fit g) ∧ sWeight kind g d ≤ lim) m
def gpN (kind fit d lim : Nat) (m : Nat) : Nat := cnt (fun g => (1 ≤ g ∧ bt fit g) ∧ ¬ sWeight kind g d ≤ lim) m
def gpM (kind fit d lim : Nat) : Nat := max (gpO kind fit d lim 10) (gpN kind fit d lim 10)
theorem gpM_lt (kind fit d lim : Nat) : gpM kind fit d lim < 100 := by
  have h1 := cnt_le (fun g => (1 ≤ g ∧ bt fit g) ∧ sWeight kind g d ≤ lim) 10
  have h2 := cnt_le (fun g => (1 ≤ g ∧ bt fit g) ∧ ¬ sWeight kind g d ≤ lim) 10
  unfold gpM gpO gpN
  omega
/-- the first of the least of f below N: lo its value, bs what is told of it; N = 0: lo = c, bs = -1 -/
def amin (f : Nat → Nat) (out : Nat → Int32) (c N lo : Nat) (bs : Int32) : Prop := (N = 0 ∧ lo = c ∧ bs = -1) ∨ ∃ t, t < N ∧ lo = f t ∧ bs = out t ∧ ∀ u, u < N → f t ≤ f u ∧ (u < t → f t < f u)
theorem amin_0 (f : Nat → Nat) (out : Nat → Int32) (c : Nat) : amin f out c 0 c (-1) := Or.inl ⟨rfl, rfl, rfl⟩
theorem amin_y {f : Nat → Nat} {out : Nat → Int32} {c N lo : Nat} {bs : Int32} (h : amin f out c N lo bs) (hy : f N < lo) : amin f out c (N + 1) (f N) (out N) := by
  refine Or.inr ⟨N, by omega, rfl, rfl, fun u hu => ?_⟩
  rcases h with ⟨h0, -, -⟩ | ⟨t, h1, h2, -, h3⟩
  · have : u = N := by omega
    subst this
    exact ⟨Nat.le_refl _, fun q => absurd q (Nat.lt_irrefl _)⟩
  · rcases Nat.lt_or_eq_of_le (Nat.le_of_lt_succ hu) with q | q
    · have := (h3 u q).1
      exact ⟨by omega, fun _ => by omega⟩
    · subst q
      exact ⟨Nat.le_refl _, fun q => absurd q (Nat.lt_irrefl _)⟩
theorem amin_n {f : Nat → Nat} {out : Nat → Int32} {c N lo : Nat} {bs : Int32} (h : amin f out c N lo bs) (hc : f N < c) (hn : ¬ f N < lo) : amin f out c (N + 1) lo bs := by
  rcases h with ⟨h0, h1, -⟩ | ⟨t, h1, h2, h4, h3⟩
  · exact absurd hc (by omega)
  · refine Or.inr ⟨t, by omega, h2, h4, fun u hu => ?_⟩
    rcases Nat.lt_or_eq_of_le (Nat.le_of_lt_succ hu) with q | q
    · exact h3 u q
    · subst q
      exact ⟨by omega, fun q => absurd q (by omega)⟩
theorem amin_one {f : Nat → Nat} {out : Nat → Int32} {c c2 N lo lo2 : Nat} {bs bs2 : Int32} (h : amin f out c N lo bs) (h2 : amin f out c2 N lo2 bs2) : bs = bs2 := by
  rcases h with ⟨h0, -, h1⟩ | ⟨t, h1, -, h4, h3⟩
  · rcases h2 with ⟨-, -, h3⟩ | ⟨u, h3, -⟩
    · rw [h1, h3]
    · omega
  · rcases h2 with ⟨h0, -⟩ | ⟨u, g1, -, g4, g3⟩
    · omega
    · have a := h3 u g1
      have b := g3 t h1
      have : t = u := by
        rcases Nat.lt_trichotomy t u with q | q | q
        · have := b.2 q; omega
        · exact q
        · have := a.2 q; omega
      rw [h4, g4, this]
def tOut (m t : Nat) : Int32 := nI (100 * (t / m) + t % m)
def gpF (V : Nat → Nat) (k t : Nat) : Nat := gpM (V (28 + k)) (sFit V k) (t / 21) (t % 21)
def tellR (V : Nat → Nat) (k : Nat) (z : Int32) : Prop := (sFit V k = 0 ∧ z = -1) ∨ (¬ sFit V k = 0 ∧ ∃ lo, amin (gpF V k) (tOut 21) 100 210 lo z)
abbrev noteP (V : Nat → Nat) (k kd : Nat) (N : Nat) : Prop := ∀ r, r < N → V (80 + (r * 4 + 0)) = k → V (80 + (r * 4 + 3)) = sWeight kd (V (80 + (r * 4 + 1))) (V (80 + (r * 4 + 2)))
abbrev markP (V : Nat → Nat) (i kd : Nat) (N : Nat) : Prop := ∀ r, r < N → V (104 + (r * 4 + 0)) = i → V (104 + (r * 4 + 3)) = sMercy kd (V (104 + (r * 4 + 1))) (V (104 + (r * 4 + 2)))
def wkinds (V : Nat → Nat) (k : Nat) : Nat := bitsOf (fun kd => noteP V k kd (V 3)) 6
def pkinds (V : Nat → Nat) (i : Nat) : Nat := bitsOf (fun kd => markP V i kd (V 4)) 6
/-- of the kinds in fit as alike as kd (the values f) -/
def alike (f : Nat → Nat) (fit kd : Nat) (m : Nat) : Nat := cnt (fun o => (bt fit kd ∧ bt fit o) ∧ f kd = f o) m
def most (f : Nat → Nat) (fit : Nat) : Nat → Nat
  | 0 => 0
  | kd + 1 => max (most f fit kd) (alike f fit kd 6)
theorem most_le (f : Nat → Nat) (fit : Nat) : ∀ m, most f fit m ≤ 6
  | 0 => by show (0 : Nat) ≤ 6; decide
  | kd + 1 => by
    have h1 := most_le f fit kd
    have h2 := cnt_le (fun o => (bt fit kd ∧ bt fit o) ∧ f kd = f o) 6
    unfold most alike
    omega
/-- rust -/
def soundF (V : Nat → Nat) (ws si : Nat) : Nat → Nat
  | 0 => 0
  | w + 1 => if (bt ws w ∧ ¬ bt si w) ∧ could V w 0 (soundF V ws si w) 0 then soundF V ws si w ||| 2 ^ w else soundF V ws si w
theorem soundF_lt (V : Nat → Nat) (ws si : Nat) : ∀ m, m ≤ 8 → soundF V ws si m < 256
  | 0, _ => by show (0 : Nat) < 256; decide
  | k + 1, hm => by
    have h := soundF_lt V ws si k (by omega)
    unfold soundF
    split
    · exact or_lt256 h (by omega)
    · exact h
def waysF (ws si c : Nat) : Nat → Nat
  | 0 => 1
  | w + 1 => if bt ws w then waysF ws si c w * (if bt si w then c else 10 - c) else waysF ws si c w
end SC
section SC2
theorem tOut_at {m d j : Nat} (h : j < m) : tOut m (m * d + j) = nI (100 * d + j) := by
  unfold tOut
  rw [Nat.mul_add_mod, Nat.mod_eq_of_lt h, Nat.mul_add_div (by omega), Nat.div_eq_of_lt h, Nat.add_zero]
theorem clr (Q : Nat → Nat → Prop) {f kd r : Nat} (hk : kd < 6) (h : ∀ j, j < 6 → (bt f j ↔ ∀ u, u < (if j < kd then r + 1 else r) → Q j u)) (hne : ¬ Q kd r) : ∀ j, j < 6 → (bt (f &&& (2 ^ kd ^^^ 4294967295)) j ↔ ∀ u, u < (if j < kd + 1 then r + 1 else r) → Q j u) := by
  intro j hj
  rw [bt_and, bt_neg (by omega), bt_2, h j hj]
  by_cases hq : j = kd
  · subst hq
    rw [if_neg (Nat.lt_irrefl _), if_pos (Nat.lt_succ_self _)]
    exact ⟨fun z => absurd rfl z.2, fun z => absurd (z r (by omega)) hne⟩
  · by_cases h1 : j < kd
    · rw [if_pos h1, if_pos (by omega)]
      exact ⟨fun z => z.1, fun z => ⟨z, hq⟩⟩
    · rw [if_neg h1, if_neg (by omega)]
      exact ⟨fun z => z.1, fun z => ⟨z, hq⟩⟩
theorem kep (Q : Nat → Nat → Prop) {f kd r : Nat} (h : ∀ j, j < 6 → (bt f j ↔ ∀ u, u < (if j < kd then r + 1 else r) → Q j u)) (hok : Q kd r) : ∀ j, j < 6 → (bt f j ↔ ∀ u, u < (if j < kd + 1 then r + 1 else r) → Q j u) := by
  intro j hj
  rw [h j hj]
  by_cases hq : j = kd
  · subst hq
    rw [if_neg (Nat.lt_irrefl _), if_pos (Nat.lt_succ_self _)]
    refine ⟨fun z u hu => ?_, fun z u hu => z u (by omega)⟩
    rcases Nat.lt_or_eq_of_le (Nat.le_of_lt_succ hu) with q | q
    · exact z u q
    · subst q; exact hok
  · by_cases h1 : j < kd
    · rw [if_pos h1, if_pos (by omega)]
    · rw [if_neg h1, if_neg (by omega)]
theorem bt63 : ∀ j, j < 6 → bt 63 j := by decide
abbrev noteQ (V : Nat → Nat) (k : Nat) (kd r : Nat) : Prop := V (80 + (r * 4 + 0)) = k → V (80 + (r * 4 + 3)) = sWeight kd (V (80 + (r * 4 + 1))) (V (80 + (r * 4 + 2)))
abbrev markQ (V : Nat → Nat) (k : Nat) (kd r : Nat) : Prop := V (104 + (r * 4 + 0)) = k → V (104 + (r * 4 + 3)) = sMercy kd (V (104 + (r * 4 + 1))) (V (104 + (r * 4 + 2)))
theorem bits_of {P : Nat → Prop} [DecidablePred P] {m f : Nat} (hf : f < 2 ^ m) (h : ∀ j, j < m → (bt f j ↔ P j)) : f = bitsOf P m :=
  bits_ext m hf (bitsOf_lt P m) (fun k hk => by rw [bt_bitsOf, h k hk]; exact ⟨fun z => ⟨hk, z⟩, fun z => z.2⟩)
def gainV (se ot st : Nat) : Int32 := (if ot = 0 then 0 else 6) - (if se = 0 then 0 else (if st = 0 then 2 else 11)) + (if se = 0 then (if ot = 0 then -4 else 0) else (if ot = 0 then 0 else 3))
def restV (sa sb : Nat) : Nat := bitsOf (fun pr => gainV (pr % 2) (pr / 2 % 2) sa ≥ gainV (1 - pr % 2) (pr / 2 % 2) sa ∧ gainV (pr / 2 % 2) (pr % 2) sb ≥ gainV (1 - pr / 2 % 2) (pr % 2) sb) 4
def fewF (V Lf : Nat → Nat) (gone : Nat) : Nat → Nat
  | 0 => 100
  | w + 1 => if could V w gone gone 0 then min (fewF V Lf gone w) (1 + Lf (gone ||| 2 ^ w)) else fewF V Lf gone w
theorem fewF_le (V Lf : Nat → Nat) (gone : Nat) : ∀ m, fewF V Lf gone m ≤ 100
  | 0 => Nat.le_refl _
  | w + 1 => by
    have h := fewF_le V Lf gone w
    unfold fewF
    split
    · omega
    · exact h
abbrev wayP (V Lf : Nat → Nat) (gone w : Nat) : Prop := could V w gone gone 0 ∧ Lf (gone ||| 2 ^ w) = Lf gone - 1
def wayR (V Lf : Nat → Nat) (gone : Nat) (z : Int32) : Prop := (∃ w, w < V 1 ∧ wayP V Lf gone w ∧ (∀ u, u < w → ¬ wayP V Lf gone u) ∧ z = nI w) ∨ ((∀ u, u < V 1 → ¬ wayP V Lf gone u) ∧ z = -1)
end SC2
theorem wl_X1_fitsAllSeen_1 : Cond.fieldLink RX1 19 "BellForgiven$Valley" "seen" "LBellForgiven$Rows;" ∈ wsX1_fitsAllSeen := List.mem_of_getElem? (i := 1) rfl
theorem wl_X1_fitsAllSeen_2 : Cond.fieldLink RX1 25 "BellForgiven$Rows" "size" "I" ∈ wsX1_fitsAllSeen := List.mem_of_getElem? (i := 2) rfl
theorem wl_X1_fitsAllSeen_3 : Cond.fieldLink RX1 35 "BellForgiven$Valley" "kind" "[I" ∈ wsX1_fitsAllSeen := List.mem_of_getElem? (i := 3) rfl
theorem hi_X1_fitsAllSeen_X10 : ∀ w ∈ u_ws RX10 TX10 15, w ∈ wsX1_fitsAllSeen := fun w h => (List.mem_cons_of_mem _ (List.mem_append_left _ (List.mem_append_right _ h)))
theorem hi_X1_fitsAllSeen_X7 : ∀ w ∈ u_ws RX7 TX7 3, w ∈ wsX1_fitsAllSeen := fun w h => (List.mem_cons_of_mem _ (List.mem_append_right _ h))
set_option maxHeartbeats 4000000 in
set_option maxRecDepth 100000 in
theorem c_X1_fitsAllSeen (l : Launch) (Γ : Gam) (n : Nat) (G : Nat → va_E) (b : Nat) (V : Nat → Nat) (hV : isV Γ G b V) (hI : vI V) (hbn : b + 16 ≤ n) (k g : Nat) (hk : k < 8) (hg : g ≤ 9)  : Met l yX1_fitsAllSeen wsX1_fitsAllSeen ({ frames := 2, cells := 0, slots := 0, locals := 45 }) (va_Pc [.ref (ad Γ (b + 0)), .int (nI k), .int (nI g)] (fun U => hw Γ n G U U.heap)) (vp_Si (bp (fitsP V k g))) 0 0 (fun _ => False) := by
  refine Met.ofW (cc := cX1_fitsAllSeen) (maxL := 6) (ret := (some .boolean)) (by decide) rfl ?_
  intro p e s m args below meth c s₁ B hml hv
  obtain ⟨rfl, hw⟩ := hv
  have hx := B.exec
  have hb := B.bytes
  have hr := B.returns
  have hts := atoms_spec (ws := wsX1_fitsAllSeen) B.pre
  have hown : s.vm.findClass RX1 = some m.cls := findClass_of_methodNamed B.named
  have hlocks := B.notSynchronized
  have hl := lv_entry ([.ref (ad Γ (b + 0)), .int (nI k), .int (nI g)]) (n := 6) (Nat.le_of_ble_eq_true rfl)
  rw [lg_entry_eq]
  generalize (lg_sl ([.ref (ad Γ (b + 0)), .int (nI k), .int (nI g)]) ++ List.replicate (6 - (lg_sl ([.ref (ad Γ (b + 0)), .int (nI k), .int (nI g)])).length) Slot.unset).toArray = ls at hl ⊢
  have hl : lv_has ls 6 [(0, .ref (ad Γ (b + 0))), (1, .int (nI k)), (2, .int (nI g))] := hl
  have hB := hI.1
  have hB0 := hI.2.1
  have hB1 := hI.2.2.1
  have hB20 := hI.2.2.2.2.2.2.2.2.2
  have hBz2 := hI.2.2.2.1
  have hBz3 := hI.2.2.2.2.1
  have hBz4 := hI.2.2.2.2.2.1
  have hBz5 := hI.2.2.2.2.2.2.1
  have hBd := hB 21
  have hWl := fun d => sWeight_le (V (28 + k)) g d
  refine lv_iconst (v := nI 0) hx hb dX1_fitsAllSeen_0 (by decide) ?_
  refine lv_istore_n (lv' := [(3, .int (nI 0)), (0, .ref (ad Γ (b + 0))), (1, .int (nI k)), (2, .int (nI g))]) hx hb dX1_fitsAllSeen_1 rfl hl (by decide) rfl (fun ls hl => ?_)
  refine nr_lp (σ := Nat) (pc := 2) (fun x lv => lv = [(0, .ref (ad Γ (b + 0))), (1, .int (nI k)), (2, .int (nI g)), (3, .int (nI x))] ∧ (x ≤ V 2) ∧ (∀ j, j < x → V (60 + (j * 4 + 0)) = k → (sWeight (V (28 + k)) g (V (60 + (j * 4 + 1))) ≤ V (60 + (j * 4 + 2)) ↔ V (60 + (j * 4 + 3)) = 1))) (fun x => V 2 - x) 0 (lv_sub hl [1, 2, 3, 0] rfl) ⟨rfl, by (try dsimp only); omega, fun j hj => absurd hj (Nat.not_lt_zero j)⟩ ?_
  intro r lv ls hl hI ih2
  obtain ⟨rfl, hr1, hn⟩ := hI
  try dsimp only at hr1 hn hl ih2
  have hWl1 := hWl (V (60 + (r * 4 + 1)))
  have hb0 := hB (60 + (r * 4 + 0))
  have hb1 := hB (60 + (r * 4 + 1))
  have hb2 := hB (60 + (r * 4 + 2))
  have hb3 := hB (60 + (r * 4 + 3))
  refine lv_iload_n hx hb dX1_fitsAllSeen_2 rfl (lv_at hl 3 rfl) ?_
  refine lv_aload_n hx hb dX1_fitsAllSeen_3 rfl (lv_at hl 0 rfl) ?_
  refine nr_get (own := RX1) (C := RX10) (T := TX10) (N := 15) (v := .ref (ad Γ (b + 8))) hx hb hts hi_X1_fitsAllSeen_X10 hown hw (by omega) (isV_0 hV) rfl 11 (by decide) wl_X1_fitsAllSeen_1 rfl rfl dX1_fitsAllSeen_4 ?_
  refine nr_get (own := RX1) (C := RX7) (T := TX7) (N := 3) (v := .int (nI (V 2))) hx hb hts hi_X1_fitsAllSeen_X7 hown hw (by omega) (isV_8 hV) rfl 2 (by decide) wl_X1_fitsAllSeen_2 rfl rfl dX1_fitsAllSeen_7 ?_
  refine nr_icmp_ge (tgt := 99) hx hb (by omega) (by omega) dX1_fitsAllSeen_10 (by decide) (fun c1 => ?_) (fun c1 => ?_)
  · refine lv_iconst (v := nI 1) hx hb dX1_fitsAllSeen_99 (by decide) ?_
    exact nr_retB hx hb hr hlocks (Or.inl ⟨fun j hj => hn j (by omega), rfl⟩) rfl dX1_fitsAllSeen_100
  · refine lv_aload_n hx hb dX1_fitsAllSeen_13 rfl (lv_at hl 0 rfl) ?_
    refine nr_get (own := RX1) (C := RX10) (T := TX10) (N := 15) (v := .ref (ad Γ (b + 8))) hx hb hts hi_X1_fitsAllSeen_X10 hown hw (by omega) (isV_0 hV) rfl 11 (by decide) wl_X1_fitsAllSeen_1 rfl rfl dX1_fitsAllSeen_14 ?_
    refine lv_iload_n hx hb dX1_fitsAllSeen_17 rfl (lv_at hl 3 rfl) ?_
    refine lv_iconst (v := nI 0) hx hb dX1_fitsAllSeen_18 (by decide) ?_
    refine nr_goS (nr_runV (As := [.int (nI r), .int (nI 0)]) (C := RX7) (T := TX7) (N := 3) ⟨hx, hb, hml, hown, hts⟩ hw (by omega) (isV_8 hV) rfl (c_X7_cell l Γ n G (b + 8) (b + 12) 60 20 5 (V 2) V (isV_8 hV) (isV_12 hV) (by omega) (by omega) hI.1 (by decide) (by decide) hI.2.2.2.1 (by decide) r 0 (by omega) (by decide)) (cwV 2 hts gX1_fitsAllSeen_X7_cell rfl rfl rfl (by decide +kernel) ⟨Nat.le_of_ble_eq_true rfl, Nat.le_of_ble_eq_true rfl⟩) rfl hl.1 rfl (Nat.le_of_ble_eq_true rfl) dX1_fitsAllSeen_19 ⟨Nat.zero_le _, Nat.zero_le _⟩) (fun r2 hr2 => ?_)
    obtain rfl : r2 = (nI (V (60 + (r * 4 + 0)))) := hr2
    refine lv_iload_n hx hb dX1_fitsAllSeen_22 rfl (lv_at hl 1 rfl) ?_
    refine nr_icmp_ne (tgt := 93) hx hb (by omega) (by omega) dX1_fitsAllSeen_23 (by decide) (fun c3 => ?_) (fun c3 => ?_)
    · refine nr_inc (d := 1) (k := 3) (lv' := [(3, .int (nI (r + 1))), (0, .ref (ad Γ (b + 0))), (1, .int (nI k)), (2, .int (nI g))]) hx hb dX1_fitsAllSeen_93 hl rfl (by decide) (by decide) rfl (fun ls hl => ?_)
      refine lv_goto (tgt := 2) hx hb dX1_fitsAllSeen_96 (by decide) ?_
      exact ih2 (r + 1) _ _ (lv_sub hl [1, 2, 3, 0] rfl) ⟨rfl, by (try dsimp only); omega, fun j hj hjk => by
          rcases Nat.lt_or_eq_of_le (Nat.le_of_lt_succ hj) with q | q
          · exact hn j q hjk
          · subst q; omega⟩ (by (try dsimp only); omega)
    · refine lv_aload_n hx hb dX1_fitsAllSeen_26 rfl (lv_at hl 0 rfl) ?_
      refine nr_get (own := RX1) (C := RX10) (T := TX10) (N := 15) (v := .ref (ad Γ (b + 3))) hx hb hts hi_X1_fitsAllSeen_X10 hown hw (by omega) (isV_0 hV) rfl 4 (by decide) wl_X1_fitsAllSeen_3 rfl rfl dX1_fitsAllSeen_27 ?_
      refine lv_iload_n hx hb dX1_fitsAllSeen_30 rfl (lv_at hl 1 rfl) ?_
      refine nr_iald (x := (V (28 + k))) hx hb hw (by omega) (isV_3 hV) rfl (by omega) (by decide) dX1_fitsAllSeen_31 ?_
      have hL4 := hB (28 + k)
      refine lv_iload_n hx hb dX1_fitsAllSeen_32 rfl (lv_at hl 2 rfl) ?_
      refine lv_aload_n hx hb dX1_fitsAllSeen_33 rfl (lv_at hl 0 rfl) ?_
      refine nr_get (own := RX1) (C := RX10) (T := TX10) (N := 15) (v := .ref (ad Γ (b + 8))) hx hb hts hi_X1_fitsAllSeen_X10 hown hw (by omega) (isV_0 hV) rfl 11 (by decide) wl_X1_fitsAllSeen_1 rfl rfl dX1_fitsAllSeen_34 ?_
      refine lv_iload_n hx hb dX1_fitsAllSeen_37 rfl (lv_at hl 3 rfl) ?_
      refine lv_iconst (v := nI 1) hx hb dX1_fitsAllSeen_38 (by decide) ?_
      refine nr_goS (nr_runV (As := [.int (nI r), .int (nI 1)]) (C := RX7) (T := TX7) (N := 3) ⟨hx, hb, hml, hown, hts⟩ hw (by omega) (isV_8 hV) rfl (c_X7_cell l Γ n G (b + 8) (b + 12) 60 20 5 (V 2) V (isV_8 hV) (isV_12 hV) (by omega) (by omega) hI.1 (by decide) (by decide) hI.2.2.2.1 (by decide) r 1 (by omega) (by decide)) (cwV 2 hts gX1_fitsAllSeen_X7_cell rfl rfl rfl (by decide +kernel) ⟨Nat.le_of_ble_eq_true rfl, Nat.le_of_ble_eq_true rfl⟩) rfl hl.1 rfl (Nat.le_of_ble_eq_true rfl) dX1_fitsAllSeen_39 ⟨Nat.zero_le _, Nat.zero_le _⟩) (fun r5 hr5 => ?_)
      obtain rfl : r5 = (nI (V (60 + (r * 4 + 1)))) := hr5
      refine nr_goS (nr_runS (As := [.int (nI (V (28 + k))), .int (nI g), .int (nI (V (60 + (r * 4 + 1))))]) ⟨hx, hb, hml, hown, hts⟩ hw (c_X2_weight l Γ n G (V (28 + k)) g (V (60 + (r * 4 + 1))) (by omega) (by omega) (by omega)) (va_cwS 3 hts gX1_fitsAllSeen_X2_weight rfl rfl rfl (by decide +kernel) ⟨Nat.le_of_ble_eq_true rfl, Nat.le_of_ble_eq_true rfl⟩) rfl hl.1 rfl (Nat.le_of_ble_eq_true rfl) dX1_fitsAllSeen_42 ⟨Nat.zero_le _, Nat.zero_le _⟩) (fun r6 hr6 => ?_)
      obtain rfl : r6 = (nI (sWeight (V (28 + k)) g (V (60 + (r * 4 + 1))))) := hr6
      refine lv_istore (lv' := [(4, .int (nI (sWeight (V (28 + k)) g (V (60 + (r * 4 + 1)))))), (0, .ref (ad Γ (b + 0))), (1, .int (nI k)), (2, .int (nI g)), (3, .int (nI r))]) hx hb dX1_fitsAllSeen_45 hl (by decide) rfl (fun ls hl => ?_)
      refine lv_aload_n hx hb dX1_fitsAllSeen_47 rfl (lv_at hl 1 rfl) ?_
      refine nr_get (own := RX1) (C := RX10) (T := TX10) (N := 15) (v := .ref (ad Γ (b + 8))) hx hb hts hi_X1_fitsAllSeen_X10 hown hw (by omega) (isV_0 hV) rfl 11 (by decide) wl_X1_fitsAllSeen_1 rfl rfl dX1_fitsAllSeen_48 ?_
      refine lv_iload_n hx hb dX1_fitsAllSeen_51 rfl (lv_at hl 4 rfl) ?_
      refine lv_iconst (v := nI 3) hx hb dX1_fitsAllSeen_52 (by decide) ?_
      refine nr_goS (nr_runV (As := [.int (nI r), .int (nI 3)]) (C := RX7) (T := TX7) (N := 3) ⟨hx, hb, hml, hown, hts⟩ hw (by omega) (isV_8 hV) rfl (c_X7_cell l Γ n G (b + 8) (b + 12) 60 20 5 (V 2) V (isV_8 hV) (isV_12 hV) (by omega) (by omega) hI.1 (by decide) (by decide) hI.2.2.2.1 (by decide) r 3 (by omega) (by decide)) (cwV 2 hts gX1_fitsAllSeen_X7_cell rfl rfl rfl (by decide +kernel) ⟨Nat.le_of_ble_eq_true rfl, Nat.le_of_ble_eq_true rfl⟩) rfl hl.1 rfl (Nat.le_of_ble_eq_true rfl) dX1_fitsAllSeen_53 ⟨Nat.zero_le _, Nat.zero_le _⟩) (fun r7 hr7 => ?_)
      obtain rfl : r7 = (nI (V (60 + (r * 4 + 3)))) := hr7
      refine lv_iconst (v := nI 1) hx hb dX1_fitsAllSeen_56 (by decide) ?_
      refine nr_icmp_ne (tgt := 64) hx hb (by omega) (by decide) dX1_fitsAllSeen_57 (by decide) (fun c8 => ?_) (fun c8 => ?_)
      · refine lv_iconst (v := nI 0) hx hb dX1_fitsAllSeen_64 (by decide) ?_
        refine lv_istore (lv' := [(5, .int (nI 0)), (4, .int (nI (sWeight (V (28 + k)) g (V (60 + (r * 4 + 1)))))), (0, .ref (ad Γ (b + 0))), (1, .int (nI k)), (2, .int (nI g)), (3, .int (nI r))]) hx hb dX1_fitsAllSeen_65 hl (by decide) rfl (fun ls hl => ?_)
        refine lv_iload hx hb dX1_fitsAllSeen_67 (lv_at hl 1 rfl) ?_
        refine lv_aload_n hx hb dX1_fitsAllSeen_69 rfl (lv_at hl 2 rfl) ?_
        refine nr_get (own := RX1) (C := RX10) (T := TX10) (N := 15) (v := .ref (ad Γ (b + 8))) hx hb hts hi_X1_fitsAllSeen_X10 hown hw (by omega) (isV_0 hV) rfl 11 (by decide) wl_X1_fitsAllSeen_1 rfl rfl dX1_fitsAllSeen_70 ?_
        refine lv_iload_n hx hb dX1_fitsAllSeen_73 rfl (lv_at hl 5 rfl) ?_
        refine lv_iconst (v := nI 2) hx hb dX1_fitsAllSeen_74 (by decide) ?_
        refine nr_goS (nr_runV (As := [.int (nI r), .int (nI 2)]) (C := RX7) (T := TX7) (N := 3) ⟨hx, hb, hml, hown, hts⟩ hw (by omega) (isV_8 hV) rfl (c_X7_cell l Γ n G (b + 8) (b + 12) 60 20 5 (V 2) V (isV_8 hV) (isV_12 hV) (by omega) (by omega) hI.1 (by decide) (by decide) hI.2.2.2.1 (by decide) r 2 (by omega) (by decide)) (cwV 2 hts gX1_fitsAllSeen_X7_cell rfl rfl rfl (by decide +kernel) ⟨Nat.le_of_ble_eq_true rfl, Nat.le_of_ble_eq_true rfl⟩) rfl hl.1 rfl (Nat.le_of_ble_eq_true rfl) dX1_fitsAllSeen_75 ⟨Nat.zero_le _, Nat.zero_le _⟩) (fun r9 hr9 => ?_)
        obtain rfl : r9 = (nI (V (60 + (r * 4 + 2)))) := hr9
        refine nr_icmp_gt (tgt := 85) hx hb (by omega) (by omega) dX1_fitsAllSeen_78 (by decide) (fun c10 => ?_) (fun c10 => ?_)
        · refine lv_iconst (v := nI 0) hx hb dX1_fitsAllSeen_85 (by decide) ?_
          refine lv_iload hx hb dX1_fitsAllSeen_86 (lv_at hl 0 rfl) ?_
          refine nr_icmp_eq (tgt := 93) hx hb (by decide) (by decide) dX1_fitsAllSeen_88 (by decide) (fun c11 => ?_) (fun c11 => absurd c11 (by decide))
          refine nr_inc (d := 1) (k := 5) (lv' := [(3, .int (nI (r + 1))), (5, .int (nI 0)), (4, .int (nI (sWeight (V (28 + k)) g (V (60 + (r * 4 + 1)))))), (0, .ref (ad Γ (b + 0))), (1, .int (nI k)), (2, .int (nI g))]) hx hb dX1_fitsAllSeen_93 hl rfl (by decide) (by decide) rfl (fun ls hl => ?_)
          refine lv_goto (tgt := 2) hx hb dX1_fitsAllSeen_96 (by decide) ?_
          exact ih2 (r + 1) _ _ (lv_sub hl [3, 4, 5, 0] rfl) ⟨rfl, by (try dsimp only); omega, fun j hj hjk => by
          rcases Nat.lt_or_eq_of_le (Nat.le_of_lt_succ hj) with q | q
          · exact hn j q hjk
          · subst q; omega⟩ (by (try dsimp only); omega)
        · refine lv_iconst (v := nI 1) hx hb dX1_fitsAllSeen_81 (by decide) ?_
          refine lv_goto (tgt := 86) hx hb dX1_fitsAllSeen_82 (by decide) ?_
          refine lv_iload hx hb dX1_fitsAllSeen_86 (lv_at hl 0 rfl) ?_
          refine nr_icmp_eq (tgt := 93) hx hb (by decide) (by decide) dX1_fitsAllSeen_88 (by decide) (fun c12 => absurd c12 (by decide)) (fun c12 => ?_)
          refine lv_iconst (v := nI 0) hx hb dX1_fitsAllSeen_91 (by decide) ?_
          exact nr_retB hx hb hr hlocks (Or.inr ⟨by intro hh; have h9 := hh r (by omega) (by assumption); omega, rfl⟩) rfl dX1_fitsAllSeen_92
      · refine lv_iconst (v := nI 1) hx hb dX1_fitsAllSeen_60 (by decide) ?_
        refine lv_goto (tgt := 65) hx hb dX1_fitsAllSeen_61 (by decide) ?_
        refine lv_istore (lv' := [(5, .int (nI 1)), (4, .int (nI (sWeight (V (28 + k)) g (V (60 + (r * 4 + 1)))))), (0, .ref (ad Γ (b + 0))), (1, .int (nI k)), (2, .int (nI g)), (3, .int (nI r))]) hx hb dX1_fitsAllSeen_65 hl (by decide) rfl (fun ls hl => ?_)
        refine lv_iload hx hb dX1_fitsAllSeen_67 (lv_at hl 1 rfl) ?_
        refine lv_aload_n hx hb dX1_fitsAllSeen_69 rfl (lv_at hl 2 rfl) ?_
        refine nr_get (own := RX1) (C := RX10) (T := TX10) (N := 15) (v := .ref (ad Γ (b + 8))) hx hb hts hi_X1_fitsAllSeen_X10 hown hw (by omega) (isV_0 hV) rfl 11 (by decide) wl_X1_fitsAllSeen_1 rfl rfl dX1_fitsAllSeen_70 ?_
        refine lv_iload_n hx hb dX1_fitsAllSeen_73 rfl (lv_at hl 5 rfl) ?_
        refine lv_iconst (v := nI 2) hx hb dX1_fitsAllSeen_74 (by decide) ?_
        refine nr_goS (nr_runV (As := [.int (nI r), .int (nI 2)]) (C := RX7) (T := TX7) (N := 3) ⟨hx, hb, hml, hown, hts⟩ hw (by omega) (isV_8 hV) rfl (c_X7_cell l Γ n G (b + 8) (b + 12) 60 20 5 (V 2) V (isV_8 hV) (isV_12 hV) (by omega) (by omega) hI.1 (by decide) (by decide) hI.2.2.2.1 (by decide) r 2 (by omega) (by decide)) (cwV 2 hts gX1_fitsAllSeen_X7_cell rfl rfl rfl (by decide +kernel) ⟨Nat.le_of_ble_eq_true rfl, Nat.le_of_ble_eq_true rfl⟩) rfl hl.1 rfl (Nat.le_of_ble_eq_true rfl) dX1_fitsAllSeen_75 ⟨Nat.zero_le _, Nat.zero_le _⟩) (fun r13 hr13 => ?_)
        obtain rfl : r13 = (nI (V (60 + (r * 4 + 2)))) := hr13
        refine nr_icmp_gt (tgt := 85) hx hb (by omega) (by omega) dX1_fitsAllSeen_78 (by decide) (fun c14 => ?_) (fun c14 => ?_)
        · refine lv_iconst (v := nI 0) hx hb dX1_fitsAllSeen_85 (by decide) ?_
          refine lv_iload hx hb dX1_fitsAllSeen_86 (lv_at hl 0 rfl) ?_
          refine nr_icmp_eq (tgt := 93) hx hb (by decide) (by decide) dX1_fitsAllSeen_88 (by decide) (fun c15 => absurd c15 (by decide)) (fun c15 => ?_)
          refine lv_iconst (v := nI 0) hx hb dX1_fitsAllSeen_91 (by decide) ?_
          exact nr_retB hx hb hr hlocks (Or.inr ⟨by intro hh; have h9 := hh r (by omega) (by assumption); omega, rfl⟩) rfl dX1_fitsAllSeen_92
        · refine lv_iconst (v := nI 1) hx hb dX1_fitsAllSeen_81 (by decide) ?_
          refine lv_goto (tgt := 86) hx hb dX1_fitsAllSeen_82 (by decide) ?_
          refine lv_iload hx hb dX1_fitsAllSeen_86 (lv_at hl 0 rfl) ?_
          refine nr_icmp_eq (tgt := 93) hx hb (by decide) (by decide) dX1_fitsAllSeen_88 (by decide) (fun c16 => ?_) (fun c16 => absurd c16 (by decide))
          refine nr_inc (d := 1) (k := 5) (lv' := [(3, .int (nI (r + 1))), (5, .int (nI 1)), (4, .int (nI (sWeight (V (28 + k)) g (V (60 + (r * 4 + 1)))))), (0, .ref (ad Γ (b + 0))), (1, .int (nI k)), (2, .int (nI g))]) hx hb dX1_fitsAllSeen_93 hl rfl (by decide) (by decide) rfl (fun ls hl => ?_)
          refine lv_goto (tgt := 2) hx hb dX1_fitsAllSeen_96 (by decide) ?_
          exact ih2 (r + 1) _ _ (lv_sub hl [3, 4, 5, 0] rfl) ⟨rfl, by (try dsimp only); omega, fun j hj hjk => by
          rcases Nat.lt_or_eq_of_le (Nat.le_of_lt_succ hj) with q | q
          · exact hn j q hjk
          · subst q; omega⟩ (by (try dsimp only); omega)
set_option maxHeartbeats 4000000 in
set_option maxRecDepth 100000 in
theorem c_X1_gravities (l : Launch) (Γ : Gam) (n : Nat) (G : Nat → va_E) (b : Nat) (V : Nat → Nat) (hV : isV Γ G b V) (hI : vI V) (hbn : b + 16 ≤ n) (k : Nat) (hk : k < 8)  : Met l yX1_gravities wsX1_gravities ({ frames := 3, cells := 0, slots := 0, locals := 70 }) (va_Pc [.ref (ad Γ (b + 0)), .int (nI k)] (fun U => hw Γ n G U U.heap)) (vp_Si (fun z => z = nI (sFit V k))) 0 0 (fun _ => False) := by
  refine Met.ofW (cc := cX1_gravities) (maxL := 4) (ret := (some .int)) (by decide) rfl ?_
  intro p e s m args below meth c s₁ B hml hv
  obtain ⟨rfl, hw⟩ := hv
  have hx := B.exec
  have hb := B.bytes
  have hr := B.returns
  have hts := atoms_spec (ws := wsX1_gravities) B.pre
  have hown : s.vm.findClass RX1 = some m.cls := findClass_of_methodNamed B.named
  have hlocks := B.notSynchronized
  have hl := lv_entry ([.ref (ad Γ (b + 0)), .int (nI k)]) (n := 4) (Nat.le_of_ble_eq_true rfl)
  rw [lg_entry_eq]
  generalize (lg_sl ([.ref (ad Γ (b + 0)), .int (nI k)]) ++ List.replicate (4 - (lg_sl ([.ref (ad Γ (b + 0)), .int (nI k)])).length) Slot.unset).toArray = ls at hl ⊢
  have hl : lv_has ls 4 [(0, .ref (ad Γ (b + 0))), (1, .int (nI k))] := hl
  have hB := hI.1
  have hB0 := hI.2.1
  have hB1 := hI.2.2.1
  have hB20 := hI.2.2.2.2.2.2.2.2.2
  have hBz2 := hI.2.2.2.1
  have hBz3 := hI.2.2.2.2.1
  have hBz4 := hI.2.2.2.2.2.1
  have hBz5 := hI.2.2.2.2.2.2.1
  have hBd := hB 21
  refine lv_iconst (v := nI 0) hx hb dX1_gravities_0 (by decide) ?_
  refine lv_istore_n (lv' := [(2, .int (nI 0)), (0, .ref (ad Γ (b + 0))), (1, .int (nI k))]) hx hb dX1_gravities_1 rfl hl (by decide) rfl (fun ls hl => ?_)
  refine lv_iconst (v := nI 1) hx hb dX1_gravities_2 (by decide) ?_
  refine lv_istore_n (lv' := [(3, .int (nI 1)), (2, .int (nI 0)), (0, .ref (ad Γ (b + 0))), (1, .int (nI k))]) hx hb dX1_gravities_3 rfl hl (by decide) rfl (fun ls hl => ?_)
  refine nr_lp (σ := Nat × Nat) (pc := 4) (fun x lv => lv = [(0, .ref (ad Γ (b + 0))), (1, .int (nI k)), (2, .int (nI x.2)), (3, .int (nI x.1))] ∧ (1 ≤ x.1) ∧ (x.1 ≤ 10) ∧ (x.2 = bitsOf (fun g => 1 ≤ g ∧ fitsP V k g) x.1)) (fun x => 10 - x.1) (1, 0) (lv_sub hl [2, 3, 1, 0] rfl) ⟨rfl, by (try dsimp only); omega, by (try dsimp only); omega, by simp [bitsOf]⟩ ?_
  intro x lv ls hl hI ih4
  obtain ⟨q, f⟩ := x
  obtain ⟨rfl, hq1, hq, hf⟩ := hI
  try dsimp only at hq1 hq hf hl ih4
  refine lv_iload_n hx hb dX1_gravities_4 rfl (lv_at hl 3 rfl) ?_
  refine lv_bipush (v := nI 9) hx hb dX1_gravities_5 (by decide) ?_
  refine nr_icmp_gt (tgt := 31) hx hb (by omega) (by decide) dX1_gravities_7 (by decide) (fun c1 => ?_) (fun c1 => ?_)
  · refine lv_iload_n hx hb dX1_gravities_31 rfl (lv_at hl 2 rfl) ?_
    exact nr_retS hx hb hr hlocks (by rw [hf, show q = 10 by omega]; rfl) rfl dX1_gravities_32
  · refine lv_aload_n hx hb dX1_gravities_10 rfl (lv_at hl 0 rfl) ?_
    refine lv_iload_n hx hb dX1_gravities_11 rfl (lv_at hl 1 rfl) ?_
    refine lv_iload_n hx hb dX1_gravities_12 rfl (lv_at hl 3 rfl) ?_
    refine nr_goB (P := fitsP V k q) (nr_runS (As := [.ref (ad Γ (b + 0)), .int (nI k), .int (nI q)]) ⟨hx, hb, hml, hown, hts⟩ hw (c_X1_fitsAllSeen l Γ n G b V hV hI hbn k q (by omega) (by omega)) (va_cwS 3 hts gX1_gravities_X1_fitsAllSeen rfl rfl rfl (by decide +kernel) ⟨Nat.le_of_ble_eq_true rfl, Nat.le_of_ble_eq_true rfl⟩) rfl hl.1 rfl (Nat.le_of_ble_eq_true rfl) dX1_gravities_13 ⟨Nat.zero_le _, Nat.zero_le _⟩) (fun b2 => ?_) (fun b2 => ?_)
    · refine nr_if_eq (tgt := 25) hx hb (by decide) dX1_gravities_16 (by decide) (fun c3 => absurd c3 (by decide)) (fun c3 => ?_)
      refine lv_iload_n hx hb dX1_gravities_19 rfl (lv_at hl 2 rfl) ?_
      refine lv_iconst (v := nI 1) hx hb dX1_gravities_20 (by decide) ?_
      refine lv_iload_n hx hb dX1_gravities_21 rfl (lv_at hl 3 rfl) ?_
      refine nr_ishl1 hx hb (by omega) dX1_gravities_22 ?_
      refine nr_ior hx hb dX1_gravities_23 ?_
      refine lv_istore_n (lv' := [(2, .int (nI (f ||| (2 ^ q)))), (0, .ref (ad Γ (b + 0))), (1, .int (nI k)), (3, .int (nI q))]) hx hb dX1_gravities_24 rfl hl (by decide) rfl (fun ls hl => ?_)
      refine nr_inc (d := 1) (k := 3) (lv' := [(3, .int (nI (q + 1))), (2, .int (nI (f ||| (2 ^ q)))), (0, .ref (ad Γ (b + 0))), (1, .int (nI k))]) hx hb dX1_gravities_25 hl rfl (by decide) (by decide) rfl (fun ls hl => ?_)
      refine lv_goto (tgt := 4) hx hb dX1_gravities_28 (by decide) ?_
      exact ih4 (q + 1, f ||| (2 ^ q)) _ _ (lv_sub hl [2, 3, 1, 0] rfl) ⟨rfl, by (try dsimp only); omega, by (try dsimp only); omega, by rw [hf]; simp only [bitsOf]; first | rw [if_pos ⟨hq1, by assumption⟩] | rw [if_neg (fun hh => absurd hh.2 (by assumption))]⟩ (by (try dsimp only); omega)
    · refine nr_if_eq (tgt := 25) hx hb (by decide) dX1_gravities_16 (by decide) (fun c4 => ?_) (fun c4 => absurd c4 (by decide))
      refine nr_inc (d := 1) (k := 3) (lv' := [(3, .int (nI (q + 1))), (0, .ref (ad Γ (b + 0))), (1, .int (nI k)), (2, .int (nI f))]) hx hb dX1_gravities_25 hl rfl (by decide) (by decide) rfl (fun ls hl => ?_)
      refine lv_goto (tgt := 4) hx hb dX1_gravities_28 (by decide) ?_
      exact ih4 (q + 1, f) _ _ (lv_sub hl [1, 2, 3, 0] rfl) ⟨rfl, by (try dsimp only); omega, by (try dsimp only); omega, by rw [hf]; simp only [bitsOf]; first | rw [if_pos ⟨hq1, by assumption⟩] | rw [if_neg (fun hh => absurd hh.2 (by assumption))]⟩ (by (try dsimp only); omega)
theorem wl_X1_greaterPart_1 : Cond.methodLink RX1 56 Lib.Math.max.name ∈ wsX1_greaterPart := List.mem_of_getElem? (i := 1) rfl
theorem wl_X1_greaterPart_2 : Cond.static Lib.Math.max.name ∈ wsX1_greaterPart := List.mem_of_getElem? (i := 2) rfl
theorem wl_X1_greaterPart_3 : Cond.initialized "java/lang/Math" ∈ wsX1_greaterPart := List.mem_of_getElem? (i := 3) rfl
theorem wl_X1_greaterPart_4 : Cond.code Lib.Math.max.name Lib.Math.max.code 2 (some .int) ∈ wsX1_greaterPart := List.mem_of_getElem? (i := 4) rfl
theorem wl_X1_greaterPart_5 : Cond.static yX11_holds ∈ wsX1_greaterPart := List.mem_of_getElem? (i := 5) rfl
theorem wl_X1_greaterPart_6 : Cond.initialized RX11 ∈ wsX1_greaterPart := List.mem_of_getElem? (i := 6) rfl
set_option maxHeartbeats 4000000 in
set_option maxRecDepth 100000 in
theorem c_X1_greaterPart (l : Launch) (Γ : Gam) (n : Nat) (G : Nat → va_E) (kind fit d lim : Nat) (hk : kind < 2147483648) (hf : fit < 1024) (hd : d ≤ 1999) (hl : lim < 2147483648)  : Met l yX1_greaterPart wsX1_greaterPart ({ frames := 2, cells := 0, slots := 0, locals := 45 }) (va_Pc [.int (nI kind), .int (nI fit), .int (nI d), .int (nI lim)] (fun U => hw Γ n G U U.heap)) (vp_Si (fun z => z = nI (gpM kind fit d lim))) 0 0 (fun _ => False) := by
  refine Met.ofW (cc := cX1_greaterPart) (maxL := 7) (ret := (some .int)) (by decide) rfl ?_
  intro p e s m args below meth c s₁ B hml hv
  obtain ⟨rfl, hw⟩ := hv
  have hx := B.exec
  have hb := B.bytes
  have hr := B.returns
  have hts := atoms_spec (ws := wsX1_greaterPart) B.pre
  have hown : s.vm.findClass RX1 = some m.cls := findClass_of_methodNamed B.named
  have hlocks := B.notSynchronized
  have hl := lv_entry ([.int (nI kind), .int (nI fit), .int (nI d), .int (nI lim)]) (n := 7) (Nat.le_of_ble_eq_true rfl)
  rw [lg_entry_eq]
  generalize (lg_sl ([.int (nI kind), .int (nI fit), .int (nI d), .int (nI lim)]) ++ List.replicate (7 - (lg_sl ([.int (nI kind), .int (nI fit), .int (nI d), .int (nI lim)])).length) Slot.unset).toArray = ls at hl ⊢
  have hl : lv_has ls 7 [(0, .int (nI kind)), (1, .int (nI fit)), (2, .int (nI d)), (3, .int (nI lim))] := hl
  have hWl := fun g => sWeight_le kind g d
  refine lv_iconst (v := nI 0) hx hb dX1_greaterPart_0 (by decide) ?_
  refine lv_istore (lv' := [(4, .int (nI 0)), (0, .int (nI kind)), (1, .int (nI fit)), (2, .int (nI d)), (3, .int (nI lim))]) hx hb dX1_greaterPart_1 hl (by decide) rfl (fun ls hl => ?_)
  refine lv_iconst (v := nI 0) hx hb dX1_greaterPart_3 (by decide) ?_
  refine lv_istore (lv' := [(5, .int (nI 0)), (4, .int (nI 0)), (0, .int (nI kind)), (1, .int (nI fit)), (2, .int (nI d)), (3, .int (nI lim))]) hx hb dX1_greaterPart_4 hl (by decide) rfl (fun ls hl => ?_)
  refine lv_iconst (v := nI 1) hx hb dX1_greaterPart_6 (by decide) ?_
  refine lv_istore (lv' := [(6, .int (nI 1)), (5, .int (nI 0)), (4, .int (nI 0)), (0, .int (nI kind)), (1, .int (nI fit)), (2, .int (nI d)), (3, .int (nI lim))]) hx hb dX1_greaterPart_7 hl (by decide) rfl (fun ls hl => ?_)
  refine nr_lp (σ := Nat × Nat × Nat) (pc := 9) (fun x lv => lv = [(0, .int (nI kind)), (1, .int (nI fit)), (2, .int (nI d)), (3, .int (nI lim)), (4, .int (nI x.2.1)), (5, .int (nI x.2.2)), (6, .int (nI x.1))] ∧ (1 ≤ x.1) ∧ (x.1 ≤ 10) ∧ (x.2.1 = gpO kind fit d lim x.1) ∧ (x.2.2 = gpN kind fit d lim x.1) ∧ (x.2.1 ≤ x.1) ∧ (x.2.2 ≤ x.1)) (fun x => 10 - x.1) (1, 0, 0) (lv_sub hl [3, 4, 5, 6, 2, 1, 0] rfl) ⟨rfl, by (try dsimp only); omega, by (try dsimp only); omega, by simp [gpO, cnt], by simp [gpN, cnt], by (try dsimp only); omega, by (try dsimp only); omega⟩ ?_
  intro x lv ls hl hI ih9
  obtain ⟨q, o, t⟩ := x
  obtain ⟨rfl, hq1, hq, ho, ht, ho2, ht2⟩ := hI
  try dsimp only at hq1 hq ho ht ho2 ht2 hl ih9
  have hWl1 := hWl q
  refine lv_iload hx hb dX1_greaterPart_9 (lv_at hl 6 rfl) ?_
  refine lv_bipush (v := nI 9) hx hb dX1_greaterPart_11 (by decide) ?_
  refine nr_icmp_gt (tgt := 51) hx hb (by omega) (by decide) dX1_greaterPart_13 (by decide) (fun c1 => ?_) (fun c1 => ?_)
  · refine lv_iload hx hb dX1_greaterPart_51 (lv_at hl 4 rfl) ?_
    refine lv_iload hx hb dX1_greaterPart_53 (lv_at hl 5 rfl) ?_
    refine nr_mmax hx hb (hml.trans hl.1.symm) hown (hts _ wl_X1_greaterPart_1) (hts _ wl_X1_greaterPart_2) (hts _ wl_X1_greaterPart_3) (hts _ wl_X1_greaterPart_4) (Nat.le_of_ble_eq_true rfl) (Nat.le_of_ble_eq_true rfl) (Nat.zero_le _) (Nat.zero_le _) (by omega) (by omega) dX1_greaterPart_55 ?_
    exact nr_retS hx hb hr hlocks (by rw [ho, ht, show q = 10 by omega]; rfl) rfl dX1_greaterPart_58
  · refine lv_iload_n hx hb dX1_greaterPart_16 rfl (lv_at hl 1 rfl) ?_
    refine lv_iload hx hb dX1_greaterPart_17 (lv_at hl 6 rfl) ?_
    refine nr_goB (P := bt fit q) (nr_runN (As := [.int (nI fit), .int (nI q)]) ⟨hx, hb, hml, hown, hts⟩ hw (c_X11_holds l Γ n G fit q (by omega) (by omega)) ⟨va_cnB 2 hts gX1_greaterPart_X11_holds_n52 rfl rfl rfl (hw.2.2 _ (List.mem_of_getElem? (i := 7) rfl)) (hts _ wl_X1_greaterPart_6) (by decide +kernel) ⟨Nat.le_of_ble_eq_true rfl, Nat.le_of_ble_eq_true rfl⟩, hts _ wl_X1_greaterPart_5, trivial⟩ rfl hl.1 rfl (Nat.le_of_ble_eq_true rfl) dX1_greaterPart_19 ⟨Nat.zero_le _, Nat.zero_le _⟩) (fun b2 => ?_) (fun b2 => ?_)
    · refine nr_if_eq (tgt := 45) hx hb (by decide) dX1_greaterPart_22 (by decide) (fun c3 => absurd c3 (by decide)) (fun c3 => ?_)
      refine lv_iload_n hx hb dX1_greaterPart_25 rfl (lv_at hl 0 rfl) ?_
      refine lv_iload hx hb dX1_greaterPart_26 (lv_at hl 6 rfl) ?_
      refine lv_iload_n hx hb dX1_greaterPart_28 rfl (lv_at hl 2 rfl) ?_
      refine nr_goS (nr_runS (As := [.int (nI kind), .int (nI q), .int (nI d)]) ⟨hx, hb, hml, hown, hts⟩ hw (c_X2_weight l Γ n G kind q d (by omega) (by omega) (by omega)) (va_cwS 3 hts gX1_greaterPart_X2_weight rfl rfl rfl (by decide +kernel) ⟨Nat.le_of_ble_eq_true rfl, Nat.le_of_ble_eq_true rfl⟩) rfl hl.1 rfl (Nat.le_of_ble_eq_true rfl) dX1_greaterPart_29 ⟨Nat.zero_le _, Nat.zero_le _⟩) (fun r4 hr4 => ?_)
      obtain rfl : r4 = (nI (sWeight kind q d)) := hr4
      refine lv_iload_n hx hb dX1_greaterPart_32 rfl (lv_at hl 3 rfl) ?_
      refine nr_icmp_gt (tgt := 42) hx hb (by omega) (by omega) dX1_greaterPart_33 (by decide) (fun c5 => ?_) (fun c5 => ?_)
      · refine nr_inc (d := 1) (k := 5) (lv' := [(5, .int (nI (t + 1))), (0, .int (nI kind)), (1, .int (nI fit)), (2, .int (nI d)), (3, .int (nI lim)), (4, .int (nI o)), (6, .int (nI q))]) hx hb dX1_greaterPart_42 hl rfl (by decide) (by decide) rfl (fun ls hl => ?_)
        refine nr_inc (d := 1) (k := 6) (lv' := [(6, .int (nI (q + 1))), (5, .int (nI (t + 1))), (0, .int (nI kind)), (1, .int (nI fit)), (2, .int (nI d)), (3, .int (nI lim)), (4, .int (nI o))]) hx hb dX1_greaterPart_45 hl rfl (by decide) (by decide) rfl (fun ls hl => ?_)
        refine lv_goto (tgt := 9) hx hb dX1_greaterPart_48 (by decide) ?_
        exact ih9 (q + 1, o, t + 1) _ _ (lv_sub hl [2, 3, 4, 5, 6, 1, 0] rfl) ⟨rfl, by (try dsimp only); omega, by (try dsimp only); omega, by rw [ho]; simp only [gpO, cnt]; split <;> omega, by rw [ht]; simp only [gpN, cnt]; split <;> omega, by (try dsimp only); omega, by (try dsimp only); omega⟩ (by (try dsimp only); omega)
      · refine nr_inc (d := 1) (k := 4) (lv' := [(4, .int (nI (o + 1))), (0, .int (nI kind)), (1, .int (nI fit)), (2, .int (nI d)), (3, .int (nI lim)), (5, .int (nI t)), (6, .int (nI q))]) hx hb dX1_greaterPart_36 hl rfl (by decide) (by decide) rfl (fun ls hl => ?_)
        refine lv_goto (tgt := 45) hx hb dX1_greaterPart_39 (by decide) ?_
        refine nr_inc (d := 1) (k := 6) (lv' := [(6, .int (nI (q + 1))), (4, .int (nI (o + 1))), (0, .int (nI kind)), (1, .int (nI fit)), (2, .int (nI d)), (3, .int (nI lim)), (5, .int (nI t))]) hx hb dX1_greaterPart_45 hl rfl (by decide) (by decide) rfl (fun ls hl => ?_)
        refine lv_goto (tgt := 9) hx hb dX1_greaterPart_48 (by decide) ?_
        exact ih9 (q + 1, o + 1, t) _ _ (lv_sub hl [2, 3, 4, 5, 1, 6, 0] rfl) ⟨rfl, by (try dsimp only); omega, by (try dsimp only); omega, by rw [ho]; simp only [gpO, cnt]; split <;> omega, by rw [ht]; simp only [gpN, cnt]; split <;> omega, by (try dsimp only); omega, by (try dsimp only); omega⟩ (by (try dsimp only); omega)
    · refine nr_if_eq (tgt := 45) hx hb (by decide) dX1_greaterPart_22 (by decide) (fun c6 => ?_) (fun c6 => absurd c6 (by decide))
      refine nr_inc (d := 1) (k := 6) (lv' := [(6, .int (nI (q + 1))), (0, .int (nI kind)), (1, .int (nI fit)), (2, .int (nI d)), (3, .int (nI lim)), (4, .int (nI o)), (5, .int (nI t))]) hx hb dX1_greaterPart_45 hl rfl (by decide) (by decide) rfl (fun ls hl => ?_)
      refine lv_goto (tgt := 9) hx hb dX1_greaterPart_48 (by decide) ?_
      exact ih9 (q + 1, o, t) _ _ (lv_sub hl [1, 2, 3, 4, 5, 6, 0] rfl) ⟨rfl, by (try dsimp only); omega, by (try dsimp only); omega, by rw [ho]; simp only [gpO, cnt]; split <;> omega, by rw [ht]; simp only [gpN, cnt]; split <;> omega, by (try dsimp only); omega, by (try dsimp only); omega⟩ (by (try dsimp only); omega)
theorem wl_X1_nextSight_1 : Cond.fieldLink RX1 35 "BellForgiven$Valley" "kind" "[I" ∈ wsX1_nextSight := List.mem_of_getElem? (i := 1) rfl
theorem hi_X1_nextSight_X10 : ∀ w ∈ u_ws RX10 TX10 15, w ∈ wsX1_nextSight := fun w h => (List.mem_cons_of_mem _ (List.mem_append_left _ (List.mem_append_right _ h)))
set_option maxHeartbeats 4000000 in
set_option maxRecDepth 100000 in
theorem c_X1_nextSight (l : Launch) (Γ : Gam) (n : Nat) (G : Nat → va_E) (b : Nat) (V : Nat → Nat) (hV : isV Γ G b V) (hI : vI V) (hbn : b + 16 ≤ n) (k : Nat) (hk : k < 8)  : Met l yX1_nextSight wsX1_nextSight ({ frames := 4, cells := 0, slots := 0, locals := 93 }) (va_Pc [.ref (ad Γ (b + 0)), .int (nI k)] (fun U => hw Γ n G U U.heap)) (vp_Si (fun z => tellR V k z)) 0 0 (fun _ => False) := by
  refine Met.ofW (cc := cX1_nextSight) (maxL := 8) (ret := (some .int)) (by decide) rfl ?_
  intro p e s m args below meth c s₁ B hml hv
  obtain ⟨rfl, hw⟩ := hv
  have hx := B.exec
  have hb := B.bytes
  have hr := B.returns
  have hts := atoms_spec (ws := wsX1_nextSight) B.pre
  have hown : s.vm.findClass RX1 = some m.cls := findClass_of_methodNamed B.named
  have hlocks := B.notSynchronized
  have hl := lv_entry ([.ref (ad Γ (b + 0)), .int (nI k)]) (n := 8) (Nat.le_of_ble_eq_true rfl)
  rw [lg_entry_eq]
  generalize (lg_sl ([.ref (ad Γ (b + 0)), .int (nI k)]) ++ List.replicate (8 - (lg_sl ([.ref (ad Γ (b + 0)), .int (nI k)])).length) Slot.unset).toArray = ls at hl ⊢
  have hl : lv_has ls 8 [(0, .ref (ad Γ (b + 0))), (1, .int (nI k))] := hl
  have hB := hI.1
  have hB0 := hI.2.1
  have hB1 := hI.2.2.1
  have hB20 := hI.2.2.2.2.2.2.2.2.2
  have hBz2 := hI.2.2.2.1
  have hBz3 := hI.2.2.2.2.1
  have hBz4 := hI.2.2.2.2.2.1
  have hBz5 := hI.2.2.2.2.2.2.1
  have hBd := hB 21
  have hsf : sFit V k < 1024 := bitsOf_lt _ 10
  have hgl := fun d j => gpM_lt (V (28 + k)) (sFit V k) d j
  have hbk := hB (28 + k)
  refine lv_aload_n hx hb dX1_nextSight_0 rfl (lv_at hl 0 rfl) ?_
  refine lv_iload_n hx hb dX1_nextSight_1 rfl (lv_at hl 1 rfl) ?_
  refine nr_goS (nr_runS (As := [.ref (ad Γ (b + 0)), .int (nI k)]) ⟨hx, hb, hml, hown, hts⟩ hw (c_X1_gravities l Γ n G b V hV hI hbn k (by omega)) (va_cwS 2 hts gX1_nextSight_X1_gravities rfl rfl rfl (by decide +kernel) ⟨Nat.le_of_ble_eq_true rfl, Nat.le_of_ble_eq_true rfl⟩) rfl hl.1 rfl (Nat.le_of_ble_eq_true rfl) dX1_nextSight_2 ⟨Nat.zero_le _, Nat.zero_le _⟩) (fun r1 hr1 => ?_)
  obtain rfl : r1 = (nI (sFit V k)) := hr1
  refine lv_istore_n (lv' := [(2, .int (nI (sFit V k))), (0, .ref (ad Γ (b + 0))), (1, .int (nI k))]) hx hb dX1_nextSight_5 rfl hl (by decide) rfl (fun ls hl => ?_)
  refine lv_iload_n hx hb dX1_nextSight_6 rfl (lv_at hl 0 rfl) ?_
  refine nr_if_ne (tgt := 12) hx hb (by omega) dX1_nextSight_7 (by decide) (fun c2 => ?_) (fun c2 => ?_)
  · refine lv_iconst (v := (-1)) hx hb dX1_nextSight_12 (by decide) ?_
    refine lv_istore_n (lv' := [(3, .int (-1)), (2, .int (nI (sFit V k))), (0, .ref (ad Γ (b + 0))), (1, .int (nI k))]) hx hb dX1_nextSight_13 rfl hl (by decide) rfl (fun ls hl => ?_)
    refine lv_bipush (v := nI 100) hx hb dX1_nextSight_14 (by decide) ?_
    refine lv_istore (lv' := [(4, .int (nI 100)), (3, .int (-1)), (2, .int (nI (sFit V k))), (0, .ref (ad Γ (b + 0))), (1, .int (nI k))]) hx hb dX1_nextSight_16 hl (by decide) rfl (fun ls hl => ?_)
    refine lv_iconst (v := nI 0) hx hb dX1_nextSight_18 (by decide) ?_
    refine lv_istore (lv' := [(5, .int (nI 0)), (4, .int (nI 100)), (3, .int (-1)), (2, .int (nI (sFit V k))), (0, .ref (ad Γ (b + 0))), (1, .int (nI k))]) hx hb dX1_nextSight_19 hl (by decide) rfl (fun ls hl => ?_)
    refine nr_lp (σ := Nat × Nat × Int32) (pc := 21) (fun x lv => lv = [(0, .ref (ad Γ (b + 0))), (1, .int (nI k)), (2, .int (nI (sFit V k))), (3, .int x.2.2), (4, .int (nI x.2.1)), (5, .int (nI x.1))] ∧ (x.1 ≤ 10) ∧ (amin (gpF V k) (tOut 21) 100 (21 * x.1) x.2.1 x.2.2) ∧ (x.2.1 ≤ 100)) (fun x => 10 - x.1) (0, 100, (-1)) (lv_sub hl [4, 5, 3, 2, 1, 0] rfl) ⟨rfl, by (try dsimp only); omega, amin_0 _ _ _, by (try dsimp only); omega⟩ ?_
    intro x lv ls hl hI ih21
    obtain ⟨d, lo, bs⟩ := x
    obtain ⟨rfl, hd, hm, hlo⟩ := hI
    try dsimp only at hd hm hlo hl ih21
    refine lv_iload hx hb dX1_nextSight_21 (lv_at hl 5 rfl) ?_
    refine lv_bipush (v := nI 9) hx hb dX1_nextSight_23 (by decide) ?_
    refine nr_icmp_gt (tgt := 86) hx hb (by omega) (by decide) dX1_nextSight_25 (by decide) (fun c3 => ?_) (fun c3 => ?_)
    · refine lv_iload_n hx hb dX1_nextSight_86 rfl (lv_at hl 3 rfl) ?_
      exact nr_retS hx hb hr hlocks (by first | exact Or.inl ⟨by assumption, rfl⟩ | exact Or.inr ⟨by assumption, lo, by rw [show 210 = 21 * d by omega]; exact hm⟩) rfl dX1_nextSight_87
    · refine lv_iconst (v := nI 0) hx hb dX1_nextSight_28 (by decide) ?_
      refine lv_istore (lv' := [(6, .int (nI 0)), (0, .ref (ad Γ (b + 0))), (1, .int (nI k)), (2, .int (nI (sFit V k))), (3, .int bs), (4, .int (nI lo)), (5, .int (nI d))]) hx hb dX1_nextSight_29 hl (by decide) rfl (fun ls hl => ?_)
      refine nr_lp (σ := Nat × Nat × Int32) (pc := 31) (fun x lv => lv = [(0, .ref (ad Γ (b + 0))), (1, .int (nI k)), (2, .int (nI (sFit V k))), (3, .int x.2.2), (4, .int (nI x.2.1)), (5, .int (nI d)), (6, .int (nI x.1))] ∧ (x.1 ≤ 21) ∧ (amin (gpF V k) (tOut 21) 100 (21 * d + x.1) x.2.1 x.2.2) ∧ (x.2.1 ≤ 100)) (fun x => 21 - x.1) (0, lo, bs) (lv_sub hl [1, 2, 3, 4, 5, 6, 0] rfl) ⟨rfl, by (try dsimp only); omega, hm, by (try dsimp only); omega⟩ ?_
      intro x lv ls hl hI ih31
      obtain ⟨j, lo2, bs2⟩ := x
      obtain ⟨rfl, hj, hm2, hlo2⟩ := hI
      try dsimp only at hj hm2 hlo2 hl ih31
      refine lv_iload hx hb dX1_nextSight_31 (lv_at hl 6 rfl) ?_
      refine lv_bipush (v := nI 20) hx hb dX1_nextSight_33 (by decide) ?_
      refine nr_icmp_gt (tgt := 80) hx hb (by omega) (by decide) dX1_nextSight_35 (by decide) (fun c4 => ?_) (fun c4 => ?_)
      · refine nr_inc (d := 1) (k := 5) (lv' := [(5, .int (nI (d + 1))), (0, .ref (ad Γ (b + 0))), (1, .int (nI k)), (2, .int (nI (sFit V k))), (3, .int bs2), (4, .int (nI lo2)), (6, .int (nI j))]) hx hb dX1_nextSight_80 hl rfl (by decide) (by decide) rfl (fun ls hl => ?_)
        refine lv_goto (tgt := 21) hx hb dX1_nextSight_83 (by decide) ?_
        exact ih21 (d + 1, lo2, bs2) _ _ (lv_sub hl [1, 2, 3, 4, 5, 0] rfl) ⟨rfl, by (try dsimp only); omega, by rw [show 21 * (d + 1) = 21 * d + j by omega]; exact hm2, by (try dsimp only); omega⟩ (by (try dsimp only); omega)
      · have hgp : gpF V k (21 * d + j) = gpM (V (28 + k)) (sFit V k) d j := by unfold gpF; rw [show (21 * d + j) / 21 = d by omega, show (21 * d + j) % 21 = j by omega]
        have hgl1 := hgl d j
        refine lv_aload_n hx hb dX1_nextSight_38 rfl (lv_at hl 0 rfl) ?_
        refine nr_get (own := RX1) (C := RX10) (T := TX10) (N := 15) (v := .ref (ad Γ (b + 3))) hx hb hts hi_X1_nextSight_X10 hown hw (by omega) (isV_0 hV) rfl 4 (by decide) wl_X1_nextSight_1 rfl rfl dX1_nextSight_39 ?_
        refine lv_iload_n hx hb dX1_nextSight_42 rfl (lv_at hl 1 rfl) ?_
        refine nr_iald (x := (V (28 + k))) hx hb hw (by omega) (isV_3 hV) rfl (by omega) (by decide) dX1_nextSight_43 ?_
        have hL5 := hB (28 + k)
        refine lv_iload_n hx hb dX1_nextSight_44 rfl (lv_at hl 2 rfl) ?_
        refine lv_iload hx hb dX1_nextSight_45 (lv_at hl 5 rfl) ?_
        refine lv_iload hx hb dX1_nextSight_47 (lv_at hl 6 rfl) ?_
        refine nr_goS (nr_runS (As := [.int (nI (V (28 + k))), .int (nI (sFit V k)), .int (nI d), .int (nI j)]) ⟨hx, hb, hml, hown, hts⟩ hw (c_X1_greaterPart l Γ n G (V (28 + k)) (sFit V k) d j (by omega) (by omega) (by omega) (by omega)) (va_cwS 4 hts gX1_nextSight_X1_greaterPart rfl rfl rfl (by decide +kernel) ⟨Nat.le_of_ble_eq_true rfl, Nat.le_of_ble_eq_true rfl⟩) rfl hl.1 rfl (Nat.le_of_ble_eq_true rfl) dX1_nextSight_49 ⟨Nat.zero_le _, Nat.zero_le _⟩) (fun r6 hr6 => ?_)
        obtain rfl : r6 = (nI (gpM (V (28 + k)) (sFit V k) d j)) := hr6
        refine lv_istore (lv' := [(7, .int (nI (gpM (V (28 + k)) (sFit V k) d j))), (0, .ref (ad Γ (b + 0))), (1, .int (nI k)), (2, .int (nI (sFit V k))), (3, .int bs2), (4, .int (nI lo2)), (5, .int (nI d)), (6, .int (nI j))]) hx hb dX1_nextSight_52 hl (by decide) rfl (fun ls hl => ?_)
        refine lv_iload hx hb dX1_nextSight_54 (lv_at hl 0 rfl) ?_
        refine lv_iload hx hb dX1_nextSight_56 (lv_at hl 5 rfl) ?_
        refine nr_icmp_ge (tgt := 74) hx hb (by omega) (by omega) dX1_nextSight_58 (by decide) (fun c7 => ?_) (fun c7 => ?_)
        · refine nr_inc (d := 1) (k := 7) (lv' := [(6, .int (nI (j + 1))), (7, .int (nI (gpM (V (28 + k)) (sFit V k) d j))), (0, .ref (ad Γ (b + 0))), (1, .int (nI k)), (2, .int (nI (sFit V k))), (3, .int bs2), (4, .int (nI lo2)), (5, .int (nI d))]) hx hb dX1_nextSight_74 hl rfl (by decide) (by decide) rfl (fun ls hl => ?_)
          refine lv_goto (tgt := 31) hx hb dX1_nextSight_77 (by decide) ?_
          exact ih31 (j + 1, lo2, bs2) _ _ (lv_sub hl [2, 3, 4, 5, 6, 7, 0] rfl) ⟨rfl, by (try dsimp only); omega, by first | (have h9 := amin_y hm2 (by rw [hgp]; assumption); rw [hgp, tOut_at (by omega)] at h9; exact h9) | exact amin_n hm2 (show gpF V k (21 * d + j) < 100 by rw [hgp]; exact hgl d j) (show ¬ gpF V k (21 * d + j) < lo2 by rw [hgp]; omega), by (try dsimp only); omega⟩ (by (try dsimp only); omega)
        · refine lv_iload hx hb dX1_nextSight_61 (lv_at hl 0 rfl) ?_
          refine lv_istore (lv' := [(4, .int (nI (gpM (V (28 + k)) (sFit V k) d j))), (7, .int (nI (gpM (V (28 + k)) (sFit V k) d j))), (0, .ref (ad Γ (b + 0))), (1, .int (nI k)), (2, .int (nI (sFit V k))), (3, .int bs2), (5, .int (nI d)), (6, .int (nI j))]) hx hb dX1_nextSight_63 hl (by decide) rfl (fun ls hl => ?_)
          refine lv_bipush (v := nI 100) hx hb dX1_nextSight_65 (by decide) ?_
          refine lv_iload hx hb dX1_nextSight_67 (lv_at hl 6 rfl) ?_
          refine nr_imul hx hb dX1_nextSight_69 ?_
          refine lv_iload hx hb dX1_nextSight_70 (lv_at hl 7 rfl) ?_
          refine nr_iadd hx hb dX1_nextSight_72 ?_
          refine lv_istore_n (lv' := [(3, .int (nI (100 * d + j))), (4, .int (nI (gpM (V (28 + k)) (sFit V k) d j))), (7, .int (nI (gpM (V (28 + k)) (sFit V k) d j))), (0, .ref (ad Γ (b + 0))), (1, .int (nI k)), (2, .int (nI (sFit V k))), (5, .int (nI d)), (6, .int (nI j))]) hx hb dX1_nextSight_73 rfl hl (by decide) rfl (fun ls hl => ?_)
          refine nr_inc (d := 1) (k := 7) (lv' := [(6, .int (nI (j + 1))), (3, .int (nI (100 * d + j))), (4, .int (nI (gpM (V (28 + k)) (sFit V k) d j))), (7, .int (nI (gpM (V (28 + k)) (sFit V k) d j))), (0, .ref (ad Γ (b + 0))), (1, .int (nI k)), (2, .int (nI (sFit V k))), (5, .int (nI d))]) hx hb dX1_nextSight_74 hl rfl (by decide) (by decide) rfl (fun ls hl => ?_)
          refine lv_goto (tgt := 31) hx hb dX1_nextSight_77 (by decide) ?_
          exact ih31 (j + 1, gpM (V (28 + k)) (sFit V k) d j, (nI (100 * d + j))) _ _ (lv_sub hl [4, 5, 6, 1, 2, 7, 0] rfl) ⟨rfl, by (try dsimp only); omega, by first | (have h9 := amin_y hm2 (by rw [hgp]; assumption); rw [hgp, tOut_at (by omega)] at h9; exact h9) | exact amin_n hm2 (show gpF V k (21 * d + j) < 100 by rw [hgp]; exact hgl d j) (show ¬ gpF V k (21 * d + j) < lo2 by rw [hgp]; omega), by (try dsimp only); omega⟩ (by (try dsimp only); omega)
  · refine lv_iconst (v := (-1)) hx hb dX1_nextSight_10 (by decide) ?_
    exact nr_retS hx hb hr hlocks (by first | exact Or.inl ⟨by assumption, rfl⟩ | exact Or.inr ⟨by assumption, lo, by rw [show 210 = 21 * d by omega]; exact hm⟩) rfl dX1_nextSight_11
theorem wl_X1_wrongKinds_1 : Cond.fieldLink RX1 61 "BellForgiven$Valley" "notes" "LBellForgiven$Rows;" ∈ wsX1_wrongKinds := List.mem_of_getElem? (i := 1) rfl
theorem wl_X1_wrongKinds_2 : Cond.fieldLink RX1 25 "BellForgiven$Rows" "size" "I" ∈ wsX1_wrongKinds := List.mem_of_getElem? (i := 2) rfl
theorem hi_X1_wrongKinds_X10 : ∀ w ∈ u_ws RX10 TX10 15, w ∈ wsX1_wrongKinds := fun w h => (List.mem_cons_of_mem _ (List.mem_append_left _ (List.mem_append_right _ h)))
theorem hi_X1_wrongKinds_X7 : ∀ w ∈ u_ws RX7 TX7 3, w ∈ wsX1_wrongKinds := fun w h => (List.mem_cons_of_mem _ (List.mem_append_right _ h))
set_option maxHeartbeats 4000000 in
set_option maxRecDepth 100000 in
theorem c_X1_wrongKinds (l : Launch) (Γ : Gam) (n : Nat) (G : Nat → va_E) (b : Nat) (V : Nat → Nat) (hV : isV Γ G b V) (hI : vI V) (hbn : b + 16 ≤ n) (k : Nat) (hk : k < 2147483648)  : Met l yX1_wrongKinds wsX1_wrongKinds ({ frames := 2, cells := 0, slots := 0, locals := 45 }) (va_Pc [.ref (ad Γ (b + 0)), .int (nI k)] (fun U => hw Γ n G U U.heap)) (vp_Si (fun z => z = nI (wkinds V k))) 0 0 (fun _ => False) := by
  refine Met.ofW (cc := cX1_wrongKinds) (maxL := 5) (ret := (some .int)) (by decide) rfl ?_
  intro p e s m args below meth c s₁ B hml hv
  obtain ⟨rfl, hw⟩ := hv
  have hx := B.exec
  have hb := B.bytes
  have hr := B.returns
  have hts := atoms_spec (ws := wsX1_wrongKinds) B.pre
  have hown : s.vm.findClass RX1 = some m.cls := findClass_of_methodNamed B.named
  have hlocks := B.notSynchronized
  have hl := lv_entry ([.ref (ad Γ (b + 0)), .int (nI k)]) (n := 5) (Nat.le_of_ble_eq_true rfl)
  rw [lg_entry_eq]
  generalize (lg_sl ([.ref (ad Γ (b + 0)), .int (nI k)]) ++ List.replicate (5 - (lg_sl ([.ref (ad Γ (b + 0)), .int (nI k)])).length) Slot.unset).toArray = ls at hl ⊢
  have hl : lv_has ls 5 [(0, .ref (ad Γ (b + 0))), (1, .int (nI k))] := hl
  have hB := hI.1
  have hB0 := hI.2.1
  have hB1 := hI.2.2.1
  have hB20 := hI.2.2.2.2.2.2.2.2.2
  have hBz2 := hI.2.2.2.1
  have hBz3 := hI.2.2.2.2.1
  have hBz4 := hI.2.2.2.2.2.1
  have hBz5 := hI.2.2.2.2.2.2.1
  have hBd := hB 21
  have hBn := hI.2.2.2.2.1
  refine lv_bipush (v := nI 63) hx hb dX1_wrongKinds_0 (by decide) ?_
  refine lv_istore_n (lv' := [(2, .int (nI 63)), (0, .ref (ad Γ (b + 0))), (1, .int (nI k))]) hx hb dX1_wrongKinds_2 rfl hl (by decide) rfl (fun ls hl => ?_)
  refine lv_iconst (v := nI 0) hx hb dX1_wrongKinds_3 (by decide) ?_
  refine lv_istore_n (lv' := [(3, .int (nI 0)), (2, .int (nI 63)), (0, .ref (ad Γ (b + 0))), (1, .int (nI k))]) hx hb dX1_wrongKinds_4 rfl hl (by decide) rfl (fun ls hl => ?_)
  refine nr_lp (σ := Nat × Nat) (pc := 5) (fun x lv => lv = [(0, .ref (ad Γ (b + 0))), (1, .int (nI k)), (2, .int (nI x.2)), (3, .int (nI x.1))] ∧ (x.1 ≤ V 3) ∧ (x.2 < 64) ∧ (∀ j, j < 6 → (bt x.2 j ↔ ∀ u, u < x.1 → noteQ V k j u))) (fun x => V 3 - x.1) (0, 63) (lv_sub hl [2, 3, 1, 0] rfl) ⟨rfl, by (try dsimp only); omega, by (try dsimp only); omega, fun j hj => ⟨fun _ u hu => absurd hu (Nat.not_lt_zero u), fun _ => bt63 j hj⟩⟩ ?_
  intro x lv ls hl hI ih5
  obtain ⟨r, f⟩ := x
  obtain ⟨rfl, hr1, hf, hfb⟩ := hI
  try dsimp only at hr1 hf hfb hl ih5
  have hb0 := hB (80 + (r * 4 + 0))
  have hb1 := hB (80 + (r * 4 + 1))
  have hb2 := hB (80 + (r * 4 + 2))
  have hb3 := hB (80 + (r * 4 + 3))
  refine lv_iload_n hx hb dX1_wrongKinds_5 rfl (lv_at hl 3 rfl) ?_
  refine lv_aload_n hx hb dX1_wrongKinds_6 rfl (lv_at hl 0 rfl) ?_
  refine nr_get (own := RX1) (C := RX10) (T := TX10) (N := 15) (v := .ref (ad Γ (b + 9))) hx hb hts hi_X1_wrongKinds_X10 hown hw (by omega) (isV_0 hV) rfl 12 (by decide) wl_X1_wrongKinds_1 rfl rfl dX1_wrongKinds_7 ?_
  refine nr_get (own := RX1) (C := RX7) (T := TX7) (N := 3) (v := .int (nI (V 3))) hx hb hts hi_X1_wrongKinds_X7 hown hw (by omega) (isV_9 hV) rfl 2 (by decide) wl_X1_wrongKinds_2 rfl rfl dX1_wrongKinds_10 ?_
  refine nr_icmp_ge (tgt := 95) hx hb (by omega) (by omega) dX1_wrongKinds_13 (by decide) (fun c1 => ?_) (fun c1 => ?_)
  · refine lv_iload_n hx hb dX1_wrongKinds_95 rfl (lv_at hl 2 rfl) ?_
    exact nr_retS hx hb hr hlocks (by refine congrArg nI (bits_of (m := 6) hf (fun j hj => ?_)); rw [hfb j hj, show r = V 3 by omega]) rfl dX1_wrongKinds_96
  · refine lv_iconst (v := nI 0) hx hb dX1_wrongKinds_16 (by decide) ?_
    refine lv_istore (lv' := [(4, .int (nI 0)), (0, .ref (ad Γ (b + 0))), (1, .int (nI k)), (2, .int (nI f)), (3, .int (nI r))]) hx hb dX1_wrongKinds_17 hl (by decide) rfl (fun ls hl => ?_)
    refine nr_lp (σ := Nat × Nat) (pc := 19) (fun x lv => lv = [(0, .ref (ad Γ (b + 0))), (1, .int (nI k)), (2, .int (nI x.2)), (3, .int (nI r)), (4, .int (nI x.1))] ∧ (x.1 ≤ 6) ∧ (x.2 < 64) ∧ (∀ j, j < 6 → (bt x.2 j ↔ ∀ u, u < (if j < x.1 then r + 1 else r) → noteQ V k j u))) (fun x => 6 - x.1) (0, f) (lv_sub hl [1, 2, 3, 4, 0] rfl) ⟨rfl, by (try dsimp only); omega, by (try dsimp only); omega, fun j hj => by rw [if_neg (Nat.not_lt_zero j)]; exact hfb j hj⟩ ?_
    intro x lv ls hl hI ih19
    obtain ⟨kd, f2⟩ := x
    obtain ⟨rfl, hkd, hf2, hfb2⟩ := hI
    try dsimp only at hkd hf2 hfb2 hl ih19
    have hWl := sWeight_le kd (V (80 + (r * 4 + 1))) (V (80 + (r * 4 + 2)))
    refine lv_iload hx hb dX1_wrongKinds_19 (lv_at hl 4 rfl) ?_
    refine lv_bipush (v := nI 6) hx hb dX1_wrongKinds_21 (by decide) ?_
    refine nr_icmp_ge (tgt := 89) hx hb (by omega) (by decide) dX1_wrongKinds_23 (by decide) (fun c2 => ?_) (fun c2 => ?_)
    · refine nr_inc (d := 1) (k := 3) (lv' := [(3, .int (nI (r + 1))), (0, .ref (ad Γ (b + 0))), (1, .int (nI k)), (2, .int (nI f2)), (4, .int (nI kd))]) hx hb dX1_wrongKinds_89 hl rfl (by decide) (by decide) rfl (fun ls hl => ?_)
      refine lv_goto (tgt := 5) hx hb dX1_wrongKinds_92 (by decide) ?_
      exact ih5 (r + 1, f2) _ _ (lv_sub hl [1, 2, 3, 0] rfl) ⟨rfl, by (try dsimp only); omega, by (try dsimp only); omega, fun j hj => by rw [hfb2 j hj, if_pos (by omega)]⟩ (by (try dsimp only); omega)
    · refine lv_aload_n hx hb dX1_wrongKinds_26 rfl (lv_at hl 0 rfl) ?_
      refine nr_get (own := RX1) (C := RX10) (T := TX10) (N := 15) (v := .ref (ad Γ (b + 9))) hx hb hts hi_X1_wrongKinds_X10 hown hw (by omega) (isV_0 hV) rfl 12 (by decide) wl_X1_wrongKinds_1 rfl rfl dX1_wrongKinds_27 ?_
      refine lv_iload_n hx hb dX1_wrongKinds_30 rfl (lv_at hl 3 rfl) ?_
      refine lv_iconst (v := nI 0) hx hb dX1_wrongKinds_31 (by decide) ?_
      refine nr_goS (nr_runV (As := [.int (nI r), .int (nI 0)]) (C := RX7) (T := TX7) (N := 3) ⟨hx, hb, hml, hown, hts⟩ hw (by omega) (isV_9 hV) rfl (c_X7_cell l Γ n G (b + 9) (b + 13) 80 24 6 (V 3) V (isV_9 hV) (isV_13 hV) (by omega) (by omega) hI.1 (by decide) (by decide) hI.2.2.2.2.1 (by decide) r 0 (by omega) (by decide)) (cwV 2 hts gX1_wrongKinds_X7_cell rfl rfl rfl (by decide +kernel) ⟨Nat.le_of_ble_eq_true rfl, Nat.le_of_ble_eq_true rfl⟩) rfl hl.1 rfl (Nat.le_of_ble_eq_true rfl) dX1_wrongKinds_32 ⟨Nat.zero_le _, Nat.zero_le _⟩) (fun r3 hr3 => ?_)
      obtain rfl : r3 = (nI (V (80 + (r * 4 + 0)))) := hr3
      refine lv_iload_n hx hb dX1_wrongKinds_35 rfl (lv_at hl 1 rfl) ?_
      refine nr_icmp_ne (tgt := 83) hx hb (by omega) (by omega) dX1_wrongKinds_36 (by decide) (fun c4 => ?_) (fun c4 => ?_)
      · refine nr_inc (d := 1) (k := 4) (lv' := [(4, .int (nI (kd + 1))), (0, .ref (ad Γ (b + 0))), (1, .int (nI k)), (2, .int (nI f2)), (3, .int (nI r))]) hx hb dX1_wrongKinds_83 hl rfl (by decide) (by decide) rfl (fun ls hl => ?_)
        refine lv_goto (tgt := 19) hx hb dX1_wrongKinds_86 (by decide) ?_
        exact ih19 (kd + 1, f2) _ _ (lv_sub hl [1, 2, 3, 4, 0] rfl) ⟨rfl, by (try dsimp only); omega, by first | omega | exact and_lt _ hf2, by first | exact clr (noteQ V k) (by omega) hfb2 (fun hh => absurd (hh (by assumption)) (by assumption)) | exact kep (noteQ V k) hfb2 (fun hh => by first | assumption | exact absurd hh (by assumption))⟩ (by (try dsimp only); omega)
      · refine lv_aload_n hx hb dX1_wrongKinds_39 rfl (lv_at hl 0 rfl) ?_
        refine nr_get (own := RX1) (C := RX10) (T := TX10) (N := 15) (v := .ref (ad Γ (b + 9))) hx hb hts hi_X1_wrongKinds_X10 hown hw (by omega) (isV_0 hV) rfl 12 (by decide) wl_X1_wrongKinds_1 rfl rfl dX1_wrongKinds_40 ?_
        refine lv_iload_n hx hb dX1_wrongKinds_43 rfl (lv_at hl 3 rfl) ?_
        refine lv_iconst (v := nI 3) hx hb dX1_wrongKinds_44 (by decide) ?_
        refine nr_goS (nr_runV (As := [.int (nI r), .int (nI 3)]) (C := RX7) (T := TX7) (N := 3) ⟨hx, hb, hml, hown, hts⟩ hw (by omega) (isV_9 hV) rfl (c_X7_cell l Γ n G (b + 9) (b + 13) 80 24 6 (V 3) V (isV_9 hV) (isV_13 hV) (by omega) (by omega) hI.1 (by decide) (by decide) hI.2.2.2.2.1 (by decide) r 3 (by omega) (by decide)) (cwV 2 hts gX1_wrongKinds_X7_cell rfl rfl rfl (by decide +kernel) ⟨Nat.le_of_ble_eq_true rfl, Nat.le_of_ble_eq_true rfl⟩) rfl hl.1 rfl (Nat.le_of_ble_eq_true rfl) dX1_wrongKinds_45 ⟨Nat.zero_le _, Nat.zero_le _⟩) (fun r5 hr5 => ?_)
        obtain rfl : r5 = (nI (V (80 + (r * 4 + 3)))) := hr5
        refine lv_iload hx hb dX1_wrongKinds_48 (lv_at hl 4 rfl) ?_
        refine lv_aload_n hx hb dX1_wrongKinds_50 rfl (lv_at hl 0 rfl) ?_
        refine nr_get (own := RX1) (C := RX10) (T := TX10) (N := 15) (v := .ref (ad Γ (b + 9))) hx hb hts hi_X1_wrongKinds_X10 hown hw (by omega) (isV_0 hV) rfl 12 (by decide) wl_X1_wrongKinds_1 rfl rfl dX1_wrongKinds_51 ?_
        refine lv_iload_n hx hb dX1_wrongKinds_54 rfl (lv_at hl 3 rfl) ?_
        refine lv_iconst (v := nI 1) hx hb dX1_wrongKinds_55 (by decide) ?_
        refine nr_goS (nr_runV (As := [.int (nI r), .int (nI 1)]) (C := RX7) (T := TX7) (N := 3) ⟨hx, hb, hml, hown, hts⟩ hw (by omega) (isV_9 hV) rfl (c_X7_cell l Γ n G (b + 9) (b + 13) 80 24 6 (V 3) V (isV_9 hV) (isV_13 hV) (by omega) (by omega) hI.1 (by decide) (by decide) hI.2.2.2.2.1 (by decide) r 1 (by omega) (by decide)) (cwV 2 hts gX1_wrongKinds_X7_cell rfl rfl rfl (by decide +kernel) ⟨Nat.le_of_ble_eq_true rfl, Nat.le_of_ble_eq_true rfl⟩) rfl hl.1 rfl (Nat.le_of_ble_eq_true rfl) dX1_wrongKinds_56 ⟨Nat.zero_le _, Nat.zero_le _⟩) (fun r6 hr6 => ?_)
        obtain rfl : r6 = (nI (V (80 + (r * 4 + 1)))) := hr6
        refine lv_aload_n hx hb dX1_wrongKinds_59 rfl (lv_at hl 0 rfl) ?_
        refine nr_get (own := RX1) (C := RX10) (T := TX10) (N := 15) (v := .ref (ad Γ (b + 9))) hx hb hts hi_X1_wrongKinds_X10 hown hw (by omega) (isV_0 hV) rfl 12 (by decide) wl_X1_wrongKinds_1 rfl rfl dX1_wrongKinds_60 ?_
        refine lv_iload_n hx hb dX1_wrongKinds_63 rfl (lv_at hl 3 rfl) ?_
        refine lv_iconst (v := nI 2) hx hb dX1_wrongKinds_64 (by decide) ?_
        refine nr_goS (nr_runV (As := [.int (nI r), .int (nI 2)]) (C := RX7) (T := TX7) (N := 3) ⟨hx, hb, hml, hown, hts⟩ hw (by omega) (isV_9 hV) rfl (c_X7_cell l Γ n G (b + 9) (b + 13) 80 24 6 (V 3) V (isV_9 hV) (isV_13 hV) (by omega) (by omega) hI.1 (by decide) (by decide) hI.2.2.2.2.1 (by decide) r 2 (by omega) (by decide)) (cwV 2 hts gX1_wrongKinds_X7_cell rfl rfl rfl (by decide +kernel) ⟨Nat.le_of_ble_eq_true rfl, Nat.le_of_ble_eq_true rfl⟩) rfl hl.1 rfl (Nat.le_of_ble_eq_true rfl) dX1_wrongKinds_65 ⟨Nat.zero_le _, Nat.zero_le _⟩) (fun r7 hr7 => ?_)
        obtain rfl : r7 = (nI (V (80 + (r * 4 + 2)))) := hr7
        refine nr_goS (nr_runS (As := [.int (nI kd), .int (nI (V (80 + (r * 4 + 1)))), .int (nI (V (80 + (r * 4 + 2))))]) ⟨hx, hb, hml, hown, hts⟩ hw (c_X2_weight l Γ n G kd (V (80 + (r * 4 + 1))) (V (80 + (r * 4 + 2))) (by omega) (by omega) (by omega)) (va_cwS 3 hts gX1_wrongKinds_X2_weight rfl rfl rfl (by decide +kernel) ⟨Nat.le_of_ble_eq_true rfl, Nat.le_of_ble_eq_true rfl⟩) rfl hl.1 rfl (Nat.le_of_ble_eq_true rfl) dX1_wrongKinds_68 ⟨Nat.zero_le _, Nat.zero_le _⟩) (fun r8 hr8 => ?_)
        obtain rfl : r8 = (nI (sWeight kd (V (80 + (r * 4 + 1))) (V (80 + (r * 4 + 2))))) := hr8
        refine nr_icmp_eq (tgt := 83) hx hb (by omega) (by omega) dX1_wrongKinds_71 (by decide) (fun c9 => ?_) (fun c9 => ?_)
        · refine nr_inc (d := 1) (k := 4) (lv' := [(4, .int (nI (kd + 1))), (0, .ref (ad Γ (b + 0))), (1, .int (nI k)), (2, .int (nI f2)), (3, .int (nI r))]) hx hb dX1_wrongKinds_83 hl rfl (by decide) (by decide) rfl (fun ls hl => ?_)
          refine lv_goto (tgt := 19) hx hb dX1_wrongKinds_86 (by decide) ?_
          exact ih19 (kd + 1, f2) _ _ (lv_sub hl [1, 2, 3, 4, 0] rfl) ⟨rfl, by (try dsimp only); omega, by first | omega | exact and_lt _ hf2, by first | exact clr (noteQ V k) (by omega) hfb2 (fun hh => absurd (hh (by assumption)) (by assumption)) | exact kep (noteQ V k) hfb2 (fun hh => by first | assumption | exact absurd hh (by assumption))⟩ (by (try dsimp only); omega)
        · refine lv_iload_n hx hb dX1_wrongKinds_74 rfl (lv_at hl 2 rfl) ?_
          refine lv_iconst (v := nI 1) hx hb dX1_wrongKinds_75 (by decide) ?_
          refine lv_iload hx hb dX1_wrongKinds_76 (lv_at hl 4 rfl) ?_
          refine nr_ishl1 hx hb (by omega) dX1_wrongKinds_78 ?_
          refine lv_iconst (v := (-1)) hx hb dX1_wrongKinds_79 (by decide) ?_
          refine nr_not hx hb dX1_wrongKinds_80 ?_
          refine nr_iand hx hb dX1_wrongKinds_81 ?_
          refine lv_istore_n (lv' := [(2, .int (nI (f2 &&& ((2 ^ kd) ^^^ 4294967295)))), (0, .ref (ad Γ (b + 0))), (1, .int (nI k)), (3, .int (nI r)), (4, .int (nI kd))]) hx hb dX1_wrongKinds_82 rfl hl (by decide) rfl (fun ls hl => ?_)
          refine nr_inc (d := 1) (k := 4) (lv' := [(4, .int (nI (kd + 1))), (2, .int (nI (f2 &&& ((2 ^ kd) ^^^ 4294967295)))), (0, .ref (ad Γ (b + 0))), (1, .int (nI k)), (3, .int (nI r))]) hx hb dX1_wrongKinds_83 hl rfl (by decide) (by decide) rfl (fun ls hl => ?_)
          refine lv_goto (tgt := 19) hx hb dX1_wrongKinds_86 (by decide) ?_
          exact ih19 (kd + 1, f2 &&& ((2 ^ kd) ^^^ 4294967295)) _ _ (lv_sub hl [2, 3, 1, 4, 0] rfl) ⟨rfl, by (try dsimp only); omega, by first | omega | exact and_lt _ hf2, by first | exact clr (noteQ V k) (by omega) hfb2 (fun hh => absurd (hh (by assumption)) (by assumption)) | exact kep (noteQ V k) hfb2 (fun hh => by first | assumption | exact absurd hh (by assumption))⟩ (by (try dsimp only); omega)
theorem wl_X1_peopleKinds_1 : Cond.fieldLink RX1 64 "BellForgiven$Valley" "marks" "LBellForgiven$Rows;" ∈ wsX1_peopleKinds := List.mem_of_getElem? (i := 1) rfl
theorem wl_X1_peopleKinds_2 : Cond.fieldLink RX1 25 "BellForgiven$Rows" "size" "I" ∈ wsX1_peopleKinds := List.mem_of_getElem? (i := 2) rfl
theorem hi_X1_peopleKinds_X10 : ∀ w ∈ u_ws RX10 TX10 15, w ∈ wsX1_peopleKinds := fun w h => (List.mem_cons_of_mem _ (List.mem_append_left _ (List.mem_append_right _ h)))
theorem hi_X1_peopleKinds_X7 : ∀ w ∈ u_ws RX7 TX7 3, w ∈ wsX1_peopleKinds := fun w h => (List.mem_cons_of_mem _ (List.mem_append_right _ h))
set_option maxHeartbeats 4000000 in
set_option maxRecDepth 100000 in
theorem c_X1_peopleKinds (l : Launch) (Γ : Gam) (n : Nat) (G : Nat → va_E) (b : Nat) (V : Nat → Nat) (hV : isV Γ G b V) (hI : vI V) (hbn : b + 16 ≤ n) (k : Nat) (hk : k < 2147483648)  : Met l yX1_peopleKinds wsX1_peopleKinds ({ frames := 2, cells := 0, slots := 0, locals := 46 }) (va_Pc [.ref (ad Γ (b + 0)), .int (nI k)] (fun U => hw Γ n G U U.heap)) (vp_Si (fun z => z = nI (pkinds V k))) 0 0 (fun _ => False) := by
  refine Met.ofW (cc := cX1_peopleKinds) (maxL := 5) (ret := (some .int)) (by decide) rfl ?_
  intro p e s m args below meth c s₁ B hml hv
  obtain ⟨rfl, hw⟩ := hv
  have hx := B.exec
  have hb := B.bytes
  have hr := B.returns
  have hts := atoms_spec (ws := wsX1_peopleKinds) B.pre
  have hown : s.vm.findClass RX1 = some m.cls := findClass_of_methodNamed B.named
  have hlocks := B.notSynchronized
  have hl := lv_entry ([.ref (ad Γ (b + 0)), .int (nI k)]) (n := 5) (Nat.le_of_ble_eq_true rfl)
  rw [lg_entry_eq]
  generalize (lg_sl ([.ref (ad Γ (b + 0)), .int (nI k)]) ++ List.replicate (5 - (lg_sl ([.ref (ad Γ (b + 0)), .int (nI k)])).length) Slot.unset).toArray = ls at hl ⊢
  have hl : lv_has ls 5 [(0, .ref (ad Γ (b + 0))), (1, .int (nI k))] := hl
  have hB := hI.1
  have hB0 := hI.2.1
  have hB1 := hI.2.2.1
  have hB20 := hI.2.2.2.2.2.2.2.2.2
  have hBz2 := hI.2.2.2.1
  have hBz3 := hI.2.2.2.2.1
  have hBz4 := hI.2.2.2.2.2.1
  have hBz5 := hI.2.2.2.2.2.2.1
  have hBd := hB 21
  have hBn := hI.2.2.2.2.2.1
  refine lv_bipush (v := nI 63) hx hb dX1_peopleKinds_0 (by decide) ?_
  refine lv_istore_n (lv' := [(2, .int (nI 63)), (0, .ref (ad Γ (b + 0))), (1, .int (nI k))]) hx hb dX1_peopleKinds_2 rfl hl (by decide) rfl (fun ls hl => ?_)
  refine lv_iconst (v := nI 0) hx hb dX1_peopleKinds_3 (by decide) ?_
  refine lv_istore_n (lv' := [(3, .int (nI 0)), (2, .int (nI 63)), (0, .ref (ad Γ (b + 0))), (1, .int (nI k))]) hx hb dX1_peopleKinds_4 rfl hl (by decide) rfl (fun ls hl => ?_)
  refine nr_lp (σ := Nat × Nat) (pc := 5) (fun x lv => lv = [(0, .ref (ad Γ (b + 0))), (1, .int (nI k)), (2, .int (nI x.2)), (3, .int (nI x.1))] ∧ (x.1 ≤ V 4) ∧ (x.2 < 64) ∧ (∀ j, j < 6 → (bt x.2 j ↔ ∀ u, u < x.1 → markQ V k j u))) (fun x => V 4 - x.1) (0, 63) (lv_sub hl [2, 3, 1, 0] rfl) ⟨rfl, by (try dsimp only); omega, by (try dsimp only); omega, fun j hj => ⟨fun _ u hu => absurd hu (Nat.not_lt_zero u), fun _ => bt63 j hj⟩⟩ ?_
  intro x lv ls hl hI ih5
  obtain ⟨r, f⟩ := x
  obtain ⟨rfl, hr1, hf, hfb⟩ := hI
  try dsimp only at hr1 hf hfb hl ih5
  have hb0 := hB (104 + (r * 4 + 0))
  have hb1 := hB (104 + (r * 4 + 1))
  have hb2 := hB (104 + (r * 4 + 2))
  have hb3 := hB (104 + (r * 4 + 3))
  refine lv_iload_n hx hb dX1_peopleKinds_5 rfl (lv_at hl 3 rfl) ?_
  refine lv_aload_n hx hb dX1_peopleKinds_6 rfl (lv_at hl 0 rfl) ?_
  refine nr_get (own := RX1) (C := RX10) (T := TX10) (N := 15) (v := .ref (ad Γ (b + 10))) hx hb hts hi_X1_peopleKinds_X10 hown hw (by omega) (isV_0 hV) rfl 13 (by decide) wl_X1_peopleKinds_1 rfl rfl dX1_peopleKinds_7 ?_
  refine nr_get (own := RX1) (C := RX7) (T := TX7) (N := 3) (v := .int (nI (V 4))) hx hb hts hi_X1_peopleKinds_X7 hown hw (by omega) (isV_10 hV) rfl 2 (by decide) wl_X1_peopleKinds_2 rfl rfl dX1_peopleKinds_10 ?_
  refine nr_icmp_ge (tgt := 95) hx hb (by omega) (by omega) dX1_peopleKinds_13 (by decide) (fun c1 => ?_) (fun c1 => ?_)
  · refine lv_iload_n hx hb dX1_peopleKinds_95 rfl (lv_at hl 2 rfl) ?_
    exact nr_retS hx hb hr hlocks (by refine congrArg nI (bits_of (m := 6) hf (fun j hj => ?_)); rw [hfb j hj, show r = V 4 by omega]) rfl dX1_peopleKinds_96
  · refine lv_iconst (v := nI 0) hx hb dX1_peopleKinds_16 (by decide) ?_
    refine lv_istore (lv' := [(4, .int (nI 0)), (0, .ref (ad Γ (b + 0))), (1, .int (nI k)), (2, .int (nI f)), (3, .int (nI r))]) hx hb dX1_peopleKinds_17 hl (by decide) rfl (fun ls hl => ?_)
    refine nr_lp (σ := Nat × Nat) (pc := 19) (fun x lv => lv = [(0, .ref (ad Γ (b + 0))), (1, .int (nI k)), (2, .int (nI x.2)), (3, .int (nI r)), (4, .int (nI x.1))] ∧ (x.1 ≤ 6) ∧ (x.2 < 64) ∧ (∀ j, j < 6 → (bt x.2 j ↔ ∀ u, u < (if j < x.1 then r + 1 else r) → markQ V k j u))) (fun x => 6 - x.1) (0, f) (lv_sub hl [1, 2, 3, 4, 0] rfl) ⟨rfl, by (try dsimp only); omega, by (try dsimp only); omega, fun j hj => by rw [if_neg (Nat.not_lt_zero j)]; exact hfb j hj⟩ ?_
    intro x lv ls hl hI ih19
    obtain ⟨kd, f2⟩ := x
    obtain ⟨rfl, hkd, hf2, hfb2⟩ := hI
    try dsimp only at hkd hf2 hfb2 hl ih19
    have hWl := sMercy_le kd (V (104 + (r * 4 + 1))) (V (104 + (r * 4 + 2)))
    refine lv_iload hx hb dX1_peopleKinds_19 (lv_at hl 4 rfl) ?_
    refine lv_bipush (v := nI 6) hx hb dX1_peopleKinds_21 (by decide) ?_
    refine nr_icmp_ge (tgt := 89) hx hb (by omega) (by decide) dX1_peopleKinds_23 (by decide) (fun c2 => ?_) (fun c2 => ?_)
    · refine nr_inc (d := 1) (k := 3) (lv' := [(3, .int (nI (r + 1))), (0, .ref (ad Γ (b + 0))), (1, .int (nI k)), (2, .int (nI f2)), (4, .int (nI kd))]) hx hb dX1_peopleKinds_89 hl rfl (by decide) (by decide) rfl (fun ls hl => ?_)
      refine lv_goto (tgt := 5) hx hb dX1_peopleKinds_92 (by decide) ?_
      exact ih5 (r + 1, f2) _ _ (lv_sub hl [1, 2, 3, 0] rfl) ⟨rfl, by (try dsimp only); omega, by (try dsimp only); omega, fun j hj => by rw [hfb2 j hj, if_pos (by omega)]⟩ (by (try dsimp only); omega)
    · refine lv_aload_n hx hb dX1_peopleKinds_26 rfl (lv_at hl 0 rfl) ?_
      refine nr_get (own := RX1) (C := RX10) (T := TX10) (N := 15) (v := .ref (ad Γ (b + 10))) hx hb hts hi_X1_peopleKinds_X10 hown hw (by omega) (isV_0 hV) rfl 13 (by decide) wl_X1_peopleKinds_1 rfl rfl dX1_peopleKinds_27 ?_
      refine lv_iload_n hx hb dX1_peopleKinds_30 rfl (lv_at hl 3 rfl) ?_
      refine lv_iconst (v := nI 0) hx hb dX1_peopleKinds_31 (by decide) ?_
      refine nr_goS (nr_runV (As := [.int (nI r), .int (nI 0)]) (C := RX7) (T := TX7) (N := 3) ⟨hx, hb, hml, hown, hts⟩ hw (by omega) (isV_10 hV) rfl (c_X7_cell l Γ n G (b + 10) (b + 14) 104 24 6 (V 4) V (isV_10 hV) (isV_14 hV) (by omega) (by omega) hI.1 (by decide) (by decide) hI.2.2.2.2.2.1 (by decide) r 0 (by omega) (by decide)) (cwV 2 hts gX1_peopleKinds_X7_cell rfl rfl rfl (by decide +kernel) ⟨Nat.le_of_ble_eq_true rfl, Nat.le_of_ble_eq_true rfl⟩) rfl hl.1 rfl (Nat.le_of_ble_eq_true rfl) dX1_peopleKinds_32 ⟨Nat.zero_le _, Nat.zero_le _⟩) (fun r3 hr3 => ?_)
      obtain rfl : r3 = (nI (V (104 + (r * 4 + 0)))) := hr3
      refine lv_iload_n hx hb dX1_peopleKinds_35 rfl (lv_at hl 1 rfl) ?_
      refine nr_icmp_ne (tgt := 83) hx hb (by omega) (by omega) dX1_peopleKinds_36 (by decide) (fun c4 => ?_) (fun c4 => ?_)
      · refine nr_inc (d := 1) (k := 4) (lv' := [(4, .int (nI (kd + 1))), (0, .ref (ad Γ (b + 0))), (1, .int (nI k)), (2, .int (nI f2)), (3, .int (nI r))]) hx hb dX1_peopleKinds_83 hl rfl (by decide) (by decide) rfl (fun ls hl => ?_)
        refine lv_goto (tgt := 19) hx hb dX1_peopleKinds_86 (by decide) ?_
        exact ih19 (kd + 1, f2) _ _ (lv_sub hl [1, 2, 3, 4, 0] rfl) ⟨rfl, by (try dsimp only); omega, by first | omega | exact and_lt _ hf2, by first | exact clr (markQ V k) (by omega) hfb2 (fun hh => absurd (hh (by assumption)) (by assumption)) | exact kep (markQ V k) hfb2 (fun hh => by first | assumption | exact absurd hh (by assumption))⟩ (by (try dsimp only); omega)
      · refine lv_aload_n hx hb dX1_peopleKinds_39 rfl (lv_at hl 0 rfl) ?_
        refine nr_get (own := RX1) (C := RX10) (T := TX10) (N := 15) (v := .ref (ad Γ (b + 10))) hx hb hts hi_X1_peopleKinds_X10 hown hw (by omega) (isV_0 hV) rfl 13 (by decide) wl_X1_peopleKinds_1 rfl rfl dX1_peopleKinds_40 ?_
        refine lv_iload_n hx hb dX1_peopleKinds_43 rfl (lv_at hl 3 rfl) ?_
        refine lv_iconst (v := nI 3) hx hb dX1_peopleKinds_44 (by decide) ?_
        refine nr_goS (nr_runV (As := [.int (nI r), .int (nI 3)]) (C := RX7) (T := TX7) (N := 3) ⟨hx, hb, hml, hown, hts⟩ hw (by omega) (isV_10 hV) rfl (c_X7_cell l Γ n G (b + 10) (b + 14) 104 24 6 (V 4) V (isV_10 hV) (isV_14 hV) (by omega) (by omega) hI.1 (by decide) (by decide) hI.2.2.2.2.2.1 (by decide) r 3 (by omega) (by decide)) (cwV 2 hts gX1_peopleKinds_X7_cell rfl rfl rfl (by decide +kernel) ⟨Nat.le_of_ble_eq_true rfl, Nat.le_of_ble_eq_true rfl⟩) rfl hl.1 rfl (Nat.le_of_ble_eq_true rfl) dX1_peopleKinds_45 ⟨Nat.zero_le _, Nat.zero_le _⟩) (fun r5 hr5 => ?_)
        obtain rfl : r5 = (nI (V (104 + (r * 4 + 3)))) := hr5
        refine lv_iload hx hb dX1_peopleKinds_48 (lv_at hl 4 rfl) ?_
        refine lv_aload_n hx hb dX1_peopleKinds_50 rfl (lv_at hl 0 rfl) ?_
        refine nr_get (own := RX1) (C := RX10) (T := TX10) (N := 15) (v := .ref (ad Γ (b + 10))) hx hb hts hi_X1_peopleKinds_X10 hown hw (by omega) (isV_0 hV) rfl 13 (by decide) wl_X1_peopleKinds_1 rfl rfl dX1_peopleKinds_51 ?_
        refine lv_iload_n hx hb dX1_peopleKinds_54 rfl (lv_at hl 3 rfl) ?_
        refine lv_iconst (v := nI 1) hx hb dX1_peopleKinds_55 (by decide) ?_
        refine nr_goS (nr_runV (As := [.int (nI r), .int (nI 1)]) (C := RX7) (T := TX7) (N := 3) ⟨hx, hb, hml, hown, hts⟩ hw (by omega) (isV_10 hV) rfl (c_X7_cell l Γ n G (b + 10) (b + 14) 104 24 6 (V 4) V (isV_10 hV) (isV_14 hV) (by omega) (by omega) hI.1 (by decide) (by decide) hI.2.2.2.2.2.1 (by decide) r 1 (by omega) (by decide)) (cwV 2 hts gX1_peopleKinds_X7_cell rfl rfl rfl (by decide +kernel) ⟨Nat.le_of_ble_eq_true rfl, Nat.le_of_ble_eq_true rfl⟩) rfl hl.1 rfl (Nat.le_of_ble_eq_true rfl) dX1_peopleKinds_56 ⟨Nat.zero_le _, Nat.zero_le _⟩) (fun r6 hr6 => ?_)
        obtain rfl : r6 = (nI (V (104 + (r * 4 + 1)))) := hr6
        refine lv_aload_n hx hb dX1_peopleKinds_59 rfl (lv_at hl 0 rfl) ?_
        refine nr_get (own := RX1) (C := RX10) (T := TX10) (N := 15) (v := .ref (ad Γ (b + 10))) hx hb hts hi_X1_peopleKinds_X10 hown hw (by omega) (isV_0 hV) rfl 13 (by decide) wl_X1_peopleKinds_1 rfl rfl dX1_peopleKinds_60 ?_
        refine lv_iload_n hx hb dX1_peopleKinds_63 rfl (lv_at hl 3 rfl) ?_
        refine lv_iconst (v := nI 2) hx hb dX1_peopleKinds_64 (by decide) ?_
        refine nr_goS (nr_runV (As := [.int (nI r), .int (nI 2)]) (C := RX7) (T := TX7) (N := 3) ⟨hx, hb, hml, hown, hts⟩ hw (by omega) (isV_10 hV) rfl (c_X7_cell l Γ n G (b + 10) (b + 14) 104 24 6 (V 4) V (isV_10 hV) (isV_14 hV) (by omega) (by omega) hI.1 (by decide) (by decide) hI.2.2.2.2.2.1 (by decide) r 2 (by omega) (by decide)) (cwV 2 hts gX1_peopleKinds_X7_cell rfl rfl rfl (by decide +kernel) ⟨Nat.le_of_ble_eq_true rfl, Nat.le_of_ble_eq_true rfl⟩) rfl hl.1 rfl (Nat.le_of_ble_eq_true rfl) dX1_peopleKinds_65 ⟨Nat.zero_le _, Nat.zero_le _⟩) (fun r7 hr7 => ?_)
        obtain rfl : r7 = (nI (V (104 + (r * 4 + 2)))) := hr7
        refine nr_goS (nr_runS (As := [.int (nI kd), .int (nI (V (104 + (r * 4 + 1)))), .int (nI (V (104 + (r * 4 + 2))))]) ⟨hx, hb, hml, hown, hts⟩ hw (c_X2_mercy l Γ n G kd (V (104 + (r * 4 + 1))) (V (104 + (r * 4 + 2))) (by omega) (by omega) (by omega)) (va_cwS 3 hts gX1_peopleKinds_X2_mercy rfl rfl rfl (by decide +kernel) ⟨Nat.le_of_ble_eq_true rfl, Nat.le_of_ble_eq_true rfl⟩) rfl hl.1 rfl (Nat.le_of_ble_eq_true rfl) dX1_peopleKinds_68 ⟨Nat.zero_le _, Nat.zero_le _⟩) (fun r8 hr8 => ?_)
        obtain rfl : r8 = (nI (sMercy kd (V (104 + (r * 4 + 1))) (V (104 + (r * 4 + 2))))) := hr8
        refine nr_icmp_eq (tgt := 83) hx hb (by omega) (by omega) dX1_peopleKinds_71 (by decide) (fun c9 => ?_) (fun c9 => ?_)
        · refine nr_inc (d := 1) (k := 4) (lv' := [(4, .int (nI (kd + 1))), (0, .ref (ad Γ (b + 0))), (1, .int (nI k)), (2, .int (nI f2)), (3, .int (nI r))]) hx hb dX1_peopleKinds_83 hl rfl (by decide) (by decide) rfl (fun ls hl => ?_)
          refine lv_goto (tgt := 19) hx hb dX1_peopleKinds_86 (by decide) ?_
          exact ih19 (kd + 1, f2) _ _ (lv_sub hl [1, 2, 3, 4, 0] rfl) ⟨rfl, by (try dsimp only); omega, by first | omega | exact and_lt _ hf2, by first | exact clr (markQ V k) (by omega) hfb2 (fun hh => absurd (hh (by assumption)) (by assumption)) | exact kep (markQ V k) hfb2 (fun hh => by first | assumption | exact absurd hh (by assumption))⟩ (by (try dsimp only); omega)
        · refine lv_iload_n hx hb dX1_peopleKinds_74 rfl (lv_at hl 2 rfl) ?_
          refine lv_iconst (v := nI 1) hx hb dX1_peopleKinds_75 (by decide) ?_
          refine lv_iload hx hb dX1_peopleKinds_76 (lv_at hl 4 rfl) ?_
          refine nr_ishl1 hx hb (by omega) dX1_peopleKinds_78 ?_
          refine lv_iconst (v := (-1)) hx hb dX1_peopleKinds_79 (by decide) ?_
          refine nr_not hx hb dX1_peopleKinds_80 ?_
          refine nr_iand hx hb dX1_peopleKinds_81 ?_
          refine lv_istore_n (lv' := [(2, .int (nI (f2 &&& ((2 ^ kd) ^^^ 4294967295)))), (0, .ref (ad Γ (b + 0))), (1, .int (nI k)), (3, .int (nI r)), (4, .int (nI kd))]) hx hb dX1_peopleKinds_82 rfl hl (by decide) rfl (fun ls hl => ?_)
          refine nr_inc (d := 1) (k := 4) (lv' := [(4, .int (nI (kd + 1))), (2, .int (nI (f2 &&& ((2 ^ kd) ^^^ 4294967295)))), (0, .ref (ad Γ (b + 0))), (1, .int (nI k)), (3, .int (nI r))]) hx hb dX1_peopleKinds_83 hl rfl (by decide) (by decide) rfl (fun ls hl => ?_)
          refine lv_goto (tgt := 19) hx hb dX1_peopleKinds_86 (by decide) ?_
          exact ih19 (kd + 1, f2 &&& ((2 ^ kd) ^^^ 4294967295)) _ _ (lv_sub hl [2, 3, 1, 4, 0] rfl) ⟨rfl, by (try dsimp only); omega, by first | omega | exact and_lt _ hf2, by first | exact clr (markQ V k) (by omega) hfb2 (fun hh => absurd (hh (by assumption)) (by assumption)) | exact kep (markQ V k) hfb2 (fun hh => by first | assumption | exact absurd hh (by assumption))⟩ (by (try dsimp only); omega)
theorem wl_X1_mostAlike_1 : Cond.fieldLink RX1 9 "BellForgiven$Guess" "values" "[I" ∈ wsX1_mostAlike := List.mem_of_getElem? (i := 1) rfl
theorem wl_X1_mostAlike_2 : Cond.methodLink RX1 56 Lib.Math.max.name ∈ wsX1_mostAlike := List.mem_of_getElem? (i := 2) rfl
theorem wl_X1_mostAlike_3 : Cond.static Lib.Math.max.name ∈ wsX1_mostAlike := List.mem_of_getElem? (i := 3) rfl
theorem wl_X1_mostAlike_4 : Cond.initialized "java/lang/Math" ∈ wsX1_mostAlike := List.mem_of_getElem? (i := 4) rfl
theorem wl_X1_mostAlike_5 : Cond.code Lib.Math.max.name Lib.Math.max.code 2 (some .int) ∈ wsX1_mostAlike := List.mem_of_getElem? (i := 5) rfl
theorem wl_X1_mostAlike_6 : Cond.static yX11_holds ∈ wsX1_mostAlike := List.mem_of_getElem? (i := 6) rfl
theorem wl_X1_mostAlike_7 : Cond.initialized RX11 ∈ wsX1_mostAlike := List.mem_of_getElem? (i := 7) rfl
theorem hi_X1_mostAlike_X1 : ∀ w ∈ u_ws RX1 TX1 1, w ∈ wsX1_mostAlike := fun w h => (List.mem_cons_of_mem _ (List.mem_append_right _ h))
set_option maxHeartbeats 4000000 in
set_option maxRecDepth 100000 in
theorem c_X1_mostAlike (l : Launch) (Γ : Gam) (n : Nat) (G : Nat → va_E) (gq gv : Nat) (F : Nat → Nat) (hR : G gq = .inr (1, [.ref (ad Γ gv)])) (hC : G gv = na Γ 6 F) (hgq : gq < n) (hgv : gv < n) (hF : ∀ j, F j < 2147483648) (fit : Nat) (hfit : fit < 64)  : Met l yX1_mostAlike wsX1_mostAlike ({ frames := 1, cells := 0, slots := 0, locals := 21 }) (va_Pc [.ref (ad Γ gq), .int (nI fit)] (fun U => hw Γ n G U U.heap)) (vp_Si (fun z => z = nI (most F fit 6))) 0 0 (fun _ => False) := by
  refine Met.ofW (cc := cX1_mostAlike) (maxL := 6) (ret := (some .int)) (by decide) rfl ?_
  intro p e s m args below meth c s₁ B hml hv
  obtain ⟨rfl, hw⟩ := hv
  have hx := B.exec
  have hb := B.bytes
  have hr := B.returns
  have hts := atoms_spec (ws := wsX1_mostAlike) B.pre
  have hown : s.vm.findClass RX1 = some m.cls := findClass_of_methodNamed B.named
  have hlocks := B.notSynchronized
  have hl := lv_entry ([.ref (ad Γ gq), .int (nI fit)]) (n := 6) (Nat.le_of_ble_eq_true rfl)
  rw [lg_entry_eq]
  generalize (lg_sl ([.ref (ad Γ gq), .int (nI fit)]) ++ List.replicate (6 - (lg_sl ([.ref (ad Γ gq), .int (nI fit)])).length) Slot.unset).toArray = ls at hl ⊢
  have hl : lv_has ls 6 [(0, .ref (ad Γ gq)), (1, .int (nI fit))] := hl
  refine lv_iconst (v := nI 0) hx hb dX1_mostAlike_0 (by decide) ?_
  refine lv_istore_n (lv' := [(2, .int (nI 0)), (0, .ref (ad Γ gq)), (1, .int (nI fit))]) hx hb dX1_mostAlike_1 rfl hl (by decide) rfl (fun ls hl => ?_)
  refine lv_iconst (v := nI 0) hx hb dX1_mostAlike_2 (by decide) ?_
  refine lv_istore_n (lv' := [(3, .int (nI 0)), (2, .int (nI 0)), (0, .ref (ad Γ gq)), (1, .int (nI fit))]) hx hb dX1_mostAlike_3 rfl hl (by decide) rfl (fun ls hl => ?_)
  refine nr_lp (σ := Nat × Nat) (pc := 4) (fun x lv => lv = [(0, .ref (ad Γ gq)), (1, .int (nI fit)), (2, .int (nI x.2)), (3, .int (nI x.1))] ∧ (x.1 ≤ 6) ∧ (x.2 = most F fit x.1)) (fun x => 6 - x.1) (0, 0) (lv_sub hl [2, 3, 1, 0] rfl) ⟨rfl, by (try dsimp only); omega, rfl⟩ ?_
  intro x lv ls hl hI ih4
  obtain ⟨kd, t⟩ := x
  obtain ⟨rfl, hkd, ht⟩ := hI
  try dsimp only at hkd ht hl ih4
  have hmo := most_le F fit kd
  refine lv_iload_n hx hb dX1_mostAlike_4 rfl (lv_at hl 3 rfl) ?_
  refine lv_bipush (v := nI 6) hx hb dX1_mostAlike_5 (by decide) ?_
  refine nr_icmp_ge (tgt := 78) hx hb (by omega) (by decide) dX1_mostAlike_7 (by decide) (fun c1 => ?_) (fun c1 => ?_)
  · refine lv_iload_n hx hb dX1_mostAlike_78 rfl (lv_at hl 2 rfl) ?_
    exact nr_retS hx hb hr hlocks (by rw [ht, show kd = 6 by omega]) rfl dX1_mostAlike_79
  · refine lv_iconst (v := nI 0) hx hb dX1_mostAlike_10 (by decide) ?_
    refine lv_istore (lv' := [(4, .int (nI 0)), (0, .ref (ad Γ gq)), (1, .int (nI fit)), (2, .int (nI t)), (3, .int (nI kd))]) hx hb dX1_mostAlike_11 hl (by decide) rfl (fun ls hl => ?_)
    refine lv_iconst (v := nI 0) hx hb dX1_mostAlike_13 (by decide) ?_
    refine lv_istore (lv' := [(5, .int (nI 0)), (4, .int (nI 0)), (0, .ref (ad Γ gq)), (1, .int (nI fit)), (2, .int (nI t)), (3, .int (nI kd))]) hx hb dX1_mostAlike_14 hl (by decide) rfl (fun ls hl => ?_)
    refine nr_lp (σ := Nat × Nat) (pc := 16) (fun x lv => lv = [(0, .ref (ad Γ gq)), (1, .int (nI fit)), (2, .int (nI t)), (3, .int (nI kd)), (4, .int (nI x.2)), (5, .int (nI x.1))] ∧ (x.1 ≤ 6) ∧ (x.2 = alike F fit kd x.1) ∧ (x.2 ≤ x.1)) (fun x => 6 - x.1) (0, 0) (lv_sub hl [2, 3, 4, 5, 1, 0] rfl) ⟨rfl, by (try dsimp only); omega, rfl, by (try dsimp only); omega⟩ ?_
    intro x lv ls hl hI ih16
    obtain ⟨o, al⟩ := x
    obtain ⟨rfl, ho, hal, hal2⟩ := hI
    try dsimp only at ho hal hal2 hl ih16
    refine lv_iload hx hb dX1_mostAlike_16 (lv_at hl 5 rfl) ?_
    refine lv_bipush (v := nI 6) hx hb dX1_mostAlike_18 (by decide) ?_
    refine nr_icmp_ge (tgt := 65) hx hb (by omega) (by decide) dX1_mostAlike_20 (by decide) (fun c2 => ?_) (fun c2 => ?_)
    · refine lv_iload_n hx hb dX1_mostAlike_65 rfl (lv_at hl 2 rfl) ?_
      refine lv_iload hx hb dX1_mostAlike_66 (lv_at hl 4 rfl) ?_
      refine nr_mmax hx hb (hml.trans hl.1.symm) hown (hts _ wl_X1_mostAlike_2) (hts _ wl_X1_mostAlike_3) (hts _ wl_X1_mostAlike_4) (hts _ wl_X1_mostAlike_5) (Nat.le_of_ble_eq_true rfl) (Nat.le_of_ble_eq_true rfl) (Nat.zero_le _) (Nat.zero_le _) (by omega) (by omega) dX1_mostAlike_68 ?_
      refine lv_istore_n (lv' := [(2, .int (nI (max t al))), (0, .ref (ad Γ gq)), (1, .int (nI fit)), (3, .int (nI kd)), (4, .int (nI al)), (5, .int (nI o))]) hx hb dX1_mostAlike_71 rfl hl (by decide) rfl (fun ls hl => ?_)
      refine nr_inc (d := 1) (k := 3) (lv' := [(3, .int (nI (kd + 1))), (2, .int (nI (max t al))), (0, .ref (ad Γ gq)), (1, .int (nI fit)), (4, .int (nI al)), (5, .int (nI o))]) hx hb dX1_mostAlike_72 hl rfl (by decide) (by decide) rfl (fun ls hl => ?_)
      refine lv_goto (tgt := 4) hx hb dX1_mostAlike_75 (by decide) ?_
      exact ih4 (kd + 1, max t al) _ _ (lv_sub hl [2, 3, 1, 0] rfl) ⟨rfl, by (try dsimp only); omega, by rw [ht, hal, show o = 6 by omega]; rfl⟩ (by (try dsimp only); omega)
    · refine lv_iload_n hx hb dX1_mostAlike_23 rfl (lv_at hl 1 rfl) ?_
      refine lv_iload_n hx hb dX1_mostAlike_24 rfl (lv_at hl 3 rfl) ?_
      refine nr_goB (P := bt fit kd) (nr_runN (As := [.int (nI fit), .int (nI kd)]) ⟨hx, hb, hml, hown, hts⟩ hw (c_X11_holds l Γ n G fit kd (by omega) (by omega)) ⟨va_cnB 2 hts gX1_mostAlike_X11_holds_n52 rfl rfl rfl (hw.2.2 _ (List.mem_of_getElem? (i := 7) rfl)) (hts _ wl_X1_mostAlike_7) (by decide +kernel) ⟨Nat.le_of_ble_eq_true rfl, Nat.le_of_ble_eq_true rfl⟩, hts _ wl_X1_mostAlike_6, trivial⟩ rfl hl.1 rfl (Nat.le_of_ble_eq_true rfl) dX1_mostAlike_25 ⟨Nat.zero_le _, Nat.zero_le _⟩) (fun b3 => ?_) (fun b3 => ?_)
      · refine nr_if_eq (tgt := 59) hx hb (by decide) dX1_mostAlike_28 (by decide) (fun c4 => absurd c4 (by decide)) (fun c4 => ?_)
        refine lv_iload_n hx hb dX1_mostAlike_31 rfl (lv_at hl 1 rfl) ?_
        refine lv_iload hx hb dX1_mostAlike_32 (lv_at hl 5 rfl) ?_
        refine nr_goB (P := bt fit o) (nr_runN (As := [.int (nI fit), .int (nI o)]) ⟨hx, hb, hml, hown, hts⟩ hw (c_X11_holds l Γ n G fit o (by omega) (by omega)) ⟨va_cnB 2 hts gX1_mostAlike_X11_holds_n52 rfl rfl rfl (hw.2.2 _ (List.mem_of_getElem? (i := 7) rfl)) (hts _ wl_X1_mostAlike_7) (by decide +kernel) ⟨Nat.le_of_ble_eq_true rfl, Nat.le_of_ble_eq_true rfl⟩, hts _ wl_X1_mostAlike_6, trivial⟩ rfl hl.1 rfl (Nat.le_of_ble_eq_true rfl) dX1_mostAlike_34 ⟨Nat.zero_le _, Nat.zero_le _⟩) (fun b5 => ?_) (fun b5 => ?_)
        · refine nr_if_eq (tgt := 59) hx hb (by decide) dX1_mostAlike_37 (by decide) (fun c6 => absurd c6 (by decide)) (fun c6 => ?_)
          refine lv_aload_n hx hb dX1_mostAlike_40 rfl (lv_at hl 0 rfl) ?_
          refine nr_get (own := RX1) (C := RX1) (T := TX1) (N := 1) (v := .ref (ad Γ gv)) hx hb hts hi_X1_mostAlike_X1 hown hw (by omega) hR rfl 0 (by decide) wl_X1_mostAlike_1 rfl rfl dX1_mostAlike_41 ?_
          refine lv_iload_n hx hb dX1_mostAlike_44 rfl (lv_at hl 3 rfl) ?_
          refine nr_iald (x := (F kd)) hx hb hw (by omega) hC rfl (by omega) (by decide) dX1_mostAlike_45 ?_
          have hL7 := hF (kd)
          refine lv_aload_n hx hb dX1_mostAlike_46 rfl (lv_at hl 0 rfl) ?_
          refine nr_get (own := RX1) (C := RX1) (T := TX1) (N := 1) (v := .ref (ad Γ gv)) hx hb hts hi_X1_mostAlike_X1 hown hw (by omega) hR rfl 0 (by decide) wl_X1_mostAlike_1 rfl rfl dX1_mostAlike_47 ?_
          refine lv_iload hx hb dX1_mostAlike_50 (lv_at hl 5 rfl) ?_
          refine nr_iald (x := (F o)) hx hb hw (by omega) hC rfl (by omega) (by decide) dX1_mostAlike_52 ?_
          have hL8 := hF (o)
          refine nr_icmp_ne (tgt := 59) hx hb (by omega) (by omega) dX1_mostAlike_53 (by decide) (fun c9 => ?_) (fun c9 => ?_)
          · refine nr_inc (d := 1) (k := 5) (lv' := [(5, .int (nI (o + 1))), (0, .ref (ad Γ gq)), (1, .int (nI fit)), (2, .int (nI t)), (3, .int (nI kd)), (4, .int (nI al))]) hx hb dX1_mostAlike_59 hl rfl (by decide) (by decide) rfl (fun ls hl => ?_)
            refine lv_goto (tgt := 16) hx hb dX1_mostAlike_62 (by decide) ?_
            exact ih16 (o + 1, al) _ _ (lv_sub hl [1, 2, 3, 4, 5, 0] rfl) ⟨rfl, by (try dsimp only); omega, by rw [hal]; simp only [alike, cnt]; split <;> omega, by (try dsimp only); omega⟩ (by (try dsimp only); omega)
          · refine nr_inc (d := 1) (k := 4) (lv' := [(4, .int (nI (al + 1))), (0, .ref (ad Γ gq)), (1, .int (nI fit)), (2, .int (nI t)), (3, .int (nI kd)), (5, .int (nI o))]) hx hb dX1_mostAlike_56 hl rfl (by decide) (by decide) rfl (fun ls hl => ?_)
            refine nr_inc (d := 1) (k := 5) (lv' := [(5, .int (nI (o + 1))), (4, .int (nI (al + 1))), (0, .ref (ad Γ gq)), (1, .int (nI fit)), (2, .int (nI t)), (3, .int (nI kd))]) hx hb dX1_mostAlike_59 hl rfl (by decide) (by decide) rfl (fun ls hl => ?_)
            refine lv_goto (tgt := 16) hx hb dX1_mostAlike_62 (by decide) ?_
            exact ih16 (o + 1, al + 1) _ _ (lv_sub hl [2, 3, 4, 5, 1, 0] rfl) ⟨rfl, by (try dsimp only); omega, by rw [hal]; simp only [alike, cnt]; split <;> omega, by (try dsimp only); omega⟩ (by (try dsimp only); omega)
        · refine nr_if_eq (tgt := 59) hx hb (by decide) dX1_mostAlike_37 (by decide) (fun c10 => ?_) (fun c10 => absurd c10 (by decide))
          refine nr_inc (d := 1) (k := 5) (lv' := [(5, .int (nI (o + 1))), (0, .ref (ad Γ gq)), (1, .int (nI fit)), (2, .int (nI t)), (3, .int (nI kd)), (4, .int (nI al))]) hx hb dX1_mostAlike_59 hl rfl (by decide) (by decide) rfl (fun ls hl => ?_)
          refine lv_goto (tgt := 16) hx hb dX1_mostAlike_62 (by decide) ?_
          exact ih16 (o + 1, al) _ _ (lv_sub hl [1, 2, 3, 4, 5, 0] rfl) ⟨rfl, by (try dsimp only); omega, by rw [hal]; simp only [alike, cnt]; split <;> omega, by (try dsimp only); omega⟩ (by (try dsimp only); omega)
      · refine nr_if_eq (tgt := 59) hx hb (by decide) dX1_mostAlike_28 (by decide) (fun c11 => ?_) (fun c11 => absurd c11 (by decide))
        refine nr_inc (d := 1) (k := 5) (lv' := [(5, .int (nI (o + 1))), (0, .ref (ad Γ gq)), (1, .int (nI fit)), (2, .int (nI t)), (3, .int (nI kd)), (4, .int (nI al))]) hx hb dX1_mostAlike_59 hl rfl (by decide) (by decide) rfl (fun ls hl => ?_)
        refine lv_goto (tgt := 16) hx hb dX1_mostAlike_62 (by decide) ?_
        exact ih16 (o + 1, al) _ _ (lv_sub hl [1, 2, 3, 4, 5, 0] rfl) ⟨rfl, by (try dsimp only); omega, by rw [hal]; simp only [alike, cnt]; split <;> omega, by (try dsimp only); omega⟩ (by (try dsimp only); omega)
theorem wl_X0_couldBehind_1 : Cond.fieldLink RX0 35 "BellForgiven$Valley" "wrongs" "I" ∈ wsX0_couldBehind := List.mem_of_getElem? (i := 1) rfl
theorem wl_X0_couldBehind_2 : Cond.static yX11_holds ∈ wsX0_couldBehind := List.mem_of_getElem? (i := 2) rfl
theorem wl_X0_couldBehind_3 : Cond.initialized RX11 ∈ wsX0_couldBehind := List.mem_of_getElem? (i := 3) rfl
theorem hi_X0_couldBehind_X10 : ∀ w ∈ u_ws RX10 TX10 15, w ∈ wsX0_couldBehind := fun w h => (List.mem_cons_of_mem _ (List.mem_append_right _ h))
set_option maxHeartbeats 4000000 in
set_option maxRecDepth 100000 in
theorem c_X0_couldBehind (l : Launch) (Γ : Gam) (n : Nat) (G : Nat → va_E) (b : Nat) (V : Nat → Nat) (hV : isV Γ G b V) (hI : vI V) (hbn : b + 16 ≤ n) (k ws si : Nat) (hk : k < 8) (hws : ws < 256) (hsi : si < 256)  : Met l yX0_couldBehind wsX0_couldBehind ({ frames := 4, cells := 0, slots := 0, locals := 95 }) (va_Pc [.ref (ad Γ (b + 0)), .int (nI k), .int (nI ws), .int (nI si)] (fun U => hw Γ n G U U.heap)) (vp_Si (bp (could V k 0 (soundF V ws si (V 1)) 0))) 0 0 (fun _ => False) := by
  refine Met.ofW (cc := cX0_couldBehind) (maxL := 6) (ret := (some .boolean)) (by decide) rfl ?_
  intro p e s m args below meth c s₁ B hml hv
  obtain ⟨rfl, hw⟩ := hv
  have hx := B.exec
  have hb := B.bytes
  have hr := B.returns
  have hts := atoms_spec (ws := wsX0_couldBehind) B.pre
  have hown : s.vm.findClass RX0 = some m.cls := findClass_of_methodNamed B.named
  have hlocks := B.notSynchronized
  have hl := lv_entry ([.ref (ad Γ (b + 0)), .int (nI k), .int (nI ws), .int (nI si)]) (n := 6) (Nat.le_of_ble_eq_true rfl)
  rw [lg_entry_eq]
  generalize (lg_sl ([.ref (ad Γ (b + 0)), .int (nI k), .int (nI ws), .int (nI si)]) ++ List.replicate (6 - (lg_sl ([.ref (ad Γ (b + 0)), .int (nI k), .int (nI ws), .int (nI si)])).length) Slot.unset).toArray = ls at hl ⊢
  have hl : lv_has ls 6 [(0, .ref (ad Γ (b + 0))), (1, .int (nI k)), (2, .int (nI ws)), (3, .int (nI si))] := hl
  have hB := hI.1
  have hB0 := hI.2.1
  have hB1 := hI.2.2.1
  have hB20 := hI.2.2.2.2.2.2.2.2.2
  have hBz2 := hI.2.2.2.1
  have hBz3 := hI.2.2.2.2.1
  have hBz4 := hI.2.2.2.2.2.1
  have hBz5 := hI.2.2.2.2.2.2.1
  have hBd := hB 21
  have hsl := soundF_lt V ws si
  refine lv_iconst (v := nI 0) hx hb dX0_couldBehind_0 (by decide) ?_
  refine lv_istore (lv' := [(4, .int (nI 0)), (0, .ref (ad Γ (b + 0))), (1, .int (nI k)), (2, .int (nI ws)), (3, .int (nI si))]) hx hb dX0_couldBehind_1 hl (by decide) rfl (fun ls hl => ?_)
  refine lv_iconst (v := nI 0) hx hb dX0_couldBehind_3 (by decide) ?_
  refine lv_istore (lv' := [(5, .int (nI 0)), (4, .int (nI 0)), (0, .ref (ad Γ (b + 0))), (1, .int (nI k)), (2, .int (nI ws)), (3, .int (nI si))]) hx hb dX0_couldBehind_4 hl (by decide) rfl (fun ls hl => ?_)
  refine nr_lp (σ := Nat × Nat) (pc := 6) (fun x lv => lv = [(0, .ref (ad Γ (b + 0))), (1, .int (nI k)), (2, .int (nI ws)), (3, .int (nI si)), (4, .int (nI x.2)), (5, .int (nI x.1))] ∧ (x.1 ≤ V 1) ∧ (x.2 = soundF V ws si x.1)) (fun x => V 1 - x.1) (0, 0) (lv_sub hl [2, 3, 4, 5, 1, 0] rfl) ⟨rfl, by (try dsimp only); omega, rfl⟩ ?_
  intro x lv ls hl hI ih6
  obtain ⟨w, t⟩ := x
  obtain ⟨rfl, hw1, ht⟩ := hI
  try dsimp only at hw1 ht hl ih6
  have hsl1 := hsl w (by omega)
  refine lv_iload hx hb dX0_couldBehind_6 (lv_at hl 5 rfl) ?_
  refine lv_aload_n hx hb dX0_couldBehind_8 rfl (lv_at hl 0 rfl) ?_
  refine nr_get (own := RX0) (C := RX10) (T := TX10) (N := 15) (v := .int (nI (V 1))) hx hb hts hi_X0_couldBehind_X10 hown hw (by omega) (isV_0 hV) rfl 3 (by decide) wl_X0_couldBehind_1 rfl rfl dX0_couldBehind_9 ?_
  refine nr_icmp_ge (tgt := 61) hx hb (by omega) (by omega) dX0_couldBehind_12 (by decide) (fun c1 => ?_) (fun c1 => ?_)
  · have ht5 : t = soundF V ws si (V 1) := by rw [ht, show w = V 1 by omega]
    refine lv_aload_n hx hb dX0_couldBehind_61 rfl (lv_at hl 0 rfl) ?_
    refine lv_iload_n hx hb dX0_couldBehind_62 rfl (lv_at hl 1 rfl) ?_
    refine lv_iconst (v := nI 0) hx hb dX0_couldBehind_63 (by decide) ?_
    refine lv_iload hx hb dX0_couldBehind_64 (lv_at hl 4 rfl) ?_
    refine lv_iconst (v := nI 0) hx hb dX0_couldBehind_66 (by decide) ?_
    refine nr_goB (P := could V k 0 t 0) (nr_runV (As := [.int (nI k), .int (nI 0), .int (nI t), .int (nI 0)]) (C := RX10) (T := TX10) (N := 15) ⟨hx, hb, hml, hown, hts⟩ hw (by omega) (isV_0 hV) rfl (c_X10_could l Γ n G b V hV hI hbn k 0 t 0 (by omega) (by omega) (by omega) (by omega)) (cwV 4 hts gX0_couldBehind_X10_could rfl rfl rfl (by decide +kernel) ⟨Nat.le_of_ble_eq_true rfl, Nat.le_of_ble_eq_true rfl⟩) rfl hl.1 rfl (Nat.le_of_ble_eq_true rfl) dX0_couldBehind_67 ⟨Nat.zero_le _, Nat.zero_le _⟩) (fun b2 => ?_) (fun b2 => ?_)
    · exact nr_retB hx hb hr hlocks (Or.inl ⟨by rw [← ht5]; assumption, rfl⟩) rfl dX0_couldBehind_70
    · exact nr_retB hx hb hr hlocks (Or.inr ⟨by rw [← ht5]; assumption, rfl⟩) rfl dX0_couldBehind_70
  · refine lv_iload_n hx hb dX0_couldBehind_15 rfl (lv_at hl 2 rfl) ?_
    refine lv_iload hx hb dX0_couldBehind_16 (lv_at hl 5 rfl) ?_
    refine nr_goB (P := bt ws w) (nr_runN (As := [.int (nI ws), .int (nI w)]) ⟨hx, hb, hml, hown, hts⟩ hw (c_X11_holds l Γ n G ws w (by omega) (by omega)) ⟨va_cnB 2 hts gX0_couldBehind_X11_holds_n41 rfl rfl rfl (hw.2.2 _ (List.mem_of_getElem? (i := 6) rfl)) (hts _ wl_X0_couldBehind_3) (by decide +kernel) ⟨Nat.le_of_ble_eq_true rfl, Nat.le_of_ble_eq_true rfl⟩, hts _ wl_X0_couldBehind_2, trivial⟩ rfl hl.1 rfl (Nat.le_of_ble_eq_true rfl) dX0_couldBehind_18 ⟨Nat.zero_le _, Nat.zero_le _⟩) (fun b3 => ?_) (fun b3 => ?_)
    · refine nr_if_eq (tgt := 55) hx hb (by decide) dX0_couldBehind_21 (by decide) (fun c4 => absurd c4 (by decide)) (fun c4 => ?_)
      refine lv_iload_n hx hb dX0_couldBehind_24 rfl (lv_at hl 3 rfl) ?_
      refine lv_iload hx hb dX0_couldBehind_25 (lv_at hl 5 rfl) ?_
      refine nr_goB (P := bt si w) (nr_runN (As := [.int (nI si), .int (nI w)]) ⟨hx, hb, hml, hown, hts⟩ hw (c_X11_holds l Γ n G si w (by omega) (by omega)) ⟨va_cnB 2 hts gX0_couldBehind_X11_holds_n41 rfl rfl rfl (hw.2.2 _ (List.mem_of_getElem? (i := 6) rfl)) (hts _ wl_X0_couldBehind_3) (by decide +kernel) ⟨Nat.le_of_ble_eq_true rfl, Nat.le_of_ble_eq_true rfl⟩, hts _ wl_X0_couldBehind_2, trivial⟩ rfl hl.1 rfl (Nat.le_of_ble_eq_true rfl) dX0_couldBehind_27 ⟨Nat.zero_le _, Nat.zero_le _⟩) (fun b5 => ?_) (fun b5 => ?_)
      · refine nr_if_ne (tgt := 55) hx hb (by decide) dX0_couldBehind_30 (by decide) (fun c6 => ?_) (fun c6 => absurd c6 (by decide))
        refine nr_inc (d := 1) (k := 5) (lv' := [(5, .int (nI (w + 1))), (0, .ref (ad Γ (b + 0))), (1, .int (nI k)), (2, .int (nI ws)), (3, .int (nI si)), (4, .int (nI t))]) hx hb dX0_couldBehind_55 hl rfl (by decide) (by decide) rfl (fun ls hl => ?_)
        refine lv_goto (tgt := 6) hx hb dX0_couldBehind_58 (by decide) ?_
        exact ih6 (w + 1, t) _ _ (lv_sub hl [1, 2, 3, 4, 5, 0] rfl) ⟨rfl, by (try dsimp only); omega, by rw [ht] at *; simp only [soundF]; first | rw [if_pos ⟨⟨by assumption, by assumption⟩, by assumption⟩] | (rw [if_neg]; intro hh; first | exact hh.1.2 (by assumption) | exact absurd hh.2 (by assumption) | exact absurd hh.1.1 (by assumption))⟩ (by (try dsimp only); omega)
      · refine nr_if_ne (tgt := 55) hx hb (by decide) dX0_couldBehind_30 (by decide) (fun c7 => absurd c7 (by decide)) (fun c7 => ?_)
        refine lv_aload_n hx hb dX0_couldBehind_33 rfl (lv_at hl 0 rfl) ?_
        refine lv_iload hx hb dX0_couldBehind_34 (lv_at hl 5 rfl) ?_
        refine lv_iconst (v := nI 0) hx hb dX0_couldBehind_36 (by decide) ?_
        refine lv_iload hx hb dX0_couldBehind_37 (lv_at hl 4 rfl) ?_
        refine lv_iconst (v := nI 0) hx hb dX0_couldBehind_39 (by decide) ?_
        refine nr_goB (P := could V w 0 t 0) (nr_runV (As := [.int (nI w), .int (nI 0), .int (nI t), .int (nI 0)]) (C := RX10) (T := TX10) (N := 15) ⟨hx, hb, hml, hown, hts⟩ hw (by omega) (isV_0 hV) rfl (c_X10_could l Γ n G b V hV hI hbn w 0 t 0 (by omega) (by omega) (by omega) (by omega)) (cwV 4 hts gX0_couldBehind_X10_could rfl rfl rfl (by decide +kernel) ⟨Nat.le_of_ble_eq_true rfl, Nat.le_of_ble_eq_true rfl⟩) rfl hl.1 rfl (Nat.le_of_ble_eq_true rfl) dX0_couldBehind_40 ⟨Nat.zero_le _, Nat.zero_le _⟩) (fun b8 => ?_) (fun b8 => ?_)
        · refine nr_if_eq (tgt := 55) hx hb (by decide) dX0_couldBehind_43 (by decide) (fun c9 => absurd c9 (by decide)) (fun c9 => ?_)
          refine lv_iload hx hb dX0_couldBehind_46 (lv_at hl 4 rfl) ?_
          refine lv_iconst (v := nI 1) hx hb dX0_couldBehind_48 (by decide) ?_
          refine lv_iload hx hb dX0_couldBehind_49 (lv_at hl 5 rfl) ?_
          refine nr_ishl1 hx hb (by omega) dX0_couldBehind_51 ?_
          refine nr_ior hx hb dX0_couldBehind_52 ?_
          refine lv_istore (lv' := [(4, .int (nI (t ||| (2 ^ w)))), (0, .ref (ad Γ (b + 0))), (1, .int (nI k)), (2, .int (nI ws)), (3, .int (nI si)), (5, .int (nI w))]) hx hb dX0_couldBehind_53 hl (by decide) rfl (fun ls hl => ?_)
          refine nr_inc (d := 1) (k := 5) (lv' := [(5, .int (nI (w + 1))), (4, .int (nI (t ||| (2 ^ w)))), (0, .ref (ad Γ (b + 0))), (1, .int (nI k)), (2, .int (nI ws)), (3, .int (nI si))]) hx hb dX0_couldBehind_55 hl rfl (by decide) (by decide) rfl (fun ls hl => ?_)
          refine lv_goto (tgt := 6) hx hb dX0_couldBehind_58 (by decide) ?_
          exact ih6 (w + 1, t ||| (2 ^ w)) _ _ (lv_sub hl [2, 3, 4, 5, 1, 0] rfl) ⟨rfl, by (try dsimp only); omega, by rw [ht] at *; simp only [soundF]; first | rw [if_pos ⟨⟨by assumption, by assumption⟩, by assumption⟩] | (rw [if_neg]; intro hh; first | exact hh.1.2 (by assumption) | exact absurd hh.2 (by assumption) | exact absurd hh.1.1 (by assumption))⟩ (by (try dsimp only); omega)
        · refine nr_if_eq (tgt := 55) hx hb (by decide) dX0_couldBehind_43 (by decide) (fun c10 => ?_) (fun c10 => absurd c10 (by decide))
          refine nr_inc (d := 1) (k := 5) (lv' := [(5, .int (nI (w + 1))), (0, .ref (ad Γ (b + 0))), (1, .int (nI k)), (2, .int (nI ws)), (3, .int (nI si)), (4, .int (nI t))]) hx hb dX0_couldBehind_55 hl rfl (by decide) (by decide) rfl (fun ls hl => ?_)
          refine lv_goto (tgt := 6) hx hb dX0_couldBehind_58 (by decide) ?_
          exact ih6 (w + 1, t) _ _ (lv_sub hl [1, 2, 3, 4, 5, 0] rfl) ⟨rfl, by (try dsimp only); omega, by rw [ht] at *; simp only [soundF]; first | rw [if_pos ⟨⟨by assumption, by assumption⟩, by assumption⟩] | (rw [if_neg]; intro hh; first | exact hh.1.2 (by assumption) | exact absurd hh.2 (by assumption) | exact absurd hh.1.1 (by assumption))⟩ (by (try dsimp only); omega)
    · refine nr_if_eq (tgt := 55) hx hb (by decide) dX0_couldBehind_21 (by decide) (fun c11 => ?_) (fun c11 => absurd c11 (by decide))
      refine nr_inc (d := 1) (k := 5) (lv' := [(5, .int (nI (w + 1))), (0, .ref (ad Γ (b + 0))), (1, .int (nI k)), (2, .int (nI ws)), (3, .int (nI si)), (4, .int (nI t))]) hx hb dX0_couldBehind_55 hl rfl (by decide) (by decide) rfl (fun ls hl => ?_)
      refine lv_goto (tgt := 6) hx hb dX0_couldBehind_58 (by decide) ?_
      exact ih6 (w + 1, t) _ _ (lv_sub hl [1, 2, 3, 4, 5, 0] rfl) ⟨rfl, by (try dsimp only); omega, by rw [ht] at *; simp only [soundF]; first | rw [if_pos ⟨⟨by assumption, by assumption⟩, by assumption⟩] | (rw [if_neg]; intro hh; first | exact hh.1.2 (by assumption) | exact absurd hh.2 (by assumption) | exact absurd hh.1.1 (by assumption))⟩ (by (try dsimp only); omega)
theorem wl_X0_ways_1 : Cond.static yX11_holds ∈ wsX0_ways := List.mem_of_getElem? (i := 1) rfl
theorem wl_X0_ways_2 : Cond.initialized RX11 ∈ wsX0_ways := List.mem_of_getElem? (i := 2) rfl
set_option maxHeartbeats 4000000 in
set_option maxRecDepth 100000 in
theorem c_X0_ways (l : Launch) (Γ : Gam) (n : Nat) (G : Nat → va_E) (ws si cc0 : Nat) (hws : ws < 256) (hsi : si < 256) (hc : cc0 ≤ 10)  : Met l yX0_ways wsX0_ways ({ frames := 1, cells := 0, slots := 0, locals := 21 }) (va_Pc [.int (nI ws), .int (nI si), .int (nI cc0)] (fun U => hw Γ n G U U.heap)) (vp_Sl (fun z => z = lN (waysF ws si cc0 8))) 0 0 (fun _ => False) := by
  refine Met.ofW (cc := cX0_ways) (maxL := 6) (ret := (some .long)) (by decide) rfl ?_
  intro p e s m args below meth c s₁ B hml hv
  obtain ⟨rfl, hw⟩ := hv
  have hx := B.exec
  have hb := B.bytes
  have hr := B.returns
  have hts := atoms_spec (ws := wsX0_ways) B.pre
  have hown : s.vm.findClass RX0 = some m.cls := findClass_of_methodNamed B.named
  have hlocks := B.notSynchronized
  have hl := lv_entry ([.int (nI ws), .int (nI si), .int (nI cc0)]) (n := 6) (Nat.le_of_ble_eq_true rfl)
  rw [lg_entry_eq]
  generalize (lg_sl ([.int (nI ws), .int (nI si), .int (nI cc0)]) ++ List.replicate (6 - (lg_sl ([.int (nI ws), .int (nI si), .int (nI cc0)])).length) Slot.unset).toArray = ls at hl ⊢
  have hl : lv_has ls 6 [(0, .int (nI ws)), (1, .int (nI si)), (2, .int (nI cc0))] := hl
  refine lv_lconst (v := lN 1) hx hb dX0_ways_0 rfl ?_
  refine lv_lstore_n (lv' := [(3, .long (lN 1)), (0, .int (nI ws)), (1, .int (nI si)), (2, .int (nI cc0))]) hx hb dX0_ways_1 rfl hl (by decide) rfl (fun ls hl => ?_)
  refine lv_iconst (v := nI 0) hx hb dX0_ways_2 (by decide) ?_
  refine lv_istore (lv' := [(5, .int (nI 0)), (3, .long (lN 1)), (0, .int (nI ws)), (1, .int (nI si)), (2, .int (nI cc0))]) hx hb dX0_ways_3 hl (by decide) rfl (fun ls hl => ?_)
  refine nr_lp (σ := Nat × Nat) (pc := 5) (fun x lv => lv = [(0, .int (nI ws)), (1, .int (nI si)), (2, .int (nI cc0)), (3, .long (lN x.2)), (5, .int (nI x.1))] ∧ (x.1 ≤ 8) ∧ (x.2 = waysF ws si cc0 x.1)) (fun x => 8 - x.1) (0, 1) (lv_sub hl [2, 3, 4, 1, 0] rfl) ⟨rfl, by (try dsimp only); omega, rfl⟩ ?_
  intro x lv ls hl hI ih5
  obtain ⟨w, t⟩ := x
  obtain ⟨rfl, hw1, ht⟩ := hI
  try dsimp only at hw1 ht hl ih5
  refine lv_iload hx hb dX0_ways_5 (lv_at hl 4 rfl) ?_
  refine lv_bipush (v := nI 8) hx hb dX0_ways_7 (by decide) ?_
  refine nr_icmp_ge (tgt := 49) hx hb (by omega) (by decide) dX0_ways_9 (by decide) (fun c1 => ?_) (fun c1 => ?_)
  · refine lv_lload_n hx hb dX0_ways_49 rfl (lv_at hl 3 rfl) ?_
    exact nr_retL hx hb hr hlocks (by rw [ht, show w = 8 by omega]) rfl dX0_ways_50
  · refine lv_iload_n hx hb dX0_ways_12 rfl (lv_at hl 0 rfl) ?_
    refine lv_iload hx hb dX0_ways_13 (lv_at hl 4 rfl) ?_
    refine nr_goB (P := bt ws w) (nr_runN (As := [.int (nI ws), .int (nI w)]) ⟨hx, hb, hml, hown, hts⟩ hw (c_X11_holds l Γ n G ws w (by omega) (by omega)) ⟨va_cnB 2 hts gX0_ways_X11_holds_n41 rfl rfl rfl (hw.2.2 _ (List.mem_of_getElem? (i := 6) rfl)) (hts _ wl_X0_ways_2) (by decide +kernel) ⟨Nat.le_of_ble_eq_true rfl, Nat.le_of_ble_eq_true rfl⟩, hts _ wl_X0_ways_1, trivial⟩ rfl hl.1 rfl (Nat.le_of_ble_eq_true rfl) dX0_ways_15 ⟨Nat.zero_le _, Nat.zero_le _⟩) (fun b2 => ?_) (fun b2 => ?_)
    · refine nr_if_eq (tgt := 43) hx hb (by decide) dX0_ways_18 (by decide) (fun c3 => absurd c3 (by decide)) (fun c3 => ?_)
      refine lv_lload_n hx hb dX0_ways_21 rfl (lv_at hl 3 rfl) ?_
      refine lv_iload_n hx hb dX0_ways_22 rfl (lv_at hl 1 rfl) ?_
      refine lv_iload hx hb dX0_ways_23 (lv_at hl 4 rfl) ?_
      refine nr_goB (P := bt si w) (nr_runN (As := [.int (nI si), .int (nI w)]) ⟨hx, hb, hml, hown, hts⟩ hw (c_X11_holds l Γ n G si w (by omega) (by omega)) ⟨va_cnB 2 hts gX0_ways_X11_holds_n41 rfl rfl rfl (hw.2.2 _ (List.mem_of_getElem? (i := 6) rfl)) (hts _ wl_X0_ways_2) (by decide +kernel) ⟨Nat.le_of_ble_eq_true rfl, Nat.le_of_ble_eq_true rfl⟩, hts _ wl_X0_ways_1, trivial⟩ rfl hl.1 rfl (Nat.le_of_ble_eq_true rfl) dX0_ways_25 ⟨Nat.zero_le _, Nat.zero_le _⟩) (fun b4 => ?_) (fun b4 => ?_)
      · refine nr_if_eq (tgt := 36) hx hb (by decide) dX0_ways_28 (by decide) (fun c5 => absurd c5 (by decide)) (fun c5 => ?_)
        refine lv_iload_n hx hb dX0_ways_31 rfl (lv_at hl 2 rfl) ?_
        refine lv_i2l (v := lN cc0) hx hb dX0_ways_32 (nI_l (by omega)) ?_
        refine lv_goto (tgt := 41) hx hb dX0_ways_33 (by decide) ?_
        refine nr_lmul hx hb dX0_ways_41 ?_
        refine lv_lstore_n (lv' := [(3, .long (lN (t * cc0))), (0, .int (nI ws)), (1, .int (nI si)), (2, .int (nI cc0)), (5, .int (nI w))]) hx hb dX0_ways_42 rfl hl (by decide) rfl (fun ls hl => ?_)
        refine nr_inc (d := 1) (k := 4) (lv' := [(5, .int (nI (w + 1))), (3, .long (lN (t * cc0))), (0, .int (nI ws)), (1, .int (nI si)), (2, .int (nI cc0))]) hx hb dX0_ways_43 hl rfl (by decide) (by decide) rfl (fun ls hl => ?_)
        refine lv_goto (tgt := 5) hx hb dX0_ways_46 (by decide) ?_
        exact ih5 (w + 1, t * cc0) _ _ (lv_sub hl [2, 3, 4, 1, 0] rfl) ⟨rfl, by (try dsimp only); omega, by rw [ht]; simp only [waysF]; first | rw [if_pos (by assumption), if_pos (by assumption)] | rw [if_pos (by assumption), if_neg (by assumption)] | rw [if_neg (by assumption)]⟩ (by (try dsimp only); omega)
      · refine nr_if_eq (tgt := 36) hx hb (by decide) dX0_ways_28 (by decide) (fun c6 => ?_) (fun c6 => absurd c6 (by decide))
        refine lv_bipush (v := nI 10) hx hb dX0_ways_36 (by decide) ?_
        refine lv_iload_n hx hb dX0_ways_38 rfl (lv_at hl 2 rfl) ?_
        refine nr_isub hx hb (by omega) dX0_ways_39 ?_
        refine lv_i2l (v := lN (10 - cc0)) hx hb dX0_ways_40 (nI_l (by omega)) ?_
        refine nr_lmul hx hb dX0_ways_41 ?_
        refine lv_lstore_n (lv' := [(3, .long (lN (t * (10 - cc0)))), (0, .int (nI ws)), (1, .int (nI si)), (2, .int (nI cc0)), (5, .int (nI w))]) hx hb dX0_ways_42 rfl hl (by decide) rfl (fun ls hl => ?_)
        refine nr_inc (d := 1) (k := 4) (lv' := [(5, .int (nI (w + 1))), (3, .long (lN (t * (10 - cc0)))), (0, .int (nI ws)), (1, .int (nI si)), (2, .int (nI cc0))]) hx hb dX0_ways_43 hl rfl (by decide) (by decide) rfl (fun ls hl => ?_)
        refine lv_goto (tgt := 5) hx hb dX0_ways_46 (by decide) ?_
        exact ih5 (w + 1, t * (10 - cc0)) _ _ (lv_sub hl [2, 3, 4, 1, 0] rfl) ⟨rfl, by (try dsimp only); omega, by rw [ht]; simp only [waysF]; first | rw [if_pos (by assumption), if_pos (by assumption)] | rw [if_pos (by assumption), if_neg (by assumption)] | rw [if_neg (by assumption)]⟩ (by (try dsimp only); omega)
    · refine nr_if_eq (tgt := 43) hx hb (by decide) dX0_ways_18 (by decide) (fun c7 => ?_) (fun c7 => absurd c7 (by decide))
      refine nr_inc (d := 1) (k := 4) (lv' := [(5, .int (nI (w + 1))), (0, .int (nI ws)), (1, .int (nI si)), (2, .int (nI cc0)), (3, .long (lN t))]) hx hb dX0_ways_43 hl rfl (by decide) (by decide) rfl (fun ls hl => ?_)
      refine lv_goto (tgt := 5) hx hb dX0_ways_46 (by decide) ?_
      exact ih5 (w + 1, t) _ _ (lv_sub hl [1, 2, 3, 4, 0] rfl) ⟨rfl, by (try dsimp only); omega, by rw [ht]; simp only [waysF]; first | rw [if_pos (by assumption), if_pos (by assumption)] | rw [if_pos (by assumption), if_neg (by assumption)] | rw [if_neg (by assumption)]⟩ (by (try dsimp only); omega)
theorem wl_X6_fewestFrom_1 : Cond.fieldLink RX6 33 "BellForgiven$Valley" "wrongs" "I" ∈ wsX6_fewestFrom := List.mem_of_getElem? (i := 1) rfl
theorem wl_X6_fewestFrom_2 : Cond.fieldLink RX6 9 "BellForgiven$Row" "left" "[I" ∈ wsX6_fewestFrom := List.mem_of_getElem? (i := 2) rfl
theorem wl_X6_fewestFrom_3 : Cond.methodLink RX6 40 Lib.Math.min.name ∈ wsX6_fewestFrom := List.mem_of_getElem? (i := 3) rfl
theorem wl_X6_fewestFrom_4 : Cond.static Lib.Math.min.name ∈ wsX6_fewestFrom := List.mem_of_getElem? (i := 4) rfl
theorem wl_X6_fewestFrom_5 : Cond.initialized "java/lang/Math" ∈ wsX6_fewestFrom := List.mem_of_getElem? (i := 5) rfl
theorem wl_X6_fewestFrom_6 : Cond.code Lib.Math.min.name Lib.Math.min.code 2 (some .int) ∈ wsX6_fewestFrom := List.mem_of_getElem? (i := 6) rfl
theorem hi_X6_fewestFrom_X10 : ∀ w ∈ u_ws RX10 TX10 15, w ∈ wsX6_fewestFrom := fun w h => (List.mem_cons_of_mem _ (List.mem_append_left _ (List.mem_append_right _ h)))
theorem hi_X6_fewestFrom_X6 : ∀ w ∈ u_ws RX6 TX6 1, w ∈ wsX6_fewestFrom := fun w h => (List.mem_cons_of_mem _ (List.mem_append_right _ h))
set_option maxHeartbeats 4000000 in
set_option maxRecDepth 100000 in
theorem c_X6_fewestFrom (l : Launch) (Γ : Gam) (n : Nat) (G : Nat → va_E) (rq rl : Nat) (Lf : Nat → Nat) (hR : G rq = .inr (4, [.ref (ad Γ rl)])) (hC : G rl = na Γ 256 Lf) (hrq : rq < n) (hrl : rl < n) (hL : ∀ j, Lf j ≤ 100) (b : Nat) (V : Nat → Nat) (hV : isV Γ G b V) (hI : vI V) (hbn : b + 16 ≤ n) (gone : Nat) (hg : gone < 256)  : Met l yX6_fewestFrom wsX6_fewestFrom ({ frames := 4, cells := 0, slots := 0, locals := 95 }) (va_Pc [.ref (ad Γ rq), .ref (ad Γ (b + 0)), .int (nI gone)] (fun U => hw Γ n G U U.heap)) (vp_Si (fun z => z = nI (fewF V Lf gone (V 1)))) 0 0 (fun _ => False) := by
  refine Met.ofW (cc := cX6_fewestFrom) (maxL := 5) (ret := (some .int)) (by decide) rfl ?_
  intro p e s m args below meth c s₁ B hml hv
  obtain ⟨rfl, hw⟩ := hv
  have hx := B.exec
  have hb := B.bytes
  have hr := B.returns
  have hts := atoms_spec (ws := wsX6_fewestFrom) B.pre
  have hown : s.vm.findClass RX6 = some m.cls := findClass_of_methodNamed B.named
  have hlocks := B.notSynchronized
  have hl := lv_entry ([.ref (ad Γ rq), .ref (ad Γ (b + 0)), .int (nI gone)]) (n := 5) (Nat.le_of_ble_eq_true rfl)
  rw [lg_entry_eq]
  generalize (lg_sl ([.ref (ad Γ rq), .ref (ad Γ (b + 0)), .int (nI gone)]) ++ List.replicate (5 - (lg_sl ([.ref (ad Γ rq), .ref (ad Γ (b + 0)), .int (nI gone)])).length) Slot.unset).toArray = ls at hl ⊢
  have hl : lv_has ls 5 [(0, .ref (ad Γ rq)), (1, .ref (ad Γ (b + 0))), (2, .int (nI gone))] := hl
  have hB := hI.1
  have hB0 := hI.2.1
  have hB1 := hI.2.2.1
  have hB20 := hI.2.2.2.2.2.2.2.2.2
  have hBz2 := hI.2.2.2.1
  have hBz3 := hI.2.2.2.2.1
  have hBz4 := hI.2.2.2.2.2.1
  have hBz5 := hI.2.2.2.2.2.2.1
  have hBd := hB 21
  refine lv_bipush (v := nI 100) hx hb dX6_fewestFrom_0 (by decide) ?_
  refine lv_istore_n (lv' := [(3, .int (nI 100)), (0, .ref (ad Γ rq)), (1, .ref (ad Γ (b + 0))), (2, .int (nI gone))]) hx hb dX6_fewestFrom_2 rfl hl (by decide) rfl (fun ls hl => ?_)
  refine lv_iconst (v := nI 0) hx hb dX6_fewestFrom_3 (by decide) ?_
  refine lv_istore (lv' := [(4, .int (nI 0)), (3, .int (nI 100)), (0, .ref (ad Γ rq)), (1, .ref (ad Γ (b + 0))), (2, .int (nI gone))]) hx hb dX6_fewestFrom_4 hl (by decide) rfl (fun ls hl => ?_)
  refine nr_lp (σ := Nat × Nat) (pc := 6) (fun x lv => lv = [(0, .ref (ad Γ rq)), (1, .ref (ad Γ (b + 0))), (2, .int (nI gone)), (3, .int (nI x.2)), (4, .int (nI x.1))] ∧ (x.1 ≤ V 1) ∧ (x.2 = fewF V Lf gone x.1)) (fun x => V 1 - x.1) (0, 100) (lv_sub hl [2, 3, 4, 1, 0] rfl) ⟨rfl, by (try dsimp only); omega, rfl⟩ ?_
  intro x lv ls hl hI ih6
  obtain ⟨w, t⟩ := x
  obtain ⟨rfl, hw1, ht⟩ := hI
  try dsimp only at hw1 ht hl ih6
  have hfl := fewF_le V Lf gone w
  refine lv_iload hx hb dX6_fewestFrom_6 (lv_at hl 4 rfl) ?_
  refine lv_aload_n hx hb dX6_fewestFrom_8 rfl (lv_at hl 1 rfl) ?_
  refine nr_get (own := RX6) (C := RX10) (T := TX10) (N := 15) (v := .int (nI (V 1))) hx hb hts hi_X6_fewestFrom_X10 hown hw (by omega) (isV_0 hV) rfl 3 (by decide) wl_X6_fewestFrom_1 rfl rfl dX6_fewestFrom_9 ?_
  refine nr_icmp_ge (tgt := 51) hx hb (by omega) (by omega) dX6_fewestFrom_12 (by decide) (fun c1 => ?_) (fun c1 => ?_)
  · refine lv_iload_n hx hb dX6_fewestFrom_51 rfl (lv_at hl 3 rfl) ?_
    exact nr_retS hx hb hr hlocks (by rw [ht, show w = V 1 by omega]) rfl dX6_fewestFrom_52
  · refine lv_aload_n hx hb dX6_fewestFrom_15 rfl (lv_at hl 1 rfl) ?_
    refine lv_iload hx hb dX6_fewestFrom_16 (lv_at hl 4 rfl) ?_
    refine lv_iload_n hx hb dX6_fewestFrom_18 rfl (lv_at hl 2 rfl) ?_
    refine lv_iload_n hx hb dX6_fewestFrom_19 rfl (lv_at hl 2 rfl) ?_
    refine lv_iconst (v := nI 0) hx hb dX6_fewestFrom_20 (by decide) ?_
    refine nr_goB (P := could V w gone gone 0) (nr_runV (As := [.int (nI w), .int (nI gone), .int (nI gone), .int (nI 0)]) (C := RX10) (T := TX10) (N := 15) ⟨hx, hb, hml, hown, hts⟩ hw (by omega) (isV_0 hV) rfl (c_X10_could l Γ n G b V hV hI hbn w gone gone 0 (by omega) (by omega) (by omega) (by omega)) (cwV 4 hts gX6_fewestFrom_X10_could rfl rfl rfl (by decide +kernel) ⟨Nat.le_of_ble_eq_true rfl, Nat.le_of_ble_eq_true rfl⟩) rfl hl.1 rfl (Nat.le_of_ble_eq_true rfl) dX6_fewestFrom_21 ⟨Nat.zero_le _, Nat.zero_le _⟩) (fun b2 => ?_) (fun b2 => ?_)
    · refine nr_if_eq (tgt := 45) hx hb (by decide) dX6_fewestFrom_24 (by decide) (fun c3 => absurd c3 (by decide)) (fun c3 => ?_)
      refine lv_iload_n hx hb dX6_fewestFrom_27 rfl (lv_at hl 3 rfl) ?_
      refine lv_iconst (v := nI 1) hx hb dX6_fewestFrom_28 (by decide) ?_
      refine lv_aload_n hx hb dX6_fewestFrom_29 rfl (lv_at hl 0 rfl) ?_
      refine nr_get (own := RX6) (C := RX6) (T := TX6) (N := 1) (v := .ref (ad Γ rl)) hx hb hts hi_X6_fewestFrom_X6 hown hw (by omega) hR rfl 0 (by decide) wl_X6_fewestFrom_2 rfl rfl dX6_fewestFrom_30 ?_
      refine lv_iload_n hx hb dX6_fewestFrom_33 rfl (lv_at hl 2 rfl) ?_
      refine lv_iconst (v := nI 1) hx hb dX6_fewestFrom_34 (by decide) ?_
      refine lv_iload hx hb dX6_fewestFrom_35 (lv_at hl 4 rfl) ?_
      refine nr_ishl1 hx hb (by omega) dX6_fewestFrom_37 ?_
      refine nr_ior hx hb dX6_fewestFrom_38 ?_
      refine nr_iald (x := (Lf (gone ||| (2 ^ w)))) hx hb hw (by omega) hC rfl (or_lt256 hg (by omega)) (by decide) dX6_fewestFrom_39 ?_
      have hL4 := hL (gone ||| (2 ^ w))
      refine nr_iadd hx hb dX6_fewestFrom_40 ?_
      refine nr_mmin hx hb (hml.trans hl.1.symm) hown (hts _ wl_X6_fewestFrom_3) (hts _ wl_X6_fewestFrom_4) (hts _ wl_X6_fewestFrom_5) (hts _ wl_X6_fewestFrom_6) (Nat.le_of_ble_eq_true rfl) (Nat.le_of_ble_eq_true rfl) (Nat.zero_le _) (Nat.zero_le _) (by omega) (by omega) dX6_fewestFrom_41 ?_
      refine lv_istore_n (lv' := [(3, .int (nI (min t (1 + (Lf (gone ||| (2 ^ w))))))), (0, .ref (ad Γ rq)), (1, .ref (ad Γ (b + 0))), (2, .int (nI gone)), (4, .int (nI w))]) hx hb dX6_fewestFrom_44 rfl hl (by decide) rfl (fun ls hl => ?_)
      refine nr_inc (d := 1) (k := 4) (lv' := [(4, .int (nI (w + 1))), (3, .int (nI (min t (1 + (Lf (gone ||| (2 ^ w))))))), (0, .ref (ad Γ rq)), (1, .ref (ad Γ (b + 0))), (2, .int (nI gone))]) hx hb dX6_fewestFrom_45 hl rfl (by decide) (by decide) rfl (fun ls hl => ?_)
      refine lv_goto (tgt := 6) hx hb dX6_fewestFrom_48 (by decide) ?_
      exact ih6 (w + 1, min t (1 + (Lf (gone ||| (2 ^ w))))) _ _ (lv_sub hl [2, 3, 4, 1, 0] rfl) ⟨rfl, by (try dsimp only); omega, by rw [ht]; simp only [fewF]; first | rw [if_pos (by assumption)] | rw [if_neg (by assumption)]⟩ (by (try dsimp only); omega)
    · refine nr_if_eq (tgt := 45) hx hb (by decide) dX6_fewestFrom_24 (by decide) (fun c5 => ?_) (fun c5 => absurd c5 (by decide))
      refine nr_inc (d := 1) (k := 4) (lv' := [(4, .int (nI (w + 1))), (0, .ref (ad Γ rq)), (1, .ref (ad Γ (b + 0))), (2, .int (nI gone)), (3, .int (nI t))]) hx hb dX6_fewestFrom_45 hl rfl (by decide) (by decide) rfl (fun ls hl => ?_)
      refine lv_goto (tgt := 6) hx hb dX6_fewestFrom_48 (by decide) ?_
      exact ih6 (w + 1, t) _ _ (lv_sub hl [1, 2, 3, 4, 0] rfl) ⟨rfl, by (try dsimp only); omega, by rw [ht]; simp only [fewF]; first | rw [if_pos (by assumption)] | rw [if_neg (by assumption)]⟩ (by (try dsimp only); omega)
theorem wl_X6_firstOnTheWay_1 : Cond.fieldLink RX6 33 "BellForgiven$Valley" "wrongs" "I" ∈ wsX6_firstOnTheWay := List.mem_of_getElem? (i := 1) rfl
theorem wl_X6_firstOnTheWay_2 : Cond.fieldLink RX6 9 "BellForgiven$Row" "left" "[I" ∈ wsX6_firstOnTheWay := List.mem_of_getElem? (i := 2) rfl
theorem hi_X6_firstOnTheWay_X10 : ∀ w ∈ u_ws RX10 TX10 15, w ∈ wsX6_firstOnTheWay := fun w h => (List.mem_cons_of_mem _ (List.mem_append_left _ (List.mem_append_right _ h)))
theorem hi_X6_firstOnTheWay_X6 : ∀ w ∈ u_ws RX6 TX6 1, w ∈ wsX6_firstOnTheWay := fun w h => (List.mem_cons_of_mem _ (List.mem_append_right _ h))
set_option maxHeartbeats 4000000 in
set_option maxRecDepth 100000 in
theorem c_X6_firstOnTheWay (l : Launch) (Γ : Gam) (n : Nat) (G : Nat → va_E) (rq rl : Nat) (Lf : Nat → Nat) (hR : G rq = .inr (4, [.ref (ad Γ rl)])) (hC : G rl = na Γ 256 Lf) (hrq : rq < n) (hrl : rl < n) (hL : ∀ j, Lf j ≤ 100) (b : Nat) (V : Nat → Nat) (hV : isV Γ G b V) (hI : vI V) (hbn : b + 16 ≤ n) (gone : Nat) (hg : gone < 256) (h1 : 1 ≤ Lf gone)  : Met l yX6_firstOnTheWay wsX6_firstOnTheWay ({ frames := 4, cells := 0, slots := 0, locals := 95 }) (va_Pc [.ref (ad Γ rq), .ref (ad Γ (b + 0)), .int (nI gone)] (fun U => hw Γ n G U U.heap)) (vp_Si (fun z => wayR V Lf gone z)) 0 0 (fun _ => False) := by
  refine Met.ofW (cc := cX6_firstOnTheWay) (maxL := 4) (ret := (some .int)) (by decide) rfl ?_
  intro p e s m args below meth c s₁ B hml hv
  obtain ⟨rfl, hw⟩ := hv
  have hx := B.exec
  have hb := B.bytes
  have hr := B.returns
  have hts := atoms_spec (ws := wsX6_firstOnTheWay) B.pre
  have hown : s.vm.findClass RX6 = some m.cls := findClass_of_methodNamed B.named
  have hlocks := B.notSynchronized
  have hl := lv_entry ([.ref (ad Γ rq), .ref (ad Γ (b + 0)), .int (nI gone)]) (n := 4) (Nat.le_of_ble_eq_true rfl)
  rw [lg_entry_eq]
  generalize (lg_sl ([.ref (ad Γ rq), .ref (ad Γ (b + 0)), .int (nI gone)]) ++ List.replicate (4 - (lg_sl ([.ref (ad Γ rq), .ref (ad Γ (b + 0)), .int (nI gone)])).length) Slot.unset).toArray = ls at hl ⊢
  have hl : lv_has ls 4 [(0, .ref (ad Γ rq)), (1, .ref (ad Γ (b + 0))), (2, .int (nI gone))] := hl
  have hB := hI.1
  have hB0 := hI.2.1
  have hB1 := hI.2.2.1
  have hB20 := hI.2.2.2.2.2.2.2.2.2
  have hBz2 := hI.2.2.2.1
  have hBz3 := hI.2.2.2.2.1
  have hBz4 := hI.2.2.2.2.2.1
  have hBz5 := hI.2.2.2.2.2.2.1
  have hBd := hB 21
  refine lv_iconst (v := nI 0) hx hb dX6_firstOnTheWay_0 (by decide) ?_
  refine lv_istore_n (lv' := [(3, .int (nI 0)), (0, .ref (ad Γ rq)), (1, .ref (ad Γ (b + 0))), (2, .int (nI gone))]) hx hb dX6_firstOnTheWay_1 rfl hl (by decide) rfl (fun ls hl => ?_)
  refine nr_lp (σ := Nat) (pc := 2) (fun x lv => lv = [(0, .ref (ad Γ rq)), (1, .ref (ad Γ (b + 0))), (2, .int (nI gone)), (3, .int (nI x))] ∧ (x ≤ V 1) ∧ (∀ u, u < x → ¬ wayP V Lf gone u)) (fun x => V 1 - x) 0 (lv_sub hl [1, 2, 3, 0] rfl) ⟨rfl, by (try dsimp only); omega, fun j hj => absurd hj (Nat.not_lt_zero j)⟩ ?_
  intro w lv ls hl hI ih2
  obtain ⟨rfl, hw1, hn⟩ := hI
  try dsimp only at hw1 hn hl ih2
  refine lv_iload_n hx hb dX6_firstOnTheWay_2 rfl (lv_at hl 3 rfl) ?_
  refine lv_aload_n hx hb dX6_firstOnTheWay_3 rfl (lv_at hl 1 rfl) ?_
  refine nr_get (own := RX6) (C := RX10) (T := TX10) (N := 15) (v := .int (nI (V 1))) hx hb hts hi_X6_firstOnTheWay_X10 hown hw (by omega) (isV_0 hV) rfl 3 (by decide) wl_X6_firstOnTheWay_1 rfl rfl dX6_firstOnTheWay_4 ?_
  refine nr_icmp_ge (tgt := 50) hx hb (by omega) (by omega) dX6_firstOnTheWay_7 (by decide) (fun c1 => ?_) (fun c1 => ?_)
  · refine lv_iconst (v := (-1)) hx hb dX6_firstOnTheWay_50 (by decide) ?_
    exact nr_retS hx hb hr hlocks (by first | exact Or.inl ⟨w, by omega, ⟨by assumption, by assumption⟩, hn, rfl⟩ | exact Or.inr ⟨fun u hu => hn u (by omega), rfl⟩) rfl dX6_firstOnTheWay_51
  · refine lv_aload_n hx hb dX6_firstOnTheWay_10 rfl (lv_at hl 1 rfl) ?_
    refine lv_iload_n hx hb dX6_firstOnTheWay_11 rfl (lv_at hl 3 rfl) ?_
    refine lv_iload_n hx hb dX6_firstOnTheWay_12 rfl (lv_at hl 2 rfl) ?_
    refine lv_iload_n hx hb dX6_firstOnTheWay_13 rfl (lv_at hl 2 rfl) ?_
    refine lv_iconst (v := nI 0) hx hb dX6_firstOnTheWay_14 (by decide) ?_
    refine nr_goB (P := could V w gone gone 0) (nr_runV (As := [.int (nI w), .int (nI gone), .int (nI gone), .int (nI 0)]) (C := RX10) (T := TX10) (N := 15) ⟨hx, hb, hml, hown, hts⟩ hw (by omega) (isV_0 hV) rfl (c_X10_could l Γ n G b V hV hI hbn w gone gone 0 (by omega) (by omega) (by omega) (by omega)) (cwV 4 hts gX6_firstOnTheWay_X10_could rfl rfl rfl (by decide +kernel) ⟨Nat.le_of_ble_eq_true rfl, Nat.le_of_ble_eq_true rfl⟩) rfl hl.1 rfl (Nat.le_of_ble_eq_true rfl) dX6_firstOnTheWay_15 ⟨Nat.zero_le _, Nat.zero_le _⟩) (fun b2 => ?_) (fun b2 => ?_)
    · refine nr_if_eq (tgt := 44) hx hb (by decide) dX6_firstOnTheWay_18 (by decide) (fun c3 => absurd c3 (by decide)) (fun c3 => ?_)
      refine lv_aload_n hx hb dX6_firstOnTheWay_21 rfl (lv_at hl 0 rfl) ?_
      refine nr_get (own := RX6) (C := RX6) (T := TX6) (N := 1) (v := .ref (ad Γ rl)) hx hb hts hi_X6_firstOnTheWay_X6 hown hw (by omega) hR rfl 0 (by decide) wl_X6_firstOnTheWay_2 rfl rfl dX6_firstOnTheWay_22 ?_
      refine lv_iload_n hx hb dX6_firstOnTheWay_25 rfl (lv_at hl 2 rfl) ?_
      refine lv_iconst (v := nI 1) hx hb dX6_firstOnTheWay_26 (by decide) ?_
      refine lv_iload_n hx hb dX6_firstOnTheWay_27 rfl (lv_at hl 3 rfl) ?_
      refine nr_ishl1 hx hb (by omega) dX6_firstOnTheWay_28 ?_
      refine nr_ior hx hb dX6_firstOnTheWay_29 ?_
      refine nr_iald (x := (Lf (gone ||| (2 ^ w)))) hx hb hw (by omega) hC rfl (or_lt256 hg (by omega)) (by decide) dX6_firstOnTheWay_30 ?_
      have hL4 := hL (gone ||| (2 ^ w))
      refine lv_aload_n hx hb dX6_firstOnTheWay_31 rfl (lv_at hl 0 rfl) ?_
      refine nr_get (own := RX6) (C := RX6) (T := TX6) (N := 1) (v := .ref (ad Γ rl)) hx hb hts hi_X6_firstOnTheWay_X6 hown hw (by omega) hR rfl 0 (by decide) wl_X6_firstOnTheWay_2 rfl rfl dX6_firstOnTheWay_32 ?_
      refine lv_iload_n hx hb dX6_firstOnTheWay_35 rfl (lv_at hl 2 rfl) ?_
      refine nr_iald (x := (Lf gone)) hx hb hw (by omega) hC rfl (by omega) (by decide) dX6_firstOnTheWay_36 ?_
      have hL5 := hL (gone)
      refine lv_iconst (v := nI 1) hx hb dX6_firstOnTheWay_37 (by decide) ?_
      refine nr_isub hx hb (by omega) dX6_firstOnTheWay_38 ?_
      refine nr_icmp_ne (tgt := 44) hx hb (by omega) (by omega) dX6_firstOnTheWay_39 (by decide) (fun c6 => ?_) (fun c6 => ?_)
      · refine nr_inc (d := 1) (k := 3) (lv' := [(3, .int (nI (w + 1))), (0, .ref (ad Γ rq)), (1, .ref (ad Γ (b + 0))), (2, .int (nI gone))]) hx hb dX6_firstOnTheWay_44 hl rfl (by decide) (by decide) rfl (fun ls hl => ?_)
        refine lv_goto (tgt := 2) hx hb dX6_firstOnTheWay_47 (by decide) ?_
        exact ih2 (w + 1) _ _ (lv_sub hl [1, 2, 3, 0] rfl) ⟨rfl, by (try dsimp only); omega, fun j hj => by
          rcases Nat.lt_or_eq_of_le (Nat.le_of_lt_succ hj) with q | q
          · exact hn j q
          · subst q; intro hh; first | exact absurd hh.1 (by assumption) | exact absurd hh.2 (by assumption)⟩ (by (try dsimp only); omega)
      · refine lv_iload_n hx hb dX6_firstOnTheWay_42 rfl (lv_at hl 3 rfl) ?_
        exact nr_retS hx hb hr hlocks (by first | exact Or.inl ⟨w, by omega, ⟨by assumption, by assumption⟩, hn, rfl⟩ | exact Or.inr ⟨fun u hu => hn u (by omega), rfl⟩) rfl dX6_firstOnTheWay_43
    · refine nr_if_eq (tgt := 44) hx hb (by decide) dX6_firstOnTheWay_18 (by decide) (fun c7 => ?_) (fun c7 => absurd c7 (by decide))
      refine nr_inc (d := 1) (k := 3) (lv' := [(3, .int (nI (w + 1))), (0, .ref (ad Γ rq)), (1, .ref (ad Γ (b + 0))), (2, .int (nI gone))]) hx hb dX6_firstOnTheWay_44 hl rfl (by decide) (by decide) rfl (fun ls hl => ?_)
      refine lv_goto (tgt := 2) hx hb dX6_firstOnTheWay_47 (by decide) ?_
      exact ih2 (w + 1) _ _ (lv_sub hl [1, 2, 3, 0] rfl) ⟨rfl, by (try dsimp only); omega, fun j hj => by
          rcases Nat.lt_or_eq_of_le (Nat.le_of_lt_succ hj) with q | q
          · exact hn j q
          · subst q; intro hh; first | exact absurd hh.1 (by assumption) | exact absurd hh.2 (by assumption)⟩ (by (try dsimp only); omega)
