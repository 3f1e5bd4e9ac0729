section SS
def whenM (X : Nat → Nat) (k : Nat) (z : Int32) : Prop := (∃ d, d ≤ 60 ∧ canP (itD X d) k ∧ (∀ j, j < d → ¬ canP (itD X j) k) ∧ z = nI d) ∨ ((∀ j, j ≤ 60 → ¬ canP (itD X j) k) ∧ z = -1)
def graveM (R : Nat → Nat) (k w : Nat) (z : Int32) : Prop :=
  (w = 0 → z = nI (cnt (fun g => 1 ≤ g ∧ fitsP R k g) 10)) ∧
  (w = 1 → ((∃ g, 1 ≤ g ∧ g < 10 ∧ fitsP R k g ∧ (∀ u, 1 ≤ u → u < g → ¬ fitsP R k u) ∧ z = nI g) ∨ ((∀ u, 1 ≤ u → u < 10 → ¬ fitsP R k u) ∧ z = -1))) ∧
  (w = 2 → ((∃ g, 1 ≤ g ∧ g < 10 ∧ fitsP R k g ∧ (∀ u, g < u → u < 10 → ¬ fitsP R k u) ∧ z = nI g) ∨ ((∀ u, 1 ≤ u → u < 10 → ¬ fitsP R k u) ∧ z = -1)))
theorem cnt_cong {P Q : Nat → Prop} [DecidablePred P] [DecidablePred Q] : ∀ {m : Nat}, (∀ k, k < m → (P k ↔ Q k)) → cnt P m = cnt Q m
  | 0, _ => rfl
  | k + 1, h => by
    have ih := cnt_cong (P := P) (Q := Q) (m := k) (fun j hj => h j (by omega))
    have h2 := h k (by omega)
    unfold cnt
    by_cases q : P k
    · rw [if_pos q, if_pos (h2.mp q), ih]
    · rw [if_neg q, if_neg (fun z => q (h2.mpr z)), ih]
theorem alike_cong {f f2 : Nat → Nat} {fit kd m : Nat} (hk : kd < 6) (hm : m ≤ 6) (h : ∀ j, j < 6 → f j = f2 j) : alike f fit kd m = alike f2 fit kd m := by
  unfold alike
  exact cnt_cong (fun o ho => by rw [h kd hk, h o (by omega)])
theorem most_cong {f f2 : Nat → Nat} {fit : Nat} (h : ∀ j, j < 6 → f j = f2 j) : ∀ {m : Nat}, m ≤ 6 → most f fit m = most f2 fit m
  | 0, _ => rfl
  | kd + 1, hm => by
    unfold most
    rw [most_cong h (by omega : kd ≤ 6), alike_cong (by omega) (by omega) h]
def lookF (R : Nat → Nat) (k d : Nat) : Nat := most (fun kd => sWeight kd (R (52 + k)) d) (wkinds R k) 6
def askF (R : Nat → Nat) (i t : Nat) : Nat := most (fun kd => sMercy kd (t / 31) (t % 31)) (pkinds R i) 6
def lookM (R : Nat → Nat) (k c : Nat) (z : Int32) : Prop := (wkinds R k = 0 ∧ z = -1) ∨ (¬ wkinds R k = 0 ∧ ∃ lo, amin (lookF R k) nI c 31 lo z)
def askM (R : Nat → Nat) (i c : Nat) (z : Int32) : Prop := (pkinds R i = 0 ∧ z = -1) ∨ (¬ pkinds R i = 0 ∧ ∃ lo, amin (askF R i) (tOut 31) c 186 lo z)
def tellM (R : Nat → Nat) (k c : Nat) (z : Int32) : Prop := (sFit R k = 0 ∧ z = -1) ∨ (¬ sFit R k = 0 ∧ ∃ lo, amin (gpF R k) (tOut 21) c 210 lo z)
def gqO (R : Nat → Nat) (k d lm m : Nat) : Nat := cnt (fun g => (1 ≤ g ∧ fitsP R k g) ∧ sWeight (R (28 + k)) g d ≤ lm) m
def gqN (R : Nat → Nat) (k d lm m : Nat) : Nat := cnt (fun g => (1 ≤ g ∧ fitsP R k g) ∧ ¬ sWeight (R (28 + k)) g d ≤ lm) m
theorem bt_sFit (R : Nat → Nat) (k g : Nat) : (1 ≤ g ∧ bt (sFit R k) g) ↔ (g < 10 ∧ 1 ≤ g ∧ fitsP R k g) := by
  unfold sFit
  rw [bt_bitsOf]
  constructor
  · rintro ⟨_, h2, h3⟩; exact ⟨h2, h3⟩
  · rintro ⟨h2, h3⟩; exact ⟨h3.1, h2, h3⟩
theorem gq_M (R : Nat → Nat) (k d lm : Nat) : max (gqO R k d lm 10) (gqN R k d lm 10) = gpM (R (28 + k)) (sFit R k) d lm := by
  unfold gpM gqO gqN gpO gpN
  have e1 := cnt_cong (P := fun g => (1 ≤ g ∧ fitsP R k g) ∧ sWeight (R (28 + k)) g d ≤ lm) (Q := fun g => (1 ≤ g ∧ bt (sFit R k) g) ∧ sWeight (R (28 + k)) g d ≤ lm) (m := 10) (fun g hg => by
    rw [bt_sFit]; exact ⟨fun z => ⟨⟨hg, z.1⟩, z.2⟩, fun z => ⟨z.1.2, z.2⟩⟩)
  have e2 := cnt_cong (P := fun g => (1 ≤ g ∧ fitsP R k g) ∧ ¬ sWeight (R (28 + k)) g d ≤ lm) (Q := fun g => (1 ≤ g ∧ bt (sFit R k) g) ∧ ¬ sWeight (R (28 + k)) g d ≤ lm) (m := 10) (fun g hg => by
    rw [bt_sFit]; exact ⟨fun z => ⟨⟨hg, z.1⟩, z.2⟩, fun z => ⟨z.1.2, z.2⟩⟩)
  rw [e1, e2]
theorem cnt_0 {P : Nat → Prop} [DecidablePred P] : ∀ {m : Nat}, (∀ k, k < m → ¬ P k) → cnt P m = 0
  | 0, _ => rfl
  | k + 1, h => by
    unfold cnt
    rw [if_neg (h k (by omega)), cnt_0 (fun j hj => h j (by omega))]
theorem cnt_split (P Q : Nat → Prop) [DecidablePred P] [DecidablePred Q] : ∀ m, cnt (fun g => P g ∧ Q g) m + cnt (fun g => P g ∧ ¬ Q g) m = cnt P m
  | 0 => rfl
  | k + 1 => by
    have ih := cnt_split P Q k
    unfold cnt
    by_cases p : P k <;> by_cases q : Q k <;> simp only [p, q, true_and, false_and, not_true_eq_false, not_false_eq_true, if_true, if_false] <;> omega
theorem cnt_pos {P : Nat → Prop} [DecidablePred P] {m k : Nat} (hk : k < m) (hp : P k) : 0 < cnt P m := by
  induction m with
  | zero => omega
  | succ n ih =>
    unfold cnt
    rcases Nat.lt_or_eq_of_le (Nat.le_of_lt_succ hk) with q | q
    · have := ih q; split <;> omega
    · subst q; rw [if_pos hp]; omega
theorem sFit_0 {R : Nat → Nat} {k : Nat} : sFit R k = 0 ↔ ∀ g, 1 ≤ g → g < 10 → ¬ fitsP R k g := by
  constructor
  · intro h g h1 h2 h3
    have := (bt_sFit R k g).mpr ⟨h2, h1, h3⟩
    rw [h] at this
    exact bt_0 g this.2
  · intro h
    refine bits_ext 10 (bitsOf_lt _ _) (by decide) (fun g hg => ?_)
    constructor
    · intro hb
      unfold sFit at hb
      rw [bt_bitsOf] at hb
      exact absurd hb.2.2 (h g hb.2.1 hg)
    · intro hb; exact absurd hb (bt_0 g)
theorem gq_0 {R : Nat → Nat} {k d lm : Nat} (h : sFit R k = 0) : max (gqO R k d lm 10) (gqN R k d lm 10) = 0 := by
  have h2 := sFit_0.mp h
  unfold gqO gqN
  rw [cnt_0 (fun g hg z => h2 g z.1.1 hg z.1.2), cnt_0 (fun g hg z => h2 g z.1.1 hg z.1.2)]
  rfl
theorem gq_p {R : Nat → Nat} {k d lm : Nat} (h : ¬ sFit R k = 0) : 0 < max (gqO R k d lm 10) (gqN R k d lm 10) := by
  have h3 : 0 < cnt (fun g => 1 ≤ g ∧ fitsP R k g) 10 := by
    rcases Nat.eq_zero_or_pos (cnt (fun g => 1 ≤ g ∧ fitsP R k g) 10) with q | q
    · exact absurd (sFit_0.mpr (fun g h1 h2 h3 => by have := cnt_pos (P := fun g => 1 ≤ g ∧ fitsP R k g) h2 ⟨h1, h3⟩; omega)) h
    · exact q
  have h4 := cnt_split (fun g => 1 ≤ g ∧ fitsP R k g) (fun g => sWeight (R (28 + k)) g d ≤ lm) 10
  unfold gqO gqN
  omega
theorem restT (sa sb : Nat) (f : Nat) (h : f < 16) (hb : ∀ j, j < 4 → (bt f j ↔ gainV (j % 2) (j / 2) sa ≥ gainV (1 - j % 2) (j / 2) sa ∧ gainV (j / 2) (j % 2) sb ≥ gainV (1 - j / 2) (j % 2) sb)) : f = restV sa sb := by
  unfold restV
  refine bits_of (m := 4) h (fun j hj => ?_)
  rw [hb j hj, show j / 2 % 2 = j / 2 by omega]
def rngX (seed : Nat) : Nat → Nat
  | 0 => seed
  | t + 1 => (rngX seed t * 1103515245 + 12345) % 2147483648
theorem rngX_lt {seed : Nat} (h : seed ≤ 999999) : ∀ t, rngX seed t < 2147483648
  | 0 => by show seed < _; omega
  | t + 1 => Nat.mod_lt _ (by decide)
def eaH (X : Nat → Nat) (seed : Nat) : Nat → Nat → Nat
  | 0 => X
  | t + 1 => dayR (if rngX seed (t + 1) / 65536 % 8 < X 1 ∧ canP (eaH X seed t) (rngX seed (t + 1) / 65536 % 8) then offR (eaH X seed t) (rngX seed (t + 1) / 65536 % 8) 1 else eaH X seed t)
theorem aI_off {R : Nat → Nat} {k sn : Nat} (h : aI R) (hk : k < 8) : aI (offR R k sn) := by
  obtain ⟨h1, h2, h3, h4, h5, h6⟩ := h
  have hb := h4 k hk
  have h9 := or_lt256 h6 hk
  refine ⟨fun j => ?_, ?_, ?_, fun j hj => by rw [offR_o hb (by omega) (by omega)]; exact h4 j hj, fun j hj => by rw [offR_o hb (by omega) (by omega)]; exact h5 j hj, ?_⟩
  · have h7 := h1 j
    have h8 := h1 (6 + R (36 + k))
    unfold offR
    by_cases q : j = 6 + R (36 + k)
    · rw [q, va_up_self]; split <;> omega
    · rw [va_up_ne _ _ q]
      by_cases q2 : j = 20
      · rw [q2, va_up_self]; omega
      · rw [va_up_ne _ _ q2]; omega
  · unfold offR; rw [va_up_ne _ _ (by omega), va_up_ne _ _ (by omega)]; exact h2
  · unfold offR; rw [va_up_ne _ _ (by omega), va_up_ne _ _ (by omega)]; exact h3
  · unfold offR; rw [va_up_ne _ _ (by omega), va_up_self]; exact h9
theorem offR_21 {R : Nat → Nat} {k sn : Nat} (hb : R (36 + k) < 6) : offR R k sn 21 = R 21 := offR_o hb (by omega) (by omega)
theorem aI_ea {X : Nat → Nat} (h : aI X) (seed : Nat) : ∀ t, X 21 + t ≤ 1999 → aI (eaH X seed t) ∧ eaH X seed t 21 = X 21 + t
  | 0, _ => ⟨h, rfl⟩
  | t + 1, ht => by
    obtain ⟨h1, h2⟩ := aI_ea h seed t (by omega)
    have hk : rngX seed (t + 1) / 65536 % 8 < 8 := Nat.mod_lt _ (by decide)
    unfold eaH
    split
    · have e := offR_21 (R := eaH X seed t) (k := rngX seed (t + 1) / 65536 % 8) (sn := 1) (h1.2.2.2.1 _ hk)
      exact ⟨aI_day (aI_off h1 hk) (by rw [e]; omega), by rw [dayR_21, e]; omega⟩
    · exact ⟨aI_day h1 (by omega), by rw [dayR_21]; omega⟩
end SS
section SS2
def dgT (R : Nat → Nat) (h : Nat) : Nat → Nat
  | 0 => h
  | k + 1 => dg (rTold R k) (dgT R h k) 6
theorem rTally_lt {R iv : Nat → Nat} (hI : vI R) (hiv : iv 0 ≤ 150) (w : Nat) : rTally R iv w < 2147483648 := by
  have hB := hI.1
  have h1 := hB 0
  have h2 := hB 1
  have h3 := hB 21
  have h4 := hB (2 + w - 6)
  have h5 := pc8_le (R 20)
  have h6 := cnt_le (guiltyP R) (R 0)
  have h7 := sumN_le (f := fun j => R (6 + j)) (c := 1999) (fun j => hB _) (R 0)
  unfold rTally
  (repeat' split) <;> omega
end SS2
theorem wl_X12_when_1 : Cond.fieldLink RX12 33 "BellForgivenModel" "hand" "[I" ∈ wsX12_when := List.mem_of_getElem? (i := 1) rfl
theorem hi_X12_when_X12 : ∀ w ∈ u_ws RX12 TX12 19, w ∈ wsX12_when := fun w h => (List.mem_cons_of_mem _ (List.mem_append_right _ h))
set_option maxHeartbeats 4000000 in
set_option maxRecDepth 100000 in
theorem c_X12_when (l : Launch) (Γ : Gam) (n : Nat) (G : Nat → va_E) (mo : Nat) (R K kp rf ca rc hd fw tl by0 an vl iv : Nat → Nat) (hM : isM Γ G mo R K kp rf ca rc hd fw tl by0 an vl iv) (hmo : mo + 13 ≤ n) (hI : vI R) (hj : winj Γ n) (k : Int32) (h21 : R 21 ≤ 999) (hhd : ∀ j, hd j ≤ 1999)  : Met l yX12_when wsX12_when ({ frames := 3, cells := 0, slots := 0, locals := 66 }) (va_Pc [.ref (ad Γ (mo + 0)), .int k] (fun U => hw Γ n G U U.heap)) (wQi Γ n (fun z G2 => ((¬ vBel (R 1) k) ∧ (z = -2) ∧ isM Γ G2 mo R K kp (bmp rf 0) ca rc hd fw tl by0 an vl iv ∧ fr G G2 mo (mo + 13)) ∨ (∃ jk : Nat, (jk < R 1) ∧ (k = nI jk) ∧ (whenM (cpyR hd R 60) jk z) ∧ ∃ hd2 : Nat → Nat, isM Γ G2 mo R K kp rf ca rc hd2 fw tl by0 an vl iv ∧ fr G G2 mo (mo + 13)))) 0 0 (wA Γ n) := by
  refine Met.ofW (cc := cX12_when) (maxL := 3) (ret := (some .int)) (by decide) rfl ?_
  intro p e s m args below meth c s₁ B hml hv
  obtain ⟨rfl, hw⟩ := hv
  have hx := B.exec
  have hb := B.bytes
  have hr := B.returns
  have hts := atoms_spec (ws := wsX12_when) B.pre
  have hown : s.vm.findClass RX12 = some m.cls := findClass_of_methodNamed B.named
  have hlocks := B.notSynchronized
  have hS : va_S (wA Γ n) s.heap s.heap [] := va_S.rf
  have hA : ∀ q, wA Γ n q → wA Γ n q := fun _ h => h
  have hl := lv_entry ([.ref (ad Γ (mo + 0)), .int k]) (n := 3) (Nat.le_of_ble_eq_true rfl)
  rw [lg_entry_eq]
  generalize (lg_sl ([.ref (ad Γ (mo + 0)), .int k]) ++ List.replicate (3 - (lg_sl ([.ref (ad Γ (mo + 0)), .int k])).length) Slot.unset).toArray = ls at hl ⊢
  have hl : lv_has ls 3 [(0, .ref (ad Γ (mo + 0))), (1, .int k)] := hl
  have hfr := fr_rf G mo (mo + 13)
  have hB := hI.1
  have hB0 := hI.2.1
  have hB1 := hI.2.2.1
  have hB20 := hI.2.2.2.2.2.2.2.2.2
  have hBz2 := hI.2.2.2.1
  have hBz3 := hI.2.2.2.2.1
  have hBz4 := hI.2.2.2.2.2.1
  have hBz5 := hI.2.2.2.2.2.2.1
  have hby := hI.2.2.2.2.2.2.2.1
  have hto := hI.2.2.2.2.2.2.2.2.1
  have hX := aI_cpy hI hhd
  have hX21 : cpyR hd R 60 21 = R 21 := cpyR_at (by decide)
  refine lv_aload_n hx hb dX12_when_0 rfl (lv_at hl 0 rfl) ?_
  refine lv_iload_n hx hb dX12_when_1 rfl (lv_at hl 1 rfl) ?_
  refine nr_goB (P := ∃ j, j < R 1 ∧ k = nI j) (nr_runV (As := [.int k]) (C := RX12) (T := TX12) (N := 19) ⟨hx, hb, hml, hown, hts⟩ hw (by omega) (isM_0 hM) rfl (c_X12_isWrong l Γ n G mo R K kp rf ca rc hd fw tl by0 an vl iv hM (by omega) hI k) (cwV 1 hts gX12_when_X12_isWrong rfl rfl rfl (by decide +kernel) ⟨Nat.le_of_ble_eq_true rfl, Nat.le_of_ble_eq_true rfl⟩) rfl hl.1 rfl (Nat.le_of_ble_eq_true rfl) dX12_when_2 ⟨Nat.zero_le _, Nat.zero_le _⟩) (fun b1 => ?_) (fun b1 => ?_)
  · obtain ⟨jk, hjk, rfl⟩ := b1
    refine nr_if_ne (tgt := 15) hx hb (by decide) dX12_when_5 (by decide) (fun c2 => ?_) (fun c2 => absurd c2 (by decide))
    refine lv_aload_n hx hb dX12_when_15 rfl (lv_at hl 0 rfl) ?_
    refine nr_goV (nr_runV (As := []) (C := RX12) (T := TX12) (N := 19) ⟨hx, hb, hml, hown, hts⟩ hw (by omega) (isM_0 hM) rfl (c_X12_layHand l Γ n G mo R K kp rf ca rc hd fw tl by0 an vl iv hM (by omega) hI hj) (cwV 0 hts gX12_when_X12_layHand rfl rfl rfl (by decide +kernel) ⟨Nat.le_of_ble_eq_true rfl, Nat.le_of_ble_eq_true rfl⟩) rfl hl.1 rfl (Nat.le_of_ble_eq_true rfl) dX12_when_16 ⟨Nat.zero_le _, Nat.zero_le _⟩) hw hA hS (fun G3 H locs hp hw hS => ?_)
    obtain ⟨hM, hfr3⟩ := hp
    have hfr := fr_tr hfr hfr3 (Nat.le_refl _) (Nat.le_refl _)
    refine lv_iconst (v := nI 0) hx hb dX12_when_19 (by decide) ?_
    refine lv_istore_n (lv' := [(2, .int (nI 0)), (0, .ref (ad Γ (mo + 0))), (1, .int (nI jk))]) hx hb dX12_when_20 rfl hl (by decide) rfl (fun ls hl => ?_)
    refine nr_lpI (σ := (Nat → va_E) × Nat × (Nat → Nat)) 21 (fun x => x.1) (fun x lv => lv = [(0, .ref (ad Γ (mo + 0))), (1, .int (nI jk)), (2, .int (nI x.2.1))] ∧ isM Γ x.1 mo R K kp rf ca rc x.2.2 fw tl by0 an vl iv ∧ fr G x.1 mo (mo + 13) ∧ (x.2.1 ≤ 61) ∧ (x.2.2 = itD (cpyR hd R 60) x.2.1) ∧ (∀ j, j < x.2.1 → ¬ canP (itD (cpyR hd R 60) j) jk)) (fun x => 61 - x.2.1) (G3, 0, cpyR hd R 60) hw hS (lv_sub hl [1, 2, 0] rfl) ⟨rfl, hM, hfr, by (try dsimp only); omega, rfl, by (try dsimp only); exact (fun j hj => absurd hj (Nat.not_lt_zero j))⟩ ?_
    intro x lv ls H locs hw hS hl hI ih21
    obtain ⟨Gl21, d, hdL21⟩ := x
    obtain ⟨rfl, hM, hfr, hdd, hh, hn⟩ := hI
    try dsimp only at hM hfr hdd hh hn hw hl ih21
    refine lv_iload_n hx hb dX12_when_21 rfl (lv_at hl 2 rfl) ?_
    refine lv_bipush (v := nI 60) hx hb dX12_when_22 (by decide) ?_
    refine nr_icmp_gt (tgt := 53) hx hb (by omega) (by decide) dX12_when_24 (by decide) (fun c4 => ?_) (fun c4 => ?_)
    · refine lv_iconst (v := (-1)) hx hb dX12_when_53 (by decide) ?_
      exact nr_retI hx hb hr hlocks hw hS (Or.inr (⟨jk, hjk, rfl, by first | exact Or.inl ⟨d, by omega, by rw [← hh]; assumption, hn, rfl⟩ | exact Or.inr ⟨fun j hj => hn j (by omega), rfl⟩, _, hM, hfr⟩)) dX12_when_54
    · refine lv_aload_n hx hb dX12_when_27 rfl (lv_at hl 0 rfl) ?_
      refine nr_get (own := RX12) (C := RX12) (T := TX12) (N := 19) (v := .ref (ad Γ (mo + 7))) hx hb hts hi_X12_when_X12 hown hw (by omega) (isM_0 hM) rfl 8 (by decide) wl_X12_when_1 rfl rfl dX12_when_28 ?_
      refine lv_iload_n hx hb dX12_when_31 rfl (lv_at hl 1 rfl) ?_
      refine nr_goB (P := canP hdL21 jk) (nr_runS (As := [.ref (ad Γ (mo + 7)), .int (nI jk)]) ⟨hx, hb, hml, hown, hts⟩ hw (c_X12_canOff l Γ n Gl21 (mo + 7) 60 hdL21 (isM_7 hM) (by omega) (by omega) (by omega) (by rw [hh]; exact aI_it hX d (by omega)) jk (by omega)) (va_cwS 2 hts gX12_when_X12_canOff rfl rfl rfl (by decide +kernel) ⟨Nat.le_of_ble_eq_true rfl, Nat.le_of_ble_eq_true rfl⟩) rfl hl.1 rfl (Nat.le_of_ble_eq_true rfl) dX12_when_32 ⟨Nat.zero_le _, Nat.zero_le _⟩) (fun b5 => ?_) (fun b5 => ?_)
      · refine nr_if_eq (tgt := 40) hx hb (by decide) dX12_when_35 (by decide) (fun c6 => absurd c6 (by decide)) (fun c6 => ?_)
        refine lv_iload_n hx hb dX12_when_38 rfl (lv_at hl 2 rfl) ?_
        exact nr_retI hx hb hr hlocks hw hS (Or.inr (⟨jk, hjk, rfl, by first | exact Or.inl ⟨d, by omega, by rw [← hh]; assumption, hn, rfl⟩ | exact Or.inr ⟨fun j hj => hn j (by omega), rfl⟩, _, hM, hfr⟩)) dX12_when_39
      · refine nr_if_eq (tgt := 40) hx hb (by decide) dX12_when_35 (by decide) (fun c7 => ?_) (fun c7 => absurd c7 (by decide))
        refine lv_aload_n hx hb dX12_when_40 rfl (lv_at hl 0 rfl) ?_
        refine nr_get (own := RX12) (C := RX12) (T := TX12) (N := 19) (v := .ref (ad Γ (mo + 7))) hx hb hts hi_X12_when_X12 hown hw (by omega) (isM_0 hM) rfl 8 (by decide) wl_X12_when_1 rfl rfl dX12_when_41 ?_
        refine nr_goV (nr_runS (As := [.ref (ad Γ (mo + 7))]) ⟨hx, hb, hml, hown, hts⟩ hw (c_X12_goDay l Γ n Gl21 (mo + 7) 60 hdL21 (isM_7 hM) (by omega) (by omega) (by omega) (by rw [hh]; exact aI_it hX d (by omega)) hj (by rw [hh, itD_21]; omega)) (va_cwS 1 hts gX12_when_X12_goDay rfl rfl rfl (by decide +kernel) ⟨Nat.le_of_ble_eq_true rfl, Nat.le_of_ble_eq_true rfl⟩) rfl hl.1 rfl (Nat.le_of_ble_eq_true rfl) dX12_when_44 ⟨Nat.zero_le _, Nat.zero_le _⟩) hw hA hS (fun G8 H locs hp hw hS => ?_)
        subst hp
        have hM := isM_s7 hM (dayR hdL21)
        have hfr := fr_up hfr (i := mo + 7) (by omega) (by omega) (na Γ 60 (dayR hdL21))
        generalize va_up Gl21 (mo + 7) (na Γ 60 (dayR hdL21)) = G9 at hw hM hfr
        refine nr_inc (d := 1) (k := 2) (lv' := [(2, .int (nI (d + 1))), (0, .ref (ad Γ (mo + 0))), (1, .int (nI jk))]) hx hb dX12_when_47 hl rfl (by decide) (by decide) rfl (fun ls hl => ?_)
        refine lv_goto (tgt := 21) hx hb dX12_when_50 (by decide) ?_
        exact ih21 (G9, d + 1, dayR hdL21) _ _ _ _ hw hS (lv_sub hl [1, 2, 0] rfl) ⟨rfl, hM, hfr, by (try dsimp only); omega, by (try dsimp only); rw [hh]; rfl, by (try dsimp only); exact (fun j hj => by
          rcases Nat.lt_or_eq_of_le (Nat.le_of_lt_succ hj) with q | q
          · exact hn j q
          · rw [q, ← hh]; assumption)⟩ (by (try dsimp only); omega)
  · refine nr_if_ne (tgt := 15) hx hb (by decide) dX12_when_5 (by decide) (fun c10 => absurd c10 (by decide)) (fun c10 => ?_)
    refine lv_aload_n hx hb dX12_when_8 rfl (lv_at hl 0 rfl) ?_
    refine lv_bipush (v := (-2)) hx hb dX12_when_9 (by decide) ?_
    refine nr_goI (nr_runV (As := [.int (-2)]) (C := RX12) (T := TX12) (N := 19) ⟨hx, hb, hml, hown, hts⟩ hw (by omega) (isM_0 hM) rfl (c_X12_bad l Γ n G mo R K kp rf ca rc hd fw tl by0 an vl iv hM (by omega) hI hj (-2)) (cwV 1 hts gX12_when_X12_bad rfl rfl rfl (by decide +kernel) ⟨Nat.le_of_ble_eq_true rfl, Nat.le_of_ble_eq_true rfl⟩) rfl hl.1 rfl (Nat.le_of_ble_eq_true rfl) dX12_when_11 ⟨Nat.zero_le _, Nat.zero_le _⟩) hw hA hS (fun z11 G11 H locs hp hw hS => ?_)
    obtain ⟨ha11, hM, hfr11⟩ := hp
    have hfr := fr_tr hfr hfr11 (Nat.le_refl _) (Nat.le_refl _)
    subst ha11
    exact nr_retI hx hb hr hlocks hw hS (Or.inl ⟨by assumption, rfl, hM, hfr⟩) dX12_when_14
theorem wl_X12_round_1 : Cond.fieldLink RX12 7 "BellForgivenModel" "all" "[I" ∈ wsX12_round := List.mem_of_getElem? (i := 1) rfl
theorem hi_X12_round_X12 : ∀ w ∈ u_ws RX12 TX12 19, w ∈ wsX12_round := fun w h => (List.mem_cons_of_mem _ (List.mem_append_right _ h))
set_option maxHeartbeats 4000000 in
set_option maxRecDepth 100000 in
theorem c_X12_round (l : Launch) (Γ : Gam) (n : Nat) (G : Nat → va_E) (mo : Nat) (R K kp rf ca rc hd fw tl by0 an vl iv : Nat → Nat) (hM : isM Γ G mo R K kp rf ca rc hd fw tl by0 an vl iv) (hmo : mo + 13 ≤ n) (hI : vI R) (hj : winj Γ n) (i : Int32)  : Met l yX12_round wsX12_round ({ frames := 2, cells := 0, slots := 0, locals := 46 }) (va_Pc [.ref (ad Γ (mo + 0)), .int i] (fun U => hw Γ n G U U.heap)) (wQi Γ n (fun z G2 => ((¬ vBel (R 0) i) ∧ (z = -2) ∧ isM Γ G2 mo R K kp (bmp rf 0) ca rc hd fw tl by0 an vl iv ∧ fr G G2 mo (mo + 13)) ∨ (∃ ji : Nat, (ji < R 0) ∧ (i = nI ji) ∧ (ringR R ji 6 z) ∧ isM Γ G2 mo R K kp rf ca rc hd fw tl by0 an vl iv ∧ fr G G2 mo (mo + 13)))) 0 0 (wA Γ n) := by
  refine Met.ofW (cc := cX12_round) (maxL := 6) (ret := (some .int)) (by decide) rfl ?_
  intro p e s m args below meth c s₁ B hml hv
  obtain ⟨rfl, hw⟩ := hv
  have hx := B.exec
  have hb := B.bytes
  have hr := B.returns
  have hts := atoms_spec (ws := wsX12_round) B.pre
  have hown : s.vm.findClass RX12 = some m.cls := findClass_of_methodNamed B.named
  have hlocks := B.notSynchronized
  have hS : va_S (wA Γ n) s.heap s.heap [] := va_S.rf
  have hA : ∀ q, wA Γ n q → wA Γ n q := fun _ h => h
  have hl := lv_entry ([.ref (ad Γ (mo + 0)), .int i]) (n := 6) (Nat.le_of_ble_eq_true rfl)
  rw [lg_entry_eq]
  generalize (lg_sl ([.ref (ad Γ (mo + 0)), .int i]) ++ List.replicate (6 - (lg_sl ([.ref (ad Γ (mo + 0)), .int i])).length) Slot.unset).toArray = ls at hl ⊢
  have hl : lv_has ls 6 [(0, .ref (ad Γ (mo + 0))), (1, .int i)] := hl
  have hfr := fr_rf G mo (mo + 13)
  have hB := hI.1
  have hB0 := hI.2.1
  have hB1 := hI.2.2.1
  have hB20 := hI.2.2.2.2.2.2.2.2.2
  have hBz2 := hI.2.2.2.1
  have hBz3 := hI.2.2.2.2.1
  have hBz4 := hI.2.2.2.2.2.1
  have hBz5 := hI.2.2.2.2.2.2.1
  have hby := hI.2.2.2.2.2.2.2.1
  have hto := hI.2.2.2.2.2.2.2.2.1
  refine lv_aload_n hx hb dX12_round_0 rfl (lv_at hl 0 rfl) ?_
  refine lv_iload_n hx hb dX12_round_1 rfl (lv_at hl 1 rfl) ?_
  refine nr_goB (P := ∃ j, j < R 0 ∧ i = nI j) (nr_runV (As := [.int i]) (C := RX12) (T := TX12) (N := 19) ⟨hx, hb, hml, hown, hts⟩ hw (by omega) (isM_0 hM) rfl (c_X12_isOne l Γ n G mo R K kp rf ca rc hd fw tl by0 an vl iv hM (by omega) hI i) (cwV 1 hts gX12_round_X12_isOne rfl rfl rfl (by decide +kernel) ⟨Nat.le_of_ble_eq_true rfl, Nat.le_of_ble_eq_true rfl⟩) rfl hl.1 rfl (Nat.le_of_ble_eq_true rfl) dX12_round_2 ⟨Nat.zero_le _, Nat.zero_le _⟩) (fun b1 => ?_) (fun b1 => ?_)
  · obtain ⟨ji, hji, rfl⟩ := b1
    have hp := p2_lt (k := ji) (by omega)
    have hwn := fun m => wrdN_lt hI (w := 2 ^ ji) (by omega) m
    refine nr_if_ne (tgt := 15) hx hb (by decide) dX12_round_5 (by decide) (fun c2 => ?_) (fun c2 => absurd c2 (by decide))
    refine lv_iconst (v := nI 1) hx hb dX12_round_15 (by decide) ?_
    refine lv_iload_n hx hb dX12_round_16 rfl (lv_at hl 1 rfl) ?_
    refine nr_ishl1 hx hb (by omega) dX12_round_17 ?_
    refine lv_istore_n (lv' := [(2, .int (nI (2 ^ ji))), (0, .ref (ad Γ (mo + 0))), (1, .int (nI ji))]) hx hb dX12_round_18 rfl hl (by decide) rfl (fun ls hl => ?_)
    refine lv_iconst (v := nI 1) hx hb dX12_round_19 (by decide) ?_
    refine lv_istore_n (lv' := [(3, .int (nI 1)), (2, .int (nI (2 ^ ji))), (0, .ref (ad Γ (mo + 0))), (1, .int (nI ji))]) hx hb dX12_round_20 rfl hl (by decide) rfl (fun ls hl => ?_)
    refine nr_lp (σ := Nat × Nat) (pc := 21) (fun x lv => lv = [(0, .ref (ad Γ (mo + 0))), (1, .int (nI ji)), (2, .int (nI x.2)), (3, .int (nI x.1))] ∧ (1 ≤ x.1) ∧ (x.1 ≤ 7) ∧ (x.2 = wrdN R (2 ^ ji) (x.1 - 1)) ∧ (∀ j, 1 ≤ j → j < x.1 → ¬ bt (wrdN R (2 ^ ji) j) ji)) (fun x => 7 - x.1) (1, 2 ^ ji) (lv_sub hl [2, 3, 1, 0] rfl) ⟨rfl, by (try dsimp only); omega, by (try dsimp only); omega, rfl, by (try dsimp only); exact (fun j h1 h2 => absurd h2 (by omega))⟩ ?_
    intro x lv ls hl hI ih21
    obtain ⟨q, w⟩ := x
    obtain ⟨rfl, hq1, hq, hw2, hn⟩ := hI
    try dsimp only at hq1 hq hw2 hn hl ih21
    have hw3 := hwn (q - 1)
    refine lv_iload_n hx hb dX12_round_21 rfl (lv_at hl 3 rfl) ?_
    refine lv_bipush (v := nI 6) hx hb dX12_round_22 (by decide) ?_
    refine nr_icmp_gt (tgt := 121) hx hb (by omega) (by decide) dX12_round_24 (by decide) (fun c3 => ?_) (fun c3 => ?_)
    · refine lv_iconst (v := (-1)) hx hb dX12_round_121 (by decide) ?_
      exact nr_retI hx hb hr hlocks hw hS (Or.inr (⟨ji, hji, rfl, by first | exact Or.inl ⟨q, hq1, by omega, by rw [← hw4]; assumption, hn, rfl⟩ | exact Or.inr ⟨fun j h1 hj => hn j h1 (by omega), rfl⟩, hM, hfr⟩)) dX12_round_122
    · refine lv_iconst (v := nI 0) hx hb dX12_round_27 (by decide) ?_
      refine lv_istore (lv' := [(4, .int (nI 0)), (0, .ref (ad Γ (mo + 0))), (1, .int (nI ji)), (2, .int (nI w)), (3, .int (nI q))]) hx hb dX12_round_28 hl (by decide) rfl (fun ls hl => ?_)
      refine lv_iconst (v := nI 0) hx hb dX12_round_30 (by decide) ?_
      refine lv_istore (lv' := [(5, .int (nI 0)), (4, .int (nI 0)), (0, .ref (ad Γ (mo + 0))), (1, .int (nI ji)), (2, .int (nI w)), (3, .int (nI q))]) hx hb dX12_round_31 hl (by decide) rfl (fun ls hl => ?_)
      refine nr_lp (σ := Nat × Nat) (pc := 33) (fun x lv => lv = [(0, .ref (ad Γ (mo + 0))), (1, .int (nI ji)), (2, .int (nI w)), (3, .int (nI q)), (4, .int (nI x.2)), (5, .int (nI x.1))] ∧ (x.1 ≤ R 1) ∧ (x.2 = wrd R w x.1)) (fun x => R 1 - x.1) (0, 0) (lv_sub hl [2, 3, 4, 5, 1, 0] rfl) ⟨rfl, by (try dsimp only); omega, rfl⟩ ?_
      intro x lv ls hl hI ih33
      obtain ⟨k, t⟩ := x
      obtain ⟨rfl, hk, ht⟩ := hI
      try dsimp only at hk ht hl ih33
      have hby1 := hby k
      have hto1 := hto k
      have hwl := wrd_lt hI w k (by omega)
      refine lv_iload hx hb dX12_round_33 (lv_at hl 5 rfl) ?_
      refine lv_aload_n hx hb dX12_round_35 rfl (lv_at hl 0 rfl) ?_
      refine nr_goS (nr_runV (As := []) (C := RX12) (T := TX12) (N := 19) ⟨hx, hb, hml, hown, hts⟩ hw (by omega) (isM_0 hM) rfl (c_X12_many l Γ n G mo R K kp rf ca rc hd fw tl by0 an vl iv hM (by omega) hI) (cwV 0 hts gX12_round_X12_many rfl rfl rfl (by decide +kernel) ⟨Nat.le_of_ble_eq_true rfl, Nat.le_of_ble_eq_true rfl⟩) rfl hl.1 rfl (Nat.le_of_ble_eq_true rfl) dX12_round_36 ⟨Nat.zero_le _, Nat.zero_le _⟩) (fun r4 hr4 => ?_)
      obtain rfl : r4 = (nI (R 1)) := hr4
      refine nr_icmp_ge (tgt := 101) hx hb (by omega) (by omega) dX12_round_39 (by decide) (fun c5 => ?_) (fun c5 => ?_)
      · have hw4 : t = wrdN R (2 ^ ji) q := by rw [ht, show k = R 1 by omega, hw2]; obtain ⟨q0, rfl⟩ : ∃ z, q = z + 1 := ⟨q - 1, by omega⟩; rfl
        have hw5 := hwn q
        refine lv_iload hx hb dX12_round_101 (lv_at hl 4 rfl) ?_
        refine lv_iload_n hx hb dX12_round_103 rfl (lv_at hl 1 rfl) ?_
        refine nr_goB (P := bt t ji) (nr_runS (As := [.int (nI t), .int (nI ji)]) ⟨hx, hb, hml, hown, hts⟩ hw (c_X12_has l Γ n G t ji (by omega) (by omega)) (va_cwS 2 hts gX12_round_X12_has rfl rfl rfl (by decide +kernel) ⟨Nat.le_of_ble_eq_true rfl, Nat.le_of_ble_eq_true rfl⟩) rfl hl.1 rfl (Nat.le_of_ble_eq_true rfl) dX12_round_104 ⟨Nat.zero_le _, Nat.zero_le _⟩) (fun b6 => ?_) (fun b6 => ?_)
        · refine nr_if_eq (tgt := 112) hx hb (by decide) dX12_round_107 (by decide) (fun c7 => absurd c7 (by decide)) (fun c7 => ?_)
          refine lv_iload_n hx hb dX12_round_110 rfl (lv_at hl 3 rfl) ?_
          exact nr_retI hx hb hr hlocks hw hS (Or.inr (⟨ji, hji, rfl, by first | exact Or.inl ⟨q, hq1, by omega, by rw [← hw4]; assumption, hn, rfl⟩ | exact Or.inr ⟨fun j h1 hj => hn j h1 (by omega), rfl⟩, hM, hfr⟩)) dX12_round_111
        · refine nr_if_eq (tgt := 112) hx hb (by decide) dX12_round_107 (by decide) (fun c8 => ?_) (fun c8 => absurd c8 (by decide))
          refine lv_iload hx hb dX12_round_112 (lv_at hl 4 rfl) ?_
          refine lv_istore_n (lv' := [(2, .int (nI t)), (0, .ref (ad Γ (mo + 0))), (1, .int (nI ji)), (3, .int (nI q)), (4, .int (nI t)), (5, .int (nI k))]) hx hb dX12_round_114 rfl hl (by decide) rfl (fun ls hl => ?_)
          refine nr_inc (d := 1) (k := 3) (lv' := [(3, .int (nI (q + 1))), (2, .int (nI t)), (0, .ref (ad Γ (mo + 0))), (1, .int (nI ji)), (4, .int (nI t)), (5, .int (nI k))]) hx hb dX12_round_115 hl rfl (by decide) (by decide) rfl (fun ls hl => ?_)
          refine lv_goto (tgt := 21) hx hb dX12_round_118 (by decide) ?_
          exact ih21 (q + 1, t) _ _ (lv_sub hl [2, 3, 1, 0] rfl) ⟨rfl, by (try dsimp only); omega, by (try dsimp only); omega, by (try dsimp only); rw [hw4, Nat.add_sub_cancel], by (try dsimp only); exact (fun j h1 hj => by
          rcases Nat.lt_or_eq_of_le (Nat.le_of_lt_succ hj) with z | z
          · exact hn j h1 z
          · subst z; rw [← hw4]; assumption)⟩ (by (try dsimp only); omega)
      · refine lv_iload hx hb dX12_round_42 (lv_at hl 4 rfl) ?_
        refine lv_aload_n hx hb dX12_round_44 rfl (lv_at hl 0 rfl) ?_
        refine nr_get (own := RX12) (C := RX12) (T := TX12) (N := 19) (v := .ref (ad Γ (mo + 1))) hx hb hts hi_X12_round_X12 hown hw (by omega) (isM_0 hM) rfl 0 (by decide) wl_X12_round_1 rfl rfl dX12_round_45 ?_
        refine lv_bipush (v := nI 20) hx hb dX12_round_48 (by decide) ?_
        refine nr_iald (x := (R 20)) hx hb hw (by omega) (isM_1 hM) rfl (by omega) (by decide) dX12_round_50 ?_
        have hL9 := hB (20)
        refine lv_iload hx hb dX12_round_51 (lv_at hl 5 rfl) ?_
        refine nr_goB (P := bt (R 20) k) (nr_runS (As := [.int (nI (R 20)), .int (nI k)]) ⟨hx, hb, hml, hown, hts⟩ hw (c_X12_has l Γ n G (R 20) k (by omega) (by omega)) (va_cwS 2 hts gX12_round_X12_has rfl rfl rfl (by decide +kernel) ⟨Nat.le_of_ble_eq_true rfl, Nat.le_of_ble_eq_true rfl⟩) rfl hl.1 rfl (Nat.le_of_ble_eq_true rfl) dX12_round_53 ⟨Nat.zero_le _, Nat.zero_le _⟩) (fun b10 => ?_) (fun b10 => ?_)
        · refine nr_if_ne (tgt := 91) hx hb (by decide) dX12_round_56 (by decide) (fun c11 => ?_) (fun c11 => absurd c11 (by decide))
          refine lv_iconst (v := nI 0) hx hb dX12_round_91 (by decide) ?_
          refine nr_ior hx hb dX12_round_92 ?_
          refine lv_istore (lv' := [(4, .int (nI (t ||| 0))), (0, .ref (ad Γ (mo + 0))), (1, .int (nI ji)), (2, .int (nI w)), (3, .int (nI q)), (5, .int (nI k))]) hx hb dX12_round_93 hl (by decide) rfl (fun ls hl => ?_)
          refine nr_inc (d := 1) (k := 5) (lv' := [(5, .int (nI (k + 1))), (4, .int (nI (t ||| 0))), (0, .ref (ad Γ (mo + 0))), (1, .int (nI ji)), (2, .int (nI w)), (3, .int (nI q))]) hx hb dX12_round_95 hl rfl (by decide) (by decide) rfl (fun ls hl => ?_)
          refine lv_goto (tgt := 33) hx hb dX12_round_98 (by decide) ?_
          exact ih33 (k + 1, t ||| 0) _ _ (lv_sub hl [2, 3, 4, 5, 1, 0] rfl) ⟨rfl, by (try dsimp only); omega, by (try dsimp only); rw [ht]; simp only [wrd]; first | rw [if_pos ⟨by assumption, by assumption⟩] | (rw [if_neg, Nat.or_zero]; intro hh; first | exact hh.1 (by assumption) | exact absurd hh.2 (by assumption))⟩ (by (try dsimp only); omega)
        · refine nr_if_ne (tgt := 91) hx hb (by decide) dX12_round_56 (by decide) (fun c12 => absurd c12 (by decide)) (fun c12 => ?_)
          refine lv_iload_n hx hb dX12_round_59 rfl (lv_at hl 2 rfl) ?_
          refine lv_aload_n hx hb dX12_round_60 rfl (lv_at hl 0 rfl) ?_
          refine nr_get (own := RX12) (C := RX12) (T := TX12) (N := 19) (v := .ref (ad Γ (mo + 1))) hx hb hts hi_X12_round_X12 hown hw (by omega) (isM_0 hM) rfl 0 (by decide) wl_X12_round_1 rfl rfl dX12_round_61 ?_
          refine lv_bipush (v := nI 36) hx hb dX12_round_64 (by decide) ?_
          refine lv_iload hx hb dX12_round_66 (lv_at hl 5 rfl) ?_
          refine nr_iadd hx hb dX12_round_68 ?_
          refine nr_iald (x := (R (36 + k))) hx hb hw (by omega) (isM_1 hM) rfl (by omega) (by decide) dX12_round_69 ?_
          have hL13 := hB (36 + k)
          refine nr_goB (P := bt w (R (36 + k))) (nr_runS (As := [.int (nI w), .int (nI (R (36 + k)))]) ⟨hx, hb, hml, hown, hts⟩ hw (c_X12_has l Γ n G w (R (36 + k)) (by omega) (by omega)) (va_cwS 2 hts gX12_round_X12_has rfl rfl rfl (by decide +kernel) ⟨Nat.le_of_ble_eq_true rfl, Nat.le_of_ble_eq_true rfl⟩) rfl hl.1 rfl (Nat.le_of_ble_eq_true rfl) dX12_round_70 ⟨Nat.zero_le _, Nat.zero_le _⟩) (fun b14 => ?_) (fun b14 => ?_)
          · refine nr_if_eq (tgt := 91) hx hb (by decide) dX12_round_73 (by decide) (fun c15 => absurd c15 (by decide)) (fun c15 => ?_)
            refine lv_iconst (v := nI 1) hx hb dX12_round_76 (by decide) ?_
            refine lv_aload_n hx hb dX12_round_77 rfl (lv_at hl 0 rfl) ?_
            refine nr_get (own := RX12) (C := RX12) (T := TX12) (N := 19) (v := .ref (ad Γ (mo + 1))) hx hb hts hi_X12_round_X12 hown hw (by omega) (isM_0 hM) rfl 0 (by decide) wl_X12_round_1 rfl rfl dX12_round_78 ?_
            refine lv_bipush (v := nI 44) hx hb dX12_round_81 (by decide) ?_
            refine lv_iload hx hb dX12_round_83 (lv_at hl 5 rfl) ?_
            refine nr_iadd hx hb dX12_round_85 ?_
            refine nr_iald (x := (R (44 + k))) hx hb hw (by omega) (isM_1 hM) rfl (by omega) (by decide) dX12_round_86 ?_
            have hL16 := hB (44 + k)
            refine nr_ishl1 hx hb (by omega) dX12_round_87 ?_
            refine lv_goto (tgt := 92) hx hb dX12_round_88 (by decide) ?_
            refine nr_ior hx hb dX12_round_92 ?_
            refine lv_istore (lv' := [(4, .int (nI (t ||| (2 ^ (R (44 + k)))))), (0, .ref (ad Γ (mo + 0))), (1, .int (nI ji)), (2, .int (nI w)), (3, .int (nI q)), (5, .int (nI k))]) hx hb dX12_round_93 hl (by decide) rfl (fun ls hl => ?_)
            refine nr_inc (d := 1) (k := 5) (lv' := [(5, .int (nI (k + 1))), (4, .int (nI (t ||| (2 ^ (R (44 + k)))))), (0, .ref (ad Γ (mo + 0))), (1, .int (nI ji)), (2, .int (nI w)), (3, .int (nI q))]) hx hb dX12_round_95 hl rfl (by decide) (by decide) rfl (fun ls hl => ?_)
            refine lv_goto (tgt := 33) hx hb dX12_round_98 (by decide) ?_
            exact ih33 (k + 1, t ||| (2 ^ (R (44 + k)))) _ _ (lv_sub hl [2, 3, 4, 5, 1, 0] rfl) ⟨rfl, by (try dsimp only); omega, by (try dsimp only); rw [ht]; simp only [wrd]; first | rw [if_pos ⟨by assumption, by assumption⟩] | (rw [if_neg, Nat.or_zero]; intro hh; first | exact hh.1 (by assumption) | exact absurd hh.2 (by assumption))⟩ (by (try dsimp only); omega)
          · refine nr_if_eq (tgt := 91) hx hb (by decide) dX12_round_73 (by decide) (fun c17 => ?_) (fun c17 => absurd c17 (by decide))
            refine lv_iconst (v := nI 0) hx hb dX12_round_91 (by decide) ?_
            refine nr_ior hx hb dX12_round_92 ?_
            refine lv_istore (lv' := [(4, .int (nI (t ||| 0))), (0, .ref (ad Γ (mo + 0))), (1, .int (nI ji)), (2, .int (nI w)), (3, .int (nI q)), (5, .int (nI k))]) hx hb dX12_round_93 hl (by decide) rfl (fun ls hl => ?_)
            refine nr_inc (d := 1) (k := 5) (lv' := [(5, .int (nI (k + 1))), (4, .int (nI (t ||| 0))), (0, .ref (ad Γ (mo + 0))), (1, .int (nI ji)), (2, .int (nI w)), (3, .int (nI q))]) hx hb dX12_round_95 hl rfl (by decide) (by decide) rfl (fun ls hl => ?_)
            refine lv_goto (tgt := 33) hx hb dX12_round_98 (by decide) ?_
            exact ih33 (k + 1, t ||| 0) _ _ (lv_sub hl [2, 3, 4, 5, 1, 0] rfl) ⟨rfl, by (try dsimp only); omega, by (try dsimp only); rw [ht]; simp only [wrd]; first | rw [if_pos ⟨by assumption, by assumption⟩] | (rw [if_neg, Nat.or_zero]; intro hh; first | exact hh.1 (by assumption) | exact absurd hh.2 (by assumption))⟩ (by (try dsimp only); omega)
  · refine nr_if_ne (tgt := 15) hx hb (by decide) dX12_round_5 (by decide) (fun c18 => absurd c18 (by decide)) (fun c18 => ?_)
    refine lv_aload_n hx hb dX12_round_8 rfl (lv_at hl 0 rfl) ?_
    refine lv_bipush (v := (-2)) hx hb dX12_round_9 (by decide) ?_
    refine nr_goI (nr_runV (As := [.int (-2)]) (C := RX12) (T := TX12) (N := 19) ⟨hx, hb, hml, hown, hts⟩ hw (by omega) (isM_0 hM) rfl (c_X12_bad l Γ n G mo R K kp rf ca rc hd fw tl by0 an vl iv hM (by omega) hI hj (-2)) (cwV 1 hts gX12_round_X12_bad rfl rfl rfl (by decide +kernel) ⟨Nat.le_of_ble_eq_true rfl, Nat.le_of_ble_eq_true rfl⟩) rfl hl.1 rfl (Nat.le_of_ble_eq_true rfl) dX12_round_11 ⟨Nat.zero_le _, Nat.zero_le _⟩) hw hA hS (fun z19 G19 H locs hp hw hS => ?_)
    obtain ⟨ha19, hM, hfr19⟩ := hp
    have hfr := fr_tr hfr hfr19 (Nat.le_refl _) (Nat.le_refl _)
    subst ha19
    exact nr_retI hx hb hr hlocks hw hS (Or.inl ⟨by assumption, rfl, hM, hfr⟩) dX12_round_14
set_option maxHeartbeats 4000000 in
set_option maxRecDepth 100000 in
theorem c_X12_first (l : Launch) (Γ : Gam) (n : Nat) (G : Nat → va_E) (mo : Nat) (R K kp rf ca rc hd fw tl by0 an vl iv : Nat → Nat) (hM : isM Γ G mo R K kp rf ca rc hd fw tl by0 an vl iv) (hmo : mo + 13 ≤ n) (hI : vI R) (hj : winj Γ n) (a b : Int32)  : Met l yX12_first wsX12_first ({ frames := 3, cells := 0, slots := 0, locals := 66 }) (va_Pc [.ref (ad Γ (mo + 0)), .int a, .int b] (fun U => hw Γ n G U U.heap)) (wQi Γ n (fun z G2 => ((¬ (vBel (R 0) a ∧ vBel (R 0) b ∧ ¬ a = b)) ∧ (z = -2) ∧ isM Γ G2 mo R K kp (bmp rf 0) ca rc hd fw tl by0 an vl iv ∧ fr G G2 mo (mo + 13)) ∨ (∃ ja jb : Nat, (ja < R 0) ∧ (a = nI ja) ∧ (jb < R 0) ∧ (b = nI jb) ∧ (¬ ja = jb) ∧ (z = nI (restV (if (if rL R ja < 3 then 11 else 2) = 11 then 1 else 0) (if (if rL R jb < 3 then 11 else 2) = 11 then 1 else 0))) ∧ isM Γ G2 mo R K kp rf ca rc hd fw tl by0 an vl iv ∧ fr G G2 mo (mo + 13)))) 0 0 (wA Γ n) := by
  refine Met.ofW (cc := cX12_first) (maxL := 10) (ret := (some .int)) (by decide) rfl ?_
  intro p e s m args below meth c s₁ B hml hv
  obtain ⟨rfl, hw⟩ := hv
  have hx := B.exec
  have hb := B.bytes
  have hr := B.returns
  have hts := atoms_spec (ws := wsX12_first) B.pre
  have hown : s.vm.findClass RX12 = some m.cls := findClass_of_methodNamed B.named
  have hlocks := B.notSynchronized
  have hS : va_S (wA Γ n) s.heap s.heap [] := va_S.rf
  have hA : ∀ q, wA Γ n q → wA Γ n q := fun _ h => h
  have hl := lv_entry ([.ref (ad Γ (mo + 0)), .int a, .int b]) (n := 10) (Nat.le_of_ble_eq_true rfl)
  rw [lg_entry_eq]
  generalize (lg_sl ([.ref (ad Γ (mo + 0)), .int a, .int b]) ++ List.replicate (10 - (lg_sl ([.ref (ad Γ (mo + 0)), .int a, .int b])).length) Slot.unset).toArray = ls at hl ⊢
  have hl : lv_has ls 10 [(0, .ref (ad Γ (mo + 0))), (1, .int a), (2, .int b)] := hl
  have hfr := fr_rf G mo (mo + 13)
  have hB := hI.1
  have hB0 := hI.2.1
  have hB1 := hI.2.2.1
  have hB20 := hI.2.2.2.2.2.2.2.2.2
  have hBz2 := hI.2.2.2.1
  have hBz3 := hI.2.2.2.2.1
  have hBz4 := hI.2.2.2.2.2.1
  have hBz5 := hI.2.2.2.2.2.2.1
  have hby := hI.2.2.2.2.2.2.2.1
  have hto := hI.2.2.2.2.2.2.2.2.1
  refine lv_aload_n hx hb dX12_first_0 rfl (lv_at hl 0 rfl) ?_
  refine lv_iload_n hx hb dX12_first_1 rfl (lv_at hl 1 rfl) ?_
  refine nr_goB (P := ∃ j, j < R 0 ∧ a = nI j) (nr_runV (As := [.int a]) (C := RX12) (T := TX12) (N := 19) ⟨hx, hb, hml, hown, hts⟩ hw (by omega) (isM_0 hM) rfl (c_X12_isOne l Γ n G mo R K kp rf ca rc hd fw tl by0 an vl iv hM (by omega) hI a) (cwV 1 hts gX12_first_X12_isOne rfl rfl rfl (by decide +kernel) ⟨Nat.le_of_ble_eq_true rfl, Nat.le_of_ble_eq_true rfl⟩) rfl hl.1 rfl (Nat.le_of_ble_eq_true rfl) dX12_first_2 ⟨Nat.zero_le _, Nat.zero_le _⟩) (fun b1 => ?_) (fun b1 => ?_)
  · obtain ⟨ja, hja_, rfl⟩ := b1
    refine nr_if_eq (tgt := 21) hx hb (by decide) dX12_first_5 (by decide) (fun c2 => absurd c2 (by decide)) (fun c2 => ?_)
    refine lv_aload_n hx hb dX12_first_8 rfl (lv_at hl 0 rfl) ?_
    refine lv_iload_n hx hb dX12_first_9 rfl (lv_at hl 2 rfl) ?_
    refine nr_goB (P := ∃ j, j < R 0 ∧ b = nI j) (nr_runV (As := [.int b]) (C := RX12) (T := TX12) (N := 19) ⟨hx, hb, hml, hown, hts⟩ hw (by omega) (isM_0 hM) rfl (c_X12_isOne l Γ n G mo R K kp rf ca rc hd fw tl by0 an vl iv hM (by omega) hI b) (cwV 1 hts gX12_first_X12_isOne rfl rfl rfl (by decide +kernel) ⟨Nat.le_of_ble_eq_true rfl, Nat.le_of_ble_eq_true rfl⟩) rfl hl.1 rfl (Nat.le_of_ble_eq_true rfl) dX12_first_10 ⟨Nat.zero_le _, Nat.zero_le _⟩) (fun b3 => ?_) (fun b3 => ?_)
    · obtain ⟨jb, hjb_, rfl⟩ := b3
      refine nr_if_eq (tgt := 21) hx hb (by decide) dX12_first_13 (by decide) (fun c4 => absurd c4 (by decide)) (fun c4 => ?_)
      refine lv_iload_n hx hb dX12_first_16 rfl (lv_at hl 1 rfl) ?_
      refine lv_iload_n hx hb dX12_first_17 rfl (lv_at hl 2 rfl) ?_
      refine nr_icmp_ne (tgt := 28) hx hb (by omega) (by omega) dX12_first_18 (by decide) (fun c5 => ?_) (fun c5 => ?_)
      · refine lv_aload_n hx hb dX12_first_28 rfl (lv_at hl 0 rfl) ?_
        refine lv_iload_n hx hb dX12_first_29 rfl (lv_at hl 1 rfl) ?_
        refine nr_goS (nr_runV (As := [.int (nI ja)]) (C := RX12) (T := TX12) (N := 19) ⟨hx, hb, hml, hown, hts⟩ hw (by omega) (isM_0 hM) rfl (c_X12_costsOf l Γ n G mo R K kp rf ca rc hd fw tl by0 an vl iv hM (by omega) hI ja (by omega)) (cwV 1 hts gX12_first_X12_costsOf rfl rfl rfl (by decide +kernel) ⟨Nat.le_of_ble_eq_true rfl, Nat.le_of_ble_eq_true rfl⟩) rfl hl.1 rfl (Nat.le_of_ble_eq_true rfl) dX12_first_30 ⟨Nat.zero_le _, Nat.zero_le _⟩) (fun r6 hr6 => ?_)
        obtain rfl : r6 = (nI (if rL R ja < 3 then 11 else 2)) := hr6
        refine lv_istore_n (lv' := [(3, .int (nI (if rL R ja < 3 then 11 else 2))), (0, .ref (ad Γ (mo + 0))), (1, .int (nI ja)), (2, .int (nI jb))]) hx hb dX12_first_33 rfl hl (by decide) rfl (fun ls hl => ?_)
        refine lv_aload_n hx hb dX12_first_34 rfl (lv_at hl 1 rfl) ?_
        refine lv_iload_n hx hb dX12_first_35 rfl (lv_at hl 3 rfl) ?_
        refine nr_goS (nr_runV (As := [.int (nI jb)]) (C := RX12) (T := TX12) (N := 19) ⟨hx, hb, hml, hown, hts⟩ hw (by omega) (isM_0 hM) rfl (c_X12_costsOf l Γ n G mo R K kp rf ca rc hd fw tl by0 an vl iv hM (by omega) hI jb (by omega)) (cwV 1 hts gX12_first_X12_costsOf rfl rfl rfl (by decide +kernel) ⟨Nat.le_of_ble_eq_true rfl, Nat.le_of_ble_eq_true rfl⟩) rfl hl.1 rfl (Nat.le_of_ble_eq_true rfl) dX12_first_36 ⟨Nat.zero_le _, Nat.zero_le _⟩) (fun r7 hr7 => ?_)
        obtain rfl : r7 = (nI (if rL R jb < 3 then 11 else 2)) := hr7
        refine lv_istore (lv' := [(4, .int (nI (if rL R jb < 3 then 11 else 2))), (3, .int (nI (if rL R ja < 3 then 11 else 2))), (0, .ref (ad Γ (mo + 0))), (1, .int (nI ja)), (2, .int (nI jb))]) hx hb dX12_first_39 hl (by decide) rfl (fun ls hl => ?_)
        refine lv_iconst (v := nI 0) hx hb dX12_first_41 (by decide) ?_
        refine lv_istore (lv' := [(5, .int (nI 0)), (4, .int (nI (if rL R jb < 3 then 11 else 2))), (3, .int (nI (if rL R ja < 3 then 11 else 2))), (0, .ref (ad Γ (mo + 0))), (1, .int (nI ja)), (2, .int (nI jb))]) hx hb dX12_first_42 hl (by decide) rfl (fun ls hl => ?_)
        refine lv_iconst (v := nI 0) hx hb dX12_first_44 (by decide) ?_
        refine lv_istore (lv' := [(6, .int (nI 0)), (5, .int (nI 0)), (4, .int (nI (if rL R jb < 3 then 11 else 2))), (3, .int (nI (if rL R ja < 3 then 11 else 2))), (0, .ref (ad Γ (mo + 0))), (1, .int (nI ja)), (2, .int (nI jb))]) hx hb dX12_first_45 hl (by decide) rfl (fun ls hl => ?_)
        refine nr_lp (σ := Nat × Nat) (pc := 47) (fun x lv => lv = [(0, .ref (ad Γ (mo + 0))), (1, .int (nI ja)), (2, .int (nI jb)), (3, .int (nI (if rL R ja < 3 then 11 else 2))), (4, .int (nI (if rL R jb < 3 then 11 else 2))), (5, .int (nI x.2)), (6, .int (nI x.1))] ∧ (x.1 ≤ 4) ∧ (x.2 < 16) ∧ (∀ j, j < x.1 → (bt x.2 j ↔ gainV (j % 2) (j / 2) (if (if rL R ja < 3 then 11 else 2) = 11 then 1 else 0) ≥ gainV (1 - j % 2) (j / 2) (if (if rL R ja < 3 then 11 else 2) = 11 then 1 else 0) ∧ gainV (j / 2) (j % 2) (if (if rL R jb < 3 then 11 else 2) = 11 then 1 else 0) ≥ gainV (1 - j / 2) (j % 2) (if (if rL R jb < 3 then 11 else 2) = 11 then 1 else 0))) ∧ (∀ j, x.1 ≤ j → ¬ bt x.2 j)) (fun x => 4 - x.1) (0, 0) (lv_sub hl [4, 5, 6, 3, 2, 1, 0] rfl) ⟨rfl, by (try dsimp only); omega, by (try dsimp only); omega, by (try dsimp only); exact (fun j hj => absurd hj (Nat.not_lt_zero j)), by (try dsimp only); exact (fun j _ => bt_0 j)⟩ ?_
        intro x lv ls hl hI ih47
        obtain ⟨q, f⟩ := x
        obtain ⟨rfl, hq, hf, hfb, hfz⟩ := hI
        try dsimp only at hq hf hfb hfz hl ih47
        refine lv_iload hx hb dX12_first_47 (lv_at hl 6 rfl) ?_
        refine lv_iconst (v := nI 4) hx hb dX12_first_49 (by decide) ?_
        refine nr_icmp_ge (tgt := 140) hx hb (by omega) (by decide) dX12_first_50 (by decide) (fun c8 => ?_) (fun c8 => ?_)
        · refine lv_iload hx hb dX12_first_140 (lv_at hl 5 rfl) ?_
          exact nr_retI hx hb hr hlocks hw hS (Or.inr (⟨ja, jb, hja_, rfl, hjb_, rfl, by assumption, congrArg nI (restT _ _ f hf (fun j hj => hfb j (by omega))), hM, hfr⟩)) dX12_first_142
        · refine lv_iload hx hb dX12_first_53 (lv_at hl 6 rfl) ?_
          refine lv_iconst (v := nI 1) hx hb dX12_first_55 (by decide) ?_
          refine nr_iand1 hx hb dX12_first_56 ?_
          refine lv_istore (lv' := [(7, .int (nI (q % 2))), (0, .ref (ad Γ (mo + 0))), (1, .int (nI ja)), (2, .int (nI jb)), (3, .int (nI (if rL R ja < 3 then 11 else 2))), (4, .int (nI (if rL R jb < 3 then 11 else 2))), (5, .int (nI f)), (6, .int (nI q))]) hx hb dX12_first_57 hl (by decide) rfl (fun ls hl => ?_)
          refine lv_iload hx hb dX12_first_59 (lv_at hl 7 rfl) ?_
          refine lv_iconst (v := nI 1) hx hb dX12_first_61 (by decide) ?_
          refine nr_ishr hx hb (by omega) (by omega) dX12_first_62 ?_
          refine lv_istore (lv' := [(8, .int (nI (q / 2 ^ 1))), (7, .int (nI (q % 2))), (0, .ref (ad Γ (mo + 0))), (1, .int (nI ja)), (2, .int (nI jb)), (3, .int (nI (if rL R ja < 3 then 11 else 2))), (4, .int (nI (if rL R jb < 3 then 11 else 2))), (5, .int (nI f)), (6, .int (nI q))]) hx hb dX12_first_63 hl (by decide) rfl (fun ls hl => ?_)
          refine lv_iload hx hb dX12_first_65 (lv_at hl 1 rfl) ?_
          refine lv_iload hx hb dX12_first_67 (lv_at hl 0 rfl) ?_
          refine lv_iload_n hx hb dX12_first_69 rfl (lv_at hl 5 rfl) ?_
          refine nr_goS (nr_runS (As := [.int (nI (q % 2)), .int (nI (q / 2 ^ 1)), .int (nI (if rL R ja < 3 then 11 else 2))]) ⟨hx, hb, hml, hown, hts⟩ hw (c_X12_getsBy l Γ n G (q % 2) (q / 2 ^ 1) (if rL R ja < 3 then 11 else 2) (by omega) (by omega) (by split <;> omega)) (va_cwS 3 hts gX12_first_X12_getsBy rfl rfl rfl (by decide +kernel) ⟨Nat.le_of_ble_eq_true rfl, Nat.le_of_ble_eq_true rfl⟩) rfl hl.1 rfl (Nat.le_of_ble_eq_true rfl) dX12_first_70 ⟨Nat.zero_le _, Nat.zero_le _⟩) (fun r9 hr9 => ?_)
          obtain rfl : r9 = (gainV (q % 2) (q / 2 ^ 1) (if (if rL R ja < 3 then 11 else 2) = 11 then 1 else 0)) := hr9
          refine lv_iconst (v := nI 1) hx hb dX12_first_73 (by decide) ?_
          refine lv_iload hx hb dX12_first_74 (lv_at hl 1 rfl) ?_
          refine nr_isub hx hb (by omega) dX12_first_76 ?_
          refine lv_iload hx hb dX12_first_77 (lv_at hl 0 rfl) ?_
          refine lv_iload_n hx hb dX12_first_79 rfl (lv_at hl 5 rfl) ?_
          refine nr_goS (nr_runS (As := [.int (nI (1 - (q % 2))), .int (nI (q / 2 ^ 1)), .int (nI (if rL R ja < 3 then 11 else 2))]) ⟨hx, hb, hml, hown, hts⟩ hw (c_X12_getsBy l Γ n G (1 - (q % 2)) (q / 2 ^ 1) (if rL R ja < 3 then 11 else 2) (by omega) (by omega) (by split <;> omega)) (va_cwS 3 hts gX12_first_X12_getsBy rfl rfl rfl (by decide +kernel) ⟨Nat.le_of_ble_eq_true rfl, Nat.le_of_ble_eq_true rfl⟩) rfl hl.1 rfl (Nat.le_of_ble_eq_true rfl) dX12_first_80 ⟨Nat.zero_le _, Nat.zero_le _⟩) (fun r10 hr10 => ?_)
          obtain rfl : r10 = (gainV (1 - (q % 2)) (q / 2 ^ 1) (if (if rL R ja < 3 then 11 else 2) = 11 then 1 else 0)) := hr10
          refine lv_icmp_lt (tgt := 113) hx hb dX12_first_83 (by decide) (fun c11 => ?_) (fun c11 => ?_)
          · refine lv_iconst (v := nI 0) hx hb dX12_first_113 (by decide) ?_
            refine lv_istore (lv' := [(9, .int (nI 0)), (8, .int (nI (q / 2 ^ 1))), (7, .int (nI (q % 2))), (0, .ref (ad Γ (mo + 0))), (1, .int (nI ja)), (2, .int (nI jb)), (3, .int (nI (if rL R ja < 3 then 11 else 2))), (4, .int (nI (if rL R jb < 3 then 11 else 2))), (5, .int (nI f)), (6, .int (nI q))]) hx hb dX12_first_114 hl (by decide) rfl (fun ls hl => ?_)
            refine lv_iload hx hb dX12_first_116 (lv_at hl 8 rfl) ?_
            refine lv_iload hx hb dX12_first_118 (lv_at hl 0 rfl) ?_
            refine nr_if_eq (tgt := 130) hx hb (by decide) dX12_first_120 (by decide) (fun c12 => ?_) (fun c12 => absurd c12 (by decide))
            refine lv_iconst (v := nI 0) hx hb dX12_first_130 (by decide) ?_
            refine nr_ior hx hb dX12_first_131 ?_
            refine lv_istore (lv' := [(5, .int (nI (f ||| 0))), (9, .int (nI 0)), (8, .int (nI (q / 2 ^ 1))), (7, .int (nI (q % 2))), (0, .ref (ad Γ (mo + 0))), (1, .int (nI ja)), (2, .int (nI jb)), (3, .int (nI (if rL R ja < 3 then 11 else 2))), (4, .int (nI (if rL R jb < 3 then 11 else 2))), (6, .int (nI q))]) hx hb dX12_first_132 hl (by decide) rfl (fun ls hl => ?_)
            refine nr_inc (d := 1) (k := 9) (lv' := [(6, .int (nI (q + 1))), (5, .int (nI (f ||| 0))), (9, .int (nI 0)), (8, .int (nI (q / 2 ^ 1))), (7, .int (nI (q % 2))), (0, .ref (ad Γ (mo + 0))), (1, .int (nI ja)), (2, .int (nI jb)), (3, .int (nI (if rL R ja < 3 then 11 else 2))), (4, .int (nI (if rL R jb < 3 then 11 else 2)))]) hx hb dX12_first_134 hl rfl (by decide) (by decide) rfl (fun ls hl => ?_)
            refine lv_goto (tgt := 47) hx hb dX12_first_137 (by decide) ?_
            exact ih47 (q + 1, f ||| 0) _ _ (lv_sub hl [5, 6, 7, 8, 9, 1, 0] rfl) ⟨rfl, by (try dsimp only); omega, by (try dsimp only); first | (rw [Nat.or_zero]; exact hf) | exact Nat.or_lt_two_pow (n := 4) hf (Nat.pow_lt_pow_right (by omega) (by omega)), by (try dsimp only); exact (fun j hj => by
          first
          | (rw [bt_or]
             rcases Nat.lt_or_eq_of_le (Nat.le_of_lt_succ hj) with z | z
             · rw [← hfb j z]; exact ⟨fun y => y.elim id (fun y2 => absurd y2 (by omega)), Or.inl⟩
             · subst z; exact ⟨fun _ => ⟨Int32.not_lt.mp (by assumption), Int32.not_lt.mp (by assumption)⟩, fun _ => Or.inr rfl⟩)
          | (rw [Nat.or_zero]
             rcases Nat.lt_or_eq_of_le (Nat.le_of_lt_succ hj) with z | z
             · exact hfb j z
             · subst z; exact ⟨fun y => absurd y (hfz j (Nat.le_refl _)), fun y => by first | exact absurd y.1 (Int32.not_le.mpr (by assumption)) | exact absurd y.2 (Int32.not_le.mpr (by assumption))⟩)), by (try dsimp only); exact (fun j hj => by
          first
          | (rw [bt_or]; exact fun y => y.elim (hfz j (by omega)) (fun y2 => by omega))
          | (rw [Nat.or_zero]; exact hfz j (by omega)))⟩ (by (try dsimp only); omega)
          · refine lv_iload hx hb dX12_first_86 (lv_at hl 0 rfl) ?_
            refine lv_iload hx hb dX12_first_88 (lv_at hl 1 rfl) ?_
            refine lv_iload hx hb dX12_first_90 (lv_at hl 6 rfl) ?_
            refine nr_goS (nr_runS (As := [.int (nI (q / 2 ^ 1)), .int (nI (q % 2)), .int (nI (if rL R jb < 3 then 11 else 2))]) ⟨hx, hb, hml, hown, hts⟩ hw (c_X12_getsBy l Γ n G (q / 2 ^ 1) (q % 2) (if rL R jb < 3 then 11 else 2) (by omega) (by omega) (by split <;> omega)) (va_cwS 3 hts gX12_first_X12_getsBy rfl rfl rfl (by decide +kernel) ⟨Nat.le_of_ble_eq_true rfl, Nat.le_of_ble_eq_true rfl⟩) rfl hl.1 rfl (Nat.le_of_ble_eq_true rfl) dX12_first_92 ⟨Nat.zero_le _, Nat.zero_le _⟩) (fun r13 hr13 => ?_)
            obtain rfl : r13 = (gainV (q / 2 ^ 1) (q % 2) (if (if rL R jb < 3 then 11 else 2) = 11 then 1 else 0)) := hr13
            refine lv_iconst (v := nI 1) hx hb dX12_first_95 (by decide) ?_
            refine lv_iload hx hb dX12_first_96 (lv_at hl 0 rfl) ?_
            refine nr_isub hx hb (by omega) dX12_first_98 ?_
            refine lv_iload hx hb dX12_first_99 (lv_at hl 1 rfl) ?_
            refine lv_iload hx hb dX12_first_101 (lv_at hl 6 rfl) ?_
            refine nr_goS (nr_runS (As := [.int (nI (1 - (q / 2 ^ 1))), .int (nI (q % 2)), .int (nI (if rL R jb < 3 then 11 else 2))]) ⟨hx, hb, hml, hown, hts⟩ hw (c_X12_getsBy l Γ n G (1 - (q / 2 ^ 1)) (q % 2) (if rL R jb < 3 then 11 else 2) (by omega) (by omega) (by split <;> omega)) (va_cwS 3 hts gX12_first_X12_getsBy rfl rfl rfl (by decide +kernel) ⟨Nat.le_of_ble_eq_true rfl, Nat.le_of_ble_eq_true rfl⟩) rfl hl.1 rfl (Nat.le_of_ble_eq_true rfl) dX12_first_103 ⟨Nat.zero_le _, Nat.zero_le _⟩) (fun r14 hr14 => ?_)
            obtain rfl : r14 = (gainV (1 - (q / 2 ^ 1)) (q % 2) (if (if rL R jb < 3 then 11 else 2) = 11 then 1 else 0)) := hr14
            refine lv_icmp_lt (tgt := 113) hx hb dX12_first_106 (by decide) (fun c15 => ?_) (fun c15 => ?_)
            · refine lv_iconst (v := nI 0) hx hb dX12_first_113 (by decide) ?_
              refine lv_istore (lv' := [(9, .int (nI 0)), (8, .int (nI (q / 2 ^ 1))), (7, .int (nI (q % 2))), (0, .ref (ad Γ (mo + 0))), (1, .int (nI ja)), (2, .int (nI jb)), (3, .int (nI (if rL R ja < 3 then 11 else 2))), (4, .int (nI (if rL R jb < 3 then 11 else 2))), (5, .int (nI f)), (6, .int (nI q))]) hx hb dX12_first_114 hl (by decide) rfl (fun ls hl => ?_)
              refine lv_iload hx hb dX12_first_116 (lv_at hl 8 rfl) ?_
              refine lv_iload hx hb dX12_first_118 (lv_at hl 0 rfl) ?_
              refine nr_if_eq (tgt := 130) hx hb (by decide) dX12_first_120 (by decide) (fun c16 => ?_) (fun c16 => absurd c16 (by decide))
              refine lv_iconst (v := nI 0) hx hb dX12_first_130 (by decide) ?_
              refine nr_ior hx hb dX12_first_131 ?_
              refine lv_istore (lv' := [(5, .int (nI (f ||| 0))), (9, .int (nI 0)), (8, .int (nI (q / 2 ^ 1))), (7, .int (nI (q % 2))), (0, .ref (ad Γ (mo + 0))), (1, .int (nI ja)), (2, .int (nI jb)), (3, .int (nI (if rL R ja < 3 then 11 else 2))), (4, .int (nI (if rL R jb < 3 then 11 else 2))), (6, .int (nI q))]) hx hb dX12_first_132 hl (by decide) rfl (fun ls hl => ?_)
              refine nr_inc (d := 1) (k := 9) (lv' := [(6, .int (nI (q + 1))), (5, .int (nI (f ||| 0))), (9, .int (nI 0)), (8, .int (nI (q / 2 ^ 1))), (7, .int (nI (q % 2))), (0, .ref (ad Γ (mo + 0))), (1, .int (nI ja)), (2, .int (nI jb)), (3, .int (nI (if rL R ja < 3 then 11 else 2))), (4, .int (nI (if rL R jb < 3 then 11 else 2)))]) hx hb dX12_first_134 hl rfl (by decide) (by decide) rfl (fun ls hl => ?_)
              refine lv_goto (tgt := 47) hx hb dX12_first_137 (by decide) ?_
              exact ih47 (q + 1, f ||| 0) _ _ (lv_sub hl [5, 6, 7, 8, 9, 1, 0] rfl) ⟨rfl, by (try dsimp only); omega, by (try dsimp only); first | (rw [Nat.or_zero]; exact hf) | exact Nat.or_lt_two_pow (n := 4) hf (Nat.pow_lt_pow_right (by omega) (by omega)), by (try dsimp only); exact (fun j hj => by
          first
          | (rw [bt_or]
             rcases Nat.lt_or_eq_of_le (Nat.le_of_lt_succ hj) with z | z
             · rw [← hfb j z]; exact ⟨fun y => y.elim id (fun y2 => absurd y2 (by omega)), Or.inl⟩
             · subst z; exact ⟨fun _ => ⟨Int32.not_lt.mp (by assumption), Int32.not_lt.mp (by assumption)⟩, fun _ => Or.inr rfl⟩)
          | (rw [Nat.or_zero]
             rcases Nat.lt_or_eq_of_le (Nat.le_of_lt_succ hj) with z | z
             · exact hfb j z
             · subst z; exact ⟨fun y => absurd y (hfz j (Nat.le_refl _)), fun y => by first | exact absurd y.1 (Int32.not_le.mpr (by assumption)) | exact absurd y.2 (Int32.not_le.mpr (by assumption))⟩)), by (try dsimp only); exact (fun j hj => by
          first
          | (rw [bt_or]; exact fun y => y.elim (hfz j (by omega)) (fun y2 => by omega))
          | (rw [Nat.or_zero]; exact hfz j (by omega)))⟩ (by (try dsimp only); omega)
            · refine lv_iconst (v := nI 1) hx hb dX12_first_109 (by decide) ?_
              refine lv_goto (tgt := 114) hx hb dX12_first_110 (by decide) ?_
              refine lv_istore (lv' := [(9, .int (nI 1)), (8, .int (nI (q / 2 ^ 1))), (7, .int (nI (q % 2))), (0, .ref (ad Γ (mo + 0))), (1, .int (nI ja)), (2, .int (nI jb)), (3, .int (nI (if rL R ja < 3 then 11 else 2))), (4, .int (nI (if rL R jb < 3 then 11 else 2))), (5, .int (nI f)), (6, .int (nI q))]) hx hb dX12_first_114 hl (by decide) rfl (fun ls hl => ?_)
              refine lv_iload hx hb dX12_first_116 (lv_at hl 8 rfl) ?_
              refine lv_iload hx hb dX12_first_118 (lv_at hl 0 rfl) ?_
              refine nr_if_eq (tgt := 130) hx hb (by decide) dX12_first_120 (by decide) (fun c17 => absurd c17 (by decide)) (fun c17 => ?_)
              refine lv_iconst (v := nI 1) hx hb dX12_first_123 (by decide) ?_
              refine lv_iload hx hb dX12_first_124 (lv_at hl 9 rfl) ?_
              refine nr_ishl1 hx hb (by omega) dX12_first_126 ?_
              refine lv_goto (tgt := 131) hx hb dX12_first_127 (by decide) ?_
              refine nr_ior hx hb dX12_first_131 ?_
              refine lv_istore (lv' := [(5, .int (nI (f ||| (2 ^ q)))), (9, .int (nI 1)), (8, .int (nI (q / 2 ^ 1))), (7, .int (nI (q % 2))), (0, .ref (ad Γ (mo + 0))), (1, .int (nI ja)), (2, .int (nI jb)), (3, .int (nI (if rL R ja < 3 then 11 else 2))), (4, .int (nI (if rL R jb < 3 then 11 else 2))), (6, .int (nI q))]) hx hb dX12_first_132 hl (by decide) rfl (fun ls hl => ?_)
              refine nr_inc (d := 1) (k := 9) (lv' := [(6, .int (nI (q + 1))), (5, .int (nI (f ||| (2 ^ q)))), (9, .int (nI 1)), (8, .int (nI (q / 2 ^ 1))), (7, .int (nI (q % 2))), (0, .ref (ad Γ (mo + 0))), (1, .int (nI ja)), (2, .int (nI jb)), (3, .int (nI (if rL R ja < 3 then 11 else 2))), (4, .int (nI (if rL R jb < 3 then 11 else 2)))]) hx hb dX12_first_134 hl rfl (by decide) (by decide) rfl (fun ls hl => ?_)
              refine lv_goto (tgt := 47) hx hb dX12_first_137 (by decide) ?_
              exact ih47 (q + 1, f ||| (2 ^ q)) _ _ (lv_sub hl [5, 6, 7, 8, 9, 1, 0] rfl) ⟨rfl, by (try dsimp only); omega, by (try dsimp only); first | (rw [Nat.or_zero]; exact hf) | exact Nat.or_lt_two_pow (n := 4) hf (Nat.pow_lt_pow_right (by omega) (by omega)), by (try dsimp only); exact (fun j hj => by
          first
          | (rw [bt_or]
             rcases Nat.lt_or_eq_of_le (Nat.le_of_lt_succ hj) with z | z
             · rw [← hfb j z]; exact ⟨fun y => y.elim id (fun y2 => absurd y2 (by omega)), Or.inl⟩
             · subst z; exact ⟨fun _ => ⟨Int32.not_lt.mp (by assumption), Int32.not_lt.mp (by assumption)⟩, fun _ => Or.inr rfl⟩)
          | (rw [Nat.or_zero]
             rcases Nat.lt_or_eq_of_le (Nat.le_of_lt_succ hj) with z | z
             · exact hfb j z
             · subst z; exact ⟨fun y => absurd y (hfz j (Nat.le_refl _)), fun y => by first | exact absurd y.1 (Int32.not_le.mpr (by assumption)) | exact absurd y.2 (Int32.not_le.mpr (by assumption))⟩)), by (try dsimp only); exact (fun j hj => by
          first
          | (rw [bt_or]; exact fun y => y.elim (hfz j (by omega)) (fun y2 => by omega))
          | (rw [Nat.or_zero]; exact hfz j (by omega)))⟩ (by (try dsimp only); omega)
      · refine lv_aload_n hx hb dX12_first_21 rfl (lv_at hl 0 rfl) ?_
        refine lv_bipush (v := (-2)) hx hb dX12_first_22 (by decide) ?_
        refine nr_goI (nr_runV (As := [.int (-2)]) (C := RX12) (T := TX12) (N := 19) ⟨hx, hb, hml, hown, hts⟩ hw (by omega) (isM_0 hM) rfl (c_X12_bad l Γ n G mo R K kp rf ca rc hd fw tl by0 an vl iv hM (by omega) hI hj (-2)) (cwV 1 hts gX12_first_X12_bad rfl rfl rfl (by decide +kernel) ⟨Nat.le_of_ble_eq_true rfl, Nat.le_of_ble_eq_true rfl⟩) rfl hl.1 rfl (Nat.le_of_ble_eq_true rfl) dX12_first_24 ⟨Nat.zero_le _, Nat.zero_le _⟩) hw hA hS (fun z18 G18 H locs hp hw hS => ?_)
        obtain ⟨ha18, hM, hfr18⟩ := hp
        have hfr := fr_tr hfr hfr18 (Nat.le_refl _) (Nat.le_refl _)
        subst ha18
        exact nr_retI hx hb hr hlocks hw hS (Or.inl ⟨by intro hh; first | exact absurd hh.1 (by assumption) | exact absurd hh.2.1 (by assumption) | exact hh.2.2 (congrArg nI (by assumption)), rfl, hM, hfr⟩) dX12_first_27
    · refine nr_if_eq (tgt := 21) hx hb (by decide) dX12_first_13 (by decide) (fun c19 => ?_) (fun c19 => absurd c19 (by decide))
      refine lv_aload_n hx hb dX12_first_21 rfl (lv_at hl 0 rfl) ?_
      refine lv_bipush (v := (-2)) hx hb dX12_first_22 (by decide) ?_
      refine nr_goI (nr_runV (As := [.int (-2)]) (C := RX12) (T := TX12) (N := 19) ⟨hx, hb, hml, hown, hts⟩ hw (by omega) (isM_0 hM) rfl (c_X12_bad l Γ n G mo R K kp rf ca rc hd fw tl by0 an vl iv hM (by omega) hI hj (-2)) (cwV 1 hts gX12_first_X12_bad rfl rfl rfl (by decide +kernel) ⟨Nat.le_of_ble_eq_true rfl, Nat.le_of_ble_eq_true rfl⟩) rfl hl.1 rfl (Nat.le_of_ble_eq_true rfl) dX12_first_24 ⟨Nat.zero_le _, Nat.zero_le _⟩) hw hA hS (fun z20 G20 H locs hp hw hS => ?_)
      obtain ⟨ha20, hM, hfr20⟩ := hp
      have hfr := fr_tr hfr hfr20 (Nat.le_refl _) (Nat.le_refl _)
      subst ha20
      exact nr_retI hx hb hr hlocks hw hS (Or.inl ⟨by intro hh; first | exact absurd hh.1 (by assumption) | exact absurd hh.2.1 (by assumption) | exact hh.2.2 (congrArg nI (by assumption)), rfl, hM, hfr⟩) dX12_first_27
  · refine nr_if_eq (tgt := 21) hx hb (by decide) dX12_first_5 (by decide) (fun c21 => ?_) (fun c21 => absurd c21 (by decide))
    refine lv_aload_n hx hb dX12_first_21 rfl (lv_at hl 0 rfl) ?_
    refine lv_bipush (v := (-2)) hx hb dX12_first_22 (by decide) ?_
    refine nr_goI (nr_runV (As := [.int (-2)]) (C := RX12) (T := TX12) (N := 19) ⟨hx, hb, hml, hown, hts⟩ hw (by omega) (isM_0 hM) rfl (c_X12_bad l Γ n G mo R K kp rf ca rc hd fw tl by0 an vl iv hM (by omega) hI hj (-2)) (cwV 1 hts gX12_first_X12_bad rfl rfl rfl (by decide +kernel) ⟨Nat.le_of_ble_eq_true rfl, Nat.le_of_ble_eq_true rfl⟩) rfl hl.1 rfl (Nat.le_of_ble_eq_true rfl) dX12_first_24 ⟨Nat.zero_le _, Nat.zero_le _⟩) hw hA hS (fun z22 G22 H locs hp hw hS => ?_)
    obtain ⟨ha22, hM, hfr22⟩ := hp
    have hfr := fr_tr hfr hfr22 (Nat.le_refl _) (Nat.le_refl _)
    subst ha22
    exact nr_retI hx hb hr hlocks hw hS (Or.inl ⟨by intro hh; first | exact absurd hh.1 (by assumption) | exact absurd hh.2.1 (by assumption) | exact hh.2.2 (congrArg nI (by assumption)), rfl, hM, hfr⟩) dX12_first_27
theorem wl_X12_digest_1 : Cond.constantLong RX12 287 (1693) ∈ wsX12_digest := List.mem_of_getElem? (i := 1) rfl
theorem wl_X12_digest_2 : Cond.constantLong RX12 285 (31) ∈ wsX12_digest := List.mem_of_getElem? (i := 2) rfl
theorem wl_X12_digest_3 : Cond.fieldLink RX12 7 "BellForgivenModel" "all" "[I" ∈ wsX12_digest := List.mem_of_getElem? (i := 3) rfl
theorem wl_X12_digest_4 : Cond.fieldLink RX12 198 "BellForgivenModel" "above" "J" ∈ wsX12_digest := List.mem_of_getElem? (i := 4) rfl
theorem wl_X12_digest_5 : Cond.fieldLink RX12 23 "BellForgivenModel" "below" "J" ∈ wsX12_digest := List.mem_of_getElem? (i := 5) rfl
theorem hi_X12_digest_X12 : ∀ w ∈ u_ws RX12 TX12 19, w ∈ wsX12_digest := fun w h => (List.mem_cons_of_mem _ (List.mem_append_right _ h))
set_option maxHeartbeats 4000000 in
set_option maxRecDepth 100000 in
theorem c_X12_digest (l : Launch) (Γ : Gam) (n : Nat) (G : Nat → va_E) (mo : Nat) (R K kp rf ca rc hd fw tl by0 an vl iv : Nat → Nat) (hM : isM Γ G mo R K kp rf ca rc hd fw tl by0 an vl iv) (hmo : mo + 13 ≤ n) (hI : vI R) (hiv : iv 0 ≤ 150)  : Met l yX12_digest wsX12_digest ({ frames := 3, cells := 0, slots := 0, locals := 68 }) (va_Pc [.ref (ad Γ (mo + 0))] (fun U => hw Γ n G U U.heap)) (vp_Sl (fun z => z = lN (31 * (31 * dg (fun j => R (104 + j)) (dg (fun j => R (80 + j)) (dg (fun j => R (60 + j)) (dgT R (dgP R (dg (rTally R iv) 1693 11) (R 0)) (R 1)) (4 * R 2)) (4 * R 3)) (4 * R 4) + iv 5) + iv 6))) 0 0 (fun _ => False) := by
  refine Met.ofW (cc := cX12_digest) (maxL := 5) (ret := (some .long)) (by decide) rfl ?_
  intro p e s m args below meth c s₁ B hml hv
  obtain ⟨rfl, hw⟩ := hv
  have hx := B.exec
  have hb := B.bytes
  have hr := B.returns
  have hts := atoms_spec (ws := wsX12_digest) B.pre
  have hown : s.vm.findClass RX12 = some m.cls := findClass_of_methodNamed B.named
  have hlocks := B.notSynchronized
  have hl := lv_entry ([.ref (ad Γ (mo + 0))]) (n := 5) (Nat.le_of_ble_eq_true rfl)
  rw [lg_entry_eq]
  generalize (lg_sl ([.ref (ad Γ (mo + 0))]) ++ List.replicate (5 - (lg_sl ([.ref (ad Γ (mo + 0))])).length) Slot.unset).toArray = ls at hl ⊢
  have hl : lv_has ls 5 [(0, .ref (ad Γ (mo + 0)))] := hl
  have hB := hI.1
  have hB0 := hI.2.1
  have hB1 := hI.2.2.1
  have hB20 := hI.2.2.2.2.2.2.2.2.2
  have hBz2 := hI.2.2.2.1
  have hBz3 := hI.2.2.2.2.1
  have hBz4 := hI.2.2.2.2.2.1
  have hBz5 := hI.2.2.2.2.2.2.1
  have hby := hI.2.2.2.2.2.2.2.1
  have hto := hI.2.2.2.2.2.2.2.2.1
  have hT := fun k w => rTold_lt hB k w
  refine nr_ldc2 (k := 1693) hx hb hown (hts _ wl_X12_digest_1) (by decide) dX12_digest_0 ?_
  refine lv_lstore_n (lv' := [(1, .long (lN 1693)), (0, .ref (ad Γ (mo + 0)))]) hx hb dX12_digest_3 rfl hl (by decide) rfl (fun ls hl => ?_)
  refine lv_iconst (v := nI 0) hx hb dX12_digest_4 (by decide) ?_
  refine lv_istore_n (lv' := [(3, .int (nI 0)), (1, .long (lN 1693)), (0, .ref (ad Γ (mo + 0)))]) hx hb dX12_digest_5 rfl hl (by decide) rfl (fun ls hl => ?_)
  refine nr_lp (σ := Nat × Nat) (pc := 6) (fun x lv => lv = [(0, .ref (ad Γ (mo + 0))), (1, .long (lN x.2)), (3, .int (nI x.1))] ∧ (x.1 ≤ 11) ∧ (x.2 = dg (rTally R iv) 1693 x.1)) (fun x => 11 - x.1) (0, 1693) (lv_sub hl [2, 1, 0] rfl) ⟨rfl, by (try dsimp only); omega, rfl⟩ ?_
  intro x lv ls hl hI ih6
  obtain ⟨w, t⟩ := x
  obtain ⟨rfl, hw1, ht⟩ := hI
  try dsimp only at hw1 ht hl ih6
  have hty := rTally_lt hI hiv w
  refine lv_iload_n hx hb dX12_digest_6 rfl (lv_at hl 2 rfl) ?_
  refine lv_bipush (v := nI 11) hx hb dX12_digest_7 (by decide) ?_
  refine nr_icmp_ge (tgt := 31) hx hb (by omega) (by decide) dX12_digest_9 (by decide) (fun c1 => ?_) (fun c1 => ?_)
  · refine lv_iconst (v := nI 0) hx hb dX12_digest_31 (by decide) ?_
    refine lv_istore_n (lv' := [(3, .int (nI 0)), (0, .ref (ad Γ (mo + 0))), (1, .long (lN t))]) hx hb dX12_digest_32 rfl hl (by decide) rfl (fun ls hl => ?_)
    refine nr_lp (σ := Nat × Nat) (pc := 33) (fun x lv => lv = [(0, .ref (ad Γ (mo + 0))), (1, .long (lN x.2)), (3, .int (nI x.1))] ∧ (x.1 ≤ R 0) ∧ (x.2 = dgP R (dg (rTally R iv) 1693 11) x.1)) (fun x => R 0 - x.1) (0, t) (lv_sub hl [1, 2, 0] rfl) ⟨rfl, by (try dsimp only); omega, by (try dsimp only); rw [ht, show w = 11 by omega]; rfl⟩ ?_
    intro x lv ls hl hI ih33
    obtain ⟨i, t2⟩ := x
    obtain ⟨rfl, hi, ht2⟩ := hI
    try dsimp only at hi ht2 hl ih33
    refine lv_iload_n hx hb dX12_digest_33 rfl (lv_at hl 2 rfl) ?_
    refine lv_aload_n hx hb dX12_digest_34 rfl (lv_at hl 0 rfl) ?_
    refine nr_get (own := RX12) (C := RX12) (T := TX12) (N := 19) (v := .ref (ad Γ (mo + 1))) hx hb hts hi_X12_digest_X12 hown hw (by omega) (isM_0 hM) rfl 0 (by decide) wl_X12_digest_3 rfl rfl dX12_digest_35 ?_
    refine lv_iconst (v := nI 0) hx hb dX12_digest_38 (by decide) ?_
    refine nr_iald (x := (R 0)) hx hb hw (by omega) (isM_1 hM) rfl (by omega) (by decide) dX12_digest_39 ?_
    have hL2 := hB (0)
    refine nr_icmp_ge (tgt := 81) hx hb (by omega) (by omega) dX12_digest_40 (by decide) (fun c3 => ?_) (fun c3 => ?_)
    · refine lv_iconst (v := nI 0) hx hb dX12_digest_81 (by decide) ?_
      refine lv_istore_n (lv' := [(3, .int (nI 0)), (0, .ref (ad Γ (mo + 0))), (1, .long (lN t2))]) hx hb dX12_digest_82 rfl hl (by decide) rfl (fun ls hl => ?_)
      refine nr_lp (σ := Nat × Nat) (pc := 83) (fun x lv => lv = [(0, .ref (ad Γ (mo + 0))), (1, .long (lN x.2)), (3, .int (nI x.1))] ∧ (x.1 ≤ R 1) ∧ (x.2 = dgT R (dgP R (dg (rTally R iv) 1693 11) (R 0)) x.1)) (fun x => R 1 - x.1) (0, t2) (lv_sub hl [1, 2, 0] rfl) ⟨rfl, by (try dsimp only); omega, by (try dsimp only); rw [ht2, show i = R 0 by omega]; rfl⟩ ?_
      intro x lv ls hl hI ih83
      obtain ⟨k, t3⟩ := x
      obtain ⟨rfl, hk, ht3⟩ := hI
      try dsimp only at hk ht3 hl ih83
      refine lv_iload_n hx hb dX12_digest_83 rfl (lv_at hl 2 rfl) ?_
      refine lv_aload_n hx hb dX12_digest_84 rfl (lv_at hl 0 rfl) ?_
      refine nr_goS (nr_runV (As := []) (C := RX12) (T := TX12) (N := 19) ⟨hx, hb, hml, hown, hts⟩ hw (by omega) (isM_0 hM) rfl (c_X12_many l Γ n G mo R K kp rf ca rc hd fw tl by0 an vl iv hM (by omega) hI) (cwV 0 hts gX12_digest_X12_many rfl rfl rfl (by decide +kernel) ⟨Nat.le_of_ble_eq_true rfl, Nat.le_of_ble_eq_true rfl⟩) rfl hl.1 rfl (Nat.le_of_ble_eq_true rfl) dX12_digest_85 ⟨Nat.zero_le _, Nat.zero_le _⟩) (fun r4 hr4 => ?_)
      obtain rfl : r4 = (nI (R 1)) := hr4
      refine nr_icmp_ge (tgt := 128) hx hb (by omega) (by omega) dX12_digest_88 (by decide) (fun c5 => ?_) (fun c5 => ?_)
      · refine lv_aload_n hx hb dX12_digest_128 rfl (lv_at hl 0 rfl) ?_
        refine lv_lload_n hx hb dX12_digest_129 rfl (lv_at hl 1 rfl) ?_
        refine lv_bipush (v := nI 60) hx hb dX12_digest_130 (by decide) ?_
        refine lv_iconst (v := nI 4) hx hb dX12_digest_132 (by decide) ?_
        refine lv_aload_n hx hb dX12_digest_133 rfl (lv_at hl 0 rfl) ?_
        refine nr_get (own := RX12) (C := RX12) (T := TX12) (N := 19) (v := .ref (ad Γ (mo + 1))) hx hb hts hi_X12_digest_X12 hown hw (by omega) (isM_0 hM) rfl 0 (by decide) wl_X12_digest_3 rfl rfl dX12_digest_134 ?_
        refine lv_iconst (v := nI 2) hx hb dX12_digest_137 (by decide) ?_
        refine nr_iald (x := (R 2)) hx hb hw (by omega) (isM_1 hM) rfl (by omega) (by decide) dX12_digest_138 ?_
        have hL6 := hB (2)
        refine nr_imul hx hb dX12_digest_139 ?_
        refine nr_goL (nr_runV (As := [.long (lN t3), .int (nI 60), .int (nI (4 * (R 2)))]) (C := RX12) (T := TX12) (N := 19) ⟨hx, hb, hml, hown, hts⟩ hw (by omega) (isM_0 hM) rfl (c_X12_sums l Γ n G mo R K kp rf ca rc hd fw tl by0 an vl iv hM (by omega) hI t3 60 (4 * (R 2)) (by omega)) (cwV 3 hts gX12_digest_X12_sums rfl rfl rfl (by decide +kernel) ⟨Nat.le_of_ble_eq_true rfl, Nat.le_of_ble_eq_true rfl⟩) rfl hl.1 rfl (Nat.le_of_ble_eq_true rfl) dX12_digest_140 ⟨Nat.zero_le _, Nat.zero_le _⟩) (fun r7 hr7 => ?_)
        obtain rfl : r7 = (lN (dg (fun j => R (60 + j)) t3 (4 * (R 2)))) := hr7
        refine lv_lstore_n (lv' := [(1, .long (lN (dg (fun j => R (60 + j)) t3 (4 * (R 2))))), (0, .ref (ad Γ (mo + 0))), (3, .int (nI k))]) hx hb dX12_digest_143 rfl hl (by decide) rfl (fun ls hl => ?_)
        refine lv_aload_n hx hb dX12_digest_144 rfl (lv_at hl 1 rfl) ?_
        refine lv_lload_n hx hb dX12_digest_145 rfl (lv_at hl 0 rfl) ?_
        refine lv_bipush (v := nI 80) hx hb dX12_digest_146 (by decide) ?_
        refine lv_iconst (v := nI 4) hx hb dX12_digest_148 (by decide) ?_
        refine lv_aload_n hx hb dX12_digest_149 rfl (lv_at hl 1 rfl) ?_
        refine nr_get (own := RX12) (C := RX12) (T := TX12) (N := 19) (v := .ref (ad Γ (mo + 1))) hx hb hts hi_X12_digest_X12 hown hw (by omega) (isM_0 hM) rfl 0 (by decide) wl_X12_digest_3 rfl rfl dX12_digest_150 ?_
        refine lv_iconst (v := nI 3) hx hb dX12_digest_153 (by decide) ?_
        refine nr_iald (x := (R 3)) hx hb hw (by omega) (isM_1 hM) rfl (by omega) (by decide) dX12_digest_154 ?_
        have hL8 := hB (3)
        refine nr_imul hx hb dX12_digest_155 ?_
        refine nr_goL (nr_runV (As := [.long (lN (dg (fun j => R (60 + j)) t3 (4 * (R 2)))), .int (nI 80), .int (nI (4 * (R 3)))]) (C := RX12) (T := TX12) (N := 19) ⟨hx, hb, hml, hown, hts⟩ hw (by omega) (isM_0 hM) rfl (c_X12_sums l Γ n G mo R K kp rf ca rc hd fw tl by0 an vl iv hM (by omega) hI (dg (fun j => R (60 + j)) t3 (4 * (R 2))) 80 (4 * (R 3)) (by omega)) (cwV 3 hts gX12_digest_X12_sums rfl rfl rfl (by decide +kernel) ⟨Nat.le_of_ble_eq_true rfl, Nat.le_of_ble_eq_true rfl⟩) rfl hl.1 rfl (Nat.le_of_ble_eq_true rfl) dX12_digest_156 ⟨Nat.zero_le _, Nat.zero_le _⟩) (fun r9 hr9 => ?_)
        obtain rfl : r9 = (lN (dg (fun j => R (80 + j)) (dg (fun j => R (60 + j)) t3 (4 * (R 2))) (4 * (R 3)))) := hr9
        refine lv_lstore_n (lv' := [(1, .long (lN (dg (fun j => R (80 + j)) (dg (fun j => R (60 + j)) t3 (4 * (R 2))) (4 * (R 3))))), (0, .ref (ad Γ (mo + 0))), (3, .int (nI k))]) hx hb dX12_digest_159 rfl hl (by decide) rfl (fun ls hl => ?_)
        refine lv_aload_n hx hb dX12_digest_160 rfl (lv_at hl 1 rfl) ?_
        refine lv_lload_n hx hb dX12_digest_161 rfl (lv_at hl 0 rfl) ?_
        refine lv_bipush (v := nI 104) hx hb dX12_digest_162 (by decide) ?_
        refine lv_iconst (v := nI 4) hx hb dX12_digest_164 (by decide) ?_
        refine lv_aload_n hx hb dX12_digest_165 rfl (lv_at hl 1 rfl) ?_
        refine nr_get (own := RX12) (C := RX12) (T := TX12) (N := 19) (v := .ref (ad Γ (mo + 1))) hx hb hts hi_X12_digest_X12 hown hw (by omega) (isM_0 hM) rfl 0 (by decide) wl_X12_digest_3 rfl rfl dX12_digest_166 ?_
        refine lv_iconst (v := nI 4) hx hb dX12_digest_169 (by decide) ?_
        refine nr_iald (x := (R 4)) hx hb hw (by omega) (isM_1 hM) rfl (by omega) (by decide) dX12_digest_170 ?_
        have hL10 := hB (4)
        refine nr_imul hx hb dX12_digest_171 ?_
        refine nr_goL (nr_runV (As := [.long (lN (dg (fun j => R (80 + j)) (dg (fun j => R (60 + j)) t3 (4 * (R 2))) (4 * (R 3)))), .int (nI 104), .int (nI (4 * (R 4)))]) (C := RX12) (T := TX12) (N := 19) ⟨hx, hb, hml, hown, hts⟩ hw (by omega) (isM_0 hM) rfl (c_X12_sums l Γ n G mo R K kp rf ca rc hd fw tl by0 an vl iv hM (by omega) hI (dg (fun j => R (80 + j)) (dg (fun j => R (60 + j)) t3 (4 * (R 2))) (4 * (R 3))) 104 (4 * (R 4)) (by omega)) (cwV 3 hts gX12_digest_X12_sums rfl rfl rfl (by decide +kernel) ⟨Nat.le_of_ble_eq_true rfl, Nat.le_of_ble_eq_true rfl⟩) rfl hl.1 rfl (Nat.le_of_ble_eq_true rfl) dX12_digest_172 ⟨Nat.zero_le _, Nat.zero_le _⟩) (fun r11 hr11 => ?_)
        obtain rfl : r11 = (lN (dg (fun j => R (104 + j)) (dg (fun j => R (80 + j)) (dg (fun j => R (60 + j)) t3 (4 * (R 2))) (4 * (R 3))) (4 * (R 4)))) := hr11
        refine lv_lstore_n (lv' := [(1, .long (lN (dg (fun j => R (104 + j)) (dg (fun j => R (80 + j)) (dg (fun j => R (60 + j)) t3 (4 * (R 2))) (4 * (R 3))) (4 * (R 4))))), (0, .ref (ad Γ (mo + 0))), (3, .int (nI k))]) hx hb dX12_digest_175 rfl hl (by decide) rfl (fun ls hl => ?_)
        refine nr_ldc2 (k := 31) hx hb hown (hts _ wl_X12_digest_2) (by decide) dX12_digest_176 ?_
        refine nr_ldc2 (k := 31) hx hb hown (hts _ wl_X12_digest_2) (by decide) dX12_digest_179 ?_
        refine lv_lload_n hx hb dX12_digest_182 rfl (lv_at hl 0 rfl) ?_
        refine nr_lmul hx hb dX12_digest_183 ?_
        refine lv_aload_n hx hb dX12_digest_184 rfl (lv_at hl 1 rfl) ?_
        refine nr_get (own := RX12) (C := RX12) (T := TX12) (N := 19) (v := .long (lN (iv 5))) hx hb hts hi_X12_digest_X12 hown hw (by omega) (isM_0 hM) rfl 4 (by decide) wl_X12_digest_4 rfl rfl dX12_digest_185 ?_
        refine nr_ladd hx hb dX12_digest_188 ?_
        refine nr_lmul hx hb dX12_digest_189 ?_
        refine lv_aload_n hx hb dX12_digest_190 rfl (lv_at hl 1 rfl) ?_
        refine nr_get (own := RX12) (C := RX12) (T := TX12) (N := 19) (v := .long (lN (iv 6))) hx hb hts hi_X12_digest_X12 hown hw (by omega) (isM_0 hM) rfl 5 (by decide) wl_X12_digest_5 rfl rfl dX12_digest_191 ?_
        refine nr_ladd hx hb dX12_digest_194 ?_
        exact nr_retL hx hb hr hlocks (by rw [ht3, show k = R 1 by omega]) rfl dX12_digest_195
      · refine lv_iconst (v := nI 0) hx hb dX12_digest_91 (by decide) ?_
        refine lv_istore (lv' := [(4, .int (nI 0)), (0, .ref (ad Γ (mo + 0))), (1, .long (lN t3)), (3, .int (nI k))]) hx hb dX12_digest_92 hl (by decide) rfl (fun ls hl => ?_)
        refine nr_lp (σ := Nat × Nat) (pc := 94) (fun x lv => lv = [(0, .ref (ad Γ (mo + 0))), (1, .long (lN x.2)), (3, .int (nI k)), (4, .int (nI x.1))] ∧ (x.1 ≤ 6) ∧ (x.2 = dg (rTold R k) t3 x.1)) (fun x => 6 - x.1) (0, t3) (lv_sub hl [1, 2, 3, 0] rfl) ⟨rfl, by (try dsimp only); omega, rfl⟩ ?_
        intro x lv ls hl hI ih94
        obtain ⟨w2, t4⟩ := x
        obtain ⟨rfl, hw6, ht4⟩ := hI
        try dsimp only at hw6 ht4 hl ih94
        have hT2 := hT k w2
        refine lv_iload hx hb dX12_digest_94 (lv_at hl 3 rfl) ?_
        refine lv_bipush (v := nI 6) hx hb dX12_digest_96 (by decide) ?_
        refine nr_icmp_ge (tgt := 122) hx hb (by omega) (by decide) dX12_digest_98 (by decide) (fun c12 => ?_) (fun c12 => ?_)
        · refine nr_inc (d := 1) (k := 2) (lv' := [(3, .int (nI (k + 1))), (0, .ref (ad Γ (mo + 0))), (1, .long (lN t4)), (4, .int (nI w2))]) hx hb dX12_digest_122 hl rfl (by decide) (by decide) rfl (fun ls hl => ?_)
          refine lv_goto (tgt := 83) hx hb dX12_digest_125 (by decide) ?_
          exact ih83 (k + 1, t4) _ _ (lv_sub hl [1, 2, 0] rfl) ⟨rfl, by (try dsimp only); omega, by (try dsimp only); rw [ht4, show w2 = 6 by omega, ht3]; rfl⟩ (by (try dsimp only); omega)
        · refine nr_ldc2 (k := 31) hx hb hown (hts _ wl_X12_digest_2) (by decide) dX12_digest_101 ?_
          refine lv_lload_n hx hb dX12_digest_104 rfl (lv_at hl 1 rfl) ?_
          refine nr_lmul hx hb dX12_digest_105 ?_
          refine lv_aload_n hx hb dX12_digest_106 rfl (lv_at hl 0 rfl) ?_
          refine lv_iload_n hx hb dX12_digest_107 rfl (lv_at hl 2 rfl) ?_
          refine lv_iload hx hb dX12_digest_108 (lv_at hl 3 rfl) ?_
          refine nr_goS (nr_runV (As := [.int (nI k), .int (nI w2)]) (C := RX12) (T := TX12) (N := 19) ⟨hx, hb, hml, hown, hts⟩ hw (by omega) (isM_0 hM) rfl (c_X12_toldOf l Γ n G mo R K kp rf ca rc hd fw tl by0 an vl iv hM (by omega) hI k w2 (by omega) (by omega)) (cwV 2 hts gX12_digest_X12_toldOf rfl rfl rfl (by decide +kernel) ⟨Nat.le_of_ble_eq_true rfl, Nat.le_of_ble_eq_true rfl⟩) rfl hl.1 rfl (Nat.le_of_ble_eq_true rfl) dX12_digest_110 ⟨Nat.zero_le _, Nat.zero_le _⟩) (fun r13 hr13 => ?_)
          obtain rfl : r13 = (nI (rTold R k w2)) := hr13
          refine lv_i2l (v := lN (rTold R k w2)) hx hb dX12_digest_113 (nI_l (by omega)) ?_
          refine nr_ladd hx hb dX12_digest_114 ?_
          refine lv_lstore_n (lv' := [(1, .long (lN (31 * t4 + (rTold R k w2)))), (0, .ref (ad Γ (mo + 0))), (3, .int (nI k)), (4, .int (nI w2))]) hx hb dX12_digest_115 rfl hl (by decide) rfl (fun ls hl => ?_)
          refine nr_inc (d := 1) (k := 3) (lv' := [(4, .int (nI (w2 + 1))), (1, .long (lN (31 * t4 + (rTold R k w2)))), (0, .ref (ad Γ (mo + 0))), (3, .int (nI k))]) hx hb dX12_digest_116 hl rfl (by decide) (by decide) rfl (fun ls hl => ?_)
          refine lv_goto (tgt := 94) hx hb dX12_digest_119 (by decide) ?_
          exact ih94 (w2 + 1, 31 * t4 + (rTold R k w2)) _ _ (lv_sub hl [2, 1, 3, 0] rfl) ⟨rfl, by (try dsimp only); omega, by (try dsimp only); rw [ht4]; rfl⟩ (by (try dsimp only); omega)
    · refine nr_ldc2 (k := 31) hx hb hown (hts _ wl_X12_digest_2) (by decide) dX12_digest_43 ?_
      refine nr_ldc2 (k := 31) hx hb hown (hts _ wl_X12_digest_2) (by decide) dX12_digest_46 ?_
      refine lv_lload_n hx hb dX12_digest_49 rfl (lv_at hl 1 rfl) ?_
      refine nr_lmul hx hb dX12_digest_50 ?_
      refine lv_aload_n hx hb dX12_digest_51 rfl (lv_at hl 0 rfl) ?_
      refine nr_get (own := RX12) (C := RX12) (T := TX12) (N := 19) (v := .ref (ad Γ (mo + 1))) hx hb hts hi_X12_digest_X12 hown hw (by omega) (isM_0 hM) rfl 0 (by decide) wl_X12_digest_3 rfl rfl dX12_digest_52 ?_
      refine lv_bipush (v := nI 22) hx hb dX12_digest_55 (by decide) ?_
      refine lv_iload_n hx hb dX12_digest_57 rfl (lv_at hl 2 rfl) ?_
      refine nr_iadd hx hb dX12_digest_58 ?_
      refine nr_iald (x := (R (22 + i))) hx hb hw (by omega) (isM_1 hM) rfl (by omega) (by decide) dX12_digest_59 ?_
      have hL14 := hB (22 + i)
      refine lv_i2l (v := lN (R (22 + i))) hx hb dX12_digest_60 (nI_l (by omega)) ?_
      refine nr_ladd hx hb dX12_digest_61 ?_
      refine nr_lmul hx hb dX12_digest_62 ?_
      refine lv_aload_n hx hb dX12_digest_63 rfl (lv_at hl 0 rfl) ?_
      refine nr_get (own := RX12) (C := RX12) (T := TX12) (N := 19) (v := .ref (ad Γ (mo + 1))) hx hb hts hi_X12_digest_X12 hown hw (by omega) (isM_0 hM) rfl 0 (by decide) wl_X12_digest_3 rfl rfl dX12_digest_64 ?_
      refine lv_bipush (v := nI 6) hx hb dX12_digest_67 (by decide) ?_
      refine lv_iload_n hx hb dX12_digest_69 rfl (lv_at hl 2 rfl) ?_
      refine nr_iadd hx hb dX12_digest_70 ?_
      refine nr_iald (x := (R (6 + i))) hx hb hw (by omega) (isM_1 hM) rfl (by omega) (by decide) dX12_digest_71 ?_
      have hL15 := hB (6 + i)
      refine lv_i2l (v := lN (R (6 + i))) hx hb dX12_digest_72 (nI_l (by omega)) ?_
      refine nr_ladd hx hb dX12_digest_73 ?_
      refine lv_lstore_n (lv' := [(1, .long (lN (31 * (31 * t2 + (R (22 + i))) + (R (6 + i))))), (0, .ref (ad Γ (mo + 0))), (3, .int (nI i))]) hx hb dX12_digest_74 rfl hl (by decide) rfl (fun ls hl => ?_)
      refine nr_inc (d := 1) (k := 2) (lv' := [(3, .int (nI (i + 1))), (1, .long (lN (31 * (31 * t2 + (R (22 + i))) + (R (6 + i))))), (0, .ref (ad Γ (mo + 0)))]) hx hb dX12_digest_75 hl rfl (by decide) (by decide) rfl (fun ls hl => ?_)
      refine lv_goto (tgt := 33) hx hb dX12_digest_78 (by decide) ?_
      exact ih33 (i + 1, 31 * (31 * t2 + (R (22 + i))) + (R (6 + i))) _ _ (lv_sub hl [2, 1, 0] rfl) ⟨rfl, by (try dsimp only); omega, by (try dsimp only); rw [ht2]; rfl⟩ (by (try dsimp only); omega)
  · refine nr_ldc2 (k := 31) hx hb hown (hts _ wl_X12_digest_2) (by decide) dX12_digest_12 ?_
    refine lv_lload_n hx hb dX12_digest_15 rfl (lv_at hl 1 rfl) ?_
    refine nr_lmul hx hb dX12_digest_16 ?_
    refine lv_aload_n hx hb dX12_digest_17 rfl (lv_at hl 0 rfl) ?_
    refine lv_iload_n hx hb dX12_digest_18 rfl (lv_at hl 2 rfl) ?_
    refine nr_goS (nr_runV (As := [.int (nI w)]) (C := RX12) (T := TX12) (N := 19) ⟨hx, hb, hml, hown, hts⟩ hw (by omega) (isM_0 hM) rfl (c_X12_counted l Γ n G mo R K kp rf ca rc hd fw tl by0 an vl iv hM (by omega) hI w (by omega) (by omega)) (cwV 1 hts gX12_digest_X12_counted rfl rfl rfl (by decide +kernel) ⟨Nat.le_of_ble_eq_true rfl, Nat.le_of_ble_eq_true rfl⟩) rfl hl.1 rfl (Nat.le_of_ble_eq_true rfl) dX12_digest_19 ⟨Nat.zero_le _, Nat.zero_le _⟩) (fun r16 hr16 => ?_)
    obtain rfl : r16 = (nI (rTally R iv w)) := hr16
    refine lv_i2l (v := lN (rTally R iv w)) hx hb dX12_digest_22 (nI_l (by omega)) ?_
    refine nr_ladd hx hb dX12_digest_23 ?_
    refine lv_lstore_n (lv' := [(1, .long (lN (31 * t + (rTally R iv w)))), (0, .ref (ad Γ (mo + 0))), (3, .int (nI w))]) hx hb dX12_digest_24 rfl hl (by decide) rfl (fun ls hl => ?_)
    refine nr_inc (d := 1) (k := 2) (lv' := [(3, .int (nI (w + 1))), (1, .long (lN (31 * t + (rTally R iv w)))), (0, .ref (ad Γ (mo + 0)))]) hx hb dX12_digest_25 hl rfl (by decide) (by decide) rfl (fun ls hl => ?_)
    refine lv_goto (tgt := 6) hx hb dX12_digest_28 (by decide) ?_
    exact ih6 (w + 1, 31 * t + (rTally R iv w)) _ _ (lv_sub hl [2, 1, 0] rfl) ⟨rfl, by (try dsimp only); omega, by (try dsimp only); rw [ht]; rfl⟩ (by (try dsimp only); omega)
