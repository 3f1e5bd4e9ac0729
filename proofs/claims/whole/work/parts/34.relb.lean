section SRB
theorem fits_c {V R : Nat → Nat} (h : eqL V R) {k : Nat} (hk : k < V 1) (g : Nat) : fitsP V k g ↔ fitsP R k g := by
  obtain ⟨b1, b2, b3, b4, b5, b6, b7, b8, b9⟩ := h
  have a := (b5 k hk).1
  have h2 := b1 2 (by omega)
  have e : ∀ r, r < V 2 → ∀ q, q < 4 → V (60 + (r * 4 + q)) = R (60 + (r * 4 + q)) := fun r hr q hq => b6 (r * 4 + q) (by omega)
  unfold fitsP
  rw [← h2, ← a]
  constructor
  · intro hh r hr he
    rw [← e r hr 0 (by omega)] at he
    rw [← e r hr 1 (by omega), ← e r hr 2 (by omega), ← e r hr 3 (by omega)]
    exact hh r hr he
  · intro hh r hr he
    rw [e r hr 0 (by omega)] at he
    rw [e r hr 1 (by omega), e r hr 2 (by omega), e r hr 3 (by omega)]
    exact hh r hr he
theorem sFit_c {V R : Nat → Nat} (h : eqL V R) {k : Nat} (hk : k < V 1) : sFit V k = sFit R k :=
  bits_c (fun g _ => by rw [fits_c h hk])
theorem gpF_c {V R : Nat → Nat} (h : eqL V R) {k : Nat} (hk : k < V 1) (t : Nat) : gpF V k t = gpF R k t := by
  unfold gpF
  rw [sFit_c h hk, (h.2.2.2.2.1 k hk).1]
theorem amin_c {f f2 : Nat → Nat} {out : Nat → Int32} {c N lo : Nat} {bs : Int32} (e : ∀ t, t < N → f t = f2 t) (h : amin f out c N lo bs) : amin f2 out c N lo bs := by
  rcases h with h | ⟨t, h1, h2, h3, h4⟩
  · exact Or.inl h
  · refine Or.inr ⟨t, h1, by rw [← e t h1]; exact h2, h3, fun u hu => ?_⟩
    rw [← e t h1, ← e u hu]
    exact h4 u hu
theorem an_tell {V R : Nat → Nat} (h : eqL V R) {k c : Nat} (hk : k < V 1) {z z2 : Int32} (h1 : tellR V k z) (h2 : tellM R k c z2) : z = z2 := by
  have e := sFit_c h hk
  rcases h1 with ⟨a1, a2⟩ | ⟨a1, lo, a2⟩ <;> rcases h2 with ⟨b1, b2⟩ | ⟨b1, lo2, b2⟩
  · rw [a2, b2]
  · exact absurd (e.symm.trans a1) b1
  · exact absurd (e.trans b1) a1
  · exact amin_one (amin_c (fun t _ => gpF_c h hk t) a2) b2
theorem wk_c {V R : Nat → Nat} (h : eqL V R) (k : Nat) : wkinds V k = wkinds R k := by
  obtain ⟨b1, b2, b3, b4, b5, b6, b7, b8, b9⟩ := h
  have h2 := b1 3 (by omega)
  have e : ∀ r, r < V 3 → ∀ q, q < 4 → V (80 + (r * 4 + q)) = R (80 + (r * 4 + q)) := fun r hr q hq => b7 (r * 4 + q) (by omega)
  refine bits_c (fun kd _ => ?_)
  unfold noteP
  rw [← h2]
  constructor
  · intro hh r hr he
    rw [← e r hr 0 (by omega)] at he
    rw [← e r hr 1 (by omega), ← e r hr 2 (by omega), ← e r hr 3 (by omega)]
    exact hh r hr he
  · intro hh r hr he
    rw [e r hr 0 (by omega)] at he
    rw [e r hr 1 (by omega), e r hr 2 (by omega), e r hr 3 (by omega)]
    exact hh r hr he
theorem pk_c {V R : Nat → Nat} (h : eqL V R) (k : Nat) : pkinds V k = pkinds R k := by
  obtain ⟨b1, b2, b3, b4, b5, b6, b7, b8, b9⟩ := h
  have h2 := b1 4 (by omega)
  have e : ∀ r, r < V 4 → ∀ q, q < 4 → V (104 + (r * 4 + q)) = R (104 + (r * 4 + q)) := fun r hr q hq => b8 (r * 4 + q) (by omega)
  refine bits_c (fun kd _ => ?_)
  unfold markP
  rw [← h2]
  constructor
  · intro hh r hr he
    rw [← e r hr 0 (by omega)] at he
    rw [← e r hr 1 (by omega), ← e r hr 2 (by omega), ← e r hr 3 (by omega)]
    exact hh r hr he
  · intro hh r hr he
    rw [e r hr 0 (by omega)] at he
    rw [e r hr 1 (by omega), e r hr 2 (by omega), e r hr 3 (by omega)]
    exact hh r hr he
theorem an_look {V R : Nat → Nat} (h : eqL V R) {k c c2 : Nat} (hk : k < V 1) {z z2 : Int32} (h1 : lookM V k c z) (h2 : lookM R k c2 z2) : z = z2 := by
  have e := wk_c h k
  rcases h1 with ⟨a1, a2⟩ | ⟨a1, lo, a2⟩ <;> rcases h2 with ⟨b1, b2⟩ | ⟨b1, lo2, b2⟩
  · rw [a2, b2]
  · exact absurd (e.symm.trans a1) b1
  · exact absurd (e.trans b1) a1
  · exact amin_one (amin_c (fun t _ => by unfold lookF; rw [e, (h.2.2.2.2.1 k hk).2.2.2.1]) a2) b2
theorem an_ask {V R : Nat → Nat} (h : eqL V R) {k c c2 : Nat} {z z2 : Int32} (h1 : askM V k c z) (h2 : askM R k c2 z2) : z = z2 := by
  have e := pk_c h k
  rcases h1 with ⟨a1, a2⟩ | ⟨a1, lo, a2⟩ <;> rcases h2 with ⟨b1, b2⟩ | ⟨b1, lo2, b2⟩
  · rw [a2, b2]
  · exact absurd (e.symm.trans a1) b1
  · exact absurd (e.trans b1) a1
  · exact amin_one (amin_c (fun t _ => by unfold askF; rw [e]) a2) b2
theorem sf_b {R : Nat → Nat} {k g : Nat} : bt (sFit R k) g ↔ g < 10 ∧ 1 ≤ g ∧ fitsP R k g := by
  unfold sFit; rw [bt_bitsOf]
theorem an_grave {V R : Nat → Nat} (h : eqL V R) {k w : Nat} (hk : k < V 1) (hw9 : w ≤ 2) {z z2 : Int32} (h1 : graveC V k w z) (h2 : graveM R k w z2) : z = z2 := by
  obtain ⟨p0, p1, p2⟩ := h1
  obtain ⟨q0, q1, q2⟩ := h2
  rw [sFit_c h hk] at p0 p1 p2
  rcases (show w = 0 ∨ w = 1 ∨ w = 2 by omega) with e | e | e
  · rw [p0 e, q0 e]
    refine congrArg nI (cnt_cong (fun g hg => ?_))
    rw [sf_b]
    exact ⟨fun y => y.2, fun y => ⟨hg, y⟩⟩
  · rcases p1 e with ⟨y, y1, y2, y3, y4⟩ | ⟨y1, y2⟩ <;> rcases q1 e with ⟨g, g1, g2, g3, g4, g5⟩ | ⟨g1, g2⟩
    · rw [sf_b] at y2
      have : y = g := by
        rcases Nat.lt_trichotomy y g with u | u | u
        · exact absurd y2.2.2 (g4 y y2.2.1 u)
        · exact u
        · exact absurd (sf_b.mpr ⟨g2, g1, g3⟩) (y3 g u)
      rw [y4, g5, this]
    · rw [sf_b] at y2; exact absurd y2.2.2 (g1 y y2.2.1 y2.1)
    · exact absurd (sf_b.mpr ⟨g2, g1, g3⟩) (y1 g (by omega))
    · rw [y2, g2]
  · rcases p2 e with ⟨y, y1, y2, y3, y4⟩ | ⟨y1, y2⟩ <;> rcases q2 e with ⟨g, g1, g2, g3, g4, g5⟩ | ⟨g1, g2⟩
    · rw [sf_b] at y2
      have : y = g := by
        rcases Nat.lt_trichotomy y g with u | u | u
        · exact absurd (sf_b.mpr ⟨g2, g1, g3⟩) (y3 g u (by omega))
        · exact u
        · exact absurd y2.2.2 (g4 y u y2.1)
      rw [y4, g5, this]
    · rw [sf_b] at y2; exact absurd y2.2.2 (g1 y y2.2.1 y2.1)
    · exact absurd (sf_b.mpr ⟨g2, g1, g3⟩) (y1 g (by omega))
    · rw [y2, g2]
/-! when -/
theorem it_live {R : Nat → Nat} (h : vG R) (m : Nat) : itD R m = pasV R m := it_pas (fun k hk => (h.2.2.2.1 k hk).2.2) h.1.2.2.1 m
theorem can_it {R : Nat → Nat} (h : vG R) {k : Nat} (hk : k < R 1) (m : Nat) : canP (itD R m) k ↔ could R k 0 0 m := by
  have h8 := h.1.2.2.1
  have ha := h.2.2.2.1 k hk
  have h0 := h.1.2.1
  rw [it_live h]
  have e20 := pas_o h8 m 20 (by omega) (by omega)
  have e28 := pas_o h8 m (28 + k) (by omega) (by omega)
  have e52 := pas_o h8 m (52 + k) (by omega) (by omega)
  have e44 := pas_o h8 m (44 + k) (by omega) (by omega)
  have e22 := pas_o h8 m (22 + R (44 + k)) (by omega) (by omega)
  have e6 := pas_o h8 m (6 + R (44 + k)) (by omega) (by omega)
  have e21 : pasV R m 21 = R 21 + m := va_up_self _ _ _
  show (¬ bt (pasV R m 20) k ∧ rW (pasV R m) k ≤ rL (pasV R m) (pasV R m (44 + k))) ↔ (¬ bt (R 20 ||| 0) k ∧ sW R k m ≤ sM R (R (44 + k)) 0 m)
  unfold rL sM
  rw [e20, e44, e22, e6, e21, cntBy_z, Nat.or_zero, Nat.add_zero]
  by_cases q : bt (R 20) k
  · exact ⟨fun z => absurd q z.1, fun z => absurd q z.1⟩
  · have e12 : pasV R m (12 + k) = min 99 (R (12 + k) + m) := by
      unfold pasV
      rw [va_up_ne _ _ (by omega)]
      unfold agP
      rw [if_pos ⟨by omega, by rw [Nat.add_sub_cancel_left]; exact q⟩]
    unfold rW sW
    rw [e28, e52, e12]
theorem vG_60 {R X : Nat → Nat} (h : vG R) (e : ∀ j, j < 60 → X j = R j) (hX : ∀ j, X j ≤ 1999) : vG X := by
  obtain ⟨⟨i1, i2, i3, i4, i5, i6, i7, i8, i9, i10⟩, h2, h3, h4, h5⟩ := h
  have h8 := i3
  refine ⟨⟨hX, by rw [e 0 (by omega)]; exact i2, by rw [e 1 (by omega)]; exact i3, by rw [e 2 (by omega)]; exact i4, by rw [e 3 (by omega)]; exact i5, by rw [e 4 (by omega)]; exact i6, by rw [e 5 (by omega)]; exact i7, fun j hj => by rw [e _ (by omega)]; exact i8 j hj, fun j hj => by rw [e _ (by omega)]; exact i9 j hj, by rw [e 20 (by omega)]; exact i10⟩, by rw [e 21 (by omega)]; exact h2, by rw [e 20 (by omega), e 1 (by omega)]; exact h3, fun k hk => ?_, fun i hi => ?_⟩
  · rw [e 1 (by omega)] at hk
    rw [e (36 + k) (by omega), e (44 + k) (by omega), e (12 + k) (by omega), e 0 (by omega)]; exact h4 k hk
  · rw [e 0 (by omega)] at hi
    rw [e (6 + i) (by omega), e 20 (by omega), e 1 (by omega), h5 i hi]
    exact cntBy_cong (fun u hu => by rw [e (36 + u) (by omega)])
theorem could_60 {R X : Nat → Nat} (h : vG R) (e : ∀ j, j < 60 → X j = R j) {k : Nat} (hk : k < R 1) (g s d : Nat) : could X k g s d ↔ could R k g s d := by
  have h8 := h.1.2.2.1
  have h0 := h.1.2.1
  have ha := h.2.2.2.1 k hk
  have ec : ∀ i, cntBy X i s (R 1) = cntBy R i s (R 1) := fun i => cntBy_cong (fun u hu => by rw [e (36 + u) (by omega)])
  unfold could sW sM
  rw [e 20 (by omega), e (28 + k) (by omega), e (52 + k) (by omega), e (12 + k) (by omega), e (44 + k) (by omega), e (22 + R (44 + k)) (by omega), e (6 + R (44 + k)) (by omega), e 1 (by omega), e 21 (by omega), ec]
theorem vG_cpy {R X : Nat → Nat} (h : vG R) (hX : ∀ j, X j ≤ 1999) : vG (cpyR X R 60) :=
  vG_60 h (fun j hj => cpyR_at hj) (fun j => by
    have := h.1.1 j
    have := hX j
    unfold cpyR; split <;> omega)
theorem an_when {V R X : Nat → Nat} (h : eqL V R) (hG : vG V) (hR : vG R) (hX : ∀ j, X j ≤ 1999) {k : Nat} (hk : k < V 1) {z z2 : Int32} (h1 : whenR V k z) (h2 : whenM (cpyR X R 60) k z2) : z = z2 := by
  have hk2 : k < R 1 := by rw [← h.1 1 (by omega)]; exact hk
  have hk3 : k < cpyR X R 60 1 := by rw [cpyR_at (by omega)]; exact hk2
  have key : ∀ d, could V k 0 0 d ↔ canP (itD (cpyR X R 60) d) k := fun d =>
    (could_c h hG hk 0 0 d).trans ((could_60 hR (fun j hj => cpyR_at hj) hk2 0 0 d).symm.trans (can_it (vG_cpy hR hX) hk3 d).symm)
  rcases h1 with ⟨d, d1, d2, d3, d4⟩ | ⟨d1, d2⟩ <;> rcases h2 with ⟨e, e1, e2, e3, e4⟩ | ⟨e1, e2⟩
  · have : d = e := by
      rcases Nat.lt_trichotomy d e with u | u | u
      · exact absurd ((key d).mp d2) (e3 d u)
      · exact u
      · exact absurd ((key e).mpr e2) (d3 e u)
    rw [d4, e4, this]
  · exact absurd ((key d).mp d2) (e1 d d1)
  · exact absurd ((key e).mpr e2) (d1 e e1)
  · rw [d2, e2]
/-! round -/
theorem wrd_c {V R : Nat → Nat} (h : eqL V R) (w : Nat) : ∀ m, m ≤ V 1 → wrd V w m = wrd R w m
  | 0, _ => rfl
  | m + 1, hm => by
    have a := h.2.2.2.2.1 m (by omega)
    unfold wrd
    rw [wrd_c h w m (by omega), h.2.1, a.2.1, a.2.2.1]
theorem wrdN_c {V R : Nat → Nat} (h : eqL V R) (w : Nat) : ∀ m, wrdN V w m = wrdN R w m
  | 0 => rfl
  | m + 1 => by
    show wrd V (wrdN V w m) (V 1) = wrd R (wrdN R w m) (R 1)
    rw [wrdN_c h w m, ← h.1 1 (by omega)]
    exact wrd_c h _ _ (Nat.le_refl _)
end SRB
