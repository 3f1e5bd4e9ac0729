section SRK
theorem vr_same {V W X : Nat → Nat} (h : vr V W) (e : ∀ j, j < 128 + 16 * V 5 → X j = W j) (hB : ∀ j, X j ≤ 1999) : vr V X := by
  obtain ⟨a, ⟨⟨b1, b2⟩, b3, b4⟩, c⟩ := h
  have e5 := c.1 5 (by omega)
  have i4 := a.1.1.2.2.2.1
  have i5 := a.1.1.2.2.2.2.1
  have i6 := a.1.1.2.2.2.2.2.1
  have i2 := a.1.1.2.1
  have i3 := a.1.1.2.2.1
  have kent : ∀ u, u < V 5 → ∀ j, j < 60 → (j < 2 ∨ 6 ≤ j) → ent X u j = ent W u j := fun u hu j _ _ => by
    rcases (show (6 ≤ j ∧ j < 22) ∨ (j < 6 ∨ 22 ≤ j) by omega) with y | y
    · rw [ent_i y.1 y.2, ent_i y.1 y.2, e _ (by omega)]
    · rw [ent_o y, ent_o y, e j (by omega)]
  have x2 : X 2 ≤ 5 := by rw [e 2 (by omega)]; exact b1.1.2.2.2.1
  have x3 : X 3 ≤ 6 := by rw [e 3 (by omega)]; exact b1.1.2.2.2.2.1
  have x4 : X 4 ≤ 6 := by rw [e 4 (by omega)]; exact b1.1.2.2.2.2.2.1
  have x5 : X 5 ≤ 8 := by rw [e 5 (by omega)]; exact b1.1.2.2.2.2.2.2.1
  have q5 : X 5 = V 5 := by rw [e 5 (by omega), e5]
  refine ⟨a, ⟨⟨vG_x b1 (fun j _ _ => e j (by omega)) x2 x3 x4 x5 hB, fun u hu => ?_⟩, tlz_x b3 (fun j _ _ => e j (by omega)), fun u hu => tlz_x (b4 u (by omega)) (kent u (by omega))⟩, eqL_from (fun j hj => ?_)⟩
  · exact vG_x (b2 u (by omega)) (kent u (by omega)) (by rw [ent_o (by omega)]; exact x2) (by rw [ent_o (by omega)]; exact x3) (by rw [ent_o (by omega)]; exact x4) (by rw [ent_o (by omega)]; exact x5) (movR_le hB _ _ _)
  · rw [eqL_to c j hj]
    unfold liv at hj
    exact (e j (by omega)).symm
theorem fit_c {V R : Nat → Nat} (c : eqL V R) (hG : vG V) (g wd q v : Nat) : fitP (V 0) (V 1) (cn V) g wd q v ↔ fitP (R 0) (R 1) (cn R) g wd q v := by
  rw [← c.1 0 (by omega), ← c.1 1 (by omega)]
  unfold fitP
  by_cases h1 : wd = 1
  · rw [if_pos h1, if_pos h1]
  · rw [if_neg h1, if_neg h1]
    by_cases h2 : wd = 2
    · rw [if_pos h2, if_pos h2]
    · rw [if_neg h2, if_neg h2]
      by_cases h3 : wd = 3
      · rw [if_pos h3, if_pos h3]
        exact ⟨fun z => ⟨z.1, (could_c c hG z.1 0 0 0).mp z.2⟩, fun z => ⟨z.1, (could_c c hG z.1 0 0 0).mpr z.2⟩⟩
      · rw [if_neg h3, if_neg h3]
theorem ok_c {T V R : Nat → Nat} {L : Nat} (c : eqL V R) (hG : vG V) (wd x q : Nat) : okQ T L (V 0) (V 1) (cn V) wd x q ↔ okQ T L (R 0) (R 1) (cn R) wd x q := by
  unfold okQ
  rw [fit_c c hG]
theorem itOK_c {T V R : Nat → Nat} {L : Nat} (c : eqL V R) (hG : vG V) (x its : Nat) : itOK T L (V 0) (V 1) (cn V) x its ↔ itOK T L (R 0) (R 1) (cn R) x its := by
  have e : ∀ q, okQ T L (V 0) (V 1) (cn V) (vlK T L x - 1) x q ↔ okQ T L (R 0) (R 1) (cn R) (vlK T L x - 1) x q := fun q => ok_c c hG _ x q
  unfold itOK cstP
  rw [← c.1 0 (by omega), ← c.1 1 (by omega)] at e ⊢
  constructor
  · rintro ⟨a1, a2, a3, a4⟩; exact ⟨a1, a2, fun q hq => (e q).mp (a3 q hq), a4⟩
  · rintro ⟨a1, a2, a3, a4⟩; exact ⟨a1, a2, fun q hq => (e q).mpr (a3 q hq), a4⟩
theorem itBad_c {T V R : Nat → Nat} {L : Nat} (c : eqL V R) (hG : vG V) (x its p : Nat) : itBad T L (V 0) (V 1) (cn V) x its p ↔ itBad T L (R 0) (R 1) (cn R) x its p := by
  have e : ∀ q, okQ T L (V 0) (V 1) (cn V) (vlK T L x - 1) x q ↔ okQ T L (R 0) (R 1) (cn R) (vlK T L x - 1) x q := fun q => ok_c c hG _ x q
  unfold itBad cstP
  rw [← c.1 0 (by omega), ← c.1 1 (by omega)] at e ⊢
  constructor
  · rintro (a | ⟨a, q, a1, a2, a3, a4⟩ | ⟨a, a1, a2⟩)
    · exact Or.inl a
    · exact Or.inr (Or.inl ⟨a, q, a1, fun u hu => (e u).mp (a2 u hu), fun z => a3 ((e q).mpr z), a4⟩)
    · exact Or.inr (Or.inr ⟨a, fun q hq => (e q).mp (a1 q hq), a2⟩)
  · rintro (a | ⟨a, q, a1, a2, a3, a4⟩ | ⟨a, a1, a2⟩)
    · exact Or.inl a
    · exact Or.inr (Or.inl ⟨a, q, a1, fun u hu => (e u).mpr (a2 u hu), fun z => a3 ((e q).mp z), a4⟩)
    · exact Or.inr (Or.inr ⟨a, fun q hq => (e q).mpr (a1 q hq), a2⟩)
theorem vr_it {T V R : Nat → Nat} {L x its : Nat} (h : vr V R) (h5 : V 5 = 0) (ho : itOK T L (V 0) (V 1) (cn V) x its) : vr (itV T L V x) (itV T L R x) ∧ itV T L V x 5 = 0 := by
  have hG := h.1.1
  have e21 := h.2.2.2.2.1
  obtain ⟨h1, h2, h3, h4⟩ := ho
  have f1 : ∀ wd, vlK T L x = wd + 1 → ∀ q, q < nmF wd → fitP (V 0) (V 1) (cn V) (tokV T L (xq T L x 2)) wd q (tokV T L (xq T L x (q + 1))) := fun wd e q hq => by
    have := h3 q (by rw [e]; exact hq)
    rw [e] at this
    exact this.2
  unfold itV
  by_cases g1 : vlK T L x = 2
  · rw [if_pos g1, if_pos g1]
    have := f1 1 g1 0 (by decide)
    unfold fitP at this
    rw [if_pos rfl] at this
    refine ⟨vr_per h h5 this (by unfold cstP at h2; omega), ?_⟩
    rw [per_at, if_neg (by omega), if_neg (by omega), if_neg (by omega)]; exact h5
  · rw [if_neg g1, if_neg g1]
    by_cases g2 : vlK T L x = 3
    · rw [if_pos g2, if_pos g2]
      have a0 := f1 2 g2 0 (by decide)
      have a1 := f1 2 g2 1 (by decide)
      have a2 := f1 2 g2 2 (by decide)
      have a3 := f1 2 g2 3 (by decide)
      simp [fitP] at a0 a1 a2 a3
      refine ⟨vr_lay h h5 a0 a1 a2.1 a3.2 (by unfold cstP at h2; omega), ?_⟩
      rw [lay_at, if_neg (by omega), if_neg (by omega), if_neg (by omega), if_neg (by omega), if_neg (by omega), if_neg (by omega)]; exact h5
    · rw [if_neg g2, if_neg g2]
      by_cases g3 : vlK T L x = 4
      · rw [if_pos g3, if_pos g3]
        have a0 := f1 3 g3 0 (by decide)
        unfold fitP at a0
        rw [if_neg (by decide), if_neg (by decide), if_pos rfl] at a0
        refine ⟨vr_stk h a0.1 (fun hb => a0.2.1 (by rw [Nat.or_zero]; exact hb)), ?_⟩
        rw [stk_at, if_neg (by omega), if_neg (by omega)]; exact h5
      · rw [if_neg g3, if_neg g3]
        by_cases g4 : vlK T L x = 5
        · rw [if_pos g4, if_pos g4, ← e21]
          refine ⟨vr_pas h (by have := hG.2.1; omega), ?_⟩
          unfold pasV
          rw [va_up_ne _ _ (by omega), agP_out (by omega)]; exact h5
        · rw [if_neg g4, if_neg g4]
          exact ⟨h, h5⟩
theorem rd1_c {T V R : Nat → Nat} {L : Nat} : ∀ k, (rdS T L V k).1 = (rdS T L R k).1
  | 0 => rfl
  | k + 1 => by
    show tokE T L (stopX T L (tokS T L (rdS T L V k).1)) = tokE T L (stopX T L (tokS T L (rdS T L R k).1))
    rw [rd1_c k]
theorem rdX_c {T V R : Nat → Nat} {L : Nat} (k : Nat) : rdX T L V k = rdX T L R k := by
  unfold rdX; rw [rd1_c k]
theorem vr_rd {T V R : Nat → Nat} {L : Nat} (h : vr V R) (h5 : V 5 = 0) : ∀ k, (∀ u, u < k → rdOK T L V u) → vr (rdV T L V k) (rdV T L R k) ∧ rdV T L V k 5 = 0
  | 0, _ => ⟨h, h5⟩
  | k + 1, ho => by
    obtain ⟨a, b⟩ := vr_rd h h5 k (fun u hu => ho u (by omega))
    have e : rdV T L R (k + 1) = itV T L (rdV T L R k) (rdX T L V k) := by
      show itV T L (rdV T L R k) (rdX T L R k) = _
      rw [rdX_c (V := V) (R := R) k]
    rw [e]
    exact vr_it a b (ho k (by omega))
theorem rdOK_c {T V R : Nat → Nat} {L : Nat} (h : vr V R) (h5 : V 5 = 0) : ∀ k, (∀ u, u < k → rdOK T L V u) ↔ (∀ u, u < k → rdOK T L R u)
  | 0 => ⟨fun _ u hu => absurd hu (Nat.not_lt_zero _), fun _ u hu => absurd hu (Nat.not_lt_zero _)⟩
  | k + 1 => by
    have ih := rdOK_c (T := T) (L := L) h h5 k
    have step : (∀ u, u < k → rdOK T L V u) → (rdOK T L V k ↔ rdOK T L R k) := fun z => by
      have a := (vr_rd h h5 k z).1
      unfold rdOK
      rw [rdX_c (V := V) (R := R) k]
      exact itOK_c a.2.2 a.1.1 _ _
    constructor
    · intro z u hu
      have z1 : ∀ u, u < k → rdOK T L V u := fun u hu => z u (by omega)
      rcases Nat.lt_or_eq_of_le (Nat.le_of_lt_succ hu) with y | y
      · exact ih.mp z1 u y
      · rw [y]; exact (step z1).mp (z k (by omega))
    · intro z u hu
      have z1 : ∀ u, u < k → rdOK T L V u := ih.mpr (fun u hu => z u (by omega))
      rcases Nat.lt_or_eq_of_le (Nat.le_of_lt_succ hu) with y | y
      · exact z1 u y
      · rw [y]; exact (step z1).mpr (z k (by omega))
theorem rdGood_c {T V R : Nat → Nat} {L : Nat} (h : vr V R) (h5 : V 5 = 0) (k : Nat) : rdGood T L V k ↔ rdGood T L R k := by
  unfold rdGood
  rw [rdOK_c h h5 k, rdX_c (V := V) (R := R) k]
theorem rdBad_c {T V R : Nat → Nat} {L : Nat} (h : vr V R) (h5 : V 5 = 0) (p : Nat) : rdBad T L V p → rdBad T L R p := by
  rintro ⟨k, a1, a2, a3⟩
  have a := (vr_rd h h5 k a1).1
  rw [rdX_c (V := V) (R := R) k] at a2 a3
  exact ⟨k, (rdOK_c h h5 k).mp a1, a2, (itBad_c a.2.2 a.1.1 _ _ p).mp a3⟩
/-- of two ways through a text, the first fault or the end comes at the same item -/
theorem rd_one {T V : Nat → Nat} {L : Nat} {k k2 : Nat} (h1 : ∀ u, u < k → rdOK T L V u) (h2 : ¬ rdOK T L V k) (g1 : ∀ u, u < k2 → rdOK T L V u) (g2 : ¬ rdOK T L V k2) : k = k2 := by
  rcases Nat.lt_trichotomy k k2 with z | z | z
  · exact absurd (g1 k z) h2
  · exact z
  · exact absurd (h1 k2 z) g2
theorem img_i {K R : Nat → Nat} {i j : Nat} (hj : j < 256) : imgK K R i 256 (256 * i + j) = R j := by
  unfold imgK
  rw [if_pos (by omega), show 256 * i + j - 256 * i = j by omega]
theorem img_o {K R : Nat → Nat} {i u j : Nat} (hj : j < 256) (hne : ¬ u = i) : imgK K R i 256 (256 * u + j) = K (256 * u + j) := by
  unfold imgK
  rw [if_neg (by omega)]
theorem img_le {K R : Nat → Nat} {i : Nat} (h1 : ∀ j, K j ≤ 1999) (h2 : ∀ j, R j ≤ 1999) (j : Nat) : imgK K R i 256 j ≤ 1999 := by
  unfold imgK; split
  · exact h2 _
  · exact h1 _
end SRK
