section SRH
/-- the places that tell something -/
def liv (V : Nat → Nat) (j : Nat) : Prop := j < 6 ∨ j = 20 ∨ j = 21 ∨ (22 ≤ j ∧ j < 22 + V 0) ∨ (6 ≤ j ∧ j < 6 + V 0) ∨ (28 ≤ j ∧ j < 28 + V 1) ∨ (36 ≤ j ∧ j < 36 + V 1) ∨ (44 ≤ j ∧ j < 44 + V 1) ∨ (52 ≤ j ∧ j < 52 + V 1) ∨ (12 ≤ j ∧ j < 12 + V 1) ∨ (60 ≤ j ∧ j < 60 + 4 * V 2) ∨ (80 ≤ j ∧ j < 80 + 4 * V 3) ∨ (104 ≤ j ∧ j < 104 + 4 * V 4) ∨ (128 ≤ j ∧ j < 128 + 16 * V 5 ∧ (j % 16 < V 0 ∨ (6 ≤ j % 16 ∧ j % 16 < 6 + V 1) ∨ j % 16 = 14 ∨ j % 16 = 15))
theorem eqL_to {V R : Nat → Nat} (h : eqL V R) : ∀ j, liv V j → V j = R j := by
  intro j hj
  obtain ⟨b1, b2, b3, b4, b5, b6, b7, b8, b9⟩ := h
  rcases hj with a | a | a | a | a | a | a | a | a | a | a | a | a | a
  · exact b1 j a
  · rw [a]; exact b2
  · rw [a]; exact b3
  · have := (b4 (j - 22) (by omega)).1; rwa [show 22 + (j - 22) = j by omega] at this
  · have := (b4 (j - 6) (by omega)).2; rwa [show 6 + (j - 6) = j by omega] at this
  · have := (b5 (j - 28) (by omega)).1; rwa [show 28 + (j - 28) = j by omega] at this
  · have := (b5 (j - 36) (by omega)).2.1; rwa [show 36 + (j - 36) = j by omega] at this
  · have := (b5 (j - 44) (by omega)).2.2.1; rwa [show 44 + (j - 44) = j by omega] at this
  · have := (b5 (j - 52) (by omega)).2.2.2.1; rwa [show 52 + (j - 52) = j by omega] at this
  · have := (b5 (j - 12) (by omega)).2.2.2.2; rwa [show 12 + (j - 12) = j by omega] at this
  · have := b6 (j - 60) (by omega); rwa [show 60 + (j - 60) = j by omega] at this
  · have := b7 (j - 80) (by omega); rwa [show 80 + (j - 80) = j by omega] at this
  · have := b8 (j - 104) (by omega); rwa [show 104 + (j - 104) = j by omega] at this
  · have := b9 ((j - 128) / 16) (by omega) (j % 16) (by omega) a.2.2
    rwa [show 128 + (16 * ((j - 128) / 16) + j % 16) = j by omega] at this
theorem eqL_from {V R : Nat → Nat} (h : ∀ j, liv V j → V j = R j) : eqL V R := by
  refine ⟨fun j hj => h j (Or.inl hj), h 20 ?_, h 21 ?_, fun i hi => ⟨h _ ?_, h _ ?_⟩, fun k hk => ⟨h _ ?_, h _ ?_, h _ ?_, h _ ?_, h _ ?_⟩, fun r hr => h _ ?_, fun r hr => h _ ?_, fun r hr => h _ ?_, fun e he i hi hl => h _ ?_⟩
  all_goals (unfold liv; omega)
theorem vG_x {V X : Nat → Nat} (h : vG V) (e : ∀ j, j < 60 → (j < 2 ∨ 6 ≤ j) → X j = V j) (h2 : X 2 ≤ 5) (h3 : X 3 ≤ 6) (h4 : X 4 ≤ 6) (h5 : X 5 ≤ 8) (hB : ∀ j, X j ≤ 1999) : vG X := by
  obtain ⟨⟨i1, i2, i3, i4, i5, i6, i7, i8, i9, i10⟩, a2, a3, a4, a5⟩ := h
  have e0 := e 0 (by omega) (by omega)
  have e1 := e 1 (by omega) (by omega)
  have e20 := e 20 (by omega) (by omega)
  have e21 := e 21 (by omega) (by omega)
  refine ⟨⟨hB, by omega, by omega, h2, h3, h4, h5, fun j hj => by rw [e (36 + j) (by omega) (by omega)]; exact i8 j hj, fun j hj => by rw [e (44 + j) (by omega) (by omega)]; exact i9 j hj, by omega⟩, by omega, by rw [e20, e1]; exact a3, fun k hk => ?_, fun i hi => ?_⟩
  · rw [e (36 + k) (by omega) (by omega), e (44 + k) (by omega) (by omega), e (12 + k) (by omega) (by omega), e0]
    exact a4 k (by omega)
  · rw [e (6 + i) (by omega) (by omega), e20, e1, a5 i (by omega)]
    exact cntBy_cong (fun u hu => by rw [e (36 + u) (by omega) (by omega)])
abbrev tlz (R : Nat → Nat) : Prop := ∀ i, R 0 ≤ i → i < 6 → R (6 + i) = 0
theorem tlz_x {V X : Nat → Nat} (h : tlz V) (e : ∀ j, j < 60 → (j < 2 ∨ 6 ≤ j) → X j = V j) : tlz X := fun i h1 h2 => by
  rw [e (6 + i) (by omega) (by omega)]
  exact h i (by rw [← e 0 (by omega) (by omega)]; exact h1) h2
/-- the moment that entry e would bring back -/
abbrev ent (V : Nat → Nat) (e : Nat) : Nat → Nat := movR V 6 (128 + 16 * e) 16
abbrev pG (V : Nat → Nat) : Prop := ∀ e, e < V 5 → vG (ent V e)
abbrev pT (V : Nat → Nat) : Prop := ∀ e, e < V 5 → tlz (ent V e)
/-- two rows tell of the same valley, and all that may come of it is in order -/
def vr (V R : Nat → Nat) : Prop := (vG V ∧ pG V) ∧ ((vG R ∧ pG R) ∧ (tlz R ∧ pT R)) ∧ eqL V R
theorem ent_i {V : Nat → Nat} {e j : Nat} (h1 : 6 ≤ j) (h2 : j < 22) : ent V e j = V (128 + 16 * e + (j - 6)) := by
  unfold ent movR; rw [if_pos (by omega)]
theorem ent_o {V : Nat → Nat} {e j : Nat} (h : j < 6 ∨ 22 ≤ j) : ent V e j = V j := movR_out (by omega)
theorem ent_eq {V X : Nat → Nat} {e : Nat} (h : ∀ j, (j < 6 ∨ 22 ≤ j) → X j = V j) : ent X e = ent V e := by
  funext j
  rcases (show (6 ≤ j ∧ j < 22) ∨ (j < 6 ∨ 22 ≤ j) by omega) with q | q
  · rw [ent_i q.1 q.2, ent_i q.1 q.2, h _ (by omega)]
  · rw [ent_o q, ent_o q, h j q]
/-! none to be undone -/
theorem vG_cut {V : Nat → Nat} (h : vG V) : vG (va_up V 5 0) :=
  vG_x h (fun j h1 h2 => va_up_ne _ _ (by omega)) (by rw [va_up_ne _ _ (by omega)]; exact h.1.2.2.2.1) (by rw [va_up_ne _ _ (by omega)]; exact h.1.2.2.2.2.1) (by rw [va_up_ne _ _ (by omega)]; exact h.1.2.2.2.2.2.1) (by rw [va_up_self]; omega) (fun j => up_le h.1.1 (by omega) j)
theorem vr_cut {V R : Nat → Nat} (h : vr V R) : vr (va_up V 5 0) (va_up R 5 0) := by
  obtain ⟨⟨a1, a2⟩, ⟨⟨b1, b2⟩, b3, b4⟩, c⟩ := h
  refine ⟨⟨vG_cut a1, fun e he => ?_⟩, ⟨⟨vG_cut b1, fun e he => ?_⟩, tlz_x b3 (fun j h1 h2 => va_up_ne _ _ (by omega)), fun e he => ?_⟩, eqL_from (fun j hj => ?_)⟩
  · rw [va_up_self] at he; omega
  · rw [va_up_self] at he; omega
  · rw [va_up_self] at he; omega
  · by_cases q : j = 5
    · rw [q, va_up_self, va_up_self]
    · rw [va_up_ne _ _ q, va_up_ne _ _ q]
      refine eqL_to c j ?_
      unfold liv at hj ⊢
      rw [va_up_self, va_up_ne _ _ (show ¬ 0 = 5 by decide), va_up_ne _ _ (show ¬ 1 = 5 by decide), va_up_ne _ _ (show ¬ 2 = 5 by decide), va_up_ne _ _ (show ¬ 3 = 5 by decide), va_up_ne _ _ (show ¬ 4 = 5 by decide)] at hj
      omega
theorem per_at {V : Nat → Nat} {k j : Nat} : perV V k j = if j = 0 then V 0 + 1 else if j = 6 + V 0 then 0 else if j = 22 + V 0 then k else V j := by
  unfold perV va_up; rfl
theorem vr_per {V R : Nat → Nat} (h : vr V R) (h5 : V 5 = 0) {k : Nat} (hk : k < 6) (h6 : V 0 < 6) : vr (perV V k) (perV R k) := by
  obtain ⟨⟨a1, a2⟩, ⟨⟨b1, b2⟩, b3, b4⟩, c⟩ := h
  have e0 := c.1 0 (by omega)
  have e5 := c.1 5 (by omega)
  have p5 : perV V k 5 = 0 := by rw [per_at]; rw [if_neg (by omega), if_neg (by omega), if_neg (by omega)]; exact h5
  have r5 : perV R k 5 = 0 := by rw [per_at]; rw [if_neg (by omega), if_neg (by omega), if_neg (by omega)]; omega
  refine ⟨⟨vG_per a1 hk h6, fun e he => ?_⟩, ⟨⟨vG_per b1 hk (by omega), fun e he => ?_⟩, fun i h1 h2 => ?_, fun e he => ?_⟩, eqL_from (fun j hj => ?_)⟩
  · rw [p5] at he; omega
  · rw [r5] at he; omega
  · rw [per_at, if_pos rfl] at h1
    rw [per_at, if_neg (by omega), if_neg (by omega), if_neg (by omega)]
    exact b3 i (by omega) h2
  · rw [r5] at he; omega
  · rw [per_at, per_at, ← e0]
    by_cases q0 : j = 0
    · rw [if_pos q0, if_pos q0]
    · rw [if_neg q0, if_neg q0]
      by_cases q1 : j = 6 + V 0
      · rw [if_pos q1, if_pos q1]
      · rw [if_neg q1, if_neg q1]
        by_cases q2 : j = 22 + V 0
        · rw [if_pos q2, if_pos q2]
        · rw [if_neg q2, if_neg q2]
          refine eqL_to c j ?_
          unfold liv at hj ⊢
          rw [p5, per_at, if_pos rfl] at hj
          rw [show perV V k 1 = V 1 by rw [per_at, if_neg (by omega), if_neg (by omega), if_neg (by omega)], show perV V k 2 = V 2 by rw [per_at, if_neg (by omega), if_neg (by omega), if_neg (by omega)], show perV V k 3 = V 3 by rw [per_at, if_neg (by omega), if_neg (by omega), if_neg (by omega)], show perV V k 4 = V 4 by rw [per_at, if_neg (by omega), if_neg (by omega), if_neg (by omega)]] at hj
          omega
theorem lay_at {V : Nat → Nat} {kd a b g j : Nat} : layR V kd a b g j = if j = 1 then V 1 + 1 else if j = 12 + V 1 then 0 else if j = 52 + V 1 then g else if j = 44 + V 1 then b else if j = 36 + V 1 then a else if j = 28 + V 1 then kd else V j := by
  unfold layR va_up; rfl
theorem vr_lay {V R : Nat → Nat} (h : vr V R) (h5 : V 5 = 0) {kd a b g : Nat} (hk : kd < 6) (ha : a < V 0) (hb : b < V 0) (hg : g ≤ 9) (h8 : V 1 < 8) : vr (layR V kd a b g) (layR R kd a b g) := by
  obtain ⟨⟨a1, a2⟩, ⟨⟨b1, b2⟩, b3, b4⟩, c⟩ := h
  have e0 := c.1 0 (by omega)
  have e1 := c.1 1 (by omega)
  have e5 := c.1 5 (by omega)
  have lo : ∀ (V : Nat → Nat) (j : Nat), j < 12 → ¬ j = 1 → layR V kd a b g j = V j := fun V j y1 y2 => by
    rw [lay_at, if_neg y2, if_neg (by omega), if_neg (by omega), if_neg (by omega), if_neg (by omega), if_neg (by omega)]
  have p1 : layR V kd a b g 1 = V 1 + 1 := by rw [lay_at, if_pos rfl]
  refine ⟨⟨vG_lay a1 hk ha hb hg h8, fun e he => ?_⟩, ⟨⟨vG_lay b1 hk (by omega) (by omega) hg (by omega), fun e he => ?_⟩, fun i h1 h2 => ?_, fun e he => ?_⟩, eqL_from (fun j hj => ?_)⟩
  · rw [lo V 5 (by omega) (by omega)] at he; omega
  · rw [lo R 5 (by omega) (by omega)] at he; omega
  · rw [lo R 0 (by omega) (by omega)] at h1
    rw [lo R _ (by omega) (by omega)]
    exact b3 i h1 h2
  · rw [lo R 5 (by omega) (by omega)] at he; omega
  · rw [lay_at, lay_at, ← e1]
    by_cases q0 : j = 1
    · rw [if_pos q0, if_pos q0]
    · rw [if_neg q0, if_neg q0]
      by_cases q1 : j = 12 + V 1
      · rw [if_pos q1, if_pos q1]
      · rw [if_neg q1, if_neg q1]
        by_cases q2 : j = 52 + V 1
        · rw [if_pos q2, if_pos q2]
        · rw [if_neg q2, if_neg q2]
          by_cases q3 : j = 44 + V 1
          · rw [if_pos q3, if_pos q3]
          · rw [if_neg q3, if_neg q3]
            by_cases q4 : j = 36 + V 1
            · rw [if_pos q4, if_pos q4]
            · rw [if_neg q4, if_neg q4]
              by_cases q6 : j = 28 + V 1
              · rw [if_pos q6, if_pos q6]
              · rw [if_neg q6, if_neg q6]
                refine eqL_to c j ?_
                unfold liv at hj ⊢
                rw [p1, lo V 0 (by omega) (by omega), lo V 2 (by omega) (by omega), lo V 3 (by omega) (by omega), lo V 4 (by omega) (by omega), lo V 5 (by omega) (by omega)] at hj
                omega
end SRH
