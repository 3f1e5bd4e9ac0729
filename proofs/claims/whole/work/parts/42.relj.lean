section SRJ
theorem pop_at {V : Nat → Nat} {j : Nat} (h5 : 1 ≤ V 5) : popR V j = if j = 5 then V 5 - 1 else ent V (V 5 - 1) j := by
  unfold popR ent movR
  by_cases q : j = 5
  · rw [if_pos q, if_neg (by omega), q, va_up_self]
  · rw [if_neg q]
    by_cases z : 6 ≤ j ∧ j < 6 + 16
    · rw [if_pos z, if_pos z, va_up_ne _ _ (by omega)]
    · rw [if_neg z, if_neg z, va_up_ne _ _ q]
theorem pop_ent {V : Nat → Nat} (h : vG V) (hp : pG V) (h5 : 1 ≤ V 5) : (vG (popR V) ∧ pG (popR V)) ∧ (pT V → tlz (popR V) ∧ pT (popR V)) := by
  have i7 := h.1.2.2.2.2.2.2.1
  have hB : ∀ j, popR V j ≤ 1999 := fun j => by
    rw [pop_at h5]; split
    · omega
    · exact movR_le h.1.1 _ _ _ _
  have p5 : popR V 5 = V 5 - 1 := by rw [pop_at h5, if_pos rfl]
  have lo : ∀ j, (j < 6 ∨ 22 ≤ j) → ¬ j = 5 → popR V j = V j := fun j a b => by
    rw [pop_at h5, if_neg b, ent_o a]
  have key : ∀ j, j < 60 → (j < 2 ∨ 6 ≤ j) → popR V j = ent V (V 5 - 1) j := fun j a b => by
    rw [pop_at h5, if_neg (by omega)]
  have x2 : popR V 2 ≤ 5 := by rw [lo 2 (by omega) (by omega)]; exact h.1.2.2.2.1
  have x3 : popR V 3 ≤ 6 := by rw [lo 3 (by omega) (by omega)]; exact h.1.2.2.2.2.1
  have x4 : popR V 4 ≤ 6 := by rw [lo 4 (by omega) (by omega)]; exact h.1.2.2.2.2.2.1
  have kent : ∀ e, ∀ j, j < 60 → (j < 2 ∨ 6 ≤ j) → ent (popR V) e j = ent V e j := fun e j a b => by
    rcases (show (6 ≤ j ∧ j < 22) ∨ (j < 6 ∨ 22 ≤ j) by omega) with y | y
    · rw [ent_i y.1 y.2, ent_i y.1 y.2, lo _ (by omega) (by omega)]
    · rw [ent_o y, ent_o y, lo j y (by omega)]
  refine ⟨⟨vG_x (hp _ (by omega)) key x2 x3 x4 (by omega) hB, fun e he => ?_⟩, fun t => ⟨tlz_x (t _ (by omega)) key, fun e he => tlz_x (t e (by omega)) (kent e)⟩⟩
  rw [p5] at he
  exact vG_x (hp e (by omega)) (kent e) (by rw [ent_o (by omega)]; exact x2) (by rw [ent_o (by omega)]; exact x3) (by rw [ent_o (by omega)]; exact x4) (by rw [ent_o (by omega)]; omega) (movR_le hB _ _ _)
theorem vr_pop {V R : Nat → Nat} (h : vr V R) (h5 : 1 ≤ V 5) : vr (popR V) (popR R) := by
  obtain ⟨⟨a1, a2⟩, ⟨⟨b1, b2⟩, b3, b4⟩, c⟩ := h
  have e5 := c.1 5 (by omega)
  have i2 := a1.1.2.1
  have i3 := a1.1.2.2.1
  have i4 := a1.1.2.2.2.1
  have i5 := a1.1.2.2.2.2.1
  have i6 := a1.1.2.2.2.2.2.1
  have pa := pop_ent a1 a2 h5
  have pb := pop_ent b1 b2 (by omega)
  refine ⟨pa.1, ⟨pb.1, pb.2 b4⟩, eqL_from (fun j hj => ?_)⟩
  have lo : ∀ j, (j < 6 ∨ 22 ≤ j) → ¬ j = 5 → popR V j = V j := fun j a b => by
    rw [pop_at h5, if_neg b, ent_o a]
  have p5 : popR V 5 = V 5 - 1 := by rw [pop_at h5, if_pos rfl]
  unfold liv at hj
  rw [p5, lo 0 (by omega) (by omega), lo 1 (by omega) (by omega), lo 2 (by omega) (by omega), lo 3 (by omega) (by omega), lo 4 (by omega) (by omega)] at hj
  rw [pop_at h5, pop_at (by omega), ← e5]
  by_cases q0 : j = 5
  · rw [if_pos q0, if_pos q0]
  · rw [if_neg q0, if_neg q0]
    rcases (show (6 ≤ j ∧ j < 22) ∨ (j < 6 ∨ 22 ≤ j) by omega) with y | y
    · rw [ent_i y.1 y.2, ent_i y.1 y.2]
      refine eqL_to c _ ?_
      unfold liv
      have : (128 + 16 * (V 5 - 1) + (j - 6)) % 16 = j - 6 := by omega
      omega
    · rw [ent_o y, ent_o y]
      refine eqL_to c _ ?_
      unfold liv
      omega
/-- a change of what was witnessed alone -/
theorem wit_ok {V X : Nat → Nat} (h : vG V) (hp : pG V) (e : ∀ j, (j < 2 ∨ (5 ≤ j ∧ j < 60) ∨ 128 ≤ j) → X j = V j) (h2 : X 2 ≤ 5) (h3 : X 3 ≤ 6) (h4 : X 4 ≤ 6) (hB : ∀ j, X j ≤ 1999) : (vG X ∧ pG X) ∧ (tlz V ∧ pT V → tlz X ∧ pT X) := by
  have i7 := h.1.2.2.2.2.2.2.1
  have e5 := e 5 (by omega)
  have kent : ∀ u, ∀ j, j < 60 → (j < 2 ∨ 6 ≤ j) → ent X u j = ent V u j := fun u j a b => by
    rcases (show (6 ≤ j ∧ j < 22) ∨ (j < 6 ∨ 22 ≤ j) by omega) with y | y
    · rw [ent_i y.1 y.2, ent_i y.1 y.2, e _ (by omega)]
    · rw [ent_o y, ent_o y, e j (by omega)]
  refine ⟨⟨vG_x h (fun j a b => e j (by omega)) h2 h3 h4 (by omega) hB, fun u hu => ?_⟩, fun t => ⟨tlz_x t.1 (fun j a b => e j (by omega)), fun u hu => tlz_x (t.2 u (by omega)) (kent u)⟩⟩
  exact vG_x (hp u (by omega)) (kent u) (by rw [ent_o (by omega)]; exact h2) (by rw [ent_o (by omega)]; exact h3) (by rw [ent_o (by omega)]; exact h4) (by rw [ent_o (by omega)]; omega) (movR_le hB _ _ _)
theorem add_at {V : Nat → Nat} {sz off a b c d j : Nat} : addV V sz off a b c d j = if j = sz then V sz + 1 else if j = off + V sz * 4 + 3 then d else if j = off + V sz * 4 + 2 then c else if j = off + V sz * 4 + 1 then b else if j = off + V sz * 4 then a else V j := by
  unfold addV wr4 va_up; rfl
theorem add_r (R : Nat → Nat) (sz off a b c d : Nat) : addR R sz off a b c d = addV R sz off a b c d := by
  unfold addR addV fourR wr4
  rw [Nat.mul_comm 4 (R sz)]
theorem vr_add {V R : Nat → Nat} (h : vr V R) {sz off a b c d : Nat} (hs : (sz = 2 ∧ off = 60 ∧ V 2 < 5) ∨ (sz = 3 ∧ off = 80 ∧ V 3 < 6) ∨ (sz = 4 ∧ off = 104 ∧ V 4 < 6)) (ha : a ≤ 99) (hb : b ≤ 99) (hc : c ≤ 99) (hd9 : d ≤ 99) : vr (addV V sz off a b c d) (addV R sz off a b c d) := by
  obtain ⟨⟨a1, a2⟩, ⟨⟨b1, b2⟩, b3, b4⟩, cc⟩ := h
  have e2 := cc.1 2 (by omega)
  have e3 := cc.1 3 (by omega)
  have e4 := cc.1 4 (by omega)
  have es : V sz = R sz := by rcases hs with z | z | z <;> rw [z.1] <;> assumption
  have hB : ∀ (V : Nat → Nat), (∀ j, V j ≤ 1999) → V sz < 6 → ∀ j, addV V sz off a b c d j ≤ 1999 := fun V y1 y2 j => by
    have := y1 j
    rw [add_at]; (repeat' split) <;> omega
  have h6 : V sz < 6 ∧ 2 ≤ sz ∧ sz ≤ 4 ∧ 60 ≤ off ∧ off + V sz * 4 + 3 < 128 := by
    rcases hs with z | z | z <;> rw [z.1] <;> omega
  have lo : ∀ (V : Nat → Nat), V sz < 6 → off + V sz * 4 + 3 < 128 → ∀ j, (j < 2 ∨ (5 ≤ j ∧ j < 60) ∨ 128 ≤ j) → addV V sz off a b c d j = V j := fun V y1 y2 j y => by
    rw [add_at, if_neg (by omega), if_neg (by omega), if_neg (by omega), if_neg (by omega), if_neg (by omega)]
  have sz' : ∀ (V : Nat → Nat) (q : Nat), 2 ≤ q → q ≤ 4 → addV V sz off a b c d q = if q = sz then V sz + 1 else V q := fun V q y1 y2 => by
    rw [add_at]
    by_cases z : q = sz
    · rw [if_pos z, if_pos z]
    · rw [if_neg z, if_neg z, if_neg (by omega), if_neg (by omega), if_neg (by omega), if_neg (by omega)]
  have bd : ∀ (V : Nat → Nat), vG V → ((sz = 2 ∧ off = 60 ∧ V 2 < 5) ∨ (sz = 3 ∧ off = 80 ∧ V 3 < 6) ∨ (sz = 4 ∧ off = 104 ∧ V 4 < 6)) → addV V sz off a b c d 2 ≤ 5 ∧ addV V sz off a b c d 3 ≤ 6 ∧ addV V sz off a b c d 4 ≤ 6 := fun V y1 y2 => by
    have z2 := y1.1.2.2.2.1
    have z3 := y1.1.2.2.2.2.1
    have z4 := y1.1.2.2.2.2.2.1
    rw [sz' V 2 (by omega) (by omega), sz' V 3 (by omega) (by omega), sz' V 4 (by omega) (by omega)]
    rcases y2 with ⟨rfl, _, y⟩ | ⟨rfl, _, y⟩ | ⟨rfl, _, y⟩
    · rw [if_pos rfl, if_neg (by omega), if_neg (by omega)]; omega
    · rw [if_pos rfl, if_neg (by omega), if_neg (by omega)]; omega
    · rw [if_pos rfl, if_neg (by omega), if_neg (by omega)]; omega
  have bV := bd V a1 hs
  have bR := bd R b1 (by rw [← e2, ← e3, ← e4]; exact hs)
  have wV := wit_ok a1 a2 (lo V h6.1 h6.2.2.2.2) bV.1 bV.2.1 bV.2.2 (hB V a1.1.1 h6.1)
  have wR := wit_ok b1 b2 (lo R (by omega) (by omega)) bR.1 bR.2.1 bR.2.2 (hB R b1.1.1 (by omega))
  refine ⟨wV.1, ⟨wR.1, wR.2 ⟨b3, b4⟩⟩, eqL_from (fun j hj => ?_)⟩
  rw [add_at, add_at, ← es]
  by_cases q0 : j = sz
  · rw [if_pos q0, if_pos q0]
  · rw [if_neg q0, if_neg q0]
    by_cases q1 : off + V sz * 4 ≤ j ∧ j < off + V sz * 4 + 4
    · rcases (show j = off + V sz * 4 ∨ j = off + V sz * 4 + 1 ∨ j = off + V sz * 4 + 2 ∨ j = off + V sz * 4 + 3 by omega) with z | z | z | z
      · rw [if_neg (by omega), if_neg (by omega), if_neg (by omega), if_pos z, if_neg (by omega), if_neg (by omega), if_neg (by omega), if_pos z]
      · rw [if_neg (by omega), if_neg (by omega), if_pos z, if_neg (by omega), if_neg (by omega), if_pos z]
      · rw [if_neg (by omega), if_pos z, if_neg (by omega), if_pos z]
      · rw [if_pos z, if_pos z]
    · rw [if_neg (by omega), if_neg (by omega), if_neg (by omega), if_neg (by omega), if_neg (by omega), if_neg (by omega), if_neg (by omega), if_neg (by omega)]
      refine eqL_to cc j ?_
      unfold liv at hj ⊢
      rw [lo V h6.1 h6.2.2.2.2 0 (by omega), lo V h6.1 h6.2.2.2.2 1 (by omega), lo V h6.1 h6.2.2.2.2 5 (by omega), sz' V 2 (by omega) (by omega), sz' V 3 (by omega) (by omega), sz' V 4 (by omega) (by omega)] at hj
      rcases hs with ⟨rfl, rfl, y⟩ | ⟨rfl, rfl, y⟩ | ⟨rfl, rfl, y⟩
      · rw [if_pos rfl, if_neg (by omega), if_neg (by omega)] at hj; omega
      · rw [if_pos rfl, if_neg (by omega), if_neg (by omega)] at hj; omega
      · rw [if_pos rfl, if_neg (by omega), if_neg (by omega)] at hj; omega
theorem vr_fgt {V R : Nat → Nat} (h : vr V R) {w : Nat} (hw9 : w ≤ 2) : vr (va_up V (2 + w) 0) (va_up R (2 + w) 0) := by
  obtain ⟨⟨a1, a2⟩, ⟨⟨b1, b2⟩, b3, b4⟩, c⟩ := h
  have lo : ∀ (V : Nat → Nat) (j : Nat), (j < 2 ∨ (5 ≤ j ∧ j < 60) ∨ 128 ≤ j) → va_up V (2 + w) 0 j = V j := fun V j y => va_up_ne _ _ (by omega)
  have le : ∀ (V : Nat → Nat) (j N : Nat), V j ≤ N → va_up V (2 + w) 0 j ≤ N := fun V j N y => by
    by_cases z : j = 2 + w
    · rw [z, va_up_self]; exact Nat.zero_le _
    · rw [va_up_ne _ _ z]; exact y
  have wV := wit_ok a1 a2 (lo V) (le V 2 5 a1.1.2.2.2.1) (le V 3 6 a1.1.2.2.2.2.1) (le V 4 6 a1.1.2.2.2.2.2.1) (fun j => le V j _ (a1.1.1 j))
  have wR := wit_ok b1 b2 (lo R) (le R 2 5 b1.1.2.2.2.1) (le R 3 6 b1.1.2.2.2.2.1) (le R 4 6 b1.1.2.2.2.2.2.1) (fun j => le R j _ (b1.1.1 j))
  refine ⟨wV.1, ⟨wR.1, wR.2 ⟨b3, b4⟩⟩, eqL_from (fun j hj => ?_)⟩
  by_cases q0 : j = 2 + w
  · rw [q0, va_up_self, va_up_self]
  · rw [va_up_ne _ _ q0, va_up_ne _ _ q0]
    refine eqL_to c j ?_
    unfold liv at hj ⊢
    rw [lo V 0 (by omega), lo V 1 (by omega), lo V 5 (by omega)] at hj
    have l2 := le V 2 _ (Nat.le_refl _)
    have l3 := le V 3 _ (Nat.le_refl _)
    have l4 := le V 4 _ (Nat.le_refl _)
    omega
theorem em_at {V : Nat → Nat} {j : Nat} (h : j < 6 ∨ j = 20 ∨ j = 21) : emV V j = 0 := by
  unfold emV va_up
  rcases (show j = 0 ∨ j = 1 ∨ j = 2 ∨ j = 3 ∨ j = 4 ∨ j = 5 ∨ j = 20 ∨ j = 21 by omega) with rfl | rfl | rfl | rfl | rfl | rfl | rfl | rfl <;> rfl
theorem zr_at {R : Nat → Nat} {j : Nat} (h : j < 128) : zeroR R 128 j = 0 := if_pos h
theorem vr_em {V R : Nat → Nat} (h : vI V) (hB : ∀ j, R j ≤ 1999) : vr (emV V) (zeroR R 128) := by
  have z : ∀ j, j < 128 → zeroR R 128 j = 0 := fun j hj => zr_at hj
  have hz : ∀ j, zeroR R 128 j ≤ 1999 := fun j => by
    unfold zeroR; split
    · omega
    · exact hB j
  have g : vG (zeroR R 128) := by
    refine ⟨⟨hz, ?_, ?_, ?_, ?_, ?_, ?_, fun j hj => ?_, fun j hj => ?_, ?_⟩, ?_, ?_, fun k hk => ?_, fun i hi => ?_⟩
    · rw [z _ (by omega)]; omega
    · rw [z _ (by omega)]; omega
    · rw [z _ (by omega)]; omega
    · rw [z _ (by omega)]; omega
    · rw [z _ (by omega)]; omega
    · rw [z _ (by omega)]; omega
    · rw [z _ (by omega)]; omega
    · rw [z _ (by omega)]; omega
    · rw [z _ (by omega)]; omega
    · rw [z _ (by omega)]; omega
    · rw [z 20 (by omega)]; exact Nat.two_pow_pos _
    · rw [z 1 (by omega)] at hk; omega
    · rw [z 0 (by omega)] at hi; omega
  refine ⟨⟨vG_em h, fun e he => ?_⟩, ⟨⟨g, fun e he => ?_⟩, fun i h1 h2 => z _ (by omega), fun e he => ?_⟩, eqL_from (fun j hj => ?_)⟩
  · rw [em_at (by omega)] at he; omega
  · rw [z 5 (by omega)] at he; omega
  · rw [z 5 (by omega)] at he; omega
  · unfold liv at hj
    rw [em_at (j := 0) (by omega), em_at (j := 1) (by omega), em_at (j := 2) (by omega), em_at (j := 3) (by omega), em_at (j := 4) (by omega), em_at (j := 5) (by omega)] at hj
    rw [em_at (by omega), z j (by omega)]
end SRJ
