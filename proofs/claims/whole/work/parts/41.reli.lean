section SRI
theorem stk_at {V : Nat → Nat} {k j : Nat} : stkV V k j = if j = 6 + V (36 + k) then V (6 + V (36 + k)) + 1 else if j = 20 then V 20 ||| 2 ^ k else V j := by
  unfold stkV va_up; rfl
theorem vr_stk {V R : Nat → Nat} (h : vr V R) {k : Nat} (hk : k < V 1) (hb : ¬ bt (V 20) k) : vr (stkV V k) (stkV R k) := by
  obtain ⟨⟨a1, a2⟩, ⟨⟨b1, b2⟩, b3, b4⟩, c⟩ := h
  have e0 := c.1 0 (by omega)
  have e1 := c.1 1 (by omega)
  have e20 := c.2.1
  have ew := (c.2.2.2.2.1 k hk).2.1
  have hw0 := (a1.2.2.2.1 k hk).1
  have i2 := a1.1.2.1
  have er := (c.2.2.2.1 _ hw0).2
  have lo : ∀ j, (j < 6 ∨ 22 ≤ j) → stkV V k j = V j := fun j y => by
    rw [stk_at, if_neg (by omega), if_neg (by omega)]
  have lr : ∀ j, (j < 6 ∨ 22 ≤ j) → stkV R k j = R j := fun j y => by
    rw [stk_at, if_neg (by omega), if_neg (by omega)]
  refine ⟨⟨vG_stk a1 hk hb, fun e he => ?_⟩, ⟨⟨vG_stk b1 (by omega) (by rw [← e20]; exact hb), fun e he => ?_⟩, fun i h1 h2 => ?_, fun e he => ?_⟩, eqL_from (fun j hj => ?_)⟩
  · rw [lo 5 (by omega)] at he; rw [ent_eq lo]; exact a2 e he
  · rw [lr 5 (by omega)] at he; rw [ent_eq lr]; exact b2 e he
  · rw [lr 0 (by omega)] at h1
    rw [stk_at, if_neg (by omega), if_neg (by omega)]
    exact b3 i h1 h2
  · rw [lr 5 (by omega)] at he; rw [ent_eq lr]; exact b4 e he
  · rw [stk_at, stk_at, ← ew, ← er, ← e20]
    by_cases q0 : j = 6 + V (36 + k)
    · rw [if_pos q0, if_pos q0]
    · rw [if_neg q0, if_neg q0]
      by_cases q1 : j = 20
      · rw [if_pos q1, if_pos q1]
      · rw [if_neg q1, if_neg q1]
        refine eqL_to c j ?_
        unfold liv at hj ⊢
        rw [lo 0 (by omega), lo 1 (by omega), lo 2 (by omega), lo 3 (by omega), lo 4 (by omega), lo 5 (by omega)] at hj
        exact hj
theorem vr_pas {V R : Nat → Nat} (h : vr V R) {q : Nat} (hq : V 21 + q ≤ 999) : vr (pasV V q) (pasV R q) := by
  obtain ⟨⟨a1, a2⟩, ⟨⟨b1, b2⟩, b3, b4⟩, c⟩ := h
  have e0 := c.1 0 (by omega)
  have e1 := c.1 1 (by omega)
  have e20 := c.2.1
  have e21 := c.2.2.1
  have i3 := a1.1.2.2.1
  have lo : ∀ (V : Nat → Nat), V 1 ≤ 8 → ∀ j, (j < 12 ∨ 20 ≤ j) → ¬ j = 21 → pasV V q j = V j := fun V i3 j y z => by
    unfold pasV; rw [va_up_ne _ _ z, agP_out (by omega)]
  have i3r : R 1 ≤ 8 := by omega
  refine ⟨⟨vG_pas a1 hq, fun e he => ?_⟩, ⟨⟨vG_pas b1 (by omega), fun e he => ?_⟩, fun i h1 h2 => ?_, fun e he => ?_⟩, eqL_from (fun j hj => ?_)⟩
  · rw [lo V i3 5 (by omega) (by omega)] at he; rw [ent_eq (fun j y => lo V i3 j (by omega) (by omega))]; exact a2 e he
  · rw [lo R i3r 5 (by omega) (by omega)] at he; rw [ent_eq (fun j y => lo R i3r j (by omega) (by omega))]; exact b2 e he
  · rw [lo R i3r 0 (by omega) (by omega)] at h1
    rw [lo R i3r _ (by omega) (by omega)]
    exact b3 i h1 h2
  · rw [lo R i3r 5 (by omega) (by omega)] at he; rw [ent_eq (fun j y => lo R i3r j (by omega) (by omega))]; exact b4 e he
  · unfold liv at hj
    rw [lo V i3 0 (by omega) (by omega), lo V i3 1 (by omega) (by omega), lo V i3 2 (by omega) (by omega), lo V i3 3 (by omega) (by omega), lo V i3 4 (by omega) (by omega), lo V i3 5 (by omega) (by omega)] at hj
    have ej := eqL_to c j hj
    unfold pasV
    by_cases q0 : j = 21
    · rw [q0, va_up_self, va_up_self, e21]
    · rw [va_up_ne _ _ q0, va_up_ne _ _ q0]
      unfold agP
      rw [← e1, ← e20, ej]
theorem full_lo {V : Nat → Nat} {j : Nat} (h : j < 128) (h5 : ¬ j = 5) : fullR V j = V j := fullR_o h h5
theorem full_5 {V : Nat → Nat} (h5 : V 5 ≤ 8) : fullR V 5 = min (V 5) 7 := by
  unfold fullR; split
  · rw [va_up_self]; omega
  · omega
theorem full_e {V : Nat → Nat} {j : Nat} (h1 : 128 ≤ j) (h2 : j < 240) : fullR V j = V (if V 5 = 8 then j + 16 else j) := by
  unfold fullR; split
  · rw [va_up_ne _ _ (by omega)]; unfold movR; rw [if_pos (by omega), show 144 + (j - 128) = j + 16 by omega]
  · rfl
/-- a place of the row behind a moment kept -/
theorem save_at {V : Nat → Nat} {j : Nat} : saveR V j = if j = 5 then fullR V 5 + 1 else if 128 + 16 * fullR V 5 ≤ j ∧ j < 128 + 16 * fullR V 5 + 16 then fullR V (6 + (j - (128 + 16 * fullR V 5))) else fullR V j := by
  unfold saveR va_up movR; rfl
theorem save_ent {V : Nat → Nat} (h : vG V) (hp : pG V) {e : Nat} (he : e < saveR V 5) : vG (ent (saveR V) e) ∧ (tlz V → pT V → tlz (ent (saveR V) e)) := by
  have h5 := h.1.2.2.2.2.2.2.1
  have f5 := full_5 h5
  have s5 : saveR V 5 = fullR V 5 + 1 := by rw [save_at, if_pos rfl]
  have hi := vI_save h.1
  have hB : ∀ j, ent (saveR V) e j ≤ 1999 := movR_le hi.1 _ _ _
  have so : ∀ j, j < 60 → (j < 6 ∨ 22 ≤ j) → ¬ j = 5 → ent (saveR V) e j = V j := fun j a b d => by
    rw [ent_o b, saveR_o (by omega) d]
  have x2 : ent (saveR V) e 2 ≤ 5 := by rw [so 2 (by omega) (by omega) (by omega)]; exact h.1.2.2.2.1
  have x3 : ent (saveR V) e 3 ≤ 6 := by rw [so 3 (by omega) (by omega) (by omega)]; exact h.1.2.2.2.2.1
  have x4 : ent (saveR V) e 4 ≤ 6 := by rw [so 4 (by omega) (by omega) (by omega)]; exact h.1.2.2.2.2.2.1
  have x5 : ent (saveR V) e 5 ≤ 8 := by rw [ent_o (by omega)]; omega
  by_cases q : e = fullR V 5
  · have key : ∀ j, j < 60 → (j < 2 ∨ 6 ≤ j) → ent (saveR V) e j = V j := fun j a b => by
      rcases (show (6 ≤ j ∧ j < 22) ∨ (j < 6 ∨ 22 ≤ j) by omega) with y | y
      · rw [ent_i y.1 y.2, save_at, if_neg (by omega), if_pos (by omega), q, show 6 + (128 + 16 * fullR V 5 + (j - 6) - (128 + 16 * fullR V 5)) = j by omega, full_lo (by omega) (by omega)]
      · exact so j a y (by omega)
    exact ⟨vG_x h key x2 x3 x4 x5 hB, fun t _ => tlz_x t key⟩
  · have hlt : (if V 5 = 8 then e + 1 else e) < V 5 := by split <;> omega
    have key : ∀ j, j < 60 → (j < 2 ∨ 6 ≤ j) → ent (saveR V) e j = ent V (if V 5 = 8 then e + 1 else e) j := fun j a b => by
      rcases (show (6 ≤ j ∧ j < 22) ∨ (j < 6 ∨ 22 ≤ j) by omega) with y | y
      · rw [ent_i y.1 y.2, ent_i y.1 y.2, save_at, if_neg (by omega), if_neg (by omega), full_e (by omega) (by omega)]
        congr 1
        split <;> omega
      · rw [so j a y (by omega), ent_o y]
    exact ⟨vG_x (hp _ hlt) key x2 x3 x4 x5 hB, fun _ t => tlz_x (t _ hlt) key⟩
theorem vG_save {V : Nat → Nat} (h : vG V) : vG (saveR V) := by
  have hi := vI_save h.1
  exact vG_x h (fun j a b => saveR_o (by omega) (by omega)) hi.2.2.2.1 hi.2.2.2.2.1 hi.2.2.2.2.2.1 hi.2.2.2.2.2.2.1 hi.1
theorem vr_save {V R : Nat → Nat} (h : vr V R) : vr (saveR V) (saveR R) := by
  obtain ⟨⟨a1, a2⟩, ⟨⟨b1, b2⟩, b3, b4⟩, c⟩ := h
  have e0 := c.1 0 (by omega)
  have e1 := c.1 1 (by omega)
  have e5 := c.1 5 (by omega)
  have i2 := a1.1.2.1
  have i3 := a1.1.2.2.1
  have h5 := a1.1.2.2.2.2.2.2.1
  have i4 := a1.1.2.2.2.1
  have i5 := a1.1.2.2.2.2.1
  have i6 := a1.1.2.2.2.2.2.1
  have f5 := full_5 h5
  have g5 : fullR R 5 = min (R 5) 7 := full_5 (by omega)
  have s5 : saveR V 5 = fullR V 5 + 1 := by rw [save_at, if_pos rfl]
  refine ⟨⟨vG_save a1, fun e he => (save_ent a1 a2 he).1⟩, ⟨⟨vG_save b1, fun e he => (save_ent b1 b2 he).1⟩, tlz_x b3 (fun j a b => saveR_o (by omega) (by omega)), fun e he => (save_ent b1 b2 he).2 b3 b4⟩, eqL_from (fun j hj => ?_)⟩
  unfold liv at hj
  rw [s5, saveR_o (j := 0) (by omega) (by omega), saveR_o (j := 1) (by omega) (by omega), saveR_o (j := 2) (by omega) (by omega), saveR_o (j := 3) (by omega) (by omega), saveR_o (j := 4) (by omega) (by omega)] at hj
  rw [save_at, save_at, show fullR R 5 = fullR V 5 by omega]
  by_cases q0 : j = 5
  · rw [if_pos q0, if_pos q0]
  · rw [if_neg q0, if_neg q0]
    by_cases q1 : 128 + 16 * fullR V 5 ≤ j ∧ j < 128 + 16 * fullR V 5 + 16
    · rw [if_pos q1, if_pos q1, show 6 + (j - (128 + 16 * fullR V 5)) = 6 + j % 16 by omega, full_lo (V := V) (j := 6 + j % 16) (by omega) (by omega), full_lo (V := R) (j := 6 + j % 16) (by omega) (by omega)]
      refine eqL_to c _ ?_
      unfold liv
      omega
    · rw [if_neg q1, if_neg q1]
      rcases Nat.lt_or_ge j 128 with y | y
      · rw [full_lo y q0, full_lo y q0]
        refine eqL_to c _ ?_
        unfold liv
        omega
      · have yy : j < 240 := by
          have := a1.1.2.2.2.1
          have := a1.1.2.2.2.2.1
          have := a1.1.2.2.2.2.2.1
          omega
        rw [full_e y yy, full_e y yy, ← e5]
        by_cases y8 : V 5 = 8
        · rw [if_pos y8]
          refine eqL_to c _ ?_
          unfold liv
          omega
        · rw [if_neg y8]
          refine eqL_to c _ ?_
          unfold liv
          omega
end SRI
