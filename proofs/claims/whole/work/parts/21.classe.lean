section SE
theorem arrV_ext {c : ClassId} {n : Nat} {f g : Nat → Value} (h : ∀ j, j < n → f j = g j) : arrV c n f = arrV c n g := by
  have e : (fun j : Fin n => f j.val) = fun j : Fin n => g j.val := funext fun j => h j.val j.isLt
  unfold arrV
  rw [e]
/-- two cells that hold the same, as far as they go -/
def eqE (e e2 : va_E) : Prop := e = e2 ∨ ∃ (c : ClassId) (L : Nat) (f g : Nat → Int32), e = .inl (c, L, .inl f) ∧ e2 = .inl (c, L, .inl g) ∧ ∀ j, j < L → f j = g j
theorem at_eqE {D : va_G} {cl : List vw_C} {a : Nat} {e e2 : va_E} {H : Heap} (h : eqE e e2) (h1 : va_at D cl (a, e) H) : va_at D cl (a, e2) H := by
  rcases h with rfl | ⟨c, L, f, g, rfl, rfl, h⟩
  · exact h1
  · have e : vp_cell c (L, .inl f) = vp_cell c (L, .inl g) := by
      rw [vp_cell_i, vp_cell_i]
      exact arrV_ext (fun j hj => by rw [h j hj])
    show H[a]? = some (vp_cell c (L, .inl g))
    rw [← e]
    exact h1
theorem hw_eqE {Γ : Gam} {n : Nat} {G G2 : Nat → va_E} {s : State} {H : Heap} (h : hw Γ n G s H) (he : ∀ i, i < n → eqE (G i) (G2 i)) : hw Γ n G2 s H := by
  refine ⟨fun k q hk => ?_, h.2⟩
  have hn : k < n := by
    have := (List.getElem?_eq_some_iff.mp hk).1
    simpa [wld] using this
  rw [wld_at Γ _ hn] at hk
  obtain rfl := Option.some.inj hk
  exact at_eqE (he k hn) (h.1 k _ (wld_at Γ G hn))
def cV (Γ : Gam) (b : Nat) (V : Nat → Nat) (i : Nat) : va_E :=
  if i = 0 then .inr (7, [.int (nI (V 0)), .ref (ad Γ (b + 1)), .ref (ad Γ (b + 2)), .int (nI (V 1)), .ref (ad Γ (b + 3)), .ref (ad Γ (b + 4)), .ref (ad Γ (b + 5)), .ref (ad Γ (b + 6)), .ref (ad Γ (b + 7)), .int (nI (V 20)), .int (nI (V 21)), .ref (ad Γ (b + 8)), .ref (ad Γ (b + 9)), .ref (ad Γ (b + 10)), .ref (ad Γ (b + 11))]) else
  if i = 1 then na Γ 6 (fun j => V (22 + j)) else
  if i = 2 then na Γ 6 (fun j => V (6 + j)) else
  if i = 3 then na Γ 8 (fun j => V (28 + j)) else
  if i = 4 then na Γ 8 (fun j => V (36 + j)) else
  if i = 5 then na Γ 8 (fun j => V (44 + j)) else
  if i = 6 then na Γ 8 (fun j => V (52 + j)) else
  if i = 7 then na Γ 8 (fun j => V (12 + j)) else
  if i = 8 then .inr (5, [.ref (ad Γ (b + 12)), .int (nI 5), .int (nI (V 2))]) else
  if i = 9 then .inr (5, [.ref (ad Γ (b + 13)), .int (nI 6), .int (nI (V 3))]) else
  if i = 10 then .inr (5, [.ref (ad Γ (b + 14)), .int (nI 6), .int (nI (V 4))]) else
  if i = 11 then .inr (2, [.ref (ad Γ (b + 15)), .int (nI (V 5))]) else
  if i = 12 then na Γ 20 (fun j => V (60 + j)) else
  if i = 13 then na Γ 24 (fun j => V (80 + j)) else
  if i = 14 then na Γ 24 (fun j => V (104 + j)) else
  na Γ 128 (fun j => V (128 + j))
def putV (Γ : Gam) (G : Nat → va_E) (b : Nat) (V : Nat → Nat) : Nat → va_E := fun i => if b ≤ i ∧ i < b + 16 then cV Γ b V (i - b) else G i
theorem putV_at {Γ : Gam} {G : Nat → va_E} {b : Nat} {V : Nat → Nat} {i : Nat} (hi : i < 16) : putV Γ G b V (b + i) = cV Γ b V i := by
  unfold putV
  rw [if_pos (by omega), Nat.add_sub_cancel_left]
theorem isV_put (Γ : Gam) (G : Nat → va_E) (b : Nat) (V : Nat → Nat) : isV Γ (putV Γ G b V) b V := ⟨putV_at (i := 0) (by decide), putV_at (i := 1) (by decide), putV_at (i := 2) (by decide), putV_at (i := 3) (by decide), putV_at (i := 4) (by decide), putV_at (i := 5) (by decide), putV_at (i := 6) (by decide), putV_at (i := 7) (by decide), putV_at (i := 8) (by decide), putV_at (i := 9) (by decide), putV_at (i := 10) (by decide), putV_at (i := 11) (by decide), putV_at (i := 12) (by decide), putV_at (i := 13) (by decide), putV_at (i := 14) (by decide), putV_at (i := 15) (by decide)⟩
theorem nv {Γ : Gam} {n : Nat} {G1 : Nat → va_E} {s : State} {H : Heap} {b : Nat} (V2 : Nat → Nat) (h : hw Γ n G1 s H) (hc : ∀ i, i < 16 → eqE (G1 (b + i)) (cV Γ b V2 i)) : ∃ G2, hw Γ n G2 s H ∧ isV Γ G2 b V2 ∧ fr G1 G2 b (b + 16) := by
  refine ⟨putV Γ G1 b V2, hw_eqE h (fun i _ => ?_), isV_put _ _ _ _, fun i hi => ?_⟩
  · by_cases q : b ≤ i ∧ i < b + 16
    · obtain ⟨j, rfl⟩ : ∃ j, i = b + j := ⟨i - b, by omega⟩
      rw [putV_at (by omega)]
      exact hc j (by omega)
    · unfold putV
      rw [if_neg q]
      exact Or.inl rfl
  · unfold putV
    rw [if_neg (by omega)]
theorem nv_c0 {Γ : Gam} {n : Nat} {G : Nat → va_E} {s : State} {H : Heap} {b : Nat} {V : Nat → Nat} (hV : isV Γ G b V) (V2 : Nat → Nat) (h : hw Γ n (va_up G (b + 0) (.inr (7, [.int (nI (V2 0)), .ref (ad Γ (b + 1)), .ref (ad Γ (b + 2)), .int (nI (V2 1)), .ref (ad Γ (b + 3)), .ref (ad Γ (b + 4)), .ref (ad Γ (b + 5)), .ref (ad Γ (b + 6)), .ref (ad Γ (b + 7)), .int (nI (V2 20)), .int (nI (V2 21)), .ref (ad Γ (b + 8)), .ref (ad Γ (b + 9)), .ref (ad Γ (b + 10)), .ref (ad Γ (b + 11))]))) s H) (h2 : ∀ j, j ≠ 0 → j ≠ 1 → j ≠ 20 → j ≠ 21 → V2 j = V j) : ∃ G2, hw Γ n G2 s H ∧ isV Γ G2 b V2 ∧ fr G G2 b (b + 16) := by
  obtain ⟨G2, g1, g2, g3⟩ := nv (b := b) V2 h (fun i hi => by
    rcases (show i = 0 ∨ i = 1 ∨ i = 2 ∨ i = 3 ∨ i = 4 ∨ i = 5 ∨ i = 6 ∨ i = 7 ∨ i = 8 ∨ i = 9 ∨ i = 10 ∨ i = 11 ∨ i = 12 ∨ i = 13 ∨ i = 14 ∨ i = 15 by omega) with rfl | rfl | rfl | rfl | rfl | rfl | rfl | rfl | rfl | rfl | rfl | rfl | rfl | rfl | rfl | rfl
    · exact Or.inl (va_up_self _ _ _)
    · exact Or.inr ⟨_, 6, _, _, (va_up_ne _ _ (by omega)).trans (isV_1 hV), rfl, fun j hj => congrArg nI (h2 (22 + j) (by omega) (by omega) (by omega) (by omega)).symm⟩
    · exact Or.inr ⟨_, 6, _, _, (va_up_ne _ _ (by omega)).trans (isV_2 hV), rfl, fun j hj => congrArg nI (h2 (6 + j) (by omega) (by omega) (by omega) (by omega)).symm⟩
    · exact Or.inr ⟨_, 8, _, _, (va_up_ne _ _ (by omega)).trans (isV_3 hV), rfl, fun j hj => congrArg nI (h2 (28 + j) (by omega) (by omega) (by omega) (by omega)).symm⟩
    · exact Or.inr ⟨_, 8, _, _, (va_up_ne _ _ (by omega)).trans (isV_4 hV), rfl, fun j hj => congrArg nI (h2 (36 + j) (by omega) (by omega) (by omega) (by omega)).symm⟩
    · exact Or.inr ⟨_, 8, _, _, (va_up_ne _ _ (by omega)).trans (isV_5 hV), rfl, fun j hj => congrArg nI (h2 (44 + j) (by omega) (by omega) (by omega) (by omega)).symm⟩
    · exact Or.inr ⟨_, 8, _, _, (va_up_ne _ _ (by omega)).trans (isV_6 hV), rfl, fun j hj => congrArg nI (h2 (52 + j) (by omega) (by omega) (by omega) (by omega)).symm⟩
    · exact Or.inr ⟨_, 8, _, _, (va_up_ne _ _ (by omega)).trans (isV_7 hV), rfl, fun j hj => congrArg nI (h2 (12 + j) (by omega) (by omega) (by omega) (by omega)).symm⟩
    · exact Or.inl ((va_up_ne _ _ (by omega)).trans ((isV_8 hV).trans (by show _ = (.inr (5, [.ref (ad Γ (b + 12)), .int (nI 5), .int (nI (V2 2))]) : va_E); rw [h2 2 (by omega) (by omega) (by omega) (by omega)])))
    · exact Or.inl ((va_up_ne _ _ (by omega)).trans ((isV_9 hV).trans (by show _ = (.inr (5, [.ref (ad Γ (b + 13)), .int (nI 6), .int (nI (V2 3))]) : va_E); rw [h2 3 (by omega) (by omega) (by omega) (by omega)])))
    · exact Or.inl ((va_up_ne _ _ (by omega)).trans ((isV_10 hV).trans (by show _ = (.inr (5, [.ref (ad Γ (b + 14)), .int (nI 6), .int (nI (V2 4))]) : va_E); rw [h2 4 (by omega) (by omega) (by omega) (by omega)])))
    · exact Or.inl ((va_up_ne _ _ (by omega)).trans ((isV_11 hV).trans (by show _ = (.inr (2, [.ref (ad Γ (b + 15)), .int (nI (V2 5))]) : va_E); rw [h2 5 (by omega) (by omega) (by omega) (by omega)])))
    · exact Or.inr ⟨_, 20, _, _, (va_up_ne _ _ (by omega)).trans (isV_12 hV), rfl, fun j hj => congrArg nI (h2 (60 + j) (by omega) (by omega) (by omega) (by omega)).symm⟩
    · exact Or.inr ⟨_, 24, _, _, (va_up_ne _ _ (by omega)).trans (isV_13 hV), rfl, fun j hj => congrArg nI (h2 (80 + j) (by omega) (by omega) (by omega) (by omega)).symm⟩
    · exact Or.inr ⟨_, 24, _, _, (va_up_ne _ _ (by omega)).trans (isV_14 hV), rfl, fun j hj => congrArg nI (h2 (104 + j) (by omega) (by omega) (by omega) (by omega)).symm⟩
    · exact Or.inr ⟨_, 128, _, _, (va_up_ne _ _ (by omega)).trans (isV_15 hV), rfl, fun j hj => congrArg nI (h2 (128 + j) (by omega) (by omega) (by omega) (by omega)).symm⟩
    )
  exact ⟨G2, g1, g2, fun i hi => (g3 i hi).trans (va_up_ne _ _ (by omega))⟩
theorem nv_c1 {Γ : Gam} {n : Nat} {G : Nat → va_E} {s : State} {H : Heap} {b : Nat} {V : Nat → Nat} (hV : isV Γ G b V) (V2 : Nat → Nat) (X : Nat → Nat) (h : hw Γ n (va_up G (b + 1) (na Γ 6 X)) s H) (h2 : ∀ j, (j < 22 ∨ 28 ≤ j) → V2 j = V j) (h3 : ∀ j, j < 6 → X j = V2 (22 + j)) : ∃ G2, hw Γ n G2 s H ∧ isV Γ G2 b V2 ∧ fr G G2 b (b + 16) := by
  obtain ⟨G2, g1, g2, g3⟩ := nv (b := b) V2 h (fun i hi => by
    rcases (show i = 0 ∨ i = 1 ∨ i = 2 ∨ i = 3 ∨ i = 4 ∨ i = 5 ∨ i = 6 ∨ i = 7 ∨ i = 8 ∨ i = 9 ∨ i = 10 ∨ i = 11 ∨ i = 12 ∨ i = 13 ∨ i = 14 ∨ i = 15 by omega) with rfl | rfl | rfl | rfl | rfl | rfl | rfl | rfl | rfl | rfl | rfl | rfl | rfl | rfl | rfl | rfl
    · exact Or.inl ((va_up_ne _ _ (by omega)).trans ((isV_0 hV).trans (by show _ = (.inr (7, [.int (nI (V2 0)), .ref (ad Γ (b + 1)), .ref (ad Γ (b + 2)), .int (nI (V2 1)), .ref (ad Γ (b + 3)), .ref (ad Γ (b + 4)), .ref (ad Γ (b + 5)), .ref (ad Γ (b + 6)), .ref (ad Γ (b + 7)), .int (nI (V2 20)), .int (nI (V2 21)), .ref (ad Γ (b + 8)), .ref (ad Γ (b + 9)), .ref (ad Γ (b + 10)), .ref (ad Γ (b + 11))]) : va_E); rw [h2 0 (by omega), h2 1 (by omega), h2 20 (by omega), h2 21 (by omega)])))
    · exact Or.inr ⟨_, _, _, _, va_up_self _ _ _, rfl, fun j hj => congrArg nI (h3 j hj)⟩
    · exact Or.inr ⟨_, 6, _, _, (va_up_ne _ _ (by omega)).trans (isV_2 hV), rfl, fun j hj => congrArg nI (h2 (6 + j) (by omega)).symm⟩
    · exact Or.inr ⟨_, 8, _, _, (va_up_ne _ _ (by omega)).trans (isV_3 hV), rfl, fun j hj => congrArg nI (h2 (28 + j) (by omega)).symm⟩
    · exact Or.inr ⟨_, 8, _, _, (va_up_ne _ _ (by omega)).trans (isV_4 hV), rfl, fun j hj => congrArg nI (h2 (36 + j) (by omega)).symm⟩
    · exact Or.inr ⟨_, 8, _, _, (va_up_ne _ _ (by omega)).trans (isV_5 hV), rfl, fun j hj => congrArg nI (h2 (44 + j) (by omega)).symm⟩
    · exact Or.inr ⟨_, 8, _, _, (va_up_ne _ _ (by omega)).trans (isV_6 hV), rfl, fun j hj => congrArg nI (h2 (52 + j) (by omega)).symm⟩
    · exact Or.inr ⟨_, 8, _, _, (va_up_ne _ _ (by omega)).trans (isV_7 hV), rfl, fun j hj => congrArg nI (h2 (12 + j) (by omega)).symm⟩
    · exact Or.inl ((va_up_ne _ _ (by omega)).trans ((isV_8 hV).trans (by show _ = (.inr (5, [.ref (ad Γ (b + 12)), .int (nI 5), .int (nI (V2 2))]) : va_E); rw [h2 2 (by omega)])))
    · exact Or.inl ((va_up_ne _ _ (by omega)).trans ((isV_9 hV).trans (by show _ = (.inr (5, [.ref (ad Γ (b + 13)), .int (nI 6), .int (nI (V2 3))]) : va_E); rw [h2 3 (by omega)])))
    · exact Or.inl ((va_up_ne _ _ (by omega)).trans ((isV_10 hV).trans (by show _ = (.inr (5, [.ref (ad Γ (b + 14)), .int (nI 6), .int (nI (V2 4))]) : va_E); rw [h2 4 (by omega)])))
    · exact Or.inl ((va_up_ne _ _ (by omega)).trans ((isV_11 hV).trans (by show _ = (.inr (2, [.ref (ad Γ (b + 15)), .int (nI (V2 5))]) : va_E); rw [h2 5 (by omega)])))
    · exact Or.inr ⟨_, 20, _, _, (va_up_ne _ _ (by omega)).trans (isV_12 hV), rfl, fun j hj => congrArg nI (h2 (60 + j) (by omega)).symm⟩
    · exact Or.inr ⟨_, 24, _, _, (va_up_ne _ _ (by omega)).trans (isV_13 hV), rfl, fun j hj => congrArg nI (h2 (80 + j) (by omega)).symm⟩
    · exact Or.inr ⟨_, 24, _, _, (va_up_ne _ _ (by omega)).trans (isV_14 hV), rfl, fun j hj => congrArg nI (h2 (104 + j) (by omega)).symm⟩
    · exact Or.inr ⟨_, 128, _, _, (va_up_ne _ _ (by omega)).trans (isV_15 hV), rfl, fun j hj => congrArg nI (h2 (128 + j) (by omega)).symm⟩
    )
  exact ⟨G2, g1, g2, fun i hi => (g3 i hi).trans (va_up_ne _ _ (by omega))⟩
theorem nv_c2 {Γ : Gam} {n : Nat} {G : Nat → va_E} {s : State} {H : Heap} {b : Nat} {V : Nat → Nat} (hV : isV Γ G b V) (V2 : Nat → Nat) (X : Nat → Nat) (h : hw Γ n (va_up G (b + 2) (na Γ 6 X)) s H) (h2 : ∀ j, (j < 6 ∨ 12 ≤ j) → V2 j = V j) (h3 : ∀ j, j < 6 → X j = V2 (6 + j)) : ∃ G2, hw Γ n G2 s H ∧ isV Γ G2 b V2 ∧ fr G G2 b (b + 16) := by
  obtain ⟨G2, g1, g2, g3⟩ := nv (b := b) V2 h (fun i hi => by
    rcases (show i = 0 ∨ i = 1 ∨ i = 2 ∨ i = 3 ∨ i = 4 ∨ i = 5 ∨ i = 6 ∨ i = 7 ∨ i = 8 ∨ i = 9 ∨ i = 10 ∨ i = 11 ∨ i = 12 ∨ i = 13 ∨ i = 14 ∨ i = 15 by omega) with rfl | rfl | rfl | rfl | rfl | rfl | rfl | rfl | rfl | rfl | rfl | rfl | rfl | rfl | rfl | rfl
    · exact Or.inl ((va_up_ne _ _ (by omega)).trans ((isV_0 hV).trans (by show _ = (.inr (7, [.int (nI (V2 0)), .ref (ad Γ (b + 1)), .ref (ad Γ (b + 2)), .int (nI (V2 1)), .ref (ad Γ (b + 3)), .ref (ad Γ (b + 4)), .ref (ad Γ (b + 5)), .ref (ad Γ (b + 6)), .ref (ad Γ (b + 7)), .int (nI (V2 20)), .int (nI (V2 21)), .ref (ad Γ (b + 8)), .ref (ad Γ (b + 9)), .ref (ad Γ (b + 10)), .ref (ad Γ (b + 11))]) : va_E); rw [h2 0 (by omega), h2 1 (by omega), h2 20 (by omega), h2 21 (by omega)])))
    · exact Or.inr ⟨_, 6, _, _, (va_up_ne _ _ (by omega)).trans (isV_1 hV), rfl, fun j hj => congrArg nI (h2 (22 + j) (by omega)).symm⟩
    · exact Or.inr ⟨_, _, _, _, va_up_self _ _ _, rfl, fun j hj => congrArg nI (h3 j hj)⟩
    · exact Or.inr ⟨_, 8, _, _, (va_up_ne _ _ (by omega)).trans (isV_3 hV), rfl, fun j hj => congrArg nI (h2 (28 + j) (by omega)).symm⟩
    · exact Or.inr ⟨_, 8, _, _, (va_up_ne _ _ (by omega)).trans (isV_4 hV), rfl, fun j hj => congrArg nI (h2 (36 + j) (by omega)).symm⟩
    · exact Or.inr ⟨_, 8, _, _, (va_up_ne _ _ (by omega)).trans (isV_5 hV), rfl, fun j hj => congrArg nI (h2 (44 + j) (by omega)).symm⟩
    · exact Or.inr ⟨_, 8, _, _, (va_up_ne _ _ (by omega)).trans (isV_6 hV), rfl, fun j hj => congrArg nI (h2 (52 + j) (by omega)).symm⟩
    · exact Or.inr ⟨_, 8, _, _, (va_up_ne _ _ (by omega)).trans (isV_7 hV), rfl, fun j hj => congrArg nI (h2 (12 + j) (by omega)).symm⟩
    · exact Or.inl ((va_up_ne _ _ (by omega)).trans ((isV_8 hV).trans (by show _ = (.inr (5, [.ref (ad Γ (b + 12)), .int (nI 5), .int (nI (V2 2))]) : va_E); rw [h2 2 (by omega)])))
    · exact Or.inl ((va_up_ne _ _ (by omega)).trans ((isV_9 hV).trans (by show _ = (.inr (5, [.ref (ad Γ (b + 13)), .int (nI 6), .int (nI (V2 3))]) : va_E); rw [h2 3 (by omega)])))
    · exact Or.inl ((va_up_ne _ _ (by omega)).trans ((isV_10 hV).trans (by show _ = (.inr (5, [.ref (ad Γ (b + 14)), .int (nI 6), .int (nI (V2 4))]) : va_E); rw [h2 4 (by omega)])))
    · exact Or.inl ((va_up_ne _ _ (by omega)).trans ((isV_11 hV).trans (by show _ = (.inr (2, [.ref (ad Γ (b + 15)), .int (nI (V2 5))]) : va_E); rw [h2 5 (by omega)])))
    · exact Or.inr ⟨_, 20, _, _, (va_up_ne _ _ (by omega)).trans (isV_12 hV), rfl, fun j hj => congrArg nI (h2 (60 + j) (by omega)).symm⟩
    · exact Or.inr ⟨_, 24, _, _, (va_up_ne _ _ (by omega)).trans (isV_13 hV), rfl, fun j hj => congrArg nI (h2 (80 + j) (by omega)).symm⟩
    · exact Or.inr ⟨_, 24, _, _, (va_up_ne _ _ (by omega)).trans (isV_14 hV), rfl, fun j hj => congrArg nI (h2 (104 + j) (by omega)).symm⟩
    · exact Or.inr ⟨_, 128, _, _, (va_up_ne _ _ (by omega)).trans (isV_15 hV), rfl, fun j hj => congrArg nI (h2 (128 + j) (by omega)).symm⟩
    )
  exact ⟨G2, g1, g2, fun i hi => (g3 i hi).trans (va_up_ne _ _ (by omega))⟩
theorem nv_c3 {Γ : Gam} {n : Nat} {G : Nat → va_E} {s : State} {H : Heap} {b : Nat} {V : Nat → Nat} (hV : isV Γ G b V) (V2 : Nat → Nat) (X : Nat → Nat) (h : hw Γ n (va_up G (b + 3) (na Γ 8 X)) s H) (h2 : ∀ j, (j < 28 ∨ 36 ≤ j) → V2 j = V j) (h3 : ∀ j, j < 8 → X j = V2 (28 + j)) : ∃ G2, hw Γ n G2 s H ∧ isV Γ G2 b V2 ∧ fr G G2 b (b + 16) := by
  obtain ⟨G2, g1, g2, g3⟩ := nv (b := b) V2 h (fun i hi => by
    rcases (show i = 0 ∨ i = 1 ∨ i = 2 ∨ i = 3 ∨ i = 4 ∨ i = 5 ∨ i = 6 ∨ i = 7 ∨ i = 8 ∨ i = 9 ∨ i = 10 ∨ i = 11 ∨ i = 12 ∨ i = 13 ∨ i = 14 ∨ i = 15 by omega) with rfl | rfl | rfl | rfl | rfl | rfl | rfl | rfl | rfl | rfl | rfl | rfl | rfl | rfl | rfl | rfl
    · exact Or.inl ((va_up_ne _ _ (by omega)).trans ((isV_0 hV).trans (by show _ = (.inr (7, [.int (nI (V2 0)), .ref (ad Γ (b + 1)), .ref (ad Γ (b + 2)), .int (nI (V2 1)), .ref (ad Γ (b + 3)), .ref (ad Γ (b + 4)), .ref (ad Γ (b + 5)), .ref (ad Γ (b + 6)), .ref (ad Γ (b + 7)), .int (nI (V2 20)), .int (nI (V2 21)), .ref (ad Γ (b + 8)), .ref (ad Γ (b + 9)), .ref (ad Γ (b + 10)), .ref (ad Γ (b + 11))]) : va_E); rw [h2 0 (by omega), h2 1 (by omega), h2 20 (by omega), h2 21 (by omega)])))
    · exact Or.inr ⟨_, 6, _, _, (va_up_ne _ _ (by omega)).trans (isV_1 hV), rfl, fun j hj => congrArg nI (h2 (22 + j) (by omega)).symm⟩
    · exact Or.inr ⟨_, 6, _, _, (va_up_ne _ _ (by omega)).trans (isV_2 hV), rfl, fun j hj => congrArg nI (h2 (6 + j) (by omega)).symm⟩
    · exact Or.inr ⟨_, _, _, _, va_up_self _ _ _, rfl, fun j hj => congrArg nI (h3 j hj)⟩
    · exact Or.inr ⟨_, 8, _, _, (va_up_ne _ _ (by omega)).trans (isV_4 hV), rfl, fun j hj => congrArg nI (h2 (36 + j) (by omega)).symm⟩
    · exact Or.inr ⟨_, 8, _, _, (va_up_ne _ _ (by omega)).trans (isV_5 hV), rfl, fun j hj => congrArg nI (h2 (44 + j) (by omega)).symm⟩
    · exact Or.inr ⟨_, 8, _, _, (va_up_ne _ _ (by omega)).trans (isV_6 hV), rfl, fun j hj => congrArg nI (h2 (52 + j) (by omega)).symm⟩
    · exact Or.inr ⟨_, 8, _, _, (va_up_ne _ _ (by omega)).trans (isV_7 hV), rfl, fun j hj => congrArg nI (h2 (12 + j) (by omega)).symm⟩
    · exact Or.inl ((va_up_ne _ _ (by omega)).trans ((isV_8 hV).trans (by show _ = (.inr (5, [.ref (ad Γ (b + 12)), .int (nI 5), .int (nI (V2 2))]) : va_E); rw [h2 2 (by omega)])))
    · exact Or.inl ((va_up_ne _ _ (by omega)).trans ((isV_9 hV).trans (by show _ = (.inr (5, [.ref (ad Γ (b + 13)), .int (nI 6), .int (nI (V2 3))]) : va_E); rw [h2 3 (by omega)])))
    · exact Or.inl ((va_up_ne _ _ (by omega)).trans ((isV_10 hV).trans (by show _ = (.inr (5, [.ref (ad Γ (b + 14)), .int (nI 6), .int (nI (V2 4))]) : va_E); rw [h2 4 (by omega)])))
    · exact Or.inl ((va_up_ne _ _ (by omega)).trans ((isV_11 hV).trans (by show _ = (.inr (2, [.ref (ad Γ (b + 15)), .int (nI (V2 5))]) : va_E); rw [h2 5 (by omega)])))
    · exact Or.inr ⟨_, 20, _, _, (va_up_ne _ _ (by omega)).trans (isV_12 hV), rfl, fun j hj => congrArg nI (h2 (60 + j) (by omega)).symm⟩
    · exact Or.inr ⟨_, 24, _, _, (va_up_ne _ _ (by omega)).trans (isV_13 hV), rfl, fun j hj => congrArg nI (h2 (80 + j) (by omega)).symm⟩
    · exact Or.inr ⟨_, 24, _, _, (va_up_ne _ _ (by omega)).trans (isV_14 hV), rfl, fun j hj => congrArg nI (h2 (104 + j) (by omega)).symm⟩
    · exact Or.inr ⟨_, 128, _, _, (va_up_ne _ _ (by omega)).trans (isV_15 hV), rfl, fun j hj => congrArg nI (h2 (128 + j) (by omega)).symm⟩
    )
  exact ⟨G2, g1, g2, fun i hi => (g3 i hi).trans (va_up_ne _ _ (by omega))⟩
theorem nv_c4 {Γ : Gam} {n : Nat} {G : Nat → va_E} {s : State} {H : Heap} {b : Nat} {V : Nat → Nat} (hV : isV Γ G b V) (V2 : Nat → Nat) (X : Nat → Nat) (h : hw Γ n (va_up G (b + 4) (na Γ 8 X)) s H) (h2 : ∀ j, (j < 36 ∨ 44 ≤ j) → V2 j = V j) (h3 : ∀ j, j < 8 → X j = V2 (36 + j)) : ∃ G2, hw Γ n G2 s H ∧ isV Γ G2 b V2 ∧ fr G G2 b (b + 16) := by
  obtain ⟨G2, g1, g2, g3⟩ := nv (b := b) V2 h (fun i hi => by
    rcases (show i = 0 ∨ i = 1 ∨ i = 2 ∨ i = 3 ∨ i = 4 ∨ i = 5 ∨ i = 6 ∨ i = 7 ∨ i = 8 ∨ i = 9 ∨ i = 10 ∨ i = 11 ∨ i = 12 ∨ i = 13 ∨ i = 14 ∨ i = 15 by omega) with rfl | rfl | rfl | rfl | rfl | rfl | rfl | rfl | rfl | rfl | rfl | rfl | rfl | rfl | rfl | rfl
    · exact Or.inl ((va_up_ne _ _ (by omega)).trans ((isV_0 hV).trans (by show _ = (.inr (7, [.int (nI (V2 0)), .ref (ad Γ (b + 1)), .ref (ad Γ (b + 2)), .int (nI (V2 1)), .ref (ad Γ (b + 3)), .ref (ad Γ (b + 4)), .ref (ad Γ (b + 5)), .ref (ad Γ (b + 6)), .ref (ad Γ (b + 7)), .int (nI (V2 20)), .int (nI (V2 21)), .ref (ad Γ (b + 8)), .ref (ad Γ (b + 9)), .ref (ad Γ (b + 10)), .ref (ad Γ (b + 11))]) : va_E); rw [h2 0 (by omega), h2 1 (by omega), h2 20 (by omega), h2 21 (by omega)])))
    · exact Or.inr ⟨_, 6, _, _, (va_up_ne _ _ (by omega)).trans (isV_1 hV), rfl, fun j hj => congrArg nI (h2 (22 + j) (by omega)).symm⟩
    · exact Or.inr ⟨_, 6, _, _, (va_up_ne _ _ (by omega)).trans (isV_2 hV), rfl, fun j hj => congrArg nI (h2 (6 + j) (by omega)).symm⟩
    · exact Or.inr ⟨_, 8, _, _, (va_up_ne _ _ (by omega)).trans (isV_3 hV), rfl, fun j hj => congrArg nI (h2 (28 + j) (by omega)).symm⟩
    · exact Or.inr ⟨_, _, _, _, va_up_self _ _ _, rfl, fun j hj => congrArg nI (h3 j hj)⟩
    · exact Or.inr ⟨_, 8, _, _, (va_up_ne _ _ (by omega)).trans (isV_5 hV), rfl, fun j hj => congrArg nI (h2 (44 + j) (by omega)).symm⟩
    · exact Or.inr ⟨_, 8, _, _, (va_up_ne _ _ (by omega)).trans (isV_6 hV), rfl, fun j hj => congrArg nI (h2 (52 + j) (by omega)).symm⟩
    · exact Or.inr ⟨_, 8, _, _, (va_up_ne _ _ (by omega)).trans (isV_7 hV), rfl, fun j hj => congrArg nI (h2 (12 + j) (by omega)).symm⟩
    · exact Or.inl ((va_up_ne _ _ (by omega)).trans ((isV_8 hV).trans (by show _ = (.inr (5, [.ref (ad Γ (b + 12)), .int (nI 5), .int (nI (V2 2))]) : va_E); rw [h2 2 (by omega)])))
    · exact Or.inl ((va_up_ne _ _ (by omega)).trans ((isV_9 hV).trans (by show _ = (.inr (5, [.ref (ad Γ (b + 13)), .int (nI 6), .int (nI (V2 3))]) : va_E); rw [h2 3 (by omega)])))
    · exact Or.inl ((va_up_ne _ _ (by omega)).trans ((isV_10 hV).trans (by show _ = (.inr (5, [.ref (ad Γ (b + 14)), .int (nI 6), .int (nI (V2 4))]) : va_E); rw [h2 4 (by omega)])))
    · exact Or.inl ((va_up_ne _ _ (by omega)).trans ((isV_11 hV).trans (by show _ = (.inr (2, [.ref (ad Γ (b + 15)), .int (nI (V2 5))]) : va_E); rw [h2 5 (by omega)])))
    · exact Or.inr ⟨_, 20, _, _, (va_up_ne _ _ (by omega)).trans (isV_12 hV), rfl, fun j hj => congrArg nI (h2 (60 + j) (by omega)).symm⟩
    · exact Or.inr ⟨_, 24, _, _, (va_up_ne _ _ (by omega)).trans (isV_13 hV), rfl, fun j hj => congrArg nI (h2 (80 + j) (by omega)).symm⟩
    · exact Or.inr ⟨_, 24, _, _, (va_up_ne _ _ (by omega)).trans (isV_14 hV), rfl, fun j hj => congrArg nI (h2 (104 + j) (by omega)).symm⟩
    · exact Or.inr ⟨_, 128, _, _, (va_up_ne _ _ (by omega)).trans (isV_15 hV), rfl, fun j hj => congrArg nI (h2 (128 + j) (by omega)).symm⟩
    )
  exact ⟨G2, g1, g2, fun i hi => (g3 i hi).trans (va_up_ne _ _ (by omega))⟩
theorem nv_c5 {Γ : Gam} {n : Nat} {G : Nat → va_E} {s : State} {H : Heap} {b : Nat} {V : Nat → Nat} (hV : isV Γ G b V) (V2 : Nat → Nat) (X : Nat → Nat) (h : hw Γ n (va_up G (b + 5) (na Γ 8 X)) s H) (h2 : ∀ j, (j < 44 ∨ 52 ≤ j) → V2 j = V j) (h3 : ∀ j, j < 8 → X j = V2 (44 + j)) : ∃ G2, hw Γ n G2 s H ∧ isV Γ G2 b V2 ∧ fr G G2 b (b + 16) := by
  obtain ⟨G2, g1, g2, g3⟩ := nv (b := b) V2 h (fun i hi => by
    rcases (show i = 0 ∨ i = 1 ∨ i = 2 ∨ i = 3 ∨ i = 4 ∨ i = 5 ∨ i = 6 ∨ i = 7 ∨ i = 8 ∨ i = 9 ∨ i = 10 ∨ i = 11 ∨ i = 12 ∨ i = 13 ∨ i = 14 ∨ i = 15 by omega) with rfl | rfl | rfl | rfl | rfl | rfl | rfl | rfl | rfl | rfl | rfl | rfl | rfl | rfl | rfl | rfl
    · exact Or.inl ((va_up_ne _ _ (by omega)).trans ((isV_0 hV).trans (by show _ = (.inr (7, [.int (nI (V2 0)), .ref (ad Γ (b + 1)), .ref (ad Γ (b + 2)), .int (nI (V2 1)), .ref (ad Γ (b + 3)), .ref (ad Γ (b + 4)), .ref (ad Γ (b + 5)), .ref (ad Γ (b + 6)), .ref (ad Γ (b + 7)), .int (nI (V2 20)), .int (nI (V2 21)), .ref (ad Γ (b + 8)), .ref (ad Γ (b + 9)), .ref (ad Γ (b + 10)), .ref (ad Γ (b + 11))]) : va_E); rw [h2 0 (by omega), h2 1 (by omega), h2 20 (by omega), h2 21 (by omega)])))
    · exact Or.inr ⟨_, 6, _, _, (va_up_ne _ _ (by omega)).trans (isV_1 hV), rfl, fun j hj => congrArg nI (h2 (22 + j) (by omega)).symm⟩
    · exact Or.inr ⟨_, 6, _, _, (va_up_ne _ _ (by omega)).trans (isV_2 hV), rfl, fun j hj => congrArg nI (h2 (6 + j) (by omega)).symm⟩
    · exact Or.inr ⟨_, 8, _, _, (va_up_ne _ _ (by omega)).trans (isV_3 hV), rfl, fun j hj => congrArg nI (h2 (28 + j) (by omega)).symm⟩
    · exact Or.inr ⟨_, 8, _, _, (va_up_ne _ _ (by omega)).trans (isV_4 hV), rfl, fun j hj => congrArg nI (h2 (36 + j) (by omega)).symm⟩
    · exact Or.inr ⟨_, _, _, _, va_up_self _ _ _, rfl, fun j hj => congrArg nI (h3 j hj)⟩
    · exact Or.inr ⟨_, 8, _, _, (va_up_ne _ _ (by omega)).trans (isV_6 hV), rfl, fun j hj => congrArg nI (h2 (52 + j) (by omega)).symm⟩
    · exact Or.inr ⟨_, 8, _, _, (va_up_ne _ _ (by omega)).trans (isV_7 hV), rfl, fun j hj => congrArg nI (h2 (12 + j) (by omega)).symm⟩
    · exact Or.inl ((va_up_ne _ _ (by omega)).trans ((isV_8 hV).trans (by show _ = (.inr (5, [.ref (ad Γ (b + 12)), .int (nI 5), .int (nI (V2 2))]) : va_E); rw [h2 2 (by omega)])))
    · exact Or.inl ((va_up_ne _ _ (by omega)).trans ((isV_9 hV).trans (by show _ = (.inr (5, [.ref (ad Γ (b + 13)), .int (nI 6), .int (nI (V2 3))]) : va_E); rw [h2 3 (by omega)])))
    · exact Or.inl ((va_up_ne _ _ (by omega)).trans ((isV_10 hV).trans (by show _ = (.inr (5, [.ref (ad Γ (b + 14)), .int (nI 6), .int (nI (V2 4))]) : va_E); rw [h2 4 (by omega)])))
    · exact Or.inl ((va_up_ne _ _ (by omega)).trans ((isV_11 hV).trans (by show _ = (.inr (2, [.ref (ad Γ (b + 15)), .int (nI (V2 5))]) : va_E); rw [h2 5 (by omega)])))
    · exact Or.inr ⟨_, 20, _, _, (va_up_ne _ _ (by omega)).trans (isV_12 hV), rfl, fun j hj => congrArg nI (h2 (60 + j) (by omega)).symm⟩
    · exact Or.inr ⟨_, 24, _, _, (va_up_ne _ _ (by omega)).trans (isV_13 hV), rfl, fun j hj => congrArg nI (h2 (80 + j) (by omega)).symm⟩
    · exact Or.inr ⟨_, 24, _, _, (va_up_ne _ _ (by omega)).trans (isV_14 hV), rfl, fun j hj => congrArg nI (h2 (104 + j) (by omega)).symm⟩
    · exact Or.inr ⟨_, 128, _, _, (va_up_ne _ _ (by omega)).trans (isV_15 hV), rfl, fun j hj => congrArg nI (h2 (128 + j) (by omega)).symm⟩
    )
  exact ⟨G2, g1, g2, fun i hi => (g3 i hi).trans (va_up_ne _ _ (by omega))⟩
theorem nv_c6 {Γ : Gam} {n : Nat} {G : Nat → va_E} {s : State} {H : Heap} {b : Nat} {V : Nat → Nat} (hV : isV Γ G b V) (V2 : Nat → Nat) (X : Nat → Nat) (h : hw Γ n (va_up G (b + 6) (na Γ 8 X)) s H) (h2 : ∀ j, (j < 52 ∨ 60 ≤ j) → V2 j = V j) (h3 : ∀ j, j < 8 → X j = V2 (52 + j)) : ∃ G2, hw Γ n G2 s H ∧ isV Γ G2 b V2 ∧ fr G G2 b (b + 16) := by
  obtain ⟨G2, g1, g2, g3⟩ := nv (b := b) V2 h (fun i hi => by
    rcases (show i = 0 ∨ i = 1 ∨ i = 2 ∨ i = 3 ∨ i = 4 ∨ i = 5 ∨ i = 6 ∨ i = 7 ∨ i = 8 ∨ i = 9 ∨ i = 10 ∨ i = 11 ∨ i = 12 ∨ i = 13 ∨ i = 14 ∨ i = 15 by omega) with rfl | rfl | rfl | rfl | rfl | rfl | rfl | rfl | rfl | rfl | rfl | rfl | rfl | rfl | rfl | rfl
    · exact Or.inl ((va_up_ne _ _ (by omega)).trans ((isV_0 hV).trans (by show _ = (.inr (7, [.int (nI (V2 0)), .ref (ad Γ (b + 1)), .ref (ad Γ (b + 2)), .int (nI (V2 1)), .ref (ad Γ (b + 3)), .ref (ad Γ (b + 4)), .ref (ad Γ (b + 5)), .ref (ad Γ (b + 6)), .ref (ad Γ (b + 7)), .int (nI (V2 20)), .int (nI (V2 21)), .ref (ad Γ (b + 8)), .ref (ad Γ (b + 9)), .ref (ad Γ (b + 10)), .ref (ad Γ (b + 11))]) : va_E); rw [h2 0 (by omega), h2 1 (by omega), h2 20 (by omega), h2 21 (by omega)])))
    · exact Or.inr ⟨_, 6, _, _, (va_up_ne _ _ (by omega)).trans (isV_1 hV), rfl, fun j hj => congrArg nI (h2 (22 + j) (by omega)).symm⟩
    · exact Or.inr ⟨_, 6, _, _, (va_up_ne _ _ (by omega)).trans (isV_2 hV), rfl, fun j hj => congrArg nI (h2 (6 + j) (by omega)).symm⟩
    · exact Or.inr ⟨_, 8, _, _, (va_up_ne _ _ (by omega)).trans (isV_3 hV), rfl, fun j hj => congrArg nI (h2 (28 + j) (by omega)).symm⟩
    · exact Or.inr ⟨_, 8, _, _, (va_up_ne _ _ (by omega)).trans (isV_4 hV), rfl, fun j hj => congrArg nI (h2 (36 + j) (by omega)).symm⟩
    · exact Or.inr ⟨_, 8, _, _, (va_up_ne _ _ (by omega)).trans (isV_5 hV), rfl, fun j hj => congrArg nI (h2 (44 + j) (by omega)).symm⟩
    · exact Or.inr ⟨_, _, _, _, va_up_self _ _ _, rfl, fun j hj => congrArg nI (h3 j hj)⟩
    · exact Or.inr ⟨_, 8, _, _, (va_up_ne _ _ (by omega)).trans (isV_7 hV), rfl, fun j hj => congrArg nI (h2 (12 + j) (by omega)).symm⟩
    · exact Or.inl ((va_up_ne _ _ (by omega)).trans ((isV_8 hV).trans (by show _ = (.inr (5, [.ref (ad Γ (b + 12)), .int (nI 5), .int (nI (V2 2))]) : va_E); rw [h2 2 (by omega)])))
    · exact Or.inl ((va_up_ne _ _ (by omega)).trans ((isV_9 hV).trans (by show _ = (.inr (5, [.ref (ad Γ (b + 13)), .int (nI 6), .int (nI (V2 3))]) : va_E); rw [h2 3 (by omega)])))
    · exact Or.inl ((va_up_ne _ _ (by omega)).trans ((isV_10 hV).trans (by show _ = (.inr (5, [.ref (ad Γ (b + 14)), .int (nI 6), .int (nI (V2 4))]) : va_E); rw [h2 4 (by omega)])))
    · exact Or.inl ((va_up_ne _ _ (by omega)).trans ((isV_11 hV).trans (by show _ = (.inr (2, [.ref (ad Γ (b + 15)), .int (nI (V2 5))]) : va_E); rw [h2 5 (by omega)])))
    · exact Or.inr ⟨_, 20, _, _, (va_up_ne _ _ (by omega)).trans (isV_12 hV), rfl, fun j hj => congrArg nI (h2 (60 + j) (by omega)).symm⟩
    · exact Or.inr ⟨_, 24, _, _, (va_up_ne _ _ (by omega)).trans (isV_13 hV), rfl, fun j hj => congrArg nI (h2 (80 + j) (by omega)).symm⟩
    · exact Or.inr ⟨_, 24, _, _, (va_up_ne _ _ (by omega)).trans (isV_14 hV), rfl, fun j hj => congrArg nI (h2 (104 + j) (by omega)).symm⟩
    · exact Or.inr ⟨_, 128, _, _, (va_up_ne _ _ (by omega)).trans (isV_15 hV), rfl, fun j hj => congrArg nI (h2 (128 + j) (by omega)).symm⟩
    )
  exact ⟨G2, g1, g2, fun i hi => (g3 i hi).trans (va_up_ne _ _ (by omega))⟩
theorem nv_c7 {Γ : Gam} {n : Nat} {G : Nat → va_E} {s : State} {H : Heap} {b : Nat} {V : Nat → Nat} (hV : isV Γ G b V) (V2 : Nat → Nat) (X : Nat → Nat) (h : hw Γ n (va_up G (b + 7) (na Γ 8 X)) s H) (h2 : ∀ j, (j < 12 ∨ 20 ≤ j) → V2 j = V j) (h3 : ∀ j, j < 8 → X j = V2 (12 + j)) : ∃ G2, hw Γ n G2 s H ∧ isV Γ G2 b V2 ∧ fr G G2 b (b + 16) := by
  obtain ⟨G2, g1, g2, g3⟩ := nv (b := b) V2 h (fun i hi => by
    rcases (show i = 0 ∨ i = 1 ∨ i = 2 ∨ i = 3 ∨ i = 4 ∨ i = 5 ∨ i = 6 ∨ i = 7 ∨ i = 8 ∨ i = 9 ∨ i = 10 ∨ i = 11 ∨ i = 12 ∨ i = 13 ∨ i = 14 ∨ i = 15 by omega) with rfl | rfl | rfl | rfl | rfl | rfl | rfl | rfl | rfl | rfl | rfl | rfl | rfl | rfl | rfl | rfl
    · exact Or.inl ((va_up_ne _ _ (by omega)).trans ((isV_0 hV).trans (by show _ = (.inr (7, [.int (nI (V2 0)), .ref (ad Γ (b + 1)), .ref (ad Γ (b + 2)), .int (nI (V2 1)), .ref (ad Γ (b + 3)), .ref (ad Γ (b + 4)), .ref (ad Γ (b + 5)), .ref (ad Γ (b + 6)), .ref (ad Γ (b + 7)), .int (nI (V2 20)), .int (nI (V2 21)), .ref (ad Γ (b + 8)), .ref (ad Γ (b + 9)), .ref (ad Γ (b + 10)), .ref (ad Γ (b + 11))]) : va_E); rw [h2 0 (by omega), h2 1 (by omega), h2 20 (by omega), h2 21 (by omega)])))
    · exact Or.inr ⟨_, 6, _, _, (va_up_ne _ _ (by omega)).trans (isV_1 hV), rfl, fun j hj => congrArg nI (h2 (22 + j) (by omega)).symm⟩
    · exact Or.inr ⟨_, 6, _, _, (va_up_ne _ _ (by omega)).trans (isV_2 hV), rfl, fun j hj => congrArg nI (h2 (6 + j) (by omega)).symm⟩
    · exact Or.inr ⟨_, 8, _, _, (va_up_ne _ _ (by omega)).trans (isV_3 hV), rfl, fun j hj => congrArg nI (h2 (28 + j) (by omega)).symm⟩
    · exact Or.inr ⟨_, 8, _, _, (va_up_ne _ _ (by omega)).trans (isV_4 hV), rfl, fun j hj => congrArg nI (h2 (36 + j) (by omega)).symm⟩
    · exact Or.inr ⟨_, 8, _, _, (va_up_ne _ _ (by omega)).trans (isV_5 hV), rfl, fun j hj => congrArg nI (h2 (44 + j) (by omega)).symm⟩
    · exact Or.inr ⟨_, 8, _, _, (va_up_ne _ _ (by omega)).trans (isV_6 hV), rfl, fun j hj => congrArg nI (h2 (52 + j) (by omega)).symm⟩
    · exact Or.inr ⟨_, _, _, _, va_up_self _ _ _, rfl, fun j hj => congrArg nI (h3 j hj)⟩
    · exact Or.inl ((va_up_ne _ _ (by omega)).trans ((isV_8 hV).trans (by show _ = (.inr (5, [.ref (ad Γ (b + 12)), .int (nI 5), .int (nI (V2 2))]) : va_E); rw [h2 2 (by omega)])))
    · exact Or.inl ((va_up_ne _ _ (by omega)).trans ((isV_9 hV).trans (by show _ = (.inr (5, [.ref (ad Γ (b + 13)), .int (nI 6), .int (nI (V2 3))]) : va_E); rw [h2 3 (by omega)])))
    · exact Or.inl ((va_up_ne _ _ (by omega)).trans ((isV_10 hV).trans (by show _ = (.inr (5, [.ref (ad Γ (b + 14)), .int (nI 6), .int (nI (V2 4))]) : va_E); rw [h2 4 (by omega)])))
    · exact Or.inl ((va_up_ne _ _ (by omega)).trans ((isV_11 hV).trans (by show _ = (.inr (2, [.ref (ad Γ (b + 15)), .int (nI (V2 5))]) : va_E); rw [h2 5 (by omega)])))
    · exact Or.inr ⟨_, 20, _, _, (va_up_ne _ _ (by omega)).trans (isV_12 hV), rfl, fun j hj => congrArg nI (h2 (60 + j) (by omega)).symm⟩
    · exact Or.inr ⟨_, 24, _, _, (va_up_ne _ _ (by omega)).trans (isV_13 hV), rfl, fun j hj => congrArg nI (h2 (80 + j) (by omega)).symm⟩
    · exact Or.inr ⟨_, 24, _, _, (va_up_ne _ _ (by omega)).trans (isV_14 hV), rfl, fun j hj => congrArg nI (h2 (104 + j) (by omega)).symm⟩
    · exact Or.inr ⟨_, 128, _, _, (va_up_ne _ _ (by omega)).trans (isV_15 hV), rfl, fun j hj => congrArg nI (h2 (128 + j) (by omega)).symm⟩
    )
  exact ⟨G2, g1, g2, fun i hi => (g3 i hi).trans (va_up_ne _ _ (by omega))⟩
theorem nv_c8 {Γ : Gam} {n : Nat} {G : Nat → va_E} {s : State} {H : Heap} {b : Nat} {V : Nat → Nat} (hV : isV Γ G b V) (V2 : Nat → Nat) (h : hw Γ n (va_up G (b + 8) (.inr (5, [.ref (ad Γ (b + 12)), .int (nI 5), .int (nI (V2 2))]))) s H) (h2 : ∀ j, j ≠ 2 → V2 j = V j) : ∃ G2, hw Γ n G2 s H ∧ isV Γ G2 b V2 ∧ fr G G2 b (b + 16) := by
  obtain ⟨G2, g1, g2, g3⟩ := nv (b := b) V2 h (fun i hi => by
    rcases (show i = 0 ∨ i = 1 ∨ i = 2 ∨ i = 3 ∨ i = 4 ∨ i = 5 ∨ i = 6 ∨ i = 7 ∨ i = 8 ∨ i = 9 ∨ i = 10 ∨ i = 11 ∨ i = 12 ∨ i = 13 ∨ i = 14 ∨ i = 15 by omega) with rfl | rfl | rfl | rfl | rfl | rfl | rfl | rfl | rfl | rfl | rfl | rfl | rfl | rfl | rfl | rfl
    · exact Or.inl ((va_up_ne _ _ (by omega)).trans ((isV_0 hV).trans (by show _ = (.inr (7, [.int (nI (V2 0)), .ref (ad Γ (b + 1)), .ref (ad Γ (b + 2)), .int (nI (V2 1)), .ref (ad Γ (b + 3)), .ref (ad Γ (b + 4)), .ref (ad Γ (b + 5)), .ref (ad Γ (b + 6)), .ref (ad Γ (b + 7)), .int (nI (V2 20)), .int (nI (V2 21)), .ref (ad Γ (b + 8)), .ref (ad Γ (b + 9)), .ref (ad Γ (b + 10)), .ref (ad Γ (b + 11))]) : va_E); rw [h2 0 (by omega), h2 1 (by omega), h2 20 (by omega), h2 21 (by omega)])))
    · exact Or.inr ⟨_, 6, _, _, (va_up_ne _ _ (by omega)).trans (isV_1 hV), rfl, fun j hj => congrArg nI (h2 (22 + j) (by omega)).symm⟩
    · exact Or.inr ⟨_, 6, _, _, (va_up_ne _ _ (by omega)).trans (isV_2 hV), rfl, fun j hj => congrArg nI (h2 (6 + j) (by omega)).symm⟩
    · exact Or.inr ⟨_, 8, _, _, (va_up_ne _ _ (by omega)).trans (isV_3 hV), rfl, fun j hj => congrArg nI (h2 (28 + j) (by omega)).symm⟩
    · exact Or.inr ⟨_, 8, _, _, (va_up_ne _ _ (by omega)).trans (isV_4 hV), rfl, fun j hj => congrArg nI (h2 (36 + j) (by omega)).symm⟩
    · exact Or.inr ⟨_, 8, _, _, (va_up_ne _ _ (by omega)).trans (isV_5 hV), rfl, fun j hj => congrArg nI (h2 (44 + j) (by omega)).symm⟩
    · exact Or.inr ⟨_, 8, _, _, (va_up_ne _ _ (by omega)).trans (isV_6 hV), rfl, fun j hj => congrArg nI (h2 (52 + j) (by omega)).symm⟩
    · exact Or.inr ⟨_, 8, _, _, (va_up_ne _ _ (by omega)).trans (isV_7 hV), rfl, fun j hj => congrArg nI (h2 (12 + j) (by omega)).symm⟩
    · exact Or.inl (va_up_self _ _ _)
    · exact Or.inl ((va_up_ne _ _ (by omega)).trans ((isV_9 hV).trans (by show _ = (.inr (5, [.ref (ad Γ (b + 13)), .int (nI 6), .int (nI (V2 3))]) : va_E); rw [h2 3 (by omega)])))
    · exact Or.inl ((va_up_ne _ _ (by omega)).trans ((isV_10 hV).trans (by show _ = (.inr (5, [.ref (ad Γ (b + 14)), .int (nI 6), .int (nI (V2 4))]) : va_E); rw [h2 4 (by omega)])))
    · exact Or.inl ((va_up_ne _ _ (by omega)).trans ((isV_11 hV).trans (by show _ = (.inr (2, [.ref (ad Γ (b + 15)), .int (nI (V2 5))]) : va_E); rw [h2 5 (by omega)])))
    · exact Or.inr ⟨_, 20, _, _, (va_up_ne _ _ (by omega)).trans (isV_12 hV), rfl, fun j hj => congrArg nI (h2 (60 + j) (by omega)).symm⟩
    · exact Or.inr ⟨_, 24, _, _, (va_up_ne _ _ (by omega)).trans (isV_13 hV), rfl, fun j hj => congrArg nI (h2 (80 + j) (by omega)).symm⟩
    · exact Or.inr ⟨_, 24, _, _, (va_up_ne _ _ (by omega)).trans (isV_14 hV), rfl, fun j hj => congrArg nI (h2 (104 + j) (by omega)).symm⟩
    · exact Or.inr ⟨_, 128, _, _, (va_up_ne _ _ (by omega)).trans (isV_15 hV), rfl, fun j hj => congrArg nI (h2 (128 + j) (by omega)).symm⟩
    )
  exact ⟨G2, g1, g2, fun i hi => (g3 i hi).trans (va_up_ne _ _ (by omega))⟩
theorem nv_c9 {Γ : Gam} {n : Nat} {G : Nat → va_E} {s : State} {H : Heap} {b : Nat} {V : Nat → Nat} (hV : isV Γ G b V) (V2 : Nat → Nat) (h : hw Γ n (va_up G (b + 9) (.inr (5, [.ref (ad Γ (b + 13)), .int (nI 6), .int (nI (V2 3))]))) s H) (h2 : ∀ j, j ≠ 3 → V2 j = V j) : ∃ G2, hw Γ n G2 s H ∧ isV Γ G2 b V2 ∧ fr G G2 b (b + 16) := by
  obtain ⟨G2, g1, g2, g3⟩ := nv (b := b) V2 h (fun i hi => by
    rcases (show i = 0 ∨ i = 1 ∨ i = 2 ∨ i = 3 ∨ i = 4 ∨ i = 5 ∨ i = 6 ∨ i = 7 ∨ i = 8 ∨ i = 9 ∨ i = 10 ∨ i = 11 ∨ i = 12 ∨ i = 13 ∨ i = 14 ∨ i = 15 by omega) with rfl | rfl | rfl | rfl | rfl | rfl | rfl | rfl | rfl | rfl | rfl | rfl | rfl | rfl | rfl | rfl
    · exact Or.inl ((va_up_ne _ _ (by omega)).trans ((isV_0 hV).trans (by show _ = (.inr (7, [.int (nI (V2 0)), .ref (ad Γ (b + 1)), .ref (ad Γ (b + 2)), .int (nI (V2 1)), .ref (ad Γ (b + 3)), .ref (ad Γ (b + 4)), .ref (ad Γ (b + 5)), .ref (ad Γ (b + 6)), .ref (ad Γ (b + 7)), .int (nI (V2 20)), .int (nI (V2 21)), .ref (ad Γ (b + 8)), .ref (ad Γ (b + 9)), .ref (ad Γ (b + 10)), .ref (ad Γ (b + 11))]) : va_E); rw [h2 0 (by omega), h2 1 (by omega), h2 20 (by omega), h2 21 (by omega)])))
    · exact Or.inr ⟨_, 6, _, _, (va_up_ne _ _ (by omega)).trans (isV_1 hV), rfl, fun j hj => congrArg nI (h2 (22 + j) (by omega)).symm⟩
    · exact Or.inr ⟨_, 6, _, _, (va_up_ne _ _ (by omega)).trans (isV_2 hV), rfl, fun j hj => congrArg nI (h2 (6 + j) (by omega)).symm⟩
    · exact Or.inr ⟨_, 8, _, _, (va_up_ne _ _ (by omega)).trans (isV_3 hV), rfl, fun j hj => congrArg nI (h2 (28 + j) (by omega)).symm⟩
    · exact Or.inr ⟨_, 8, _, _, (va_up_ne _ _ (by omega)).trans (isV_4 hV), rfl, fun j hj => congrArg nI (h2 (36 + j) (by omega)).symm⟩
    · exact Or.inr ⟨_, 8, _, _, (va_up_ne _ _ (by omega)).trans (isV_5 hV), rfl, fun j hj => congrArg nI (h2 (44 + j) (by omega)).symm⟩
    · exact Or.inr ⟨_, 8, _, _, (va_up_ne _ _ (by omega)).trans (isV_6 hV), rfl, fun j hj => congrArg nI (h2 (52 + j) (by omega)).symm⟩
    · exact Or.inr ⟨_, 8, _, _, (va_up_ne _ _ (by omega)).trans (isV_7 hV), rfl, fun j hj => congrArg nI (h2 (12 + j) (by omega)).symm⟩
    · exact Or.inl ((va_up_ne _ _ (by omega)).trans ((isV_8 hV).trans (by show _ = (.inr (5, [.ref (ad Γ (b + 12)), .int (nI 5), .int (nI (V2 2))]) : va_E); rw [h2 2 (by omega)])))
    · exact Or.inl (va_up_self _ _ _)
    · exact Or.inl ((va_up_ne _ _ (by omega)).trans ((isV_10 hV).trans (by show _ = (.inr (5, [.ref (ad Γ (b + 14)), .int (nI 6), .int (nI (V2 4))]) : va_E); rw [h2 4 (by omega)])))
    · exact Or.inl ((va_up_ne _ _ (by omega)).trans ((isV_11 hV).trans (by show _ = (.inr (2, [.ref (ad Γ (b + 15)), .int (nI (V2 5))]) : va_E); rw [h2 5 (by omega)])))
    · exact Or.inr ⟨_, 20, _, _, (va_up_ne _ _ (by omega)).trans (isV_12 hV), rfl, fun j hj => congrArg nI (h2 (60 + j) (by omega)).symm⟩
    · exact Or.inr ⟨_, 24, _, _, (va_up_ne _ _ (by omega)).trans (isV_13 hV), rfl, fun j hj => congrArg nI (h2 (80 + j) (by omega)).symm⟩
    · exact Or.inr ⟨_, 24, _, _, (va_up_ne _ _ (by omega)).trans (isV_14 hV), rfl, fun j hj => congrArg nI (h2 (104 + j) (by omega)).symm⟩
    · exact Or.inr ⟨_, 128, _, _, (va_up_ne _ _ (by omega)).trans (isV_15 hV), rfl, fun j hj => congrArg nI (h2 (128 + j) (by omega)).symm⟩
    )
  exact ⟨G2, g1, g2, fun i hi => (g3 i hi).trans (va_up_ne _ _ (by omega))⟩
theorem nv_c10 {Γ : Gam} {n : Nat} {G : Nat → va_E} {s : State} {H : Heap} {b : Nat} {V : Nat → Nat} (hV : isV Γ G b V) (V2 : Nat → Nat) (h : hw Γ n (va_up G (b + 10) (.inr (5, [.ref (ad Γ (b + 14)), .int (nI 6), .int (nI (V2 4))]))) s H) (h2 : ∀ j, j ≠ 4 → V2 j = V j) : ∃ G2, hw Γ n G2 s H ∧ isV Γ G2 b V2 ∧ fr G G2 b (b + 16) := by
  obtain ⟨G2, g1, g2, g3⟩ := nv (b := b) V2 h (fun i hi => by
    rcases (show i = 0 ∨ i = 1 ∨ i = 2 ∨ i = 3 ∨ i = 4 ∨ i = 5 ∨ i = 6 ∨ i = 7 ∨ i = 8 ∨ i = 9 ∨ i = 10 ∨ i = 11 ∨ i = 12 ∨ i = 13 ∨ i = 14 ∨ i = 15 by omega) with rfl | rfl | rfl | rfl | rfl | rfl | rfl | rfl | rfl | rfl | rfl | rfl | rfl | rfl | rfl | rfl
    · exact Or.inl ((va_up_ne _ _ (by omega)).trans ((isV_0 hV).trans (by show _ = (.inr (7, [.int (nI (V2 0)), .ref (ad Γ (b + 1)), .ref (ad Γ (b + 2)), .int (nI (V2 1)), .ref (ad Γ (b + 3)), .ref (ad Γ (b + 4)), .ref (ad Γ (b + 5)), .ref (ad Γ (b + 6)), .ref (ad Γ (b + 7)), .int (nI (V2 20)), .int (nI (V2 21)), .ref (ad Γ (b + 8)), .ref (ad Γ (b + 9)), .ref (ad Γ (b + 10)), .ref (ad Γ (b + 11))]) : va_E); rw [h2 0 (by omega), h2 1 (by omega), h2 20 (by omega), h2 21 (by omega)])))
    · exact Or.inr ⟨_, 6, _, _, (va_up_ne _ _ (by omega)).trans (isV_1 hV), rfl, fun j hj => congrArg nI (h2 (22 + j) (by omega)).symm⟩
    · exact Or.inr ⟨_, 6, _, _, (va_up_ne _ _ (by omega)).trans (isV_2 hV), rfl, fun j hj => congrArg nI (h2 (6 + j) (by omega)).symm⟩
    · exact Or.inr ⟨_, 8, _, _, (va_up_ne _ _ (by omega)).trans (isV_3 hV), rfl, fun j hj => congrArg nI (h2 (28 + j) (by omega)).symm⟩
    · exact Or.inr ⟨_, 8, _, _, (va_up_ne _ _ (by omega)).trans (isV_4 hV), rfl, fun j hj => congrArg nI (h2 (36 + j) (by omega)).symm⟩
    · exact Or.inr ⟨_, 8, _, _, (va_up_ne _ _ (by omega)).trans (isV_5 hV), rfl, fun j hj => congrArg nI (h2 (44 + j) (by omega)).symm⟩
    · exact Or.inr ⟨_, 8, _, _, (va_up_ne _ _ (by omega)).trans (isV_6 hV), rfl, fun j hj => congrArg nI (h2 (52 + j) (by omega)).symm⟩
    · exact Or.inr ⟨_, 8, _, _, (va_up_ne _ _ (by omega)).trans (isV_7 hV), rfl, fun j hj => congrArg nI (h2 (12 + j) (by omega)).symm⟩
    · exact Or.inl ((va_up_ne _ _ (by omega)).trans ((isV_8 hV).trans (by show _ = (.inr (5, [.ref (ad Γ (b + 12)), .int (nI 5), .int (nI (V2 2))]) : va_E); rw [h2 2 (by omega)])))
    · exact Or.inl ((va_up_ne _ _ (by omega)).trans ((isV_9 hV).trans (by show _ = (.inr (5, [.ref (ad Γ (b + 13)), .int (nI 6), .int (nI (V2 3))]) : va_E); rw [h2 3 (by omega)])))
    · exact Or.inl (va_up_self _ _ _)
    · exact Or.inl ((va_up_ne _ _ (by omega)).trans ((isV_11 hV).trans (by show _ = (.inr (2, [.ref (ad Γ (b + 15)), .int (nI (V2 5))]) : va_E); rw [h2 5 (by omega)])))
    · exact Or.inr ⟨_, 20, _, _, (va_up_ne _ _ (by omega)).trans (isV_12 hV), rfl, fun j hj => congrArg nI (h2 (60 + j) (by omega)).symm⟩
    · exact Or.inr ⟨_, 24, _, _, (va_up_ne _ _ (by omega)).trans (isV_13 hV), rfl, fun j hj => congrArg nI (h2 (80 + j) (by omega)).symm⟩
    · exact Or.inr ⟨_, 24, _, _, (va_up_ne _ _ (by omega)).trans (isV_14 hV), rfl, fun j hj => congrArg nI (h2 (104 + j) (by omega)).symm⟩
    · exact Or.inr ⟨_, 128, _, _, (va_up_ne _ _ (by omega)).trans (isV_15 hV), rfl, fun j hj => congrArg nI (h2 (128 + j) (by omega)).symm⟩
    )
  exact ⟨G2, g1, g2, fun i hi => (g3 i hi).trans (va_up_ne _ _ (by omega))⟩
theorem nv_c11 {Γ : Gam} {n : Nat} {G : Nat → va_E} {s : State} {H : Heap} {b : Nat} {V : Nat → Nat} (hV : isV Γ G b V) (V2 : Nat → Nat) (h : hw Γ n (va_up G (b + 11) (.inr (2, [.ref (ad Γ (b + 15)), .int (nI (V2 5))]))) s H) (h2 : ∀ j, j ≠ 5 → V2 j = V j) : ∃ G2, hw Γ n G2 s H ∧ isV Γ G2 b V2 ∧ fr G G2 b (b + 16) := by
  obtain ⟨G2, g1, g2, g3⟩ := nv (b := b) V2 h (fun i hi => by
    rcases (show i = 0 ∨ i = 1 ∨ i = 2 ∨ i = 3 ∨ i = 4 ∨ i = 5 ∨ i = 6 ∨ i = 7 ∨ i = 8 ∨ i = 9 ∨ i = 10 ∨ i = 11 ∨ i = 12 ∨ i = 13 ∨ i = 14 ∨ i = 15 by omega) with rfl | rfl | rfl | rfl | rfl | rfl | rfl | rfl | rfl | rfl | rfl | rfl | rfl | rfl | rfl | rfl
    · exact Or.inl ((va_up_ne _ _ (by omega)).trans ((isV_0 hV).trans (by show _ = (.inr (7, [.int (nI (V2 0)), .ref (ad Γ (b + 1)), .ref (ad Γ (b + 2)), .int (nI (V2 1)), .ref (ad Γ (b + 3)), .ref (ad Γ (b + 4)), .ref (ad Γ (b + 5)), .ref (ad Γ (b + 6)), .ref (ad Γ (b + 7)), .int (nI (V2 20)), .int (nI (V2 21)), .ref (ad Γ (b + 8)), .ref (ad Γ (b + 9)), .ref (ad Γ (b + 10)), .ref (ad Γ (b + 11))]) : va_E); rw [h2 0 (by omega), h2 1 (by omega), h2 20 (by omega), h2 21 (by omega)])))
    · exact Or.inr ⟨_, 6, _, _, (va_up_ne _ _ (by omega)).trans (isV_1 hV), rfl, fun j hj => congrArg nI (h2 (22 + j) (by omega)).symm⟩
    · exact Or.inr ⟨_, 6, _, _, (va_up_ne _ _ (by omega)).trans (isV_2 hV), rfl, fun j hj => congrArg nI (h2 (6 + j) (by omega)).symm⟩
    · exact Or.inr ⟨_, 8, _, _, (va_up_ne _ _ (by omega)).trans (isV_3 hV), rfl, fun j hj => congrArg nI (h2 (28 + j) (by omega)).symm⟩
    · exact Or.inr ⟨_, 8, _, _, (va_up_ne _ _ (by omega)).trans (isV_4 hV), rfl, fun j hj => congrArg nI (h2 (36 + j) (by omega)).symm⟩
    · exact Or.inr ⟨_, 8, _, _, (va_up_ne _ _ (by omega)).trans (isV_5 hV), rfl, fun j hj => congrArg nI (h2 (44 + j) (by omega)).symm⟩
    · exact Or.inr ⟨_, 8, _, _, (va_up_ne _ _ (by omega)).trans (isV_6 hV), rfl, fun j hj => congrArg nI (h2 (52 + j) (by omega)).symm⟩
    · exact Or.inr ⟨_, 8, _, _, (va_up_ne _ _ (by omega)).trans (isV_7 hV), rfl, fun j hj => congrArg nI (h2 (12 + j) (by omega)).symm⟩
    · exact Or.inl ((va_up_ne _ _ (by omega)).trans ((isV_8 hV).trans (by show _ = (.inr (5, [.ref (ad Γ (b + 12)), .int (nI 5), .int (nI (V2 2))]) : va_E); rw [h2 2 (by omega)])))
    · exact Or.inl ((va_up_ne _ _ (by omega)).trans ((isV_9 hV).trans (by show _ = (.inr (5, [.ref (ad Γ (b + 13)), .int (nI 6), .int (nI (V2 3))]) : va_E); rw [h2 3 (by omega)])))
    · exact Or.inl ((va_up_ne _ _ (by omega)).trans ((isV_10 hV).trans (by show _ = (.inr (5, [.ref (ad Γ (b + 14)), .int (nI 6), .int (nI (V2 4))]) : va_E); rw [h2 4 (by omega)])))
    · exact Or.inl (va_up_self _ _ _)
    · exact Or.inr ⟨_, 20, _, _, (va_up_ne _ _ (by omega)).trans (isV_12 hV), rfl, fun j hj => congrArg nI (h2 (60 + j) (by omega)).symm⟩
    · exact Or.inr ⟨_, 24, _, _, (va_up_ne _ _ (by omega)).trans (isV_13 hV), rfl, fun j hj => congrArg nI (h2 (80 + j) (by omega)).symm⟩
    · exact Or.inr ⟨_, 24, _, _, (va_up_ne _ _ (by omega)).trans (isV_14 hV), rfl, fun j hj => congrArg nI (h2 (104 + j) (by omega)).symm⟩
    · exact Or.inr ⟨_, 128, _, _, (va_up_ne _ _ (by omega)).trans (isV_15 hV), rfl, fun j hj => congrArg nI (h2 (128 + j) (by omega)).symm⟩
    )
  exact ⟨G2, g1, g2, fun i hi => (g3 i hi).trans (va_up_ne _ _ (by omega))⟩
theorem nv_c12 {Γ : Gam} {n : Nat} {G : Nat → va_E} {s : State} {H : Heap} {b : Nat} {V : Nat → Nat} (hV : isV Γ G b V) (V2 : Nat → Nat) (X : Nat → Nat) (h : hw Γ n (va_up G (b + 12) (na Γ 20 X)) s H) (h2 : ∀ j, (j < 60 ∨ 80 ≤ j) → V2 j = V j) (h3 : ∀ j, j < 20 → X j = V2 (60 + j)) : ∃ G2, hw Γ n G2 s H ∧ isV Γ G2 b V2 ∧ fr G G2 b (b + 16) := by
  obtain ⟨G2, g1, g2, g3⟩ := nv (b := b) V2 h (fun i hi => by
    rcases (show i = 0 ∨ i = 1 ∨ i = 2 ∨ i = 3 ∨ i = 4 ∨ i = 5 ∨ i = 6 ∨ i = 7 ∨ i = 8 ∨ i = 9 ∨ i = 10 ∨ i = 11 ∨ i = 12 ∨ i = 13 ∨ i = 14 ∨ i = 15 by omega) with rfl | rfl | rfl | rfl | rfl | rfl | rfl | rfl | rfl | rfl | rfl | rfl | rfl | rfl | rfl | rfl
    · exact Or.inl ((va_up_ne _ _ (by omega)).trans ((isV_0 hV).trans (by show _ = (.inr (7, [.int (nI (V2 0)), .ref (ad Γ (b + 1)), .ref (ad Γ (b + 2)), .int (nI (V2 1)), .ref (ad Γ (b + 3)), .ref (ad Γ (b + 4)), .ref (ad Γ (b + 5)), .ref (ad Γ (b + 6)), .ref (ad Γ (b + 7)), .int (nI (V2 20)), .int (nI (V2 21)), .ref (ad Γ (b + 8)), .ref (ad Γ (b + 9)), .ref (ad Γ (b + 10)), .ref (ad Γ (b + 11))]) : va_E); rw [h2 0 (by omega), h2 1 (by omega), h2 20 (by omega), h2 21 (by omega)])))
    · exact Or.inr ⟨_, 6, _, _, (va_up_ne _ _ (by omega)).trans (isV_1 hV), rfl, fun j hj => congrArg nI (h2 (22 + j) (by omega)).symm⟩
    · exact Or.inr ⟨_, 6, _, _, (va_up_ne _ _ (by omega)).trans (isV_2 hV), rfl, fun j hj => congrArg nI (h2 (6 + j) (by omega)).symm⟩
    · exact Or.inr ⟨_, 8, _, _, (va_up_ne _ _ (by omega)).trans (isV_3 hV), rfl, fun j hj => congrArg nI (h2 (28 + j) (by omega)).symm⟩
    · exact Or.inr ⟨_, 8, _, _, (va_up_ne _ _ (by omega)).trans (isV_4 hV), rfl, fun j hj => congrArg nI (h2 (36 + j) (by omega)).symm⟩
    · exact Or.inr ⟨_, 8, _, _, (va_up_ne _ _ (by omega)).trans (isV_5 hV), rfl, fun j hj => congrArg nI (h2 (44 + j) (by omega)).symm⟩
    · exact Or.inr ⟨_, 8, _, _, (va_up_ne _ _ (by omega)).trans (isV_6 hV), rfl, fun j hj => congrArg nI (h2 (52 + j) (by omega)).symm⟩
    · exact Or.inr ⟨_, 8, _, _, (va_up_ne _ _ (by omega)).trans (isV_7 hV), rfl, fun j hj => congrArg nI (h2 (12 + j) (by omega)).symm⟩
    · exact Or.inl ((va_up_ne _ _ (by omega)).trans ((isV_8 hV).trans (by show _ = (.inr (5, [.ref (ad Γ (b + 12)), .int (nI 5), .int (nI (V2 2))]) : va_E); rw [h2 2 (by omega)])))
    · exact Or.inl ((va_up_ne _ _ (by omega)).trans ((isV_9 hV).trans (by show _ = (.inr (5, [.ref (ad Γ (b + 13)), .int (nI 6), .int (nI (V2 3))]) : va_E); rw [h2 3 (by omega)])))
    · exact Or.inl ((va_up_ne _ _ (by omega)).trans ((isV_10 hV).trans (by show _ = (.inr (5, [.ref (ad Γ (b + 14)), .int (nI 6), .int (nI (V2 4))]) : va_E); rw [h2 4 (by omega)])))
    · exact Or.inl ((va_up_ne _ _ (by omega)).trans ((isV_11 hV).trans (by show _ = (.inr (2, [.ref (ad Γ (b + 15)), .int (nI (V2 5))]) : va_E); rw [h2 5 (by omega)])))
    · exact Or.inr ⟨_, _, _, _, va_up_self _ _ _, rfl, fun j hj => congrArg nI (h3 j hj)⟩
    · exact Or.inr ⟨_, 24, _, _, (va_up_ne _ _ (by omega)).trans (isV_13 hV), rfl, fun j hj => congrArg nI (h2 (80 + j) (by omega)).symm⟩
    · exact Or.inr ⟨_, 24, _, _, (va_up_ne _ _ (by omega)).trans (isV_14 hV), rfl, fun j hj => congrArg nI (h2 (104 + j) (by omega)).symm⟩
    · exact Or.inr ⟨_, 128, _, _, (va_up_ne _ _ (by omega)).trans (isV_15 hV), rfl, fun j hj => congrArg nI (h2 (128 + j) (by omega)).symm⟩
    )
  exact ⟨G2, g1, g2, fun i hi => (g3 i hi).trans (va_up_ne _ _ (by omega))⟩
theorem nv_c13 {Γ : Gam} {n : Nat} {G : Nat → va_E} {s : State} {H : Heap} {b : Nat} {V : Nat → Nat} (hV : isV Γ G b V) (V2 : Nat → Nat) (X : Nat → Nat) (h : hw Γ n (va_up G (b + 13) (na Γ 24 X)) s H) (h2 : ∀ j, (j < 80 ∨ 104 ≤ j) → V2 j = V j) (h3 : ∀ j, j < 24 → X j = V2 (80 + j)) : ∃ G2, hw Γ n G2 s H ∧ isV Γ G2 b V2 ∧ fr G G2 b (b + 16) := by
  obtain ⟨G2, g1, g2, g3⟩ := nv (b := b) V2 h (fun i hi => by
    rcases (show i = 0 ∨ i = 1 ∨ i = 2 ∨ i = 3 ∨ i = 4 ∨ i = 5 ∨ i = 6 ∨ i = 7 ∨ i = 8 ∨ i = 9 ∨ i = 10 ∨ i = 11 ∨ i = 12 ∨ i = 13 ∨ i = 14 ∨ i = 15 by omega) with rfl | rfl | rfl | rfl | rfl | rfl | rfl | rfl | rfl | rfl | rfl | rfl | rfl | rfl | rfl | rfl
    · exact Or.inl ((va_up_ne _ _ (by omega)).trans ((isV_0 hV).trans (by show _ = (.inr (7, [.int (nI (V2 0)), .ref (ad Γ (b + 1)), .ref (ad Γ (b + 2)), .int (nI (V2 1)), .ref (ad Γ (b + 3)), .ref (ad Γ (b + 4)), .ref (ad Γ (b + 5)), .ref (ad Γ (b + 6)), .ref (ad Γ (b + 7)), .int (nI (V2 20)), .int (nI (V2 21)), .ref (ad Γ (b + 8)), .ref (ad Γ (b + 9)), .ref (ad Γ (b + 10)), .ref (ad Γ (b + 11))]) : va_E); rw [h2 0 (by omega), h2 1 (by omega), h2 20 (by omega), h2 21 (by omega)])))
    · exact Or.inr ⟨_, 6, _, _, (va_up_ne _ _ (by omega)).trans (isV_1 hV), rfl, fun j hj => congrArg nI (h2 (22 + j) (by omega)).symm⟩
    · exact Or.inr ⟨_, 6, _, _, (va_up_ne _ _ (by omega)).trans (isV_2 hV), rfl, fun j hj => congrArg nI (h2 (6 + j) (by omega)).symm⟩
    · exact Or.inr ⟨_, 8, _, _, (va_up_ne _ _ (by omega)).trans (isV_3 hV), rfl, fun j hj => congrArg nI (h2 (28 + j) (by omega)).symm⟩
    · exact Or.inr ⟨_, 8, _, _, (va_up_ne _ _ (by omega)).trans (isV_4 hV), rfl, fun j hj => congrArg nI (h2 (36 + j) (by omega)).symm⟩
    · exact Or.inr ⟨_, 8, _, _, (va_up_ne _ _ (by omega)).trans (isV_5 hV), rfl, fun j hj => congrArg nI (h2 (44 + j) (by omega)).symm⟩
    · exact Or.inr ⟨_, 8, _, _, (va_up_ne _ _ (by omega)).trans (isV_6 hV), rfl, fun j hj => congrArg nI (h2 (52 + j) (by omega)).symm⟩
    · exact Or.inr ⟨_, 8, _, _, (va_up_ne _ _ (by omega)).trans (isV_7 hV), rfl, fun j hj => congrArg nI (h2 (12 + j) (by omega)).symm⟩
    · exact Or.inl ((va_up_ne _ _ (by omega)).trans ((isV_8 hV).trans (by show _ = (.inr (5, [.ref (ad Γ (b + 12)), .int (nI 5), .int (nI (V2 2))]) : va_E); rw [h2 2 (by omega)])))
    · exact Or.inl ((va_up_ne _ _ (by omega)).trans ((isV_9 hV).trans (by show _ = (.inr (5, [.ref (ad Γ (b + 13)), .int (nI 6), .int (nI (V2 3))]) : va_E); rw [h2 3 (by omega)])))
    · exact Or.inl ((va_up_ne _ _ (by omega)).trans ((isV_10 hV).trans (by show _ = (.inr (5, [.ref (ad Γ (b + 14)), .int (nI 6), .int (nI (V2 4))]) : va_E); rw [h2 4 (by omega)])))
    · exact Or.inl ((va_up_ne _ _ (by omega)).trans ((isV_11 hV).trans (by show _ = (.inr (2, [.ref (ad Γ (b + 15)), .int (nI (V2 5))]) : va_E); rw [h2 5 (by omega)])))
    · exact Or.inr ⟨_, 20, _, _, (va_up_ne _ _ (by omega)).trans (isV_12 hV), rfl, fun j hj => congrArg nI (h2 (60 + j) (by omega)).symm⟩
    · exact Or.inr ⟨_, _, _, _, va_up_self _ _ _, rfl, fun j hj => congrArg nI (h3 j hj)⟩
    · exact Or.inr ⟨_, 24, _, _, (va_up_ne _ _ (by omega)).trans (isV_14 hV), rfl, fun j hj => congrArg nI (h2 (104 + j) (by omega)).symm⟩
    · exact Or.inr ⟨_, 128, _, _, (va_up_ne _ _ (by omega)).trans (isV_15 hV), rfl, fun j hj => congrArg nI (h2 (128 + j) (by omega)).symm⟩
    )
  exact ⟨G2, g1, g2, fun i hi => (g3 i hi).trans (va_up_ne _ _ (by omega))⟩
theorem nv_c14 {Γ : Gam} {n : Nat} {G : Nat → va_E} {s : State} {H : Heap} {b : Nat} {V : Nat → Nat} (hV : isV Γ G b V) (V2 : Nat → Nat) (X : Nat → Nat) (h : hw Γ n (va_up G (b + 14) (na Γ 24 X)) s H) (h2 : ∀ j, (j < 104 ∨ 128 ≤ j) → V2 j = V j) (h3 : ∀ j, j < 24 → X j = V2 (104 + j)) : ∃ G2, hw Γ n G2 s H ∧ isV Γ G2 b V2 ∧ fr G G2 b (b + 16) := by
  obtain ⟨G2, g1, g2, g3⟩ := nv (b := b) V2 h (fun i hi => by
    rcases (show i = 0 ∨ i = 1 ∨ i = 2 ∨ i = 3 ∨ i = 4 ∨ i = 5 ∨ i = 6 ∨ i = 7 ∨ i = 8 ∨ i = 9 ∨ i = 10 ∨ i = 11 ∨ i = 12 ∨ i = 13 ∨ i = 14 ∨ i = 15 by omega) with rfl | rfl | rfl | rfl | rfl | rfl | rfl | rfl | rfl | rfl | rfl | rfl | rfl | rfl | rfl | rfl
    · exact Or.inl ((va_up_ne _ _ (by omega)).trans ((isV_0 hV).trans (by show _ = (.inr (7, [.int (nI (V2 0)), .ref (ad Γ (b + 1)), .ref (ad Γ (b + 2)), .int (nI (V2 1)), .ref (ad Γ (b + 3)), .ref (ad Γ (b + 4)), .ref (ad Γ (b + 5)), .ref (ad Γ (b + 6)), .ref (ad Γ (b + 7)), .int (nI (V2 20)), .int (nI (V2 21)), .ref (ad Γ (b + 8)), .ref (ad Γ (b + 9)), .ref (ad Γ (b + 10)), .ref (ad Γ (b + 11))]) : va_E); rw [h2 0 (by omega), h2 1 (by omega), h2 20 (by omega), h2 21 (by omega)])))
    · exact Or.inr ⟨_, 6, _, _, (va_up_ne _ _ (by omega)).trans (isV_1 hV), rfl, fun j hj => congrArg nI (h2 (22 + j) (by omega)).symm⟩
    · exact Or.inr ⟨_, 6, _, _, (va_up_ne _ _ (by omega)).trans (isV_2 hV), rfl, fun j hj => congrArg nI (h2 (6 + j) (by omega)).symm⟩
    · exact Or.inr ⟨_, 8, _, _, (va_up_ne _ _ (by omega)).trans (isV_3 hV), rfl, fun j hj => congrArg nI (h2 (28 + j) (by omega)).symm⟩
    · exact Or.inr ⟨_, 8, _, _, (va_up_ne _ _ (by omega)).trans (isV_4 hV), rfl, fun j hj => congrArg nI (h2 (36 + j) (by omega)).symm⟩
    · exact Or.inr ⟨_, 8, _, _, (va_up_ne _ _ (by omega)).trans (isV_5 hV), rfl, fun j hj => congrArg nI (h2 (44 + j) (by omega)).symm⟩
    · exact Or.inr ⟨_, 8, _, _, (va_up_ne _ _ (by omega)).trans (isV_6 hV), rfl, fun j hj => congrArg nI (h2 (52 + j) (by omega)).symm⟩
    · exact Or.inr ⟨_, 8, _, _, (va_up_ne _ _ (by omega)).trans (isV_7 hV), rfl, fun j hj => congrArg nI (h2 (12 + j) (by omega)).symm⟩
    · exact Or.inl ((va_up_ne _ _ (by omega)).trans ((isV_8 hV).trans (by show _ = (.inr (5, [.ref (ad Γ (b + 12)), .int (nI 5), .int (nI (V2 2))]) : va_E); rw [h2 2 (by omega)])))
    · exact Or.inl ((va_up_ne _ _ (by omega)).trans ((isV_9 hV).trans (by show _ = (.inr (5, [.ref (ad Γ (b + 13)), .int (nI 6), .int (nI (V2 3))]) : va_E); rw [h2 3 (by omega)])))
    · exact Or.inl ((va_up_ne _ _ (by omega)).trans ((isV_10 hV).trans (by show _ = (.inr (5, [.ref (ad Γ (b + 14)), .int (nI 6), .int (nI (V2 4))]) : va_E); rw [h2 4 (by omega)])))
    · exact Or.inl ((va_up_ne _ _ (by omega)).trans ((isV_11 hV).trans (by show _ = (.inr (2, [.ref (ad Γ (b + 15)), .int (nI (V2 5))]) : va_E); rw [h2 5 (by omega)])))
    · exact Or.inr ⟨_, 20, _, _, (va_up_ne _ _ (by omega)).trans (isV_12 hV), rfl, fun j hj => congrArg nI (h2 (60 + j) (by omega)).symm⟩
    · exact Or.inr ⟨_, 24, _, _, (va_up_ne _ _ (by omega)).trans (isV_13 hV), rfl, fun j hj => congrArg nI (h2 (80 + j) (by omega)).symm⟩
    · exact Or.inr ⟨_, _, _, _, va_up_self _ _ _, rfl, fun j hj => congrArg nI (h3 j hj)⟩
    · exact Or.inr ⟨_, 128, _, _, (va_up_ne _ _ (by omega)).trans (isV_15 hV), rfl, fun j hj => congrArg nI (h2 (128 + j) (by omega)).symm⟩
    )
  exact ⟨G2, g1, g2, fun i hi => (g3 i hi).trans (va_up_ne _ _ (by omega))⟩
theorem nv_c15 {Γ : Gam} {n : Nat} {G : Nat → va_E} {s : State} {H : Heap} {b : Nat} {V : Nat → Nat} (hV : isV Γ G b V) (V2 : Nat → Nat) (X : Nat → Nat) (h : hw Γ n (va_up G (b + 15) (na Γ 128 X)) s H) (h2 : ∀ j, (j < 128 ∨ 256 ≤ j) → V2 j = V j) (h3 : ∀ j, j < 128 → X j = V2 (128 + j)) : ∃ G2, hw Γ n G2 s H ∧ isV Γ G2 b V2 ∧ fr G G2 b (b + 16) := by
  obtain ⟨G2, g1, g2, g3⟩ := nv (b := b) V2 h (fun i hi => by
    rcases (show i = 0 ∨ i = 1 ∨ i = 2 ∨ i = 3 ∨ i = 4 ∨ i = 5 ∨ i = 6 ∨ i = 7 ∨ i = 8 ∨ i = 9 ∨ i = 10 ∨ i = 11 ∨ i = 12 ∨ i = 13 ∨ i = 14 ∨ i = 15 by omega) with rfl | rfl | rfl | rfl | rfl | rfl | rfl | rfl | rfl | rfl | rfl | rfl | rfl | rfl | rfl | rfl
    · exact Or.inl ((va_up_ne _ _ (by omega)).trans ((isV_0 hV).trans (by show _ = (.inr (7, [.int (nI (V2 0)), .ref (ad Γ (b + 1)), .ref (ad Γ (b + 2)), .int (nI (V2 1)), .ref (ad Γ (b + 3)), .ref (ad Γ (b + 4)), .ref (ad Γ (b + 5)), .ref (ad Γ (b + 6)), .ref (ad Γ (b + 7)), .int (nI (V2 20)), .int (nI (V2 21)), .ref (ad Γ (b + 8)), .ref (ad Γ (b + 9)), .ref (ad Γ (b + 10)), .ref (ad Γ (b + 11))]) : va_E); rw [h2 0 (by omega), h2 1 (by omega), h2 20 (by omega), h2 21 (by omega)])))
    · exact Or.inr ⟨_, 6, _, _, (va_up_ne _ _ (by omega)).trans (isV_1 hV), rfl, fun j hj => congrArg nI (h2 (22 + j) (by omega)).symm⟩
    · exact Or.inr ⟨_, 6, _, _, (va_up_ne _ _ (by omega)).trans (isV_2 hV), rfl, fun j hj => congrArg nI (h2 (6 + j) (by omega)).symm⟩
    · exact Or.inr ⟨_, 8, _, _, (va_up_ne _ _ (by omega)).trans (isV_3 hV), rfl, fun j hj => congrArg nI (h2 (28 + j) (by omega)).symm⟩
    · exact Or.inr ⟨_, 8, _, _, (va_up_ne _ _ (by omega)).trans (isV_4 hV), rfl, fun j hj => congrArg nI (h2 (36 + j) (by omega)).symm⟩
    · exact Or.inr ⟨_, 8, _, _, (va_up_ne _ _ (by omega)).trans (isV_5 hV), rfl, fun j hj => congrArg nI (h2 (44 + j) (by omega)).symm⟩
    · exact Or.inr ⟨_, 8, _, _, (va_up_ne _ _ (by omega)).trans (isV_6 hV), rfl, fun j hj => congrArg nI (h2 (52 + j) (by omega)).symm⟩
    · exact Or.inr ⟨_, 8, _, _, (va_up_ne _ _ (by omega)).trans (isV_7 hV), rfl, fun j hj => congrArg nI (h2 (12 + j) (by omega)).symm⟩
    · exact Or.inl ((va_up_ne _ _ (by omega)).trans ((isV_8 hV).trans (by show _ = (.inr (5, [.ref (ad Γ (b + 12)), .int (nI 5), .int (nI (V2 2))]) : va_E); rw [h2 2 (by omega)])))
    · exact Or.inl ((va_up_ne _ _ (by omega)).trans ((isV_9 hV).trans (by show _ = (.inr (5, [.ref (ad Γ (b + 13)), .int (nI 6), .int (nI (V2 3))]) : va_E); rw [h2 3 (by omega)])))
    · exact Or.inl ((va_up_ne _ _ (by omega)).trans ((isV_10 hV).trans (by show _ = (.inr (5, [.ref (ad Γ (b + 14)), .int (nI 6), .int (nI (V2 4))]) : va_E); rw [h2 4 (by omega)])))
    · exact Or.inl ((va_up_ne _ _ (by omega)).trans ((isV_11 hV).trans (by show _ = (.inr (2, [.ref (ad Γ (b + 15)), .int (nI (V2 5))]) : va_E); rw [h2 5 (by omega)])))
    · exact Or.inr ⟨_, 20, _, _, (va_up_ne _ _ (by omega)).trans (isV_12 hV), rfl, fun j hj => congrArg nI (h2 (60 + j) (by omega)).symm⟩
    · exact Or.inr ⟨_, 24, _, _, (va_up_ne _ _ (by omega)).trans (isV_13 hV), rfl, fun j hj => congrArg nI (h2 (80 + j) (by omega)).symm⟩
    · exact Or.inr ⟨_, 24, _, _, (va_up_ne _ _ (by omega)).trans (isV_14 hV), rfl, fun j hj => congrArg nI (h2 (104 + j) (by omega)).symm⟩
    · exact Or.inr ⟨_, _, _, _, va_up_self _ _ _, rfl, fun j hj => congrArg nI (h3 j hj)⟩
    )
  exact ⟨G2, g1, g2, fun i hi => (g3 i hi).trans (va_up_ne _ _ (by omega))⟩
theorem isV_fr {Γ : Gam} {G G2 : Nat → va_E} {b a c : Nat} {V : Nat → Nat} (h : isV Γ G b V) (hf : fr G G2 a c) (hd : b + 16 ≤ a ∨ c ≤ b) : isV Γ G2 b V := ⟨(hf _ (by omega)).trans (isV_0 h), (hf _ (by omega)).trans (isV_1 h), (hf _ (by omega)).trans (isV_2 h), (hf _ (by omega)).trans (isV_3 h), (hf _ (by omega)).trans (isV_4 h), (hf _ (by omega)).trans (isV_5 h), (hf _ (by omega)).trans (isV_6 h), (hf _ (by omega)).trans (isV_7 h), (hf _ (by omega)).trans (isV_8 h), (hf _ (by omega)).trans (isV_9 h), (hf _ (by omega)).trans (isV_10 h), (hf _ (by omega)).trans (isV_11 h), (hf _ (by omega)).trans (isV_12 h), (hf _ (by omega)).trans (isV_13 h), (hf _ (by omega)).trans (isV_14 h), (hf _ (by omega)).trans (isV_15 h)⟩
theorem fr_1 (G : Nat → va_E) (i : Nat) (e : va_E) : fr G (va_up G i e) i (i + 1) := fun j hj => va_up_ne _ _ (by omega)
theorem up_sh (V : Nat → Nat) (o k v j : Nat) : va_up (fun j => V (o + j)) k v j = va_up V (o + k) v (o + j) := by
  by_cases h : j = k
  · subst h; rw [va_up_self, va_up_self]
  · rw [va_up_ne _ _ h, va_up_ne _ _ (by omega)]
/-- q places from o on out of f -/
def cpA (V : Nat → Nat) (o q : Nat) (f : Nat → Nat) : Nat → Nat := fun j => if o ≤ j ∧ j < o + q then f (j - o) else V j
theorem cpA_out {V : Nat → Nat} {o q : Nat} {f : Nat → Nat} {j : Nat} (h : j < o ∨ o + q ≤ j) : cpA V o q f j = V j := by
  unfold cpA; rw [if_neg (by omega)]
theorem cpA_in {V : Nat → Nat} {o q : Nat} {f : Nat → Nat} {j : Nat} (h : j < q) : cpA V o q f (o + j) = f j := by
  unfold cpA; rw [if_pos (by omega), Nat.add_sub_cancel_left]
theorem cp_sh (V f : Nat → Nat) (o sp dp q j : Nat) : va_cpy f (fun j => V (o + j)) sp dp q j = cpA V (o + dp) q (fun i => f (sp + i)) (o + j) := by
  unfold va_cpy cpA
  by_cases h : dp ≤ j ∧ j < dp + q
  · rw [if_pos h, if_pos (by omega), show o + j - (o + dp) = j - dp by omega]
  · rw [if_neg h, if_neg (by omega)]
theorem cpA_le {V f : Nat → Nat} {c : Nat} (h : ∀ j, V j ≤ c) (hf : ∀ j, f j ≤ c) (o q j : Nat) : cpA V o q f j ≤ c := by
  unfold cpA; split
  · exact hf _
  · exact h _
theorem up_le {V : Nat → Nat} {c : Nat} (h : ∀ j, V j ≤ c) {k v : Nat} (hv : v ≤ c) (j : Nat) : va_up V k v j ≤ c := by
  unfold va_up; split
  · exact hv
  · exact h j
end SE
section SE2
variable {p : Program} {l : Launch} {e : Env} {R : Room} {s : State} {m : MethodId} {args : Array Value} {below : List Frame} {meth : Method} {c : Code} {H : Heap} {locs : List Loc} {cells slots : Nat} {Q : State → Prop}
variable {cc : ByteArray} {pc : Nat} {ls : Array Slot} {rest st0 : List Value} {Γ : Gam} {n : Nat} {G : Nat → va_E}
theorem nr_copyi (hx : p.tables.exec = Jvm.exec) (hb : c.code = cc) (hml : c.maxLocals = ls.size) {own : String} {index : Nat} (hown : s.vm.findClass own = some m.cls) (hlink : (Cond.methodLink own index arraycopyName).before args s = true) (hnat : (Cond.native arraycopyName).before args s = true) (hstat : (Cond.static arraycopyName).before args s = true) (hini : (Cond.initialized "java/lang/System").before args s = true) (h : hw Γ n G s H) (hj : winj Γ n) {A : Nat → Prop} {H0 : Heap} (hA : ∀ q, wA Γ n q → A q) (hS : va_S A H0 H locs) {i0 i1 : Nat} (hi0 : i0 < n) (hi1 : i1 < n) {L0 L1 : Nat} {X0 X1 : Nat → Nat} (hG0 : G i0 = na Γ L0 X0) (hG1 : G i1 = na Γ L1 X1) {sp dp q : Nat} (hs : sp < 2147483648) (hd : dp < 2147483648) (hq : q < 2147483648) (h4 : sp + q ≤ L0) (h5 : dp + q ≤ L1)
    (hframes : 1 ≤ R.frames) (hlocals : (rest.map fun v => v.category).sum + (nativeFrameWords "java/lang/System" "arraycopy" 5 + 11) ≤ R.locals) (hdg : decode cc pc = .ok (.invokestatic index, 3))
    (kk : ∀ (H1 : Heap) (locs1 : List Loc), hw Γ n (va_up G i1 (na Γ L1 (va_cpy X0 X1 sp dp q))) s H1 → va_S A H0 H1 locs1 → W p l e R s m args below meth c H1 locs1 cells slots Q (F0 m (pc + 3) ls rest)) : W p l e R s m args below meth c H locs cells slots Q (F0 m pc ls (.int (nI q) :: .int (nI dp) :: .ref (ad Γ i1) :: .int (nI sp) :: .ref (ad Γ i0) :: rest)) :=
  va_copyi hx hb hml hown hlink hnat hstat hini h.2.1 h.1 ((wld_D (G := G) hj).weaken (fun _ q _ hq => hA q.1 hq)) hS i0 i1 0 0 (f := fun j => nI (X0 j)) (g := fun j => nI (X1 j)) (ty := .int) (by rw [wld_at Γ _ hi0, hG0]) (by rw [wld_at Γ _ hi1, hG1]) rfl rfl rfl (nI_pos hs) (nI_pos hd) (nI_pos hq) (by rw [nI_clamp hs, nI_clamp hq]; exact h4) (by rw [nI_clamp hd, nI_clamp hq]; exact h5) (fun _ _ => rfl) hframes hlocals hdg (fun H1 locs1 hP1 _ hS1 => kk H1 locs1 ⟨by
    have e : va_cpy (fun j => nI (X0 j)) (fun j => nI (X1 j)) sp dp q = fun j => nI (va_cpy X0 X1 sp dp q j) := by
      funext j
      unfold va_cpy
      split <;> rfl
    rw [wld_set Γ G _ hi1, nI_clamp hs, nI_clamp hd, nI_clamp hq, e] at hP1
    exact hP1, h.2⟩ hS1)
theorem nr_bald (hx : p.tables.exec = Jvm.exec) (hb : c.code = cc) (h : hw Γ n G s H) {i : Nat} (hi : i < n) {len : Nat} {V : Nat → Nat} (hG : G i = ba Γ len V) {k x : Nat} (hV : V k = x) (hk : k < len) (hl : len < 2147483648) (hdg : decode cc pc = .ok (.baload, 1)) (kk : W p l e R s m args below meth c H locs cells slots Q (F0 m (pc + 1) ls (.int (nI x) :: rest))) : W p l e R s m args below meth c H locs cells slots Q (F0 m pc ls (.int (nI k) :: .ref (ad Γ i) :: rest)) :=
  va_bald hx hb h.2.1 h.1 i 1 (f := fun j => nI (V j)) (by rw [wld_at Γ _ hi, hG]) rfl (vp_in_nI hk hl) hdg (by rw [nI_clamp (n := k) (by omega)]; show W p l e R s m args below meth c H locs cells slots Q (F0 m (pc + 1) ls (.int (nI (V k)) :: rest)); rw [hV]; exact kk)
theorem nr_alen (hx : p.tables.exec = Jvm.exec) (hb : c.code = cc) (h : hw Γ n G s H) {i : Nat} (hi : i < n) {len : Nat} {V : Nat → Nat} (hG : G i = na Γ len V) (hdg : decode cc pc = .ok (.arraylength, 1)) (kk : W p l e R s m args below meth c H locs cells slots Q (F0 m (pc + 1) ls (.int (nI len) :: rest))) : W p l e R s m args below meth c H locs cells slots Q (F0 m pc ls (.ref (ad Γ i) :: rest)) :=
  va_alen (v := nI len) hx hb h.2.1 h.1 i 0 (x := (len, .inl (fun j => nI (V j)))) (by rw [wld_at Γ _ hi, hG]) rfl rfl hdg kk
theorem nr_nb : ∀ v, v < 128 → vp_nar .byte (nI v) = nI v := by decide +kernel
theorem nr_i2b : ∀ v, v < 128 → (nI v).toInt8.toInt32 = nI v := by decide +kernel
theorem nr_bast (hx : p.tables.exec = Jvm.exec) (hb : c.code = cc) (h : hw Γ n G s H) (hj : winj Γ n) {A : Nat → Prop} {H0 : Heap} (hA : ∀ q, wA Γ n q → A q) (hS : va_S A H0 H locs) {i : Nat} (hi : i < n) {len : Nat} {V : Nat → Nat} (hG : G i = ba Γ len V) {k v : Nat} (hk : k < len) (hl : len < 2147483648) (hv : v < 128) (hdg : decode cc pc = .ok (.bastore, 1))
    (kk : ∀ (H1 : Heap) (locs1 : List Loc), hw Γ n (va_up G i (ba Γ len (va_up V k v))) s H1 → va_S A H0 H1 locs1 → W p l e R s m args below meth c H1 locs1 cells slots Q (F0 m (pc + 1) ls rest)) : W p l e R s m args below meth c H locs cells slots Q (F0 m pc ls (.int (nI v) :: .int (nI k) :: .ref (ad Γ i) :: rest)) :=
  va_bast hx hb h.2.1 h.1 ((wld_D (G := G) hj).weaken (fun _ q _ hq => hA q.1 hq)) hS i 1 (f := fun j => nI (V j)) (by rw [wld_at Γ _ hi, hG]) rfl (vp_in_nI hk hl) hdg (fun H1 locs1 hP1 _ hS1 => kk H1 locs1 ⟨by
    rw [wld_set Γ G _ hi, nI_clamp (n := k) (by omega), nr_nb v hv, nr_upd] at hP1
    exact hP1, h.2⟩ hS1)
end SE2
section SE3
abbrev qa (Γ : Gam) (len : Nat) (f : Nat → Option Nat) : va_E := .inl (Γ.2.1.2.2.2, len, .inr (.inr (.inr (.inr f))))
def isO (Γ : Gam) (G : Nat → va_E) (co : Nat) (kp rf : Nat → Nat) : Prop := G (co + 0) = .inr (8, [.ref (ad Γ (co + 28)), .ref (ad Γ (co + 1)), .ref (ad Γ (co + 2)), .ref (ad Γ (co + 3)), .ref (ad Γ (co + 5)), .ref (ad Γ (co + 23)), .ref (ad Γ (co + 25)), .ref (ad Γ (co + 27)), .int (nI (rf 0)), .int (nI (rf 1)), .int (nI (rf 2))]) ∧ G (co + 1) = qa Γ 2 (fun j => if j = 0 then some (ad Γ (co + 44)) else some (ad Γ (co + 60))) ∧ G (co + 2) = za Γ 2 kp
theorem isO_0 {Γ : Gam} {G : Nat → va_E} {co : Nat} {kp rf : Nat → Nat} (h : isO Γ G co kp rf) : G (co + 0) = .inr (8, [.ref (ad Γ (co + 28)), .ref (ad Γ (co + 1)), .ref (ad Γ (co + 2)), .ref (ad Γ (co + 3)), .ref (ad Γ (co + 5)), .ref (ad Γ (co + 23)), .ref (ad Γ (co + 25)), .ref (ad Γ (co + 27)), .int (nI (rf 0)), .int (nI (rf 1)), .int (nI (rf 2))]) := h.1
theorem isO_1 {Γ : Gam} {G : Nat → va_E} {co : Nat} {kp rf : Nat → Nat} (h : isO Γ G co kp rf) : G (co + 1) = qa Γ 2 (fun j => if j = 0 then some (ad Γ (co + 44)) else some (ad Γ (co + 60))) := h.2.1
theorem isO_2 {Γ : Gam} {G : Nat → va_E} {co : Nat} {kp rf : Nat → Nat} (h : isO Γ G co kp rf) : G (co + 2) = za Γ 2 kp := h.2.2
theorem nO_c0 {n : Nat} {s : State} {H : Heap} {Γ : Gam} {G : Nat → va_E} {co : Nat} {kp rf : Nat → Nat} (hb : isO Γ G co kp rf) (X : Nat → Nat) (h : hw Γ n (va_up G (co + 0) (.inr (8, [.ref (ad Γ (co + 28)), .ref (ad Γ (co + 1)), .ref (ad Γ (co + 2)), .ref (ad Γ (co + 3)), .ref (ad Γ (co + 5)), .ref (ad Γ (co + 23)), .ref (ad Γ (co + 25)), .ref (ad Γ (co + 27)), .int (nI (X 0)), .int (nI (X 1)), .int (nI (X 2))]))) s H) : ∃ G2, hw Γ n G2 s H ∧ isO Γ G2 co kp X ∧ fr G G2 co (co + 3) := ⟨_, h, ⟨va_up_self _ _ _, (va_up_ne _ _ (by omega)).trans (isO_1 hb), (va_up_ne _ _ (by omega)).trans (isO_2 hb)⟩, fun j hj => va_up_ne _ _ (by omega)⟩
theorem nO_c2 {n : Nat} {s : State} {H : Heap} {Γ : Gam} {G : Nat → va_E} {co : Nat} {kp rf : Nat → Nat} (hb : isO Γ G co kp rf) (X : Nat → Nat) (h : hw Γ n (va_up G (co + 2) (za Γ 2 X)) s H) : ∃ G2, hw Γ n G2 s H ∧ isO Γ G2 co X rf ∧ fr G G2 co (co + 3) := ⟨_, h, ⟨(va_up_ne _ _ (by omega)).trans (isO_0 hb), (va_up_ne _ _ (by omega)).trans (isO_1 hb), va_up_self _ _ _⟩, fun j hj => va_up_ne _ _ (by omega)⟩
theorem isO_fr {Γ : Gam} {G : Nat → va_E} {co : Nat} {kp rf : Nat → Nat} {G2 : Nat → va_E} {a c : Nat} (h : isO Γ G co kp rf) (hf : fr G G2 a c) (hd : co + 3 ≤ a ∨ c ≤ co) : isO Γ G2 co kp rf := ⟨(hf _ (by omega)).trans (isO_0 h), (hf _ (by omega)).trans (isO_1 h), (hf _ (by omega)).trans (isO_2 h)⟩
def isT (Γ : Gam) (G : Nat → va_E) (to : Nat) (by0 tv : Nat → Nat) : Prop := G (to + 0) = .inr (6, [.ref (ad Γ (to + 1)), .int (nI (tv 0)), .int (nI (tv 1)), .int (nI (tv 2)), .int (nI (tv 3)), .int (nI (tv 4) - nI 1)]) ∧ G (to + 1) = ba Γ 150 by0
theorem isT_0 {Γ : Gam} {G : Nat → va_E} {to : Nat} {by0 tv : Nat → Nat} (h : isT Γ G to by0 tv) : G (to + 0) = .inr (6, [.ref (ad Γ (to + 1)), .int (nI (tv 0)), .int (nI (tv 1)), .int (nI (tv 2)), .int (nI (tv 3)), .int (nI (tv 4) - nI 1)]) := h.1
theorem isT_1 {Γ : Gam} {G : Nat → va_E} {to : Nat} {by0 tv : Nat → Nat} (h : isT Γ G to by0 tv) : G (to + 1) = ba Γ 150 by0 := h.2
theorem nT_c0 {n : Nat} {s : State} {H : Heap} {Γ : Gam} {G : Nat → va_E} {to : Nat} {by0 tv : Nat → Nat} (hb : isT Γ G to by0 tv) (X : Nat → Nat) (h : hw Γ n (va_up G (to + 0) (.inr (6, [.ref (ad Γ (to + 1)), .int (nI (X 0)), .int (nI (X 1)), .int (nI (X 2)), .int (nI (X 3)), .int (nI (X 4) - nI 1)]))) s H) : ∃ G2, hw Γ n G2 s H ∧ isT Γ G2 to by0 X ∧ fr G G2 to (to + 2) := ⟨_, h, ⟨va_up_self _ _ _, (va_up_ne _ _ (by omega)).trans (isT_1 hb)⟩, fun j hj => va_up_ne _ _ (by omega)⟩
theorem nT_c1 {n : Nat} {s : State} {H : Heap} {Γ : Gam} {G : Nat → va_E} {to : Nat} {by0 tv : Nat → Nat} (hb : isT Γ G to by0 tv) (X : Nat → Nat) (h : hw Γ n (va_up G (to + 1) (ba Γ 150 X)) s H) : ∃ G2, hw Γ n G2 s H ∧ isT Γ G2 to X tv ∧ fr G G2 to (to + 2) := ⟨_, h, ⟨(va_up_ne _ _ (by omega)).trans (isT_0 hb), va_up_self _ _ _⟩, fun j hj => va_up_ne _ _ (by omega)⟩
theorem isT_fr {Γ : Gam} {G : Nat → va_E} {to : Nat} {by0 tv : Nat → Nat} {G2 : Nat → va_E} {a c : Nat} (h : isT Γ G to by0 tv) (hf : fr G G2 a c) (hd : to + 2 ≤ a ∨ c ≤ to) : isT Γ G2 to by0 tv := ⟨(hf _ (by omega)).trans (isT_0 h), (hf _ (by omega)).trans (isT_1 h)⟩
def isRd (Γ : Gam) (G : Nat → va_E) (rd : Nat) (gv : Nat → Nat) : Prop := G (rd + 0) = .inr (3, [.ref (ad Γ (rd + 2)), .ref (ad Γ (rd + 1))]) ∧ G (rd + 1) = na Γ 4 gv
theorem isRd_0 {Γ : Gam} {G : Nat → va_E} {rd : Nat} {gv : Nat → Nat} (h : isRd Γ G rd gv) : G (rd + 0) = .inr (3, [.ref (ad Γ (rd + 2)), .ref (ad Γ (rd + 1))]) := h.1
theorem isRd_1 {Γ : Gam} {G : Nat → va_E} {rd : Nat} {gv : Nat → Nat} (h : isRd Γ G rd gv) : G (rd + 1) = na Γ 4 gv := h.2
theorem nRd_c1 {n : Nat} {s : State} {H : Heap} {Γ : Gam} {G : Nat → va_E} {rd : Nat} {gv : Nat → Nat} (hb : isRd Γ G rd gv) (X : Nat → Nat) (h : hw Γ n (va_up G (rd + 1) (na Γ 4 X)) s H) : ∃ G2, hw Γ n G2 s H ∧ isRd Γ G2 rd X ∧ fr G G2 rd (rd + 2) := ⟨_, h, ⟨(va_up_ne _ _ (by omega)).trans (isRd_0 hb), va_up_self _ _ _⟩, fun j hj => va_up_ne _ _ (by omega)⟩
theorem isRd_fr {Γ : Gam} {G : Nat → va_E} {rd : Nat} {gv : Nat → Nat} {G2 : Nat → va_E} {a c : Nat} (h : isRd Γ G rd gv) (hf : fr G G2 a c) (hd : rd + 2 ≤ a ∨ c ≤ rd) : isRd Γ G2 rd gv := ⟨(hf _ (by omega)).trans (isRd_0 h), (hf _ (by omega)).trans (isRd_1 h)⟩
def isRw (Γ : Gam) (G : Nat → va_E) (rw0 : Nat) (lf : Nat → Nat) : Prop := G (rw0 + 0) = .inr (4, [.ref (ad Γ (rw0 + 1))]) ∧ G (rw0 + 1) = na Γ 256 lf
theorem isRw_0 {Γ : Gam} {G : Nat → va_E} {rw0 : Nat} {lf : Nat → Nat} (h : isRw Γ G rw0 lf) : G (rw0 + 0) = .inr (4, [.ref (ad Γ (rw0 + 1))]) := h.1
theorem isRw_1 {Γ : Gam} {G : Nat → va_E} {rw0 : Nat} {lf : Nat → Nat} (h : isRw Γ G rw0 lf) : G (rw0 + 1) = na Γ 256 lf := h.2
theorem nRw_c1 {n : Nat} {s : State} {H : Heap} {Γ : Gam} {G : Nat → va_E} {rw0 : Nat} {lf : Nat → Nat} (hb : isRw Γ G rw0 lf) (X : Nat → Nat) (h : hw Γ n (va_up G (rw0 + 1) (na Γ 256 X)) s H) : ∃ G2, hw Γ n G2 s H ∧ isRw Γ G2 rw0 X ∧ fr G G2 rw0 (rw0 + 2) := ⟨_, h, ⟨(va_up_ne _ _ (by omega)).trans (isRw_0 hb), va_up_self _ _ _⟩, fun j hj => va_up_ne _ _ (by omega)⟩
theorem isRw_fr {Γ : Gam} {G : Nat → va_E} {rw0 : Nat} {lf : Nat → Nat} {G2 : Nat → va_E} {a c : Nat} (h : isRw Γ G rw0 lf) (hf : fr G G2 a c) (hd : rw0 + 2 ≤ a ∨ c ≤ rw0) : isRw Γ G2 rw0 lf := ⟨(hf _ (by omega)).trans (isRw_0 h), (hf _ (by omega)).trans (isRw_1 h)⟩
def isGs (Γ : Gam) (G : Nat → va_E) (gs : Nat) (vs : Nat → Nat) : Prop := G (gs + 0) = .inr (1, [.ref (ad Γ (gs + 1))]) ∧ G (gs + 1) = na Γ 6 vs
theorem isGs_0 {Γ : Gam} {G : Nat → va_E} {gs : Nat} {vs : Nat → Nat} (h : isGs Γ G gs vs) : G (gs + 0) = .inr (1, [.ref (ad Γ (gs + 1))]) := h.1
theorem isGs_1 {Γ : Gam} {G : Nat → va_E} {gs : Nat} {vs : Nat → Nat} (h : isGs Γ G gs vs) : G (gs + 1) = na Γ 6 vs := h.2
theorem nGs_c1 {n : Nat} {s : State} {H : Heap} {Γ : Gam} {G : Nat → va_E} {gs : Nat} {vs : Nat → Nat} (hb : isGs Γ G gs vs) (X : Nat → Nat) (h : hw Γ n (va_up G (gs + 1) (na Γ 6 X)) s H) : ∃ G2, hw Γ n G2 s H ∧ isGs Γ G2 gs X ∧ fr G G2 gs (gs + 2) := ⟨_, h, ⟨(va_up_ne _ _ (by omega)).trans (isGs_0 hb), va_up_self _ _ _⟩, fun j hj => va_up_ne _ _ (by omega)⟩
theorem isGs_fr {Γ : Gam} {G : Nat → va_E} {gs : Nat} {vs : Nat → Nat} {G2 : Nat → va_E} {a c : Nat} (h : isGs Γ G gs vs) (hf : fr G G2 a c) (hd : gs + 2 ≤ a ∨ c ≤ gs) : isGs Γ G2 gs vs := ⟨(hf _ (by omega)).trans (isGs_0 h), (hf _ (by omega)).trans (isGs_1 h)⟩
def isCh (Γ : Gam) (G : Nat → va_E) (ch : Nat) (cv : Nat → Nat) : Prop := G (ch + 0) = .inr (0, [.long (lN (cv 0)), .long (lN (cv 1))])
theorem isCh_0 {Γ : Gam} {G : Nat → va_E} {ch : Nat} {cv : Nat → Nat} (h : isCh Γ G ch cv) : G (ch + 0) = .inr (0, [.long (lN (cv 0)), .long (lN (cv 1))]) := h
theorem nCh_c0 {n : Nat} {s : State} {H : Heap} {Γ : Gam} {G : Nat → va_E} {ch : Nat} {cv : Nat → Nat} (hb : isCh Γ G ch cv) (X : Nat → Nat) (h : hw Γ n (va_up G (ch + 0) (.inr (0, [.long (lN (X 0)), .long (lN (X 1))]))) s H) : ∃ G2, hw Γ n G2 s H ∧ isCh Γ G2 ch X ∧ fr G G2 ch (ch + 1) := ⟨_, h, va_up_self _ _ _, fun j hj => va_up_ne _ _ (by omega)⟩
theorem isCh_fr {Γ : Gam} {G : Nat → va_E} {ch : Nat} {cv : Nat → Nat} {G2 : Nat → va_E} {a c : Nat} (h : isCh Γ G ch cv) (hf : fr G G2 a c) (hd : ch + 1 ≤ a ∨ c ≤ ch) : isCh Γ G2 ch cv := (hf _ (by omega)).trans h
theorem nr_aldq {p : Program} {l : Launch} {e : Env} {R : Room} {s : State} {m : MethodId} {args : Array Value} {below : List Frame} {meth : Method} {c : Code} {H : Heap} {locs : List Loc} {cells slots : Nat} {Q : State → Prop} {cc : ByteArray} {pc : Nat} {ls : Array Slot} {rest : List Value} {Γ : Gam} {n : Nat} {G : Nat → va_E} (hx : p.tables.exec = Jvm.exec) (hb : c.code = cc) (h : hw Γ n G s H) {i : Nat} (hi : i < n) {len : Nat} {f : Nat → Option Nat} (hG : G i = qa Γ len f) {k x : Nat} (hV : f k = some x) (hk : k < len) (hl : len < 2147483648) (hdg : decode cc pc = .ok (.aaload, 1)) (kk : W p l e R s m args below meth c H locs cells slots Q (F0 m (pc + 1) ls (.ref x :: rest))) : W p l e R s m args below meth c H locs cells slots Q (F0 m pc ls (.int (nI k) :: .ref (ad Γ i) :: rest)) :=
  va_aldq hx hb h.2.1 h.1 i 3 (f := f) (by rw [wld_at Γ _ hi, hG]) rfl (vp_in_nI hk hl) hdg (by rw [nI_clamp (n := k) (by omega), hV]; exact kk)
theorem nv_cong {Γ : Gam} {n : Nat} {G : Nat → va_E} {s : State} {H : Heap} {b : Nat} {V : Nat → Nat} (hV : isV Γ G b V) (V2 : Nat → Nat) (h : hw Γ n G s H) (h2 : ∀ j, j < 256 → V2 j = V j) : ∃ G2, hw Γ n G2 s H ∧ isV Γ G2 b V2 ∧ fr G G2 b (b + 16) := by
  refine nv (b := b) V2 h (fun i hi => ?_)
  rcases (show i = 0 ∨ i = 1 ∨ i = 2 ∨ i = 3 ∨ i = 4 ∨ i = 5 ∨ i = 6 ∨ i = 7 ∨ i = 8 ∨ i = 9 ∨ i = 10 ∨ i = 11 ∨ i = 12 ∨ i = 13 ∨ i = 14 ∨ i = 15 by omega) with rfl | rfl | rfl | rfl | rfl | rfl | rfl | rfl | rfl | rfl | rfl | rfl | rfl | rfl | rfl | rfl
  · exact Or.inl ((isV_0 hV).trans (by show _ = (.inr (7, [.int (nI (V2 0)), .ref (ad Γ (b + 1)), .ref (ad Γ (b + 2)), .int (nI (V2 1)), .ref (ad Γ (b + 3)), .ref (ad Γ (b + 4)), .ref (ad Γ (b + 5)), .ref (ad Γ (b + 6)), .ref (ad Γ (b + 7)), .int (nI (V2 20)), .int (nI (V2 21)), .ref (ad Γ (b + 8)), .ref (ad Γ (b + 9)), .ref (ad Γ (b + 10)), .ref (ad Γ (b + 11))]) : va_E); rw [h2 0 (by omega), h2 1 (by omega), h2 20 (by omega), h2 21 (by omega)]))
  · exact Or.inr ⟨_, 6, _, _, isV_1 hV, rfl, fun j hj => congrArg nI (h2 (22 + j) (by omega)).symm⟩
  · exact Or.inr ⟨_, 6, _, _, isV_2 hV, rfl, fun j hj => congrArg nI (h2 (6 + j) (by omega)).symm⟩
  · exact Or.inr ⟨_, 8, _, _, isV_3 hV, rfl, fun j hj => congrArg nI (h2 (28 + j) (by omega)).symm⟩
  · exact Or.inr ⟨_, 8, _, _, isV_4 hV, rfl, fun j hj => congrArg nI (h2 (36 + j) (by omega)).symm⟩
  · exact Or.inr ⟨_, 8, _, _, isV_5 hV, rfl, fun j hj => congrArg nI (h2 (44 + j) (by omega)).symm⟩
  · exact Or.inr ⟨_, 8, _, _, isV_6 hV, rfl, fun j hj => congrArg nI (h2 (52 + j) (by omega)).symm⟩
  · exact Or.inr ⟨_, 8, _, _, isV_7 hV, rfl, fun j hj => congrArg nI (h2 (12 + j) (by omega)).symm⟩
  · exact Or.inl ((isV_8 hV).trans (by show _ = (.inr (5, [.ref (ad Γ (b + 12)), .int (nI 5), .int (nI (V2 2))]) : va_E); rw [h2 2 (by omega)]))
  · exact Or.inl ((isV_9 hV).trans (by show _ = (.inr (5, [.ref (ad Γ (b + 13)), .int (nI 6), .int (nI (V2 3))]) : va_E); rw [h2 3 (by omega)]))
  · exact Or.inl ((isV_10 hV).trans (by show _ = (.inr (5, [.ref (ad Γ (b + 14)), .int (nI 6), .int (nI (V2 4))]) : va_E); rw [h2 4 (by omega)]))
  · exact Or.inl ((isV_11 hV).trans (by show _ = (.inr (2, [.ref (ad Γ (b + 15)), .int (nI (V2 5))]) : va_E); rw [h2 5 (by omega)]))
  · exact Or.inr ⟨_, 20, _, _, isV_12 hV, rfl, fun j hj => congrArg nI (h2 (60 + j) (by omega)).symm⟩
  · exact Or.inr ⟨_, 24, _, _, isV_13 hV, rfl, fun j hj => congrArg nI (h2 (80 + j) (by omega)).symm⟩
  · exact Or.inr ⟨_, 24, _, _, isV_14 hV, rfl, fun j hj => congrArg nI (h2 (104 + j) (by omega)).symm⟩
  · exact Or.inr ⟨_, 128, _, _, isV_15 hV, rfl, fun j hj => congrArg nI (h2 (128 + j) (by omega)).symm⟩
def wr4 (V : Nat → Nat) (at0 a b c d : Nat) : Nat → Nat := va_up (va_up (va_up (va_up V at0 a) (at0 + 1) b) (at0 + 2) c) (at0 + 3) d
def addV (V : Nat → Nat) (sz off a b c d : Nat) : Nat → Nat := va_up (wr4 V (off + V sz * 4) a b c d) sz (V sz + 1)
def emV (V : Nat → Nat) : Nat → Nat := va_up (va_up (va_up (va_up (va_up (va_up (va_up (va_up V 0 0) 1 0) 20 0) 21 0) 2 0) 3 0) 4 0) 5 0
def perV (V : Nat → Nat) (k : Nat) : Nat → Nat := va_up (va_up (va_up V (22 + V 0) k) (6 + V 0) 0) 0 (V 0 + 1)
def stkV (V : Nat → Nat) (k : Nat) : Nat → Nat := va_up (va_up V 20 (V 20 ||| 2 ^ k)) (6 + V (36 + k)) (V (6 + V (36 + k)) + 1)
def agP (V : Nat → Nat) (q k : Nat) : Nat → Nat := fun j => if (12 ≤ j ∧ j < 12 + k) ∧ ¬ bt (V 20) (j - 12) then min 99 (V j + q) else V j
theorem agP_0 (V : Nat → Nat) (q : Nat) : V = agP V q 0 := by
  funext j; unfold agP; rw [if_neg (by omega)]
theorem agP_y {V : Nat → Nat} {q k : Nat} (h : ¬ bt (V 20) k) : va_up (agP V q k) (12 + k) (min 99 (V (12 + k) + q)) = agP V q (k + 1) := by
  funext j
  by_cases z : j = 12 + k
  · subst z; rw [va_up_self]; unfold agP; rw [if_pos ⟨by omega, by rw [Nat.add_sub_cancel_left]; exact h⟩]
  · rw [va_up_ne _ _ z]; unfold agP
    by_cases h2 : j < 12 + k
    · simp only [h2, show j < 12 + (k + 1) by omega]
    · rw [if_neg (by omega), if_neg (by omega)]
theorem agP_n {V : Nat → Nat} {q k : Nat} (h : bt (V 20) k) : agP V q k = agP V q (k + 1) := by
  funext j
  unfold agP
  by_cases z : j = 12 + k
  · subst z; rw [if_neg (by omega), if_neg (fun y => y.2 (by rw [Nat.add_sub_cancel_left]; exact h))]
  · by_cases h2 : j < 12 + k
    · simp only [h2, show j < 12 + (k + 1) by omega]
    · rw [if_neg (by omega), if_neg (by omega)]
theorem agP_out {V : Nat → Nat} {q k j : Nat} (h : j < 12 ∨ 12 + k ≤ j) : agP V q k j = V j := by
  unfold agP; rw [if_neg (by omega)]
theorem vI_agP {V : Nat → Nat} (h : vI V) (q : Nat) {k : Nat} (hk : k ≤ 8) : vI (agP V q k) := by
  refine vI_of h (fun j => ?_) ?_ (fun j h1 h2 h3 h4 => agP_out (by omega))
  · have := h.1 j
    unfold agP; split <;> omega
  · rw [agP_out (by omega)]; exact h.2.2.2.2.2.2.1
def pasV (V : Nat → Nat) (q : Nat) : Nat → Nat := va_up (agP V q (V 1)) 21 (V 21 + q)
theorem vI_em {V : Nat → Nat} (h : vI V) : vI (emV V) := by
  obtain ⟨h1, h2, h3, h4, h6, h7, h8, h9, h10, h11⟩ := h
  refine ⟨fun j => ?_, by simp [emV, va_up], by simp [emV, va_up], by simp [emV, va_up], by simp [emV, va_up], by simp [emV, va_up], by simp [emV, va_up], fun j hj => ?_, fun j hj => ?_, by simp [emV, va_up]⟩
  · have := h1 j
    simp only [emV, va_up]; (repeat' split) <;> omega
  · have := h9 j hj
    simp only [emV, va_up]; (repeat' split) <;> omega
  · have := h10 j hj
    simp only [emV, va_up]; (repeat' split) <;> omega
theorem push_e1 {V : Nat → Nat} (h : V 5 = 8) (A : Nat → Nat) (hA : A = va_up (cpA V (128 + 0) 112 (fun i => V (128 + (16 + i)))) 5 7) : A = fullR V := by
  subst hA
  unfold fullR
  rw [if_pos h]
  refine congrArg (fun z => va_up z 5 7) (funext fun j => ?_)
  unfold cpA movR
  by_cases z : 128 ≤ j ∧ j < 128 + 112
  · rw [if_pos (by omega), if_pos z]; exact congrArg V (by omega)
  · rw [if_neg (by omega), if_neg z]
theorem push_e2 {V W : Nat → Nat} {s : Nat} (hs : W 5 = s) (h5 : s ≤ 7) (A : Nat → Nat) (hA : A = va_up (va_up (va_up (cpA (cpA W (128 + s * 16) 6 (fun i => W (6 + (0 + i)))) (128 + (s * 16 + 6)) 8 (fun i => cpA W (128 + s * 16) 6 (fun i => W (6 + (0 + i))) (12 + (0 + i)))) (128 + (s * 16 + 16 - 2)) (W 20)) (128 + (s * 16 + 16 - 1)) (W 21)) 5 (s + 1)) (hW : W = fullR V) : A = saveR V := by
  subst hA
  unfold saveR
  rw [← hW, hs]
  funext j
  simp only [va_up, cpA, movR]
  (repeat' split) <;> first | rfl | omega | (exfalso; omega) | exact congrArg W (by omega)
theorem pop_e {V : Nat → Nat} {s : Nat} (hs : V 5 - 1 = s) (h5 : s ≤ 7) (A : Nat → Nat) (hA : A = va_up (va_up (cpA (cpA (va_up V 5 s) (6 + 0) 6 (fun i => va_up V 5 s (128 + (s * 16 + i)))) (12 + 0) 8 (fun i => cpA (va_up V 5 s) (6 + 0) 6 (fun i => va_up V 5 s (128 + (s * 16 + i))) (128 + (s * 16 + 6 + i)))) 20 (V (128 + (s * 16 + 14)))) 21 (V (128 + (s * 16 + 15)))) : A = popR V := by
  subst hA
  unfold popR
  rw [hs]
  funext j
  simp only [va_up, cpA, movR]
  (repeat' split) <;> first | rfl | omega | (exfalso; omega) | exact congrArg V (by omega)
theorem full_le {R : Nat → Nat} (h : vI R) : ∀ j, fullR R j ≤ 1999 := fun j => by
  unfold fullR; split
  · by_cases q : j = 5
    · subst q; rw [va_up_self]; decide
    · rw [va_up_ne _ _ q]; exact movR_le h.1 _ _ _ _
  · exact h.1 j
end SE3
theorem wl_X7_add_r8_1 : Cond.fieldLink RX7 17 "BellForgiven$Rows" "size" "I" ∈ wsX7_add := List.mem_of_getElem? (i := 1) rfl
theorem wl_X7_add_r8_2 : Cond.fieldLink RX7 13 "BellForgiven$Rows" "cells" "[I" ∈ wsX7_add := List.mem_of_getElem? (i := 2) rfl
theorem hi_X7_add_r8_X7 : ∀ w ∈ u_ws RX7 TX7 3, w ∈ wsX7_add := fun w h => (List.mem_cons_of_mem _ (List.mem_append_right _ h))
set_option maxHeartbeats 4000000 in
set_option maxRecDepth 100000 in
theorem c_X7_add_r8 (l : Launch) (Γ : Gam) (n : Nat) (G : Nat → va_E) (b : Nat) (V : Nat → Nat) (hV : isV Γ G b V) (hn_b : b + 16 ≤ n) (hj : winj Γ n) (x1 x2 x3 x4 : Nat) (hI : vI V) (hsz : V 2 < 5)  : Met l yX7_add wsX7_add ({ frames := 0, cells := 0, slots := 0, locals := 0 }) (va_Pc [.ref (ad Γ (b + 8)), .int (nI x1), .int (nI x2), .int (nI x3), .int (nI x4)] (fun U => hw Γ n G U U.heap)) (wQi Γ n (fun z G2 => (z = nI (V 2 + 1)) ∧ (isV Γ G2 b (addV V 2 60 x1 x2 x3 x4) ∧ fr G G2 (b + 0) (b + 16)))) 0 0 (wA Γ n) := by
  refine Met.ofW (cc := cX7_add) (maxL := 6) (ret := (some .int)) (by decide) rfl ?_
  intro p e s m args below meth c s₁ B hml hv
  obtain ⟨rfl, hw⟩ := hv
  have hx := B.exec
  have hb := B.bytes
  have hr := B.returns
  have hts := atoms_spec (ws := wsX7_add) B.pre
  have hown : s.vm.findClass RX7 = some m.cls := findClass_of_methodNamed B.named
  have hlocks := B.notSynchronized
  have hS : va_S (wA Γ n) s.heap s.heap [] := va_S.rf
  have hA : ∀ q, wA Γ n q → wA Γ n q := fun _ h => h
  have hl := lv_entry ([.ref (ad Γ (b + 8)), .int (nI x1), .int (nI x2), .int (nI x3), .int (nI x4)]) (n := 6) (Nat.le_of_ble_eq_true rfl)
  rw [lg_entry_eq]
  generalize (lg_sl ([.ref (ad Γ (b + 8)), .int (nI x1), .int (nI x2), .int (nI x3), .int (nI x4)]) ++ List.replicate (6 - (lg_sl ([.ref (ad Γ (b + 8)), .int (nI x1), .int (nI x2), .int (nI x3), .int (nI x4)])).length) Slot.unset).toArray = ls at hl ⊢
  have hl : lv_has ls 6 [(0, .ref (ad Γ (b + 8))), (1, .int (nI x1)), (2, .int (nI x2)), (3, .int (nI x3)), (4, .int (nI x4))] := hl
  have hfr := fr_rf G (b + 0) (b + 16)
  have hB := hI.1
  have hB0 := hI.2.1
  have hB1 := hI.2.2.1
  have hB20 := hI.2.2.2.2.2.2.2.2.2
  have hBz2 := hI.2.2.2.1
  have hBz3 := hI.2.2.2.2.1
  have hBz4 := hI.2.2.2.2.2.1
  have hBz5 := hI.2.2.2.2.2.2.1
  have hBd := hB 21
  refine lv_aload_n hx hb dX7_add_0 rfl (lv_at hl 0 rfl) ?_
  refine nr_get (own := RX7) (C := RX7) (T := TX7) (N := 3) (v := .int (nI (V 2))) hx hb hts hi_X7_add_r8_X7 hown hw (by omega) (isV_8 hV) rfl 2 (by decide) wl_X7_add_r8_1 rfl rfl dX7_add_1 ?_
  refine lv_iconst (v := nI 4) hx hb dX7_add_4 (by decide) ?_
  refine nr_imul hx hb dX7_add_5 ?_
  refine lv_istore (lv' := [(5, .int (nI ((V 2) * 4))), (0, .ref (ad Γ (b + 8))), (1, .int (nI x1)), (2, .int (nI x2)), (3, .int (nI x3)), (4, .int (nI x4))]) hx hb dX7_add_6 hl (by decide) rfl (fun ls hl => ?_)
  refine lv_aload_n hx hb dX7_add_8 rfl (lv_at hl 1 rfl) ?_
  refine nr_get (own := RX7) (C := RX7) (T := TX7) (N := 3) (v := .ref (ad Γ (b + 12))) hx hb hts hi_X7_add_r8_X7 hown hw (by omega) (isV_8 hV) rfl 0 (by decide) wl_X7_add_r8_2 rfl rfl dX7_add_9 ?_
  refine lv_iload hx hb dX7_add_12 (lv_at hl 0 rfl) ?_
  refine lv_iload_n hx hb dX7_add_14 rfl (lv_at hl 2 rfl) ?_
  refine nr_iast (k := (V 2) * 4) (v := x1) hx hb hw hj hA hS (by omega) (isV_12 hV) (by omega) (by decide) dX7_add_15 (fun H locs hw hS => ?_)
  obtain ⟨G1, hw, hV, hf1⟩ := nv_c12 hV (va_up V (60 + ((V 2) * 4)) x1) (va_up (fun j => V (60 + j)) ((V 2) * 4) x1) hw (fun j hj => va_up_ne _ _ (by omega)) (fun j hj => up_sh _ _ _ _ _)
  have hfr := fr_tr hfr hf1 (by omega) (by omega)
  refine lv_aload_n hx hb dX7_add_16 rfl (lv_at hl 1 rfl) ?_
  refine nr_get (own := RX7) (C := RX7) (T := TX7) (N := 3) (v := .ref (ad Γ (b + 12))) hx hb hts hi_X7_add_r8_X7 hown hw (by omega) (isV_8 hV) rfl 0 (by decide) wl_X7_add_r8_2 rfl rfl dX7_add_17 ?_
  refine lv_iload hx hb dX7_add_20 (lv_at hl 0 rfl) ?_
  refine lv_iconst (v := nI 1) hx hb dX7_add_22 (by decide) ?_
  refine nr_iadd hx hb dX7_add_23 ?_
  refine lv_iload_n hx hb dX7_add_24 rfl (lv_at hl 3 rfl) ?_
  refine nr_iast (k := (V 2) * 4 + 1) (v := x2) hx hb hw hj hA hS (by omega) (isV_12 hV) (by omega) (by decide) dX7_add_25 (fun H locs hw hS => ?_)
  obtain ⟨G2, hw, hV, hf2⟩ := nv_c12 hV (va_up (va_up V (60 + ((V 2) * 4)) x1) (60 + ((V 2) * 4 + 1)) x2) (va_up (fun j => (va_up V (60 + ((V 2) * 4)) x1) (60 + j)) ((V 2) * 4 + 1) x2) hw (fun j hj => va_up_ne _ _ (by omega)) (fun j hj => up_sh _ _ _ _ _)
  have hfr := fr_tr hfr hf2 (by omega) (by omega)
  refine lv_aload_n hx hb dX7_add_26 rfl (lv_at hl 1 rfl) ?_
  refine nr_get (own := RX7) (C := RX7) (T := TX7) (N := 3) (v := .ref (ad Γ (b + 12))) hx hb hts hi_X7_add_r8_X7 hown hw (by omega) (isV_8 hV) rfl 0 (by decide) wl_X7_add_r8_2 rfl rfl dX7_add_27 ?_
  refine lv_iload hx hb dX7_add_30 (lv_at hl 0 rfl) ?_
  refine lv_iconst (v := nI 2) hx hb dX7_add_32 (by decide) ?_
  refine nr_iadd hx hb dX7_add_33 ?_
  refine lv_iload_n hx hb dX7_add_34 rfl (lv_at hl 4 rfl) ?_
  refine nr_iast (k := (V 2) * 4 + 2) (v := x3) hx hb hw hj hA hS (by omega) (isV_12 hV) (by omega) (by decide) dX7_add_35 (fun H locs hw hS => ?_)
  obtain ⟨G3, hw, hV, hf3⟩ := nv_c12 hV (va_up (va_up (va_up V (60 + ((V 2) * 4)) x1) (60 + ((V 2) * 4 + 1)) x2) (60 + ((V 2) * 4 + 2)) x3) (va_up (fun j => (va_up (va_up V (60 + ((V 2) * 4)) x1) (60 + ((V 2) * 4 + 1)) x2) (60 + j)) ((V 2) * 4 + 2) x3) hw (fun j hj => va_up_ne _ _ (by omega)) (fun j hj => up_sh _ _ _ _ _)
  have hfr := fr_tr hfr hf3 (by omega) (by omega)
  refine lv_aload_n hx hb dX7_add_36 rfl (lv_at hl 1 rfl) ?_
  refine nr_get (own := RX7) (C := RX7) (T := TX7) (N := 3) (v := .ref (ad Γ (b + 12))) hx hb hts hi_X7_add_r8_X7 hown hw (by omega) (isV_8 hV) rfl 0 (by decide) wl_X7_add_r8_2 rfl rfl dX7_add_37 ?_
  refine lv_iload hx hb dX7_add_40 (lv_at hl 0 rfl) ?_
  refine lv_iconst (v := nI 3) hx hb dX7_add_42 (by decide) ?_
  refine nr_iadd hx hb dX7_add_43 ?_
  refine lv_iload hx hb dX7_add_44 (lv_at hl 5 rfl) ?_
  refine nr_iast (k := (V 2) * 4 + 3) (v := x4) hx hb hw hj hA hS (by omega) (isV_12 hV) (by omega) (by decide) dX7_add_46 (fun H locs hw hS => ?_)
  obtain ⟨G4, hw, hV, hf4⟩ := nv_c12 hV (va_up (va_up (va_up (va_up V (60 + ((V 2) * 4)) x1) (60 + ((V 2) * 4 + 1)) x2) (60 + ((V 2) * 4 + 2)) x3) (60 + ((V 2) * 4 + 3)) x4) (va_up (fun j => (va_up (va_up (va_up V (60 + ((V 2) * 4)) x1) (60 + ((V 2) * 4 + 1)) x2) (60 + ((V 2) * 4 + 2)) x3) (60 + j)) ((V 2) * 4 + 3) x4) hw (fun j hj => va_up_ne _ _ (by omega)) (fun j hj => up_sh _ _ _ _ _)
  have hfr := fr_tr hfr hf4 (by omega) (by omega)
  refine lv_aload_n hx hb dX7_add_47 rfl (lv_at hl 1 rfl) ?_
  refine lv_dup hx hb dX7_add_48 rfl ?_
  refine nr_get (own := RX7) (C := RX7) (T := TX7) (N := 3) (v := .int (nI (V 2))) hx hb hts hi_X7_add_r8_X7 hown hw (by omega) (isV_8 hV) rfl 2 (by decide) wl_X7_add_r8_1 rfl (congrArg (fun z => some (Value.int (nI z))) (show (va_up (va_up (va_up (va_up V (60 + ((V 2) * 4)) x1) (60 + ((V 2) * 4 + 1)) x2) (60 + ((V 2) * 4 + 2)) x3) (60 + ((V 2) * 4 + 3)) x4) 2 = V 2 from by first | rfl | (simp only [va_up, cpA]; (repeat' split) <;> first | rfl | omega | contradiction | (exfalso; omega) | simp_all))) dX7_add_49 ?_
  refine lv_iconst (v := nI 1) hx hb dX7_add_52 (by decide) ?_
  refine nr_iadd hx hb dX7_add_53 ?_
  obtain ⟨w6, ew6⟩ : ∃ f, f = va_up (va_up (va_up (va_up (va_up V (60 + ((V 2) * 4)) x1) (60 + ((V 2) * 4 + 1)) x2) (60 + ((V 2) * 4 + 2)) x3) (60 + ((V 2) * 4 + 3)) x4) 2 (V 2 + 1) := ⟨_, rfl⟩
  refine nr_put (own := RX7) (C := RX7) (T := TX7) (N := 3) (ty := .int) (v := .int (nI (V 2 + 1))) (fs' := [.ref (ad Γ (b + 12)), .int (nI 5), .int (nI (w6 2))]) hx hb hts hi_X7_add_r8_X7 tyX7 tyX7_ok nmX7 hown hw hj hA hS (by omega) (isV_8 hV) rfl 2 (by decide) wl_X7_add_r8_1 rfl rfl (by decide +kernel) rfl rfl (Nat.le_of_ble_eq_true rfl) (by rw [ew6]; rfl) dX7_add_54 (fun H locs hw hS => ?_)
  subst ew6
  obtain ⟨G5, hw, hV, hf5⟩ := nv_c8 hV (va_up (va_up (va_up (va_up (va_up V (60 + ((V 2) * 4)) x1) (60 + ((V 2) * 4 + 1)) x2) (60 + ((V 2) * 4 + 2)) x3) (60 + ((V 2) * 4 + 3)) x4) 2 (V 2 + 1)) hw (fun j h1 => va_up_ne _ _ (by assumption))
  have hfr := fr_tr hfr hf5 (by omega) (by omega)
  refine lv_aload_n hx hb dX7_add_57 rfl (lv_at hl 1 rfl) ?_
  refine nr_get (own := RX7) (C := RX7) (T := TX7) (N := 3) (v := .int (nI (V 2 + 1))) hx hb hts hi_X7_add_r8_X7 hown hw (by omega) (isV_8 hV) rfl 2 (by decide) wl_X7_add_r8_1 rfl (congrArg (fun z => some (Value.int (nI z))) (show (va_up (va_up (va_up (va_up (va_up V (60 + ((V 2) * 4)) x1) (60 + ((V 2) * 4 + 1)) x2) (60 + ((V 2) * 4 + 2)) x3) (60 + ((V 2) * 4 + 3)) x4) 2 (V 2 + 1)) 2 = V 2 + 1 from by first | rfl | (simp only [va_up, cpA]; (repeat' split) <;> first | rfl | omega | contradiction | (exfalso; omega) | simp_all))) dX7_add_58 ?_
  exact nr_retI hx hb hr hlocks hw hS (⟨rfl, ⟨hV, hfr⟩⟩) dX7_add_61
theorem wl_X7_add_r9_1 : Cond.fieldLink RX7 17 "BellForgiven$Rows" "size" "I" ∈ wsX7_add := List.mem_of_getElem? (i := 1) rfl
theorem wl_X7_add_r9_2 : Cond.fieldLink RX7 13 "BellForgiven$Rows" "cells" "[I" ∈ wsX7_add := List.mem_of_getElem? (i := 2) rfl
theorem hi_X7_add_r9_X7 : ∀ w ∈ u_ws RX7 TX7 3, w ∈ wsX7_add := fun w h => (List.mem_cons_of_mem _ (List.mem_append_right _ h))
set_option maxHeartbeats 4000000 in
set_option maxRecDepth 100000 in
theorem c_X7_add_r9 (l : Launch) (Γ : Gam) (n : Nat) (G : Nat → va_E) (b : Nat) (V : Nat → Nat) (hV : isV Γ G b V) (hn_b : b + 16 ≤ n) (hj : winj Γ n) (x1 x2 x3 x4 : Nat) (hI : vI V) (hsz : V 3 < 6)  : Met l yX7_add wsX7_add ({ frames := 0, cells := 0, slots := 0, locals := 0 }) (va_Pc [.ref (ad Γ (b + 9)), .int (nI x1), .int (nI x2), .int (nI x3), .int (nI x4)] (fun U => hw Γ n G U U.heap)) (wQi Γ n (fun z G2 => (z = nI (V 3 + 1)) ∧ (isV Γ G2 b (addV V 3 80 x1 x2 x3 x4) ∧ fr G G2 (b + 0) (b + 16)))) 0 0 (wA Γ n) := by
  refine Met.ofW (cc := cX7_add) (maxL := 6) (ret := (some .int)) (by decide) rfl ?_
  intro p e s m args below meth c s₁ B hml hv
  obtain ⟨rfl, hw⟩ := hv
  have hx := B.exec
  have hb := B.bytes
  have hr := B.returns
  have hts := atoms_spec (ws := wsX7_add) B.pre
  have hown : s.vm.findClass RX7 = some m.cls := findClass_of_methodNamed B.named
  have hlocks := B.notSynchronized
  have hS : va_S (wA Γ n) s.heap s.heap [] := va_S.rf
  have hA : ∀ q, wA Γ n q → wA Γ n q := fun _ h => h
  have hl := lv_entry ([.ref (ad Γ (b + 9)), .int (nI x1), .int (nI x2), .int (nI x3), .int (nI x4)]) (n := 6) (Nat.le_of_ble_eq_true rfl)
  rw [lg_entry_eq]
  generalize (lg_sl ([.ref (ad Γ (b + 9)), .int (nI x1), .int (nI x2), .int (nI x3), .int (nI x4)]) ++ List.replicate (6 - (lg_sl ([.ref (ad Γ (b + 9)), .int (nI x1), .int (nI x2), .int (nI x3), .int (nI x4)])).length) Slot.unset).toArray = ls at hl ⊢
  have hl : lv_has ls 6 [(0, .ref (ad Γ (b + 9))), (1, .int (nI x1)), (2, .int (nI x2)), (3, .int (nI x3)), (4, .int (nI x4))] := hl
  have hfr := fr_rf G (b + 0) (b + 16)
  have hB := hI.1
  have hB0 := hI.2.1
  have hB1 := hI.2.2.1
  have hB20 := hI.2.2.2.2.2.2.2.2.2
  have hBz2 := hI.2.2.2.1
  have hBz3 := hI.2.2.2.2.1
  have hBz4 := hI.2.2.2.2.2.1
  have hBz5 := hI.2.2.2.2.2.2.1
  have hBd := hB 21
  refine lv_aload_n hx hb dX7_add_0 rfl (lv_at hl 0 rfl) ?_
  refine nr_get (own := RX7) (C := RX7) (T := TX7) (N := 3) (v := .int (nI (V 3))) hx hb hts hi_X7_add_r9_X7 hown hw (by omega) (isV_9 hV) rfl 2 (by decide) wl_X7_add_r9_1 rfl rfl dX7_add_1 ?_
  refine lv_iconst (v := nI 4) hx hb dX7_add_4 (by decide) ?_
  refine nr_imul hx hb dX7_add_5 ?_
  refine lv_istore (lv' := [(5, .int (nI ((V 3) * 4))), (0, .ref (ad Γ (b + 9))), (1, .int (nI x1)), (2, .int (nI x2)), (3, .int (nI x3)), (4, .int (nI x4))]) hx hb dX7_add_6 hl (by decide) rfl (fun ls hl => ?_)
  refine lv_aload_n hx hb dX7_add_8 rfl (lv_at hl 1 rfl) ?_
  refine nr_get (own := RX7) (C := RX7) (T := TX7) (N := 3) (v := .ref (ad Γ (b + 13))) hx hb hts hi_X7_add_r9_X7 hown hw (by omega) (isV_9 hV) rfl 0 (by decide) wl_X7_add_r9_2 rfl rfl dX7_add_9 ?_
  refine lv_iload hx hb dX7_add_12 (lv_at hl 0 rfl) ?_
  refine lv_iload_n hx hb dX7_add_14 rfl (lv_at hl 2 rfl) ?_
  refine nr_iast (k := (V 3) * 4) (v := x1) hx hb hw hj hA hS (by omega) (isV_13 hV) (by omega) (by decide) dX7_add_15 (fun H locs hw hS => ?_)
  obtain ⟨G1, hw, hV, hf1⟩ := nv_c13 hV (va_up V (80 + ((V 3) * 4)) x1) (va_up (fun j => V (80 + j)) ((V 3) * 4) x1) hw (fun j hj => va_up_ne _ _ (by omega)) (fun j hj => up_sh _ _ _ _ _)
  have hfr := fr_tr hfr hf1 (by omega) (by omega)
  refine lv_aload_n hx hb dX7_add_16 rfl (lv_at hl 1 rfl) ?_
  refine nr_get (own := RX7) (C := RX7) (T := TX7) (N := 3) (v := .ref (ad Γ (b + 13))) hx hb hts hi_X7_add_r9_X7 hown hw (by omega) (isV_9 hV) rfl 0 (by decide) wl_X7_add_r9_2 rfl rfl dX7_add_17 ?_
  refine lv_iload hx hb dX7_add_20 (lv_at hl 0 rfl) ?_
  refine lv_iconst (v := nI 1) hx hb dX7_add_22 (by decide) ?_
  refine nr_iadd hx hb dX7_add_23 ?_
  refine lv_iload_n hx hb dX7_add_24 rfl (lv_at hl 3 rfl) ?_
  refine nr_iast (k := (V 3) * 4 + 1) (v := x2) hx hb hw hj hA hS (by omega) (isV_13 hV) (by omega) (by decide) dX7_add_25 (fun H locs hw hS => ?_)
  obtain ⟨G2, hw, hV, hf2⟩ := nv_c13 hV (va_up (va_up V (80 + ((V 3) * 4)) x1) (80 + ((V 3) * 4 + 1)) x2) (va_up (fun j => (va_up V (80 + ((V 3) * 4)) x1) (80 + j)) ((V 3) * 4 + 1) x2) hw (fun j hj => va_up_ne _ _ (by omega)) (fun j hj => up_sh _ _ _ _ _)
  have hfr := fr_tr hfr hf2 (by omega) (by omega)
  refine lv_aload_n hx hb dX7_add_26 rfl (lv_at hl 1 rfl) ?_
  refine nr_get (own := RX7) (C := RX7) (T := TX7) (N := 3) (v := .ref (ad Γ (b + 13))) hx hb hts hi_X7_add_r9_X7 hown hw (by omega) (isV_9 hV) rfl 0 (by decide) wl_X7_add_r9_2 rfl rfl dX7_add_27 ?_
  refine lv_iload hx hb dX7_add_30 (lv_at hl 0 rfl) ?_
  refine lv_iconst (v := nI 2) hx hb dX7_add_32 (by decide) ?_
  refine nr_iadd hx hb dX7_add_33 ?_
  refine lv_iload_n hx hb dX7_add_34 rfl (lv_at hl 4 rfl) ?_
  refine nr_iast (k := (V 3) * 4 + 2) (v := x3) hx hb hw hj hA hS (by omega) (isV_13 hV) (by omega) (by decide) dX7_add_35 (fun H locs hw hS => ?_)
  obtain ⟨G3, hw, hV, hf3⟩ := nv_c13 hV (va_up (va_up (va_up V (80 + ((V 3) * 4)) x1) (80 + ((V 3) * 4 + 1)) x2) (80 + ((V 3) * 4 + 2)) x3) (va_up (fun j => (va_up (va_up V (80 + ((V 3) * 4)) x1) (80 + ((V 3) * 4 + 1)) x2) (80 + j)) ((V 3) * 4 + 2) x3) hw (fun j hj => va_up_ne _ _ (by omega)) (fun j hj => up_sh _ _ _ _ _)
  have hfr := fr_tr hfr hf3 (by omega) (by omega)
  refine lv_aload_n hx hb dX7_add_36 rfl (lv_at hl 1 rfl) ?_
  refine nr_get (own := RX7) (C := RX7) (T := TX7) (N := 3) (v := .ref (ad Γ (b + 13))) hx hb hts hi_X7_add_r9_X7 hown hw (by omega) (isV_9 hV) rfl 0 (by decide) wl_X7_add_r9_2 rfl rfl dX7_add_37 ?_
  refine lv_iload hx hb dX7_add_40 (lv_at hl 0 rfl) ?_
  refine lv_iconst (v := nI 3) hx hb dX7_add_42 (by decide) ?_
  refine nr_iadd hx hb dX7_add_43 ?_
  refine lv_iload hx hb dX7_add_44 (lv_at hl 5 rfl) ?_
  refine nr_iast (k := (V 3) * 4 + 3) (v := x4) hx hb hw hj hA hS (by omega) (isV_13 hV) (by omega) (by decide) dX7_add_46 (fun H locs hw hS => ?_)
  obtain ⟨G4, hw, hV, hf4⟩ := nv_c13 hV (va_up (va_up (va_up (va_up V (80 + ((V 3) * 4)) x1) (80 + ((V 3) * 4 + 1)) x2) (80 + ((V 3) * 4 + 2)) x3) (80 + ((V 3) * 4 + 3)) x4) (va_up (fun j => (va_up (va_up (va_up V (80 + ((V 3) * 4)) x1) (80 + ((V 3) * 4 + 1)) x2) (80 + ((V 3) * 4 + 2)) x3) (80 + j)) ((V 3) * 4 + 3) x4) hw (fun j hj => va_up_ne _ _ (by omega)) (fun j hj => up_sh _ _ _ _ _)
  have hfr := fr_tr hfr hf4 (by omega) (by omega)
  refine lv_aload_n hx hb dX7_add_47 rfl (lv_at hl 1 rfl) ?_
  refine lv_dup hx hb dX7_add_48 rfl ?_
  refine nr_get (own := RX7) (C := RX7) (T := TX7) (N := 3) (v := .int (nI (V 3))) hx hb hts hi_X7_add_r9_X7 hown hw (by omega) (isV_9 hV) rfl 2 (by decide) wl_X7_add_r9_1 rfl (congrArg (fun z => some (Value.int (nI z))) (show (va_up (va_up (va_up (va_up V (80 + ((V 3) * 4)) x1) (80 + ((V 3) * 4 + 1)) x2) (80 + ((V 3) * 4 + 2)) x3) (80 + ((V 3) * 4 + 3)) x4) 3 = V 3 from by first | rfl | (simp only [va_up, cpA]; (repeat' split) <;> first | rfl | omega | contradiction | (exfalso; omega) | simp_all))) dX7_add_49 ?_
  refine lv_iconst (v := nI 1) hx hb dX7_add_52 (by decide) ?_
  refine nr_iadd hx hb dX7_add_53 ?_
  obtain ⟨w6, ew6⟩ : ∃ f, f = va_up (va_up (va_up (va_up (va_up V (80 + ((V 3) * 4)) x1) (80 + ((V 3) * 4 + 1)) x2) (80 + ((V 3) * 4 + 2)) x3) (80 + ((V 3) * 4 + 3)) x4) 3 (V 3 + 1) := ⟨_, rfl⟩
  refine nr_put (own := RX7) (C := RX7) (T := TX7) (N := 3) (ty := .int) (v := .int (nI (V 3 + 1))) (fs' := [.ref (ad Γ (b + 13)), .int (nI 6), .int (nI (w6 3))]) hx hb hts hi_X7_add_r9_X7 tyX7 tyX7_ok nmX7 hown hw hj hA hS (by omega) (isV_9 hV) rfl 2 (by decide) wl_X7_add_r9_1 rfl rfl (by decide +kernel) rfl rfl (Nat.le_of_ble_eq_true rfl) (by rw [ew6]; rfl) dX7_add_54 (fun H locs hw hS => ?_)
  subst ew6
  obtain ⟨G5, hw, hV, hf5⟩ := nv_c9 hV (va_up (va_up (va_up (va_up (va_up V (80 + ((V 3) * 4)) x1) (80 + ((V 3) * 4 + 1)) x2) (80 + ((V 3) * 4 + 2)) x3) (80 + ((V 3) * 4 + 3)) x4) 3 (V 3 + 1)) hw (fun j h1 => va_up_ne _ _ (by assumption))
  have hfr := fr_tr hfr hf5 (by omega) (by omega)
  refine lv_aload_n hx hb dX7_add_57 rfl (lv_at hl 1 rfl) ?_
  refine nr_get (own := RX7) (C := RX7) (T := TX7) (N := 3) (v := .int (nI (V 3 + 1))) hx hb hts hi_X7_add_r9_X7 hown hw (by omega) (isV_9 hV) rfl 2 (by decide) wl_X7_add_r9_1 rfl (congrArg (fun z => some (Value.int (nI z))) (show (va_up (va_up (va_up (va_up (va_up V (80 + ((V 3) * 4)) x1) (80 + ((V 3) * 4 + 1)) x2) (80 + ((V 3) * 4 + 2)) x3) (80 + ((V 3) * 4 + 3)) x4) 3 (V 3 + 1)) 3 = V 3 + 1 from by first | rfl | (simp only [va_up, cpA]; (repeat' split) <;> first | rfl | omega | contradiction | (exfalso; omega) | simp_all))) dX7_add_58 ?_
  exact nr_retI hx hb hr hlocks hw hS (⟨rfl, ⟨hV, hfr⟩⟩) dX7_add_61
theorem wl_X7_add_r10_1 : Cond.fieldLink RX7 17 "BellForgiven$Rows" "size" "I" ∈ wsX7_add := List.mem_of_getElem? (i := 1) rfl
theorem wl_X7_add_r10_2 : Cond.fieldLink RX7 13 "BellForgiven$Rows" "cells" "[I" ∈ wsX7_add := List.mem_of_getElem? (i := 2) rfl
theorem hi_X7_add_r10_X7 : ∀ w ∈ u_ws RX7 TX7 3, w ∈ wsX7_add := fun w h => (List.mem_cons_of_mem _ (List.mem_append_right _ h))
set_option maxHeartbeats 4000000 in
set_option maxRecDepth 100000 in
theorem c_X7_add_r10 (l : Launch) (Γ : Gam) (n : Nat) (G : Nat → va_E) (b : Nat) (V : Nat → Nat) (hV : isV Γ G b V) (hn_b : b + 16 ≤ n) (hj : winj Γ n) (x1 x2 x3 x4 : Nat) (hI : vI V) (hsz : V 4 < 6)  : Met l yX7_add wsX7_add ({ frames := 0, cells := 0, slots := 0, locals := 0 }) (va_Pc [.ref (ad Γ (b + 10)), .int (nI x1), .int (nI x2), .int (nI x3), .int (nI x4)] (fun U => hw Γ n G U U.heap)) (wQi Γ n (fun z G2 => (z = nI (V 4 + 1)) ∧ (isV Γ G2 b (addV V 4 104 x1 x2 x3 x4) ∧ fr G G2 (b + 0) (b + 16)))) 0 0 (wA Γ n) := by
  refine Met.ofW (cc := cX7_add) (maxL := 6) (ret := (some .int)) (by decide) rfl ?_
  intro p e s m args below meth c s₁ B hml hv
  obtain ⟨rfl, hw⟩ := hv
  have hx := B.exec
  have hb := B.bytes
  have hr := B.returns
  have hts := atoms_spec (ws := wsX7_add) B.pre
  have hown : s.vm.findClass RX7 = some m.cls := findClass_of_methodNamed B.named
  have hlocks := B.notSynchronized
  have hS : va_S (wA Γ n) s.heap s.heap [] := va_S.rf
  have hA : ∀ q, wA Γ n q → wA Γ n q := fun _ h => h
  have hl := lv_entry ([.ref (ad Γ (b + 10)), .int (nI x1), .int (nI x2), .int (nI x3), .int (nI x4)]) (n := 6) (Nat.le_of_ble_eq_true rfl)
  rw [lg_entry_eq]
  generalize (lg_sl ([.ref (ad Γ (b + 10)), .int (nI x1), .int (nI x2), .int (nI x3), .int (nI x4)]) ++ List.replicate (6 - (lg_sl ([.ref (ad Γ (b + 10)), .int (nI x1), .int (nI x2), .int (nI x3), .int (nI x4)])).length) Slot.unset).toArray = ls at hl ⊢
  have hl : lv_has ls 6 [(0, .ref (ad Γ (b + 10))), (1, .int (nI x1)), (2, .int (nI x2)), (3, .int (nI x3)), (4, .int (nI x4))] := hl
  have hfr := fr_rf G (b + 0) (b + 16)
  have hB := hI.1
  have hB0 := hI.2.1
  have hB1 := hI.2.2.1
  have hB20 := hI.2.2.2.2.2.2.2.2.2
  have hBz2 := hI.2.2.2.1
  have hBz3 := hI.2.2.2.2.1
  have hBz4 := hI.2.2.2.2.2.1
  have hBz5 := hI.2.2.2.2.2.2.1
  have hBd := hB 21
  refine lv_aload_n hx hb dX7_add_0 rfl (lv_at hl 0 rfl) ?_
  refine nr_get (own := RX7) (C := RX7) (T := TX7) (N := 3) (v := .int (nI (V 4))) hx hb hts hi_X7_add_r10_X7 hown hw (by omega) (isV_10 hV) rfl 2 (by decide) wl_X7_add_r10_1 rfl rfl dX7_add_1 ?_
  refine lv_iconst (v := nI 4) hx hb dX7_add_4 (by decide) ?_
  refine nr_imul hx hb dX7_add_5 ?_
  refine lv_istore (lv' := [(5, .int (nI ((V 4) * 4))), (0, .ref (ad Γ (b + 10))), (1, .int (nI x1)), (2, .int (nI x2)), (3, .int (nI x3)), (4, .int (nI x4))]) hx hb dX7_add_6 hl (by decide) rfl (fun ls hl => ?_)
  refine lv_aload_n hx hb dX7_add_8 rfl (lv_at hl 1 rfl) ?_
  refine nr_get (own := RX7) (C := RX7) (T := TX7) (N := 3) (v := .ref (ad Γ (b + 14))) hx hb hts hi_X7_add_r10_X7 hown hw (by omega) (isV_10 hV) rfl 0 (by decide) wl_X7_add_r10_2 rfl rfl dX7_add_9 ?_
  refine lv_iload hx hb dX7_add_12 (lv_at hl 0 rfl) ?_
  refine lv_iload_n hx hb dX7_add_14 rfl (lv_at hl 2 rfl) ?_
  refine nr_iast (k := (V 4) * 4) (v := x1) hx hb hw hj hA hS (by omega) (isV_14 hV) (by omega) (by decide) dX7_add_15 (fun H locs hw hS => ?_)
  obtain ⟨G1, hw, hV, hf1⟩ := nv_c14 hV (va_up V (104 + ((V 4) * 4)) x1) (va_up (fun j => V (104 + j)) ((V 4) * 4) x1) hw (fun j hj => va_up_ne _ _ (by omega)) (fun j hj => up_sh _ _ _ _ _)
  have hfr := fr_tr hfr hf1 (by omega) (by omega)
  refine lv_aload_n hx hb dX7_add_16 rfl (lv_at hl 1 rfl) ?_
  refine nr_get (own := RX7) (C := RX7) (T := TX7) (N := 3) (v := .ref (ad Γ (b + 14))) hx hb hts hi_X7_add_r10_X7 hown hw (by omega) (isV_10 hV) rfl 0 (by decide) wl_X7_add_r10_2 rfl rfl dX7_add_17 ?_
  refine lv_iload hx hb dX7_add_20 (lv_at hl 0 rfl) ?_
  refine lv_iconst (v := nI 1) hx hb dX7_add_22 (by decide) ?_
  refine nr_iadd hx hb dX7_add_23 ?_
  refine lv_iload_n hx hb dX7_add_24 rfl (lv_at hl 3 rfl) ?_
  refine nr_iast (k := (V 4) * 4 + 1) (v := x2) hx hb hw hj hA hS (by omega) (isV_14 hV) (by omega) (by decide) dX7_add_25 (fun H locs hw hS => ?_)
  obtain ⟨G2, hw, hV, hf2⟩ := nv_c14 hV (va_up (va_up V (104 + ((V 4) * 4)) x1) (104 + ((V 4) * 4 + 1)) x2) (va_up (fun j => (va_up V (104 + ((V 4) * 4)) x1) (104 + j)) ((V 4) * 4 + 1) x2) hw (fun j hj => va_up_ne _ _ (by omega)) (fun j hj => up_sh _ _ _ _ _)
  have hfr := fr_tr hfr hf2 (by omega) (by omega)
  refine lv_aload_n hx hb dX7_add_26 rfl (lv_at hl 1 rfl) ?_
  refine nr_get (own := RX7) (C := RX7) (T := TX7) (N := 3) (v := .ref (ad Γ (b + 14))) hx hb hts hi_X7_add_r10_X7 hown hw (by omega) (isV_10 hV) rfl 0 (by decide) wl_X7_add_r10_2 rfl rfl dX7_add_27 ?_
  refine lv_iload hx hb dX7_add_30 (lv_at hl 0 rfl) ?_
  refine lv_iconst (v := nI 2) hx hb dX7_add_32 (by decide) ?_
  refine nr_iadd hx hb dX7_add_33 ?_
  refine lv_iload_n hx hb dX7_add_34 rfl (lv_at hl 4 rfl) ?_
  refine nr_iast (k := (V 4) * 4 + 2) (v := x3) hx hb hw hj hA hS (by omega) (isV_14 hV) (by omega) (by decide) dX7_add_35 (fun H locs hw hS => ?_)
  obtain ⟨G3, hw, hV, hf3⟩ := nv_c14 hV (va_up (va_up (va_up V (104 + ((V 4) * 4)) x1) (104 + ((V 4) * 4 + 1)) x2) (104 + ((V 4) * 4 + 2)) x3) (va_up (fun j => (va_up (va_up V (104 + ((V 4) * 4)) x1) (104 + ((V 4) * 4 + 1)) x2) (104 + j)) ((V 4) * 4 + 2) x3) hw (fun j hj => va_up_ne _ _ (by omega)) (fun j hj => up_sh _ _ _ _ _)
  have hfr := fr_tr hfr hf3 (by omega) (by omega)
  refine lv_aload_n hx hb dX7_add_36 rfl (lv_at hl 1 rfl) ?_
  refine nr_get (own := RX7) (C := RX7) (T := TX7) (N := 3) (v := .ref (ad Γ (b + 14))) hx hb hts hi_X7_add_r10_X7 hown hw (by omega) (isV_10 hV) rfl 0 (by decide) wl_X7_add_r10_2 rfl rfl dX7_add_37 ?_
  refine lv_iload hx hb dX7_add_40 (lv_at hl 0 rfl) ?_
  refine lv_iconst (v := nI 3) hx hb dX7_add_42 (by decide) ?_
  refine nr_iadd hx hb dX7_add_43 ?_
  refine lv_iload hx hb dX7_add_44 (lv_at hl 5 rfl) ?_
  refine nr_iast (k := (V 4) * 4 + 3) (v := x4) hx hb hw hj hA hS (by omega) (isV_14 hV) (by omega) (by decide) dX7_add_46 (fun H locs hw hS => ?_)
  obtain ⟨G4, hw, hV, hf4⟩ := nv_c14 hV (va_up (va_up (va_up (va_up V (104 + ((V 4) * 4)) x1) (104 + ((V 4) * 4 + 1)) x2) (104 + ((V 4) * 4 + 2)) x3) (104 + ((V 4) * 4 + 3)) x4) (va_up (fun j => (va_up (va_up (va_up V (104 + ((V 4) * 4)) x1) (104 + ((V 4) * 4 + 1)) x2) (104 + ((V 4) * 4 + 2)) x3) (104 + j)) ((V 4) * 4 + 3) x4) hw (fun j hj => va_up_ne _ _ (by omega)) (fun j hj => up_sh _ _ _ _ _)
  have hfr := fr_tr hfr hf4 (by omega) (by omega)
  refine lv_aload_n hx hb dX7_add_47 rfl (lv_at hl 1 rfl) ?_
  refine lv_dup hx hb dX7_add_48 rfl ?_
  refine nr_get (own := RX7) (C := RX7) (T := TX7) (N := 3) (v := .int (nI (V 4))) hx hb hts hi_X7_add_r10_X7 hown hw (by omega) (isV_10 hV) rfl 2 (by decide) wl_X7_add_r10_1 rfl (congrArg (fun z => some (Value.int (nI z))) (show (va_up (va_up (va_up (va_up V (104 + ((V 4) * 4)) x1) (104 + ((V 4) * 4 + 1)) x2) (104 + ((V 4) * 4 + 2)) x3) (104 + ((V 4) * 4 + 3)) x4) 4 = V 4 from by first | rfl | (simp only [va_up, cpA]; (repeat' split) <;> first | rfl | omega | contradiction | (exfalso; omega) | simp_all))) dX7_add_49 ?_
  refine lv_iconst (v := nI 1) hx hb dX7_add_52 (by decide) ?_
  refine nr_iadd hx hb dX7_add_53 ?_
  obtain ⟨w6, ew6⟩ : ∃ f, f = va_up (va_up (va_up (va_up (va_up V (104 + ((V 4) * 4)) x1) (104 + ((V 4) * 4 + 1)) x2) (104 + ((V 4) * 4 + 2)) x3) (104 + ((V 4) * 4 + 3)) x4) 4 (V 4 + 1) := ⟨_, rfl⟩
  refine nr_put (own := RX7) (C := RX7) (T := TX7) (N := 3) (ty := .int) (v := .int (nI (V 4 + 1))) (fs' := [.ref (ad Γ (b + 14)), .int (nI 6), .int (nI (w6 4))]) hx hb hts hi_X7_add_r10_X7 tyX7 tyX7_ok nmX7 hown hw hj hA hS (by omega) (isV_10 hV) rfl 2 (by decide) wl_X7_add_r10_1 rfl rfl (by decide +kernel) rfl rfl (Nat.le_of_ble_eq_true rfl) (by rw [ew6]; rfl) dX7_add_54 (fun H locs hw hS => ?_)
  subst ew6
  obtain ⟨G5, hw, hV, hf5⟩ := nv_c10 hV (va_up (va_up (va_up (va_up (va_up V (104 + ((V 4) * 4)) x1) (104 + ((V 4) * 4 + 1)) x2) (104 + ((V 4) * 4 + 2)) x3) (104 + ((V 4) * 4 + 3)) x4) 4 (V 4 + 1)) hw (fun j h1 => va_up_ne _ _ (by assumption))
  have hfr := fr_tr hfr hf5 (by omega) (by omega)
  refine lv_aload_n hx hb dX7_add_57 rfl (lv_at hl 1 rfl) ?_
  refine nr_get (own := RX7) (C := RX7) (T := TX7) (N := 3) (v := .int (nI (V 4 + 1))) hx hb hts hi_X7_add_r10_X7 hown hw (by omega) (isV_10 hV) rfl 2 (by decide) wl_X7_add_r10_1 rfl (congrArg (fun z => some (Value.int (nI z))) (show (va_up (va_up (va_up (va_up (va_up V (104 + ((V 4) * 4)) x1) (104 + ((V 4) * 4 + 1)) x2) (104 + ((V 4) * 4 + 2)) x3) (104 + ((V 4) * 4 + 3)) x4) 4 (V 4 + 1)) 4 = V 4 + 1 from by first | rfl | (simp only [va_up, cpA]; (repeat' split) <;> first | rfl | omega | contradiction | (exfalso; omega) | simp_all))) dX7_add_58 ?_
  exact nr_retI hx hb hr hlocks hw hS (⟨rfl, ⟨hV, hfr⟩⟩) dX7_add_61
theorem wl_X7_drop_r8_1 : Cond.fieldLink RX7 17 "BellForgiven$Rows" "size" "I" ∈ wsX7_drop := List.mem_of_getElem? (i := 1) rfl
theorem hi_X7_drop_r8_X7 : ∀ w ∈ u_ws RX7 TX7 3, w ∈ wsX7_drop := fun w h => (List.mem_cons_of_mem _ (List.mem_append_right _ h))
set_option maxHeartbeats 4000000 in
set_option maxRecDepth 100000 in
theorem c_X7_drop_r8 (l : Launch) (Γ : Gam) (n : Nat) (G : Nat → va_E) (b : Nat) (V : Nat → Nat) (hV : isV Γ G b V) (hn_b : b + 16 ≤ n) (hj : winj Γ n) (hI : vI V)  : Met l yX7_drop wsX7_drop ({ frames := 0, cells := 0, slots := 0, locals := 0 }) (va_Pc [.ref (ad Γ (b + 8))] (fun U => hw Γ n G U U.heap)) (wQi Γ n (fun z G2 => (z = nI (V 2)) ∧ (isV Γ G2 b (va_up V 2 0) ∧ fr G G2 (b + 0) (b + 16)))) 0 0 (wA Γ n) := by
  refine Met.ofW (cc := cX7_drop) (maxL := 2) (ret := (some .int)) (by decide) rfl ?_
  intro p e s m args below meth c s₁ B hml hv
  obtain ⟨rfl, hw⟩ := hv
  have hx := B.exec
  have hb := B.bytes
  have hr := B.returns
  have hts := atoms_spec (ws := wsX7_drop) B.pre
  have hown : s.vm.findClass RX7 = some m.cls := findClass_of_methodNamed B.named
  have hlocks := B.notSynchronized
  have hS : va_S (wA Γ n) s.heap s.heap [] := va_S.rf
  have hA : ∀ q, wA Γ n q → wA Γ n q := fun _ h => h
  have hl := lv_entry ([.ref (ad Γ (b + 8))]) (n := 2) (Nat.le_of_ble_eq_true rfl)
  rw [lg_entry_eq]
  generalize (lg_sl ([.ref (ad Γ (b + 8))]) ++ List.replicate (2 - (lg_sl ([.ref (ad Γ (b + 8))])).length) Slot.unset).toArray = ls at hl ⊢
  have hl : lv_has ls 2 [(0, .ref (ad Γ (b + 8)))] := hl
  have hfr := fr_rf G (b + 0) (b + 16)
  have hB := hI.1
  have hB0 := hI.2.1
  have hB1 := hI.2.2.1
  have hB20 := hI.2.2.2.2.2.2.2.2.2
  have hBz2 := hI.2.2.2.1
  have hBz3 := hI.2.2.2.2.1
  have hBz4 := hI.2.2.2.2.2.1
  have hBz5 := hI.2.2.2.2.2.2.1
  have hBd := hB 21
  refine lv_aload_n hx hb dX7_drop_0 rfl (lv_at hl 0 rfl) ?_
  refine nr_get (own := RX7) (C := RX7) (T := TX7) (N := 3) (v := .int (nI (V 2))) hx hb hts hi_X7_drop_r8_X7 hown hw (by omega) (isV_8 hV) rfl 2 (by decide) wl_X7_drop_r8_1 rfl rfl dX7_drop_1 ?_
  refine lv_istore_n (lv' := [(1, .int (nI (V 2))), (0, .ref (ad Γ (b + 8)))]) hx hb dX7_drop_4 rfl hl (by decide) rfl (fun ls hl => ?_)
  refine lv_aload_n hx hb dX7_drop_5 rfl (lv_at hl 1 rfl) ?_
  refine lv_iconst (v := nI 0) hx hb dX7_drop_6 (by decide) ?_
  obtain ⟨w2, ew2⟩ : ∃ f, f = va_up V 2 0 := ⟨_, rfl⟩
  refine nr_put (own := RX7) (C := RX7) (T := TX7) (N := 3) (ty := .int) (v := .int (nI 0)) (fs' := [.ref (ad Γ (b + 12)), .int (nI 5), .int (nI (w2 2))]) hx hb hts hi_X7_drop_r8_X7 tyX7 tyX7_ok nmX7 hown hw hj hA hS (by omega) (isV_8 hV) rfl 2 (by decide) wl_X7_drop_r8_1 rfl rfl (by decide +kernel) rfl rfl (Nat.le_of_ble_eq_true rfl) (by rw [ew2]; rfl) dX7_drop_7 (fun H locs hw hS => ?_)
  subst ew2
  obtain ⟨G1, hw, hV, hf1⟩ := nv_c8 hV (va_up V 2 0) hw (fun j h1 => va_up_ne _ _ (by assumption))
  have hfr := fr_tr hfr hf1 (by omega) (by omega)
  refine lv_iload_n hx hb dX7_drop_10 rfl (lv_at hl 0 rfl) ?_
  exact nr_retI hx hb hr hlocks hw hS (⟨rfl, ⟨hV, hfr⟩⟩) dX7_drop_11
theorem wl_X7_drop_r9_1 : Cond.fieldLink RX7 17 "BellForgiven$Rows" "size" "I" ∈ wsX7_drop := List.mem_of_getElem? (i := 1) rfl
theorem hi_X7_drop_r9_X7 : ∀ w ∈ u_ws RX7 TX7 3, w ∈ wsX7_drop := fun w h => (List.mem_cons_of_mem _ (List.mem_append_right _ h))
set_option maxHeartbeats 4000000 in
set_option maxRecDepth 100000 in
theorem c_X7_drop_r9 (l : Launch) (Γ : Gam) (n : Nat) (G : Nat → va_E) (b : Nat) (V : Nat → Nat) (hV : isV Γ G b V) (hn_b : b + 16 ≤ n) (hj : winj Γ n) (hI : vI V)  : Met l yX7_drop wsX7_drop ({ frames := 0, cells := 0, slots := 0, locals := 0 }) (va_Pc [.ref (ad Γ (b + 9))] (fun U => hw Γ n G U U.heap)) (wQi Γ n (fun z G2 => (z = nI (V 3)) ∧ (isV Γ G2 b (va_up V 3 0) ∧ fr G G2 (b + 0) (b + 16)))) 0 0 (wA Γ n) := by
  refine Met.ofW (cc := cX7_drop) (maxL := 2) (ret := (some .int)) (by decide) rfl ?_
  intro p e s m args below meth c s₁ B hml hv
  obtain ⟨rfl, hw⟩ := hv
  have hx := B.exec
  have hb := B.bytes
  have hr := B.returns
  have hts := atoms_spec (ws := wsX7_drop) B.pre
  have hown : s.vm.findClass RX7 = some m.cls := findClass_of_methodNamed B.named
  have hlocks := B.notSynchronized
  have hS : va_S (wA Γ n) s.heap s.heap [] := va_S.rf
  have hA : ∀ q, wA Γ n q → wA Γ n q := fun _ h => h
  have hl := lv_entry ([.ref (ad Γ (b + 9))]) (n := 2) (Nat.le_of_ble_eq_true rfl)
  rw [lg_entry_eq]
  generalize (lg_sl ([.ref (ad Γ (b + 9))]) ++ List.replicate (2 - (lg_sl ([.ref (ad Γ (b + 9))])).length) Slot.unset).toArray = ls at hl ⊢
  have hl : lv_has ls 2 [(0, .ref (ad Γ (b + 9)))] := hl
  have hfr := fr_rf G (b + 0) (b + 16)
  have hB := hI.1
  have hB0 := hI.2.1
  have hB1 := hI.2.2.1
  have hB20 := hI.2.2.2.2.2.2.2.2.2
  have hBz2 := hI.2.2.2.1
  have hBz3 := hI.2.2.2.2.1
  have hBz4 := hI.2.2.2.2.2.1
  have hBz5 := hI.2.2.2.2.2.2.1
  have hBd := hB 21
  refine lv_aload_n hx hb dX7_drop_0 rfl (lv_at hl 0 rfl) ?_
  refine nr_get (own := RX7) (C := RX7) (T := TX7) (N := 3) (v := .int (nI (V 3))) hx hb hts hi_X7_drop_r9_X7 hown hw (by omega) (isV_9 hV) rfl 2 (by decide) wl_X7_drop_r9_1 rfl rfl dX7_drop_1 ?_
  refine lv_istore_n (lv' := [(1, .int (nI (V 3))), (0, .ref (ad Γ (b + 9)))]) hx hb dX7_drop_4 rfl hl (by decide) rfl (fun ls hl => ?_)
  refine lv_aload_n hx hb dX7_drop_5 rfl (lv_at hl 1 rfl) ?_
  refine lv_iconst (v := nI 0) hx hb dX7_drop_6 (by decide) ?_
  obtain ⟨w2, ew2⟩ : ∃ f, f = va_up V 3 0 := ⟨_, rfl⟩
  refine nr_put (own := RX7) (C := RX7) (T := TX7) (N := 3) (ty := .int) (v := .int (nI 0)) (fs' := [.ref (ad Γ (b + 13)), .int (nI 6), .int (nI (w2 3))]) hx hb hts hi_X7_drop_r9_X7 tyX7 tyX7_ok nmX7 hown hw hj hA hS (by omega) (isV_9 hV) rfl 2 (by decide) wl_X7_drop_r9_1 rfl rfl (by decide +kernel) rfl rfl (Nat.le_of_ble_eq_true rfl) (by rw [ew2]; rfl) dX7_drop_7 (fun H locs hw hS => ?_)
  subst ew2
  obtain ⟨G1, hw, hV, hf1⟩ := nv_c9 hV (va_up V 3 0) hw (fun j h1 => va_up_ne _ _ (by assumption))
  have hfr := fr_tr hfr hf1 (by omega) (by omega)
  refine lv_iload_n hx hb dX7_drop_10 rfl (lv_at hl 0 rfl) ?_
  exact nr_retI hx hb hr hlocks hw hS (⟨rfl, ⟨hV, hfr⟩⟩) dX7_drop_11
theorem wl_X7_drop_r10_1 : Cond.fieldLink RX7 17 "BellForgiven$Rows" "size" "I" ∈ wsX7_drop := List.mem_of_getElem? (i := 1) rfl
theorem hi_X7_drop_r10_X7 : ∀ w ∈ u_ws RX7 TX7 3, w ∈ wsX7_drop := fun w h => (List.mem_cons_of_mem _ (List.mem_append_right _ h))
set_option maxHeartbeats 4000000 in
set_option maxRecDepth 100000 in
theorem c_X7_drop_r10 (l : Launch) (Γ : Gam) (n : Nat) (G : Nat → va_E) (b : Nat) (V : Nat → Nat) (hV : isV Γ G b V) (hn_b : b + 16 ≤ n) (hj : winj Γ n) (hI : vI V)  : Met l yX7_drop wsX7_drop ({ frames := 0, cells := 0, slots := 0, locals := 0 }) (va_Pc [.ref (ad Γ (b + 10))] (fun U => hw Γ n G U U.heap)) (wQi Γ n (fun z G2 => (z = nI (V 4)) ∧ (isV Γ G2 b (va_up V 4 0) ∧ fr G G2 (b + 0) (b + 16)))) 0 0 (wA Γ n) := by
  refine Met.ofW (cc := cX7_drop) (maxL := 2) (ret := (some .int)) (by decide) rfl ?_
  intro p e s m args below meth c s₁ B hml hv
  obtain ⟨rfl, hw⟩ := hv
  have hx := B.exec
  have hb := B.bytes
  have hr := B.returns
  have hts := atoms_spec (ws := wsX7_drop) B.pre
  have hown : s.vm.findClass RX7 = some m.cls := findClass_of_methodNamed B.named
  have hlocks := B.notSynchronized
  have hS : va_S (wA Γ n) s.heap s.heap [] := va_S.rf
  have hA : ∀ q, wA Γ n q → wA Γ n q := fun _ h => h
  have hl := lv_entry ([.ref (ad Γ (b + 10))]) (n := 2) (Nat.le_of_ble_eq_true rfl)
  rw [lg_entry_eq]
  generalize (lg_sl ([.ref (ad Γ (b + 10))]) ++ List.replicate (2 - (lg_sl ([.ref (ad Γ (b + 10))])).length) Slot.unset).toArray = ls at hl ⊢
  have hl : lv_has ls 2 [(0, .ref (ad Γ (b + 10)))] := hl
  have hfr := fr_rf G (b + 0) (b + 16)
  have hB := hI.1
  have hB0 := hI.2.1
  have hB1 := hI.2.2.1
  have hB20 := hI.2.2.2.2.2.2.2.2.2
  have hBz2 := hI.2.2.2.1
  have hBz3 := hI.2.2.2.2.1
  have hBz4 := hI.2.2.2.2.2.1
  have hBz5 := hI.2.2.2.2.2.2.1
  have hBd := hB 21
  refine lv_aload_n hx hb dX7_drop_0 rfl (lv_at hl 0 rfl) ?_
  refine nr_get (own := RX7) (C := RX7) (T := TX7) (N := 3) (v := .int (nI (V 4))) hx hb hts hi_X7_drop_r10_X7 hown hw (by omega) (isV_10 hV) rfl 2 (by decide) wl_X7_drop_r10_1 rfl rfl dX7_drop_1 ?_
  refine lv_istore_n (lv' := [(1, .int (nI (V 4))), (0, .ref (ad Γ (b + 10)))]) hx hb dX7_drop_4 rfl hl (by decide) rfl (fun ls hl => ?_)
  refine lv_aload_n hx hb dX7_drop_5 rfl (lv_at hl 1 rfl) ?_
  refine lv_iconst (v := nI 0) hx hb dX7_drop_6 (by decide) ?_
  obtain ⟨w2, ew2⟩ : ∃ f, f = va_up V 4 0 := ⟨_, rfl⟩
  refine nr_put (own := RX7) (C := RX7) (T := TX7) (N := 3) (ty := .int) (v := .int (nI 0)) (fs' := [.ref (ad Γ (b + 14)), .int (nI 6), .int (nI (w2 4))]) hx hb hts hi_X7_drop_r10_X7 tyX7 tyX7_ok nmX7 hown hw hj hA hS (by omega) (isV_10 hV) rfl 2 (by decide) wl_X7_drop_r10_1 rfl rfl (by decide +kernel) rfl rfl (Nat.le_of_ble_eq_true rfl) (by rw [ew2]; rfl) dX7_drop_7 (fun H locs hw hS => ?_)
  subst ew2
  obtain ⟨G1, hw, hV, hf1⟩ := nv_c10 hV (va_up V 4 0) hw (fun j h1 => va_up_ne _ _ (by assumption))
  have hfr := fr_tr hfr hf1 (by omega) (by omega)
  refine lv_iload_n hx hb dX7_drop_10 rfl (lv_at hl 0 rfl) ?_
  exact nr_retI hx hb hr hlocks hw hS (⟨rfl, ⟨hV, hfr⟩⟩) dX7_drop_11
theorem wl_X7_take_r8_1 : Cond.fieldLink RX7 13 "BellForgiven$Rows" "cells" "[I" ∈ wsX7_take := List.mem_of_getElem? (i := 1) rfl
theorem wl_X7_take_r8_2 : Cond.methodLink RX7 20 arraycopyName ∈ wsX7_take := List.mem_of_getElem? (i := 2) rfl
theorem wl_X7_take_r8_3 : Cond.native arraycopyName ∈ wsX7_take := List.mem_of_getElem? (i := 3) rfl
theorem wl_X7_take_r8_4 : Cond.static arraycopyName ∈ wsX7_take := List.mem_of_getElem? (i := 4) rfl
theorem wl_X7_take_r8_5 : Cond.initialized "java/lang/System" ∈ wsX7_take := List.mem_of_getElem? (i := 5) rfl
theorem wl_X7_take_r8_6 : Cond.fieldLink RX7 17 "BellForgiven$Rows" "size" "I" ∈ wsX7_take := List.mem_of_getElem? (i := 6) rfl
theorem hi_X7_take_r8_X7 : ∀ w ∈ u_ws RX7 TX7 3, w ∈ wsX7_take := fun w h => (List.mem_cons_of_mem _ (List.mem_append_right _ h))
set_option maxHeartbeats 4000000 in
set_option maxRecDepth 100000 in
theorem c_X7_take_r8 (l : Launch) (Γ : Gam) (n : Nat) (G : Nat → va_E) (b o : Nat) (V W : Nat → Nat) (hV : isV Γ G b V) (hW : isV Γ G o W) (hn_b : b + 16 ≤ n) (hn_o : o + 16 ≤ n) (hj : winj Γ n) (hdis : o + 16 ≤ b ∨ b + 16 ≤ o)  : Met l yX7_take wsX7_take ({ frames := 1, cells := 0, slots := 0, locals := 26 }) (va_Pc [.ref (ad Γ (b + 8)), .ref (ad Γ (o + 8))] (fun U => hw Γ n G U U.heap)) (wQv Γ n (fun G2 => isV Γ G2 b (va_up (cpA V (60 + 0) 20 (fun i => W (60 + (0 + i)))) 2 (W 2)) ∧ fr G G2 (b + 0) (b + 16))) 0 0 (wA Γ n) := by
  refine Met.ofW (cc := cX7_take) (maxL := 2) (ret := none) (by decide) rfl ?_
  intro p e s m args below meth c s₁ B hml hv
  obtain ⟨rfl, hw⟩ := hv
  have hx := B.exec
  have hb := B.bytes
  have hr := B.returns
  have hts := atoms_spec (ws := wsX7_take) B.pre
  have hown : s.vm.findClass RX7 = some m.cls := findClass_of_methodNamed B.named
  have hlocks := B.notSynchronized
  have hS : va_S (wA Γ n) s.heap s.heap [] := va_S.rf
  have hA : ∀ q, wA Γ n q → wA Γ n q := fun _ h => h
  have hl := lv_entry ([.ref (ad Γ (b + 8)), .ref (ad Γ (o + 8))]) (n := 2) (Nat.le_of_ble_eq_true rfl)
  rw [lg_entry_eq]
  generalize (lg_sl ([.ref (ad Γ (b + 8)), .ref (ad Γ (o + 8))]) ++ List.replicate (2 - (lg_sl ([.ref (ad Γ (b + 8)), .ref (ad Γ (o + 8))])).length) Slot.unset).toArray = ls at hl ⊢
  have hl : lv_has ls 2 [(0, .ref (ad Γ (b + 8))), (1, .ref (ad Γ (o + 8)))] := hl
  have hfr := fr_rf G (b + 0) (b + 16)
  refine lv_aload_n hx hb dX7_take_0 rfl (lv_at hl 1 rfl) ?_
  refine nr_get (own := RX7) (C := RX7) (T := TX7) (N := 3) (v := .ref (ad Γ (o + 12))) hx hb hts hi_X7_take_r8_X7 hown hw (by omega) (isV_8 hW) rfl 0 (by decide) wl_X7_take_r8_1 rfl rfl dX7_take_1 ?_
  refine lv_iconst (v := nI 0) hx hb dX7_take_4 (by decide) ?_
  refine lv_aload_n hx hb dX7_take_5 rfl (lv_at hl 0 rfl) ?_
  refine nr_get (own := RX7) (C := RX7) (T := TX7) (N := 3) (v := .ref (ad Γ (b + 12))) hx hb hts hi_X7_take_r8_X7 hown hw (by omega) (isV_8 hV) rfl 0 (by decide) wl_X7_take_r8_1 rfl rfl dX7_take_6 ?_
  refine lv_iconst (v := nI 0) hx hb dX7_take_9 (by decide) ?_
  refine lv_aload_n hx hb dX7_take_10 rfl (lv_at hl 0 rfl) ?_
  refine nr_get (own := RX7) (C := RX7) (T := TX7) (N := 3) (v := .ref (ad Γ (b + 12))) hx hb hts hi_X7_take_r8_X7 hown hw (by omega) (isV_8 hV) rfl 0 (by decide) wl_X7_take_r8_1 rfl rfl dX7_take_11 ?_
  refine nr_alen (len := 20) hx hb hw (by omega) (isV_12 hV) dX7_take_14 ?_
  refine nr_copyi hx hb (hml.trans hl.1.symm) hown (hts _ wl_X7_take_r8_2) (hts _ wl_X7_take_r8_3) (hts _ wl_X7_take_r8_4) (hts _ wl_X7_take_r8_5) hw hj hA hS (by omega) (by omega) (isV_12 hW) (isV_12 hV) (by decide) (by decide) (by decide) (by omega) (by omega) (Nat.le_of_ble_eq_true rfl) (Nat.le_of_ble_eq_true rfl) dX7_take_15 (fun H locs hw hS => ?_)
  obtain ⟨G1, hw, hV, hf1⟩ := nv_c12 hV (cpA V (60 + 0) 20 (fun i => W (60 + (0 + i)))) (va_cpy (fun j => W (60 + j)) (fun j => V (60 + j)) 0 0 20) hw (fun j hj => cpA_out (by omega)) (fun j hj => cp_sh _ _ _ _ _ _ _)
  have hW := isV_fr hW hf1 (by omega)
  have hfr := fr_tr hfr hf1 (by omega) (by omega)
  refine lv_aload_n hx hb dX7_take_18 rfl (lv_at hl 0 rfl) ?_
  refine lv_aload_n hx hb dX7_take_19 rfl (lv_at hl 1 rfl) ?_
  refine nr_get (own := RX7) (C := RX7) (T := TX7) (N := 3) (v := .int (nI (W 2))) hx hb hts hi_X7_take_r8_X7 hown hw (by omega) (isV_8 hW) rfl 2 (by decide) wl_X7_take_r8_6 rfl rfl dX7_take_20 ?_
  obtain ⟨w3, ew3⟩ : ∃ f, f = va_up (cpA V (60 + 0) 20 (fun i => W (60 + (0 + i)))) 2 (W 2) := ⟨_, rfl⟩
  refine nr_put (own := RX7) (C := RX7) (T := TX7) (N := 3) (ty := .int) (v := .int (nI (W 2))) (fs' := [.ref (ad Γ (b + 12)), .int (nI 5), .int (nI (w3 2))]) hx hb hts hi_X7_take_r8_X7 tyX7 tyX7_ok nmX7 hown hw hj hA hS (by omega) (isV_8 hV) rfl 2 (by decide) wl_X7_take_r8_6 rfl rfl (by decide +kernel) rfl rfl (Nat.le_of_ble_eq_true rfl) (by rw [ew3]; rfl) dX7_take_23 (fun H locs hw hS => ?_)
  subst ew3
  obtain ⟨G2, hw, hV, hf2⟩ := nv_c8 hV (va_up (cpA V (60 + 0) 20 (fun i => W (60 + (0 + i)))) 2 (W 2)) hw (fun j h1 => va_up_ne _ _ (by assumption))
  have hW := isV_fr hW hf2 (by omega)
  have hfr := fr_tr hfr hf2 (by omega) (by omega)
  exact nr_retV hx hb hr hlocks hw hS (⟨hV, hfr⟩) dX7_take_26
theorem wl_X7_take_r9_1 : Cond.fieldLink RX7 13 "BellForgiven$Rows" "cells" "[I" ∈ wsX7_take := List.mem_of_getElem? (i := 1) rfl
theorem wl_X7_take_r9_2 : Cond.methodLink RX7 20 arraycopyName ∈ wsX7_take := List.mem_of_getElem? (i := 2) rfl
theorem wl_X7_take_r9_3 : Cond.native arraycopyName ∈ wsX7_take := List.mem_of_getElem? (i := 3) rfl
theorem wl_X7_take_r9_4 : Cond.static arraycopyName ∈ wsX7_take := List.mem_of_getElem? (i := 4) rfl
theorem wl_X7_take_r9_5 : Cond.initialized "java/lang/System" ∈ wsX7_take := List.mem_of_getElem? (i := 5) rfl
theorem wl_X7_take_r9_6 : Cond.fieldLink RX7 17 "BellForgiven$Rows" "size" "I" ∈ wsX7_take := List.mem_of_getElem? (i := 6) rfl
theorem hi_X7_take_r9_X7 : ∀ w ∈ u_ws RX7 TX7 3, w ∈ wsX7_take := fun w h => (List.mem_cons_of_mem _ (List.mem_append_right _ h))
set_option maxHeartbeats 4000000 in
set_option maxRecDepth 100000 in
theorem c_X7_take_r9 (l : Launch) (Γ : Gam) (n : Nat) (G : Nat → va_E) (b o : Nat) (V W : Nat → Nat) (hV : isV Γ G b V) (hW : isV Γ G o W) (hn_b : b + 16 ≤ n) (hn_o : o + 16 ≤ n) (hj : winj Γ n) (hdis : o + 16 ≤ b ∨ b + 16 ≤ o)  : Met l yX7_take wsX7_take ({ frames := 1, cells := 0, slots := 0, locals := 26 }) (va_Pc [.ref (ad Γ (b + 9)), .ref (ad Γ (o + 9))] (fun U => hw Γ n G U U.heap)) (wQv Γ n (fun G2 => isV Γ G2 b (va_up (cpA V (80 + 0) 24 (fun i => W (80 + (0 + i)))) 3 (W 3)) ∧ fr G G2 (b + 0) (b + 16))) 0 0 (wA Γ n) := by
  refine Met.ofW (cc := cX7_take) (maxL := 2) (ret := none) (by decide) rfl ?_
  intro p e s m args below meth c s₁ B hml hv
  obtain ⟨rfl, hw⟩ := hv
  have hx := B.exec
  have hb := B.bytes
  have hr := B.returns
  have hts := atoms_spec (ws := wsX7_take) B.pre
  have hown : s.vm.findClass RX7 = some m.cls := findClass_of_methodNamed B.named
  have hlocks := B.notSynchronized
  have hS : va_S (wA Γ n) s.heap s.heap [] := va_S.rf
  have hA : ∀ q, wA Γ n q → wA Γ n q := fun _ h => h
  have hl := lv_entry ([.ref (ad Γ (b + 9)), .ref (ad Γ (o + 9))]) (n := 2) (Nat.le_of_ble_eq_true rfl)
  rw [lg_entry_eq]
  generalize (lg_sl ([.ref (ad Γ (b + 9)), .ref (ad Γ (o + 9))]) ++ List.replicate (2 - (lg_sl ([.ref (ad Γ (b + 9)), .ref (ad Γ (o + 9))])).length) Slot.unset).toArray = ls at hl ⊢
  have hl : lv_has ls 2 [(0, .ref (ad Γ (b + 9))), (1, .ref (ad Γ (o + 9)))] := hl
  have hfr := fr_rf G (b + 0) (b + 16)
  refine lv_aload_n hx hb dX7_take_0 rfl (lv_at hl 1 rfl) ?_
  refine nr_get (own := RX7) (C := RX7) (T := TX7) (N := 3) (v := .ref (ad Γ (o + 13))) hx hb hts hi_X7_take_r9_X7 hown hw (by omega) (isV_9 hW) rfl 0 (by decide) wl_X7_take_r9_1 rfl rfl dX7_take_1 ?_
  refine lv_iconst (v := nI 0) hx hb dX7_take_4 (by decide) ?_
  refine lv_aload_n hx hb dX7_take_5 rfl (lv_at hl 0 rfl) ?_
  refine nr_get (own := RX7) (C := RX7) (T := TX7) (N := 3) (v := .ref (ad Γ (b + 13))) hx hb hts hi_X7_take_r9_X7 hown hw (by omega) (isV_9 hV) rfl 0 (by decide) wl_X7_take_r9_1 rfl rfl dX7_take_6 ?_
  refine lv_iconst (v := nI 0) hx hb dX7_take_9 (by decide) ?_
  refine lv_aload_n hx hb dX7_take_10 rfl (lv_at hl 0 rfl) ?_
  refine nr_get (own := RX7) (C := RX7) (T := TX7) (N := 3) (v := .ref (ad Γ (b + 13))) hx hb hts hi_X7_take_r9_X7 hown hw (by omega) (isV_9 hV) rfl 0 (by decide) wl_X7_take_r9_1 rfl rfl dX7_take_11 ?_
  refine nr_alen (len := 24) hx hb hw (by omega) (isV_13 hV) dX7_take_14 ?_
  refine nr_copyi hx hb (hml.trans hl.1.symm) hown (hts _ wl_X7_take_r9_2) (hts _ wl_X7_take_r9_3) (hts _ wl_X7_take_r9_4) (hts _ wl_X7_take_r9_5) hw hj hA hS (by omega) (by omega) (isV_13 hW) (isV_13 hV) (by decide) (by decide) (by decide) (by omega) (by omega) (Nat.le_of_ble_eq_true rfl) (Nat.le_of_ble_eq_true rfl) dX7_take_15 (fun H locs hw hS => ?_)
  obtain ⟨G1, hw, hV, hf1⟩ := nv_c13 hV (cpA V (80 + 0) 24 (fun i => W (80 + (0 + i)))) (va_cpy (fun j => W (80 + j)) (fun j => V (80 + j)) 0 0 24) hw (fun j hj => cpA_out (by omega)) (fun j hj => cp_sh _ _ _ _ _ _ _)
  have hW := isV_fr hW hf1 (by omega)
  have hfr := fr_tr hfr hf1 (by omega) (by omega)
  refine lv_aload_n hx hb dX7_take_18 rfl (lv_at hl 0 rfl) ?_
  refine lv_aload_n hx hb dX7_take_19 rfl (lv_at hl 1 rfl) ?_
  refine nr_get (own := RX7) (C := RX7) (T := TX7) (N := 3) (v := .int (nI (W 3))) hx hb hts hi_X7_take_r9_X7 hown hw (by omega) (isV_9 hW) rfl 2 (by decide) wl_X7_take_r9_6 rfl rfl dX7_take_20 ?_
  obtain ⟨w3, ew3⟩ : ∃ f, f = va_up (cpA V (80 + 0) 24 (fun i => W (80 + (0 + i)))) 3 (W 3) := ⟨_, rfl⟩
  refine nr_put (own := RX7) (C := RX7) (T := TX7) (N := 3) (ty := .int) (v := .int (nI (W 3))) (fs' := [.ref (ad Γ (b + 13)), .int (nI 6), .int (nI (w3 3))]) hx hb hts hi_X7_take_r9_X7 tyX7 tyX7_ok nmX7 hown hw hj hA hS (by omega) (isV_9 hV) rfl 2 (by decide) wl_X7_take_r9_6 rfl rfl (by decide +kernel) rfl rfl (Nat.le_of_ble_eq_true rfl) (by rw [ew3]; rfl) dX7_take_23 (fun H locs hw hS => ?_)
  subst ew3
  obtain ⟨G2, hw, hV, hf2⟩ := nv_c9 hV (va_up (cpA V (80 + 0) 24 (fun i => W (80 + (0 + i)))) 3 (W 3)) hw (fun j h1 => va_up_ne _ _ (by assumption))
  have hW := isV_fr hW hf2 (by omega)
  have hfr := fr_tr hfr hf2 (by omega) (by omega)
  exact nr_retV hx hb hr hlocks hw hS (⟨hV, hfr⟩) dX7_take_26
theorem wl_X7_take_r10_1 : Cond.fieldLink RX7 13 "BellForgiven$Rows" "cells" "[I" ∈ wsX7_take := List.mem_of_getElem? (i := 1) rfl
theorem wl_X7_take_r10_2 : Cond.methodLink RX7 20 arraycopyName ∈ wsX7_take := List.mem_of_getElem? (i := 2) rfl
theorem wl_X7_take_r10_3 : Cond.native arraycopyName ∈ wsX7_take := List.mem_of_getElem? (i := 3) rfl
theorem wl_X7_take_r10_4 : Cond.static arraycopyName ∈ wsX7_take := List.mem_of_getElem? (i := 4) rfl
theorem wl_X7_take_r10_5 : Cond.initialized "java/lang/System" ∈ wsX7_take := List.mem_of_getElem? (i := 5) rfl
theorem wl_X7_take_r10_6 : Cond.fieldLink RX7 17 "BellForgiven$Rows" "size" "I" ∈ wsX7_take := List.mem_of_getElem? (i := 6) rfl
theorem hi_X7_take_r10_X7 : ∀ w ∈ u_ws RX7 TX7 3, w ∈ wsX7_take := fun w h => (List.mem_cons_of_mem _ (List.mem_append_right _ h))
set_option maxHeartbeats 4000000 in
set_option maxRecDepth 100000 in
theorem c_X7_take_r10 (l : Launch) (Γ : Gam) (n : Nat) (G : Nat → va_E) (b o : Nat) (V W : Nat → Nat) (hV : isV Γ G b V) (hW : isV Γ G o W) (hn_b : b + 16 ≤ n) (hn_o : o + 16 ≤ n) (hj : winj Γ n) (hdis : o + 16 ≤ b ∨ b + 16 ≤ o)  : Met l yX7_take wsX7_take ({ frames := 1, cells := 0, slots := 0, locals := 26 }) (va_Pc [.ref (ad Γ (b + 10)), .ref (ad Γ (o + 10))] (fun U => hw Γ n G U U.heap)) (wQv Γ n (fun G2 => isV Γ G2 b (va_up (cpA V (104 + 0) 24 (fun i => W (104 + (0 + i)))) 4 (W 4)) ∧ fr G G2 (b + 0) (b + 16))) 0 0 (wA Γ n) := by
  refine Met.ofW (cc := cX7_take) (maxL := 2) (ret := none) (by decide) rfl ?_
  intro p e s m args below meth c s₁ B hml hv
  obtain ⟨rfl, hw⟩ := hv
  have hx := B.exec
  have hb := B.bytes
  have hr := B.returns
  have hts := atoms_spec (ws := wsX7_take) B.pre
  have hown : s.vm.findClass RX7 = some m.cls := findClass_of_methodNamed B.named
  have hlocks := B.notSynchronized
  have hS : va_S (wA Γ n) s.heap s.heap [] := va_S.rf
  have hA : ∀ q, wA Γ n q → wA Γ n q := fun _ h => h
  have hl := lv_entry ([.ref (ad Γ (b + 10)), .ref (ad Γ (o + 10))]) (n := 2) (Nat.le_of_ble_eq_true rfl)
  rw [lg_entry_eq]
  generalize (lg_sl ([.ref (ad Γ (b + 10)), .ref (ad Γ (o + 10))]) ++ List.replicate (2 - (lg_sl ([.ref (ad Γ (b + 10)), .ref (ad Γ (o + 10))])).length) Slot.unset).toArray = ls at hl ⊢
  have hl : lv_has ls 2 [(0, .ref (ad Γ (b + 10))), (1, .ref (ad Γ (o + 10)))] := hl
  have hfr := fr_rf G (b + 0) (b + 16)
  refine lv_aload_n hx hb dX7_take_0 rfl (lv_at hl 1 rfl) ?_
  refine nr_get (own := RX7) (C := RX7) (T := TX7) (N := 3) (v := .ref (ad Γ (o + 14))) hx hb hts hi_X7_take_r10_X7 hown hw (by omega) (isV_10 hW) rfl 0 (by decide) wl_X7_take_r10_1 rfl rfl dX7_take_1 ?_
  refine lv_iconst (v := nI 0) hx hb dX7_take_4 (by decide) ?_
  refine lv_aload_n hx hb dX7_take_5 rfl (lv_at hl 0 rfl) ?_
  refine nr_get (own := RX7) (C := RX7) (T := TX7) (N := 3) (v := .ref (ad Γ (b + 14))) hx hb hts hi_X7_take_r10_X7 hown hw (by omega) (isV_10 hV) rfl 0 (by decide) wl_X7_take_r10_1 rfl rfl dX7_take_6 ?_
  refine lv_iconst (v := nI 0) hx hb dX7_take_9 (by decide) ?_
  refine lv_aload_n hx hb dX7_take_10 rfl (lv_at hl 0 rfl) ?_
  refine nr_get (own := RX7) (C := RX7) (T := TX7) (N := 3) (v := .ref (ad Γ (b + 14))) hx hb hts hi_X7_take_r10_X7 hown hw (by omega) (isV_10 hV) rfl 0 (by decide) wl_X7_take_r10_1 rfl rfl dX7_take_11 ?_
  refine nr_alen (len := 24) hx hb hw (by omega) (isV_14 hV) dX7_take_14 ?_
  refine nr_copyi hx hb (hml.trans hl.1.symm) hown (hts _ wl_X7_take_r10_2) (hts _ wl_X7_take_r10_3) (hts _ wl_X7_take_r10_4) (hts _ wl_X7_take_r10_5) hw hj hA hS (by omega) (by omega) (isV_14 hW) (isV_14 hV) (by decide) (by decide) (by decide) (by omega) (by omega) (Nat.le_of_ble_eq_true rfl) (Nat.le_of_ble_eq_true rfl) dX7_take_15 (fun H locs hw hS => ?_)
  obtain ⟨G1, hw, hV, hf1⟩ := nv_c14 hV (cpA V (104 + 0) 24 (fun i => W (104 + (0 + i)))) (va_cpy (fun j => W (104 + j)) (fun j => V (104 + j)) 0 0 24) hw (fun j hj => cpA_out (by omega)) (fun j hj => cp_sh _ _ _ _ _ _ _)
  have hW := isV_fr hW hf1 (by omega)
  have hfr := fr_tr hfr hf1 (by omega) (by omega)
  refine lv_aload_n hx hb dX7_take_18 rfl (lv_at hl 0 rfl) ?_
  refine lv_aload_n hx hb dX7_take_19 rfl (lv_at hl 1 rfl) ?_
  refine nr_get (own := RX7) (C := RX7) (T := TX7) (N := 3) (v := .int (nI (W 4))) hx hb hts hi_X7_take_r10_X7 hown hw (by omega) (isV_10 hW) rfl 2 (by decide) wl_X7_take_r10_6 rfl rfl dX7_take_20 ?_
  obtain ⟨w3, ew3⟩ : ∃ f, f = va_up (cpA V (104 + 0) 24 (fun i => W (104 + (0 + i)))) 4 (W 4) := ⟨_, rfl⟩
  refine nr_put (own := RX7) (C := RX7) (T := TX7) (N := 3) (ty := .int) (v := .int (nI (W 4))) (fs' := [.ref (ad Γ (b + 14)), .int (nI 6), .int (nI (w3 4))]) hx hb hts hi_X7_take_r10_X7 tyX7 tyX7_ok nmX7 hown hw hj hA hS (by omega) (isV_10 hV) rfl 2 (by decide) wl_X7_take_r10_6 rfl rfl (by decide +kernel) rfl rfl (Nat.le_of_ble_eq_true rfl) (by rw [ew3]; rfl) dX7_take_23 (fun H locs hw hS => ?_)
  subst ew3
  obtain ⟨G2, hw, hV, hf2⟩ := nv_c10 hV (va_up (cpA V (104 + 0) 24 (fun i => W (104 + (0 + i)))) 4 (W 4)) hw (fun j h1 => va_up_ne _ _ (by assumption))
  have hW := isV_fr hW hf2 (by omega)
  have hfr := fr_tr hfr hf2 (by omega) (by omega)
  exact nr_retV hx hb hr hlocks hw hS (⟨hV, hfr⟩) dX7_take_26
theorem wl_X4_push_1 : Cond.fieldLink RX4 15 "BellForgiven$Past" "size" "I" ∈ wsX4_push := List.mem_of_getElem? (i := 1) rfl
theorem wl_X4_push_2 : Cond.fieldLink RX4 11 "BellForgiven$Past" "cells" "[I" ∈ wsX4_push := List.mem_of_getElem? (i := 2) rfl
theorem wl_X4_push_3 : Cond.methodLink RX4 19 arraycopyName ∈ wsX4_push := List.mem_of_getElem? (i := 3) rfl
theorem wl_X4_push_4 : Cond.native arraycopyName ∈ wsX4_push := List.mem_of_getElem? (i := 4) rfl
theorem wl_X4_push_5 : Cond.static arraycopyName ∈ wsX4_push := List.mem_of_getElem? (i := 5) rfl
theorem wl_X4_push_6 : Cond.initialized "java/lang/System" ∈ wsX4_push := List.mem_of_getElem? (i := 6) rfl
theorem wl_X4_push_7 : Cond.fieldLink RX4 25 "BellForgiven$Valley" "rung" "[I" ∈ wsX4_push := List.mem_of_getElem? (i := 7) rfl
theorem wl_X4_push_8 : Cond.fieldLink RX4 30 "BellForgiven$Valley" "age" "[I" ∈ wsX4_push := List.mem_of_getElem? (i := 8) rfl
theorem wl_X4_push_9 : Cond.fieldLink RX4 33 "BellForgiven$Valley" "letOff" "I" ∈ wsX4_push := List.mem_of_getElem? (i := 9) rfl
theorem wl_X4_push_10 : Cond.fieldLink RX4 36 "BellForgiven$Valley" "day" "I" ∈ wsX4_push := List.mem_of_getElem? (i := 10) rfl
theorem hi_X4_push_X4 : ∀ w ∈ u_ws RX4 TX4 2, w ∈ wsX4_push := fun w h => (List.mem_cons_of_mem _ (List.mem_append_left _ (List.mem_append_right _ h)))
theorem hi_X4_push_X10 : ∀ w ∈ u_ws RX10 TX10 15, w ∈ wsX4_push := fun w h => (List.mem_cons_of_mem _ (List.mem_append_right _ h))
set_option maxHeartbeats 4000000 in
set_option maxRecDepth 100000 in
theorem c_X4_push (l : Launch) (Γ : Gam) (n : Nat) (G : Nat → va_E) (b : Nat) (V : Nat → Nat) (hV : isV Γ G b V) (hn_b : b + 16 ≤ n) (hj : winj Γ n) (hI : vI V)  : Met l yX4_push wsX4_push ({ frames := 1, cells := 0, slots := 0, locals := 26 }) (va_Pc [.ref (ad Γ (b + 11)), .ref (ad Γ (b + 0))] (fun U => hw Γ n G U U.heap)) (wQv Γ n (fun G2 => isV Γ G2 b (saveR V) ∧ fr G G2 (b + 0) (b + 16))) 0 0 (wA Γ n) := by
  refine Met.ofW (cc := cX4_push) (maxL := 3) (ret := none) (by decide) rfl ?_
  intro p e s m args below meth c s₁ B hml hv
  obtain ⟨rfl, hw⟩ := hv
  have hx := B.exec
  have hb := B.bytes
  have hr := B.returns
  have hts := atoms_spec (ws := wsX4_push) B.pre
  have hown : s.vm.findClass RX4 = some m.cls := findClass_of_methodNamed B.named
  have hlocks := B.notSynchronized
  have hS : va_S (wA Γ n) s.heap s.heap [] := va_S.rf
  have hA : ∀ q, wA Γ n q → wA Γ n q := fun _ h => h
  have hl := lv_entry ([.ref (ad Γ (b + 11)), .ref (ad Γ (b + 0))]) (n := 3) (Nat.le_of_ble_eq_true rfl)
  rw [lg_entry_eq]
  generalize (lg_sl ([.ref (ad Γ (b + 11)), .ref (ad Γ (b + 0))]) ++ List.replicate (3 - (lg_sl ([.ref (ad Γ (b + 11)), .ref (ad Γ (b + 0))])).length) Slot.unset).toArray = ls at hl ⊢
  have hl : lv_has ls 3 [(0, .ref (ad Γ (b + 11))), (1, .ref (ad Γ (b + 0)))] := hl
  have hfr := fr_rf G (b + 0) (b + 16)
  have hB := hI.1
  have hB0 := hI.2.1
  have hB1 := hI.2.2.1
  have hB20 := hI.2.2.2.2.2.2.2.2.2
  have hBz2 := hI.2.2.2.1
  have hBz3 := hI.2.2.2.2.1
  have hBz4 := hI.2.2.2.2.2.1
  have hBz5 := hI.2.2.2.2.2.2.1
  have hBd := hB 21
  refine lv_aload_n hx hb dX4_push_0 rfl (lv_at hl 0 rfl) ?_
  refine nr_get (own := RX4) (C := RX4) (T := TX4) (N := 2) (v := .int (nI (V 5))) hx hb hts hi_X4_push_X4 hown hw (by omega) (isV_11 hV) rfl 1 (by decide) wl_X4_push_1 rfl rfl dX4_push_1 ?_
  refine lv_bipush (v := nI 8) hx hb dX4_push_4 (by decide) ?_
  refine nr_icmp_ne (tgt := 35) hx hb (by omega) (by decide) dX4_push_6 (by decide) (fun c1 => ?_) (fun c1 => ?_)
  · obtain ⟨VF, eVF⟩ : ∃ f, f = fullR V := ⟨_, rfl⟩
    have e9 : V = VF := by rw [eVF]; unfold fullR; rw [if_neg (by omega)]
    rw [e9] at hV
    have hIF : ∀ j, VF j ≤ 1999 := by rw [eVF]; exact full_le hI
    have hF5 : VF 5 ≤ 7 := by rw [eVF]; exact fullR_5 (by omega)
    refine lv_aload_n hx hb dX4_push_35 rfl (lv_at hl 0 rfl) ?_
    refine nr_get (own := RX4) (C := RX4) (T := TX4) (N := 2) (v := .int (nI (VF 5))) hx hb hts hi_X4_push_X4 hown hw (by omega) (isV_11 hV) rfl 1 (by decide) wl_X4_push_1 rfl rfl dX4_push_36 ?_
    refine lv_bipush (v := nI 16) hx hb dX4_push_39 (by decide) ?_
    refine nr_imul hx hb dX4_push_41 ?_
    refine lv_istore_n (lv' := [(2, .int (nI ((VF 5) * 16))), (0, .ref (ad Γ (b + 11))), (1, .ref (ad Γ (b + 0)))]) hx hb dX4_push_42 rfl hl (by decide) rfl (fun ls hl => ?_)
    refine lv_aload_n hx hb dX4_push_43 rfl (lv_at hl 2 rfl) ?_
    refine nr_get (own := RX4) (C := RX10) (T := TX10) (N := 15) (v := .ref (ad Γ (b + 2))) hx hb hts hi_X4_push_X10 hown hw (by omega) (isV_0 hV) rfl 2 (by decide) wl_X4_push_7 rfl rfl dX4_push_44 ?_
    refine lv_iconst (v := nI 0) hx hb dX4_push_47 (by decide) ?_
    refine lv_aload_n hx hb dX4_push_48 rfl (lv_at hl 1 rfl) ?_
    refine nr_get (own := RX4) (C := RX4) (T := TX4) (N := 2) (v := .ref (ad Γ (b + 15))) hx hb hts hi_X4_push_X4 hown hw (by omega) (isV_11 hV) rfl 0 (by decide) wl_X4_push_2 rfl rfl dX4_push_49 ?_
    refine lv_iload_n hx hb dX4_push_52 rfl (lv_at hl 0 rfl) ?_
    refine lv_bipush (v := nI 6) hx hb dX4_push_53 (by decide) ?_
    refine nr_copyi hx hb (hml.trans hl.1.symm) hown (hts _ wl_X4_push_3) (hts _ wl_X4_push_4) (hts _ wl_X4_push_5) (hts _ wl_X4_push_6) hw hj hA hS (by omega) (by omega) (isV_2 hV) (isV_15 hV) (by decide) (by omega) (by decide) (by omega) (by omega) (Nat.le_of_ble_eq_true rfl) (Nat.le_of_ble_eq_true rfl) dX4_push_55 (fun H locs hw hS => ?_)
    obtain ⟨G3, hw, hV, hf3⟩ := nv_c15 hV (cpA VF (128 + ((VF 5) * 16)) 6 (fun i => VF (6 + (0 + i)))) (va_cpy (fun j => VF (6 + j)) (fun j => VF (128 + j)) 0 ((VF 5) * 16) 6) hw (fun j hj => cpA_out (by omega)) (fun j hj => cp_sh _ _ _ _ _ _ _)
    have hfr := fr_tr hfr hf3 (by omega) (by omega)
    refine lv_aload_n hx hb dX4_push_58 rfl (lv_at hl 2 rfl) ?_
    refine nr_get (own := RX4) (C := RX10) (T := TX10) (N := 15) (v := .ref (ad Γ (b + 7))) hx hb hts hi_X4_push_X10 hown hw (by omega) (isV_0 hV) rfl 8 (by decide) wl_X4_push_8 rfl rfl dX4_push_59 ?_
    refine lv_iconst (v := nI 0) hx hb dX4_push_62 (by decide) ?_
    refine lv_aload_n hx hb dX4_push_63 rfl (lv_at hl 1 rfl) ?_
    refine nr_get (own := RX4) (C := RX4) (T := TX4) (N := 2) (v := .ref (ad Γ (b + 15))) hx hb hts hi_X4_push_X4 hown hw (by omega) (isV_11 hV) rfl 0 (by decide) wl_X4_push_2 rfl rfl dX4_push_64 ?_
    refine lv_iload_n hx hb dX4_push_67 rfl (lv_at hl 0 rfl) ?_
    refine lv_bipush (v := nI 6) hx hb dX4_push_68 (by decide) ?_
    refine nr_iadd hx hb dX4_push_70 ?_
    refine lv_bipush (v := nI 8) hx hb dX4_push_71 (by decide) ?_
    refine nr_copyi hx hb (hml.trans hl.1.symm) hown (hts _ wl_X4_push_3) (hts _ wl_X4_push_4) (hts _ wl_X4_push_5) (hts _ wl_X4_push_6) hw hj hA hS (by omega) (by omega) (isV_7 hV) (isV_15 hV) (by decide) (by omega) (by decide) (by omega) (by omega) (Nat.le_of_ble_eq_true rfl) (Nat.le_of_ble_eq_true rfl) dX4_push_73 (fun H locs hw hS => ?_)
    obtain ⟨G4, hw, hV, hf4⟩ := nv_c15 hV (cpA (cpA VF (128 + ((VF 5) * 16)) 6 (fun i => VF (6 + (0 + i)))) (128 + ((VF 5) * 16 + 6)) 8 (fun i => (cpA VF (128 + ((VF 5) * 16)) 6 (fun i => VF (6 + (0 + i)))) (12 + (0 + i)))) (va_cpy (fun j => (cpA VF (128 + ((VF 5) * 16)) 6 (fun i => VF (6 + (0 + i)))) (12 + j)) (fun j => (cpA VF (128 + ((VF 5) * 16)) 6 (fun i => VF (6 + (0 + i)))) (128 + j)) 0 ((VF 5) * 16 + 6) 8) hw (fun j hj => cpA_out (by omega)) (fun j hj => cp_sh _ _ _ _ _ _ _)
    have hfr := fr_tr hfr hf4 (by omega) (by omega)
    refine lv_aload_n hx hb dX4_push_76 rfl (lv_at hl 1 rfl) ?_
    refine nr_get (own := RX4) (C := RX4) (T := TX4) (N := 2) (v := .ref (ad Γ (b + 15))) hx hb hts hi_X4_push_X4 hown hw (by omega) (isV_11 hV) rfl 0 (by decide) wl_X4_push_2 rfl rfl dX4_push_77 ?_
    refine lv_iload_n hx hb dX4_push_80 rfl (lv_at hl 0 rfl) ?_
    refine lv_bipush (v := nI 16) hx hb dX4_push_81 (by decide) ?_
    refine nr_iadd hx hb dX4_push_83 ?_
    refine lv_iconst (v := nI 2) hx hb dX4_push_84 (by decide) ?_
    refine nr_isub hx hb (by omega) dX4_push_85 ?_
    refine lv_aload_n hx hb dX4_push_86 rfl (lv_at hl 2 rfl) ?_
    refine nr_get (own := RX4) (C := RX10) (T := TX10) (N := 15) (v := .int (nI (VF 20))) hx hb hts hi_X4_push_X10 hown hw (by omega) (isV_0 hV) rfl 9 (by decide) wl_X4_push_9 rfl (congrArg (fun z => some (Value.int (nI z))) (show (cpA (cpA VF (128 + ((VF 5) * 16)) 6 (fun i => VF (6 + (0 + i)))) (128 + ((VF 5) * 16 + 6)) 8 (fun i => (cpA VF (128 + ((VF 5) * 16)) 6 (fun i => VF (6 + (0 + i)))) (12 + (0 + i)))) 20 = VF 20 from by first | rfl | (simp only [va_up, cpA]; (repeat' split) <;> first | rfl | omega | contradiction | (exfalso; omega) | simp_all))) dX4_push_87 ?_
    refine nr_iast (k := ((VF 5) * 16 + 16) - 2) (v := VF 20) hx hb hw hj hA hS (by omega) (isV_15 hV) (by omega) (by decide) dX4_push_90 (fun H locs hw hS => ?_)
    obtain ⟨G5, hw, hV, hf5⟩ := nv_c15 hV (va_up (cpA (cpA VF (128 + ((VF 5) * 16)) 6 (fun i => VF (6 + (0 + i)))) (128 + ((VF 5) * 16 + 6)) 8 (fun i => (cpA VF (128 + ((VF 5) * 16)) 6 (fun i => VF (6 + (0 + i)))) (12 + (0 + i)))) (128 + (((VF 5) * 16 + 16) - 2)) (VF 20)) (va_up (fun j => (cpA (cpA VF (128 + ((VF 5) * 16)) 6 (fun i => VF (6 + (0 + i)))) (128 + ((VF 5) * 16 + 6)) 8 (fun i => (cpA VF (128 + ((VF 5) * 16)) 6 (fun i => VF (6 + (0 + i)))) (12 + (0 + i)))) (128 + j)) (((VF 5) * 16 + 16) - 2) (VF 20)) hw (fun j hj => va_up_ne _ _ (by omega)) (fun j hj => up_sh _ _ _ _ _)
    have hfr := fr_tr hfr hf5 (by omega) (by omega)
    refine lv_aload_n hx hb dX4_push_91 rfl (lv_at hl 1 rfl) ?_
    refine nr_get (own := RX4) (C := RX4) (T := TX4) (N := 2) (v := .ref (ad Γ (b + 15))) hx hb hts hi_X4_push_X4 hown hw (by omega) (isV_11 hV) rfl 0 (by decide) wl_X4_push_2 rfl rfl dX4_push_92 ?_
    refine lv_iload_n hx hb dX4_push_95 rfl (lv_at hl 0 rfl) ?_
    refine lv_bipush (v := nI 16) hx hb dX4_push_96 (by decide) ?_
    refine nr_iadd hx hb dX4_push_98 ?_
    refine lv_iconst (v := nI 1) hx hb dX4_push_99 (by decide) ?_
    refine nr_isub hx hb (by omega) dX4_push_100 ?_
    refine lv_aload_n hx hb dX4_push_101 rfl (lv_at hl 2 rfl) ?_
    refine nr_get (own := RX4) (C := RX10) (T := TX10) (N := 15) (v := .int (nI (VF 21))) hx hb hts hi_X4_push_X10 hown hw (by omega) (isV_0 hV) rfl 10 (by decide) wl_X4_push_10 rfl (congrArg (fun z => some (Value.int (nI z))) (show (va_up (cpA (cpA VF (128 + ((VF 5) * 16)) 6 (fun i => VF (6 + (0 + i)))) (128 + ((VF 5) * 16 + 6)) 8 (fun i => (cpA VF (128 + ((VF 5) * 16)) 6 (fun i => VF (6 + (0 + i)))) (12 + (0 + i)))) (128 + (((VF 5) * 16 + 16) - 2)) (VF 20)) 21 = VF 21 from by first | rfl | (simp only [va_up, cpA]; (repeat' split) <;> first | rfl | omega | contradiction | (exfalso; omega) | simp_all))) dX4_push_102 ?_
    refine nr_iast (k := ((VF 5) * 16 + 16) - 1) (v := VF 21) hx hb hw hj hA hS (by omega) (isV_15 hV) (by omega) (by decide) dX4_push_105 (fun H locs hw hS => ?_)
    obtain ⟨G6, hw, hV, hf6⟩ := nv_c15 hV (va_up (va_up (cpA (cpA VF (128 + ((VF 5) * 16)) 6 (fun i => VF (6 + (0 + i)))) (128 + ((VF 5) * 16 + 6)) 8 (fun i => (cpA VF (128 + ((VF 5) * 16)) 6 (fun i => VF (6 + (0 + i)))) (12 + (0 + i)))) (128 + (((VF 5) * 16 + 16) - 2)) (VF 20)) (128 + (((VF 5) * 16 + 16) - 1)) (VF 21)) (va_up (fun j => (va_up (cpA (cpA VF (128 + ((VF 5) * 16)) 6 (fun i => VF (6 + (0 + i)))) (128 + ((VF 5) * 16 + 6)) 8 (fun i => (cpA VF (128 + ((VF 5) * 16)) 6 (fun i => VF (6 + (0 + i)))) (12 + (0 + i)))) (128 + (((VF 5) * 16 + 16) - 2)) (VF 20)) (128 + j)) (((VF 5) * 16 + 16) - 1) (VF 21)) hw (fun j hj => va_up_ne _ _ (by omega)) (fun j hj => up_sh _ _ _ _ _)
    have hfr := fr_tr hfr hf6 (by omega) (by omega)
    refine lv_aload_n hx hb dX4_push_106 rfl (lv_at hl 1 rfl) ?_
    refine lv_dup hx hb dX4_push_107 rfl ?_
    refine nr_get (own := RX4) (C := RX4) (T := TX4) (N := 2) (v := .int (nI (VF 5))) hx hb hts hi_X4_push_X4 hown hw (by omega) (isV_11 hV) rfl 1 (by decide) wl_X4_push_1 rfl (congrArg (fun z => some (Value.int (nI z))) (show (va_up (va_up (cpA (cpA VF (128 + ((VF 5) * 16)) 6 (fun i => VF (6 + (0 + i)))) (128 + ((VF 5) * 16 + 6)) 8 (fun i => (cpA VF (128 + ((VF 5) * 16)) 6 (fun i => VF (6 + (0 + i)))) (12 + (0 + i)))) (128 + (((VF 5) * 16 + 16) - 2)) (VF 20)) (128 + (((VF 5) * 16 + 16) - 1)) (VF 21)) 5 = VF 5 from by first | rfl | (simp only [va_up, cpA]; (repeat' split) <;> first | rfl | omega | contradiction | (exfalso; omega) | simp_all))) dX4_push_108 ?_
    refine lv_iconst (v := nI 1) hx hb dX4_push_111 (by decide) ?_
    refine nr_iadd hx hb dX4_push_112 ?_
    obtain ⟨w8, ew8⟩ : ∃ f, f = va_up (va_up (va_up (cpA (cpA VF (128 + ((VF 5) * 16)) 6 (fun i => VF (6 + (0 + i)))) (128 + ((VF 5) * 16 + 6)) 8 (fun i => (cpA VF (128 + ((VF 5) * 16)) 6 (fun i => VF (6 + (0 + i)))) (12 + (0 + i)))) (128 + (((VF 5) * 16 + 16) - 2)) (VF 20)) (128 + (((VF 5) * 16 + 16) - 1)) (VF 21)) 5 (VF 5 + 1) := ⟨_, rfl⟩
    refine nr_put (own := RX4) (C := RX4) (T := TX4) (N := 2) (ty := .int) (v := .int (nI (VF 5 + 1))) (fs' := [.ref (ad Γ (b + 15)), .int (nI (w8 5))]) hx hb hts hi_X4_push_X4 tyX4 tyX4_ok nmX4 hown hw hj hA hS (by omega) (isV_11 hV) rfl 1 (by decide) wl_X4_push_1 rfl rfl (by decide +kernel) rfl rfl (Nat.le_of_ble_eq_true rfl) (by rw [ew8]; rfl) dX4_push_113 (fun H locs hw hS => ?_)
    subst ew8
    obtain ⟨G7, hw, hV, hf7⟩ := nv_c11 hV (va_up (va_up (va_up (cpA (cpA VF (128 + ((VF 5) * 16)) 6 (fun i => VF (6 + (0 + i)))) (128 + ((VF 5) * 16 + 6)) 8 (fun i => (cpA VF (128 + ((VF 5) * 16)) 6 (fun i => VF (6 + (0 + i)))) (12 + (0 + i)))) (128 + (((VF 5) * 16 + 16) - 2)) (VF 20)) (128 + (((VF 5) * 16 + 16) - 1)) (VF 21)) 5 (VF 5 + 1)) hw (fun j h1 => va_up_ne _ _ (by assumption))
    have hfr := fr_tr hfr hf7 (by omega) (by omega)
    exact nr_retV hx hb hr hlocks hw hS (⟨by rw [← push_e2 (V := V) (W := VF) (s := VF 5) rfl (by omega) _ rfl eVF]; exact hV, hfr⟩) dX4_push_116
  · refine lv_aload_n hx hb dX4_push_9 rfl (lv_at hl 0 rfl) ?_
    refine nr_get (own := RX4) (C := RX4) (T := TX4) (N := 2) (v := .ref (ad Γ (b + 15))) hx hb hts hi_X4_push_X4 hown hw (by omega) (isV_11 hV) rfl 0 (by decide) wl_X4_push_2 rfl rfl dX4_push_10 ?_
    refine lv_bipush (v := nI 16) hx hb dX4_push_13 (by decide) ?_
    refine lv_aload_n hx hb dX4_push_15 rfl (lv_at hl 0 rfl) ?_
    refine nr_get (own := RX4) (C := RX4) (T := TX4) (N := 2) (v := .ref (ad Γ (b + 15))) hx hb hts hi_X4_push_X4 hown hw (by omega) (isV_11 hV) rfl 0 (by decide) wl_X4_push_2 rfl rfl dX4_push_16 ?_
    refine lv_iconst (v := nI 0) hx hb dX4_push_19 (by decide) ?_
    refine lv_bipush (v := nI 112) hx hb dX4_push_20 (by decide) ?_
    refine nr_copyi hx hb (hml.trans hl.1.symm) hown (hts _ wl_X4_push_3) (hts _ wl_X4_push_4) (hts _ wl_X4_push_5) (hts _ wl_X4_push_6) hw hj hA hS (by omega) (by omega) (isV_15 hV) (isV_15 hV) (by decide) (by decide) (by decide) (by omega) (by omega) (Nat.le_of_ble_eq_true rfl) (Nat.le_of_ble_eq_true rfl) dX4_push_22 (fun H locs hw hS => ?_)
    obtain ⟨G9, hw, hV, hf9⟩ := nv_c15 hV (cpA V (128 + 0) 112 (fun i => V (128 + (16 + i)))) (va_cpy (fun j => V (128 + j)) (fun j => V (128 + j)) 16 0 112) hw (fun j hj => cpA_out (by omega)) (fun j hj => cp_sh _ _ _ _ _ _ _)
    have hfr := fr_tr hfr hf9 (by omega) (by omega)
    refine lv_aload_n hx hb dX4_push_25 rfl (lv_at hl 0 rfl) ?_
    refine lv_dup hx hb dX4_push_26 rfl ?_
    refine nr_get (own := RX4) (C := RX4) (T := TX4) (N := 2) (v := .int (nI 8)) hx hb hts hi_X4_push_X4 hown hw (by omega) (isV_11 hV) rfl 1 (by decide) wl_X4_push_1 rfl (congrArg (fun z => some (Value.int (nI z))) (show (cpA V (128 + 0) 112 (fun i => V (128 + (16 + i)))) 5 = 8 from by simp only [va_up, cpA]; (repeat' split) <;> first | assumption | omega)) dX4_push_27 ?_
    refine lv_iconst (v := nI 1) hx hb dX4_push_30 (by decide) ?_
    refine nr_isub hx hb (by omega) dX4_push_31 ?_
    obtain ⟨w11, ew11⟩ : ∃ f, f = va_up (cpA V (128 + 0) 112 (fun i => V (128 + (16 + i)))) 5 (8 - 1) := ⟨_, rfl⟩
    refine nr_put (own := RX4) (C := RX4) (T := TX4) (N := 2) (ty := .int) (v := .int (nI (8 - 1))) (fs' := [.ref (ad Γ (b + 15)), .int (nI (w11 5))]) hx hb hts hi_X4_push_X4 tyX4 tyX4_ok nmX4 hown hw hj hA hS (by omega) (isV_11 hV) rfl 1 (by decide) wl_X4_push_1 rfl rfl (by decide +kernel) rfl rfl (Nat.le_of_ble_eq_true rfl) (by rw [ew11]; rfl) dX4_push_32 (fun H locs hw hS => ?_)
    subst ew11
    obtain ⟨G10, hw, hV, hf10⟩ := nv_c11 hV (va_up (cpA V (128 + 0) 112 (fun i => V (128 + (16 + i)))) 5 (8 - 1)) hw (fun j h1 => va_up_ne _ _ (by assumption))
    have hfr := fr_tr hfr hf10 (by omega) (by omega)
    obtain ⟨VF, eVF⟩ : ∃ f, f = fullR V := ⟨_, rfl⟩
    have e9 : (va_up (cpA V (128 + 0) 112 (fun i => V (128 + (16 + i)))) 5 (8 - 1)) = VF := by rw [eVF]; exact push_e1 (by omega) _ rfl
    rw [e9] at hV
    have hIF : ∀ j, VF j ≤ 1999 := by rw [eVF]; exact full_le hI
    have hF5 : VF 5 ≤ 7 := by rw [eVF]; exact fullR_5 (by omega)
    refine lv_aload_n hx hb dX4_push_35 rfl (lv_at hl 0 rfl) ?_
    refine nr_get (own := RX4) (C := RX4) (T := TX4) (N := 2) (v := .int (nI (VF 5))) hx hb hts hi_X4_push_X4 hown hw (by omega) (isV_11 hV) rfl 1 (by decide) wl_X4_push_1 rfl rfl dX4_push_36 ?_
    refine lv_bipush (v := nI 16) hx hb dX4_push_39 (by decide) ?_
    refine nr_imul hx hb dX4_push_41 ?_
    refine lv_istore_n (lv' := [(2, .int (nI ((VF 5) * 16))), (0, .ref (ad Γ (b + 11))), (1, .ref (ad Γ (b + 0)))]) hx hb dX4_push_42 rfl hl (by decide) rfl (fun ls hl => ?_)
    refine lv_aload_n hx hb dX4_push_43 rfl (lv_at hl 2 rfl) ?_
    refine nr_get (own := RX4) (C := RX10) (T := TX10) (N := 15) (v := .ref (ad Γ (b + 2))) hx hb hts hi_X4_push_X10 hown hw (by omega) (isV_0 hV) rfl 2 (by decide) wl_X4_push_7 rfl rfl dX4_push_44 ?_
    refine lv_iconst (v := nI 0) hx hb dX4_push_47 (by decide) ?_
    refine lv_aload_n hx hb dX4_push_48 rfl (lv_at hl 1 rfl) ?_
    refine nr_get (own := RX4) (C := RX4) (T := TX4) (N := 2) (v := .ref (ad Γ (b + 15))) hx hb hts hi_X4_push_X4 hown hw (by omega) (isV_11 hV) rfl 0 (by decide) wl_X4_push_2 rfl rfl dX4_push_49 ?_
    refine lv_iload_n hx hb dX4_push_52 rfl (lv_at hl 0 rfl) ?_
    refine lv_bipush (v := nI 6) hx hb dX4_push_53 (by decide) ?_
    refine nr_copyi hx hb (hml.trans hl.1.symm) hown (hts _ wl_X4_push_3) (hts _ wl_X4_push_4) (hts _ wl_X4_push_5) (hts _ wl_X4_push_6) hw hj hA hS (by omega) (by omega) (isV_2 hV) (isV_15 hV) (by decide) (by omega) (by decide) (by omega) (by omega) (Nat.le_of_ble_eq_true rfl) (Nat.le_of_ble_eq_true rfl) dX4_push_55 (fun H locs hw hS => ?_)
    obtain ⟨G13, hw, hV, hf13⟩ := nv_c15 hV (cpA VF (128 + ((VF 5) * 16)) 6 (fun i => VF (6 + (0 + i)))) (va_cpy (fun j => VF (6 + j)) (fun j => VF (128 + j)) 0 ((VF 5) * 16) 6) hw (fun j hj => cpA_out (by omega)) (fun j hj => cp_sh _ _ _ _ _ _ _)
    have hfr := fr_tr hfr hf13 (by omega) (by omega)
    refine lv_aload_n hx hb dX4_push_58 rfl (lv_at hl 2 rfl) ?_
    refine nr_get (own := RX4) (C := RX10) (T := TX10) (N := 15) (v := .ref (ad Γ (b + 7))) hx hb hts hi_X4_push_X10 hown hw (by omega) (isV_0 hV) rfl 8 (by decide) wl_X4_push_8 rfl rfl dX4_push_59 ?_
    refine lv_iconst (v := nI 0) hx hb dX4_push_62 (by decide) ?_
    refine lv_aload_n hx hb dX4_push_63 rfl (lv_at hl 1 rfl) ?_
    refine nr_get (own := RX4) (C := RX4) (T := TX4) (N := 2) (v := .ref (ad Γ (b + 15))) hx hb hts hi_X4_push_X4 hown hw (by omega) (isV_11 hV) rfl 0 (by decide) wl_X4_push_2 rfl rfl dX4_push_64 ?_
    refine lv_iload_n hx hb dX4_push_67 rfl (lv_at hl 0 rfl) ?_
    refine lv_bipush (v := nI 6) hx hb dX4_push_68 (by decide) ?_
    refine nr_iadd hx hb dX4_push_70 ?_
    refine lv_bipush (v := nI 8) hx hb dX4_push_71 (by decide) ?_
    refine nr_copyi hx hb (hml.trans hl.1.symm) hown (hts _ wl_X4_push_3) (hts _ wl_X4_push_4) (hts _ wl_X4_push_5) (hts _ wl_X4_push_6) hw hj hA hS (by omega) (by omega) (isV_7 hV) (isV_15 hV) (by decide) (by omega) (by decide) (by omega) (by omega) (Nat.le_of_ble_eq_true rfl) (Nat.le_of_ble_eq_true rfl) dX4_push_73 (fun H locs hw hS => ?_)
    obtain ⟨G14, hw, hV, hf14⟩ := nv_c15 hV (cpA (cpA VF (128 + ((VF 5) * 16)) 6 (fun i => VF (6 + (0 + i)))) (128 + ((VF 5) * 16 + 6)) 8 (fun i => (cpA VF (128 + ((VF 5) * 16)) 6 (fun i => VF (6 + (0 + i)))) (12 + (0 + i)))) (va_cpy (fun j => (cpA VF (128 + ((VF 5) * 16)) 6 (fun i => VF (6 + (0 + i)))) (12 + j)) (fun j => (cpA VF (128 + ((VF 5) * 16)) 6 (fun i => VF (6 + (0 + i)))) (128 + j)) 0 ((VF 5) * 16 + 6) 8) hw (fun j hj => cpA_out (by omega)) (fun j hj => cp_sh _ _ _ _ _ _ _)
    have hfr := fr_tr hfr hf14 (by omega) (by omega)
    refine lv_aload_n hx hb dX4_push_76 rfl (lv_at hl 1 rfl) ?_
    refine nr_get (own := RX4) (C := RX4) (T := TX4) (N := 2) (v := .ref (ad Γ (b + 15))) hx hb hts hi_X4_push_X4 hown hw (by omega) (isV_11 hV) rfl 0 (by decide) wl_X4_push_2 rfl rfl dX4_push_77 ?_
    refine lv_iload_n hx hb dX4_push_80 rfl (lv_at hl 0 rfl) ?_
    refine lv_bipush (v := nI 16) hx hb dX4_push_81 (by decide) ?_
    refine nr_iadd hx hb dX4_push_83 ?_
    refine lv_iconst (v := nI 2) hx hb dX4_push_84 (by decide) ?_
    refine nr_isub hx hb (by omega) dX4_push_85 ?_
    refine lv_aload_n hx hb dX4_push_86 rfl (lv_at hl 2 rfl) ?_
    refine nr_get (own := RX4) (C := RX10) (T := TX10) (N := 15) (v := .int (nI (VF 20))) hx hb hts hi_X4_push_X10 hown hw (by omega) (isV_0 hV) rfl 9 (by decide) wl_X4_push_9 rfl (congrArg (fun z => some (Value.int (nI z))) (show (cpA (cpA VF (128 + ((VF 5) * 16)) 6 (fun i => VF (6 + (0 + i)))) (128 + ((VF 5) * 16 + 6)) 8 (fun i => (cpA VF (128 + ((VF 5) * 16)) 6 (fun i => VF (6 + (0 + i)))) (12 + (0 + i)))) 20 = VF 20 from by first | rfl | (simp only [va_up, cpA]; (repeat' split) <;> first | rfl | omega | contradiction | (exfalso; omega) | simp_all))) dX4_push_87 ?_
    refine nr_iast (k := ((VF 5) * 16 + 16) - 2) (v := VF 20) hx hb hw hj hA hS (by omega) (isV_15 hV) (by omega) (by decide) dX4_push_90 (fun H locs hw hS => ?_)
    obtain ⟨G15, hw, hV, hf15⟩ := nv_c15 hV (va_up (cpA (cpA VF (128 + ((VF 5) * 16)) 6 (fun i => VF (6 + (0 + i)))) (128 + ((VF 5) * 16 + 6)) 8 (fun i => (cpA VF (128 + ((VF 5) * 16)) 6 (fun i => VF (6 + (0 + i)))) (12 + (0 + i)))) (128 + (((VF 5) * 16 + 16) - 2)) (VF 20)) (va_up (fun j => (cpA (cpA VF (128 + ((VF 5) * 16)) 6 (fun i => VF (6 + (0 + i)))) (128 + ((VF 5) * 16 + 6)) 8 (fun i => (cpA VF (128 + ((VF 5) * 16)) 6 (fun i => VF (6 + (0 + i)))) (12 + (0 + i)))) (128 + j)) (((VF 5) * 16 + 16) - 2) (VF 20)) hw (fun j hj => va_up_ne _ _ (by omega)) (fun j hj => up_sh _ _ _ _ _)
    have hfr := fr_tr hfr hf15 (by omega) (by omega)
    refine lv_aload_n hx hb dX4_push_91 rfl (lv_at hl 1 rfl) ?_
    refine nr_get (own := RX4) (C := RX4) (T := TX4) (N := 2) (v := .ref (ad Γ (b + 15))) hx hb hts hi_X4_push_X4 hown hw (by omega) (isV_11 hV) rfl 0 (by decide) wl_X4_push_2 rfl rfl dX4_push_92 ?_
    refine lv_iload_n hx hb dX4_push_95 rfl (lv_at hl 0 rfl) ?_
    refine lv_bipush (v := nI 16) hx hb dX4_push_96 (by decide) ?_
    refine nr_iadd hx hb dX4_push_98 ?_
    refine lv_iconst (v := nI 1) hx hb dX4_push_99 (by decide) ?_
    refine nr_isub hx hb (by omega) dX4_push_100 ?_
    refine lv_aload_n hx hb dX4_push_101 rfl (lv_at hl 2 rfl) ?_
    refine nr_get (own := RX4) (C := RX10) (T := TX10) (N := 15) (v := .int (nI (VF 21))) hx hb hts hi_X4_push_X10 hown hw (by omega) (isV_0 hV) rfl 10 (by decide) wl_X4_push_10 rfl (congrArg (fun z => some (Value.int (nI z))) (show (va_up (cpA (cpA VF (128 + ((VF 5) * 16)) 6 (fun i => VF (6 + (0 + i)))) (128 + ((VF 5) * 16 + 6)) 8 (fun i => (cpA VF (128 + ((VF 5) * 16)) 6 (fun i => VF (6 + (0 + i)))) (12 + (0 + i)))) (128 + (((VF 5) * 16 + 16) - 2)) (VF 20)) 21 = VF 21 from by first | rfl | (simp only [va_up, cpA]; (repeat' split) <;> first | rfl | omega | contradiction | (exfalso; omega) | simp_all))) dX4_push_102 ?_
    refine nr_iast (k := ((VF 5) * 16 + 16) - 1) (v := VF 21) hx hb hw hj hA hS (by omega) (isV_15 hV) (by omega) (by decide) dX4_push_105 (fun H locs hw hS => ?_)
    obtain ⟨G16, hw, hV, hf16⟩ := nv_c15 hV (va_up (va_up (cpA (cpA VF (128 + ((VF 5) * 16)) 6 (fun i => VF (6 + (0 + i)))) (128 + ((VF 5) * 16 + 6)) 8 (fun i => (cpA VF (128 + ((VF 5) * 16)) 6 (fun i => VF (6 + (0 + i)))) (12 + (0 + i)))) (128 + (((VF 5) * 16 + 16) - 2)) (VF 20)) (128 + (((VF 5) * 16 + 16) - 1)) (VF 21)) (va_up (fun j => (va_up (cpA (cpA VF (128 + ((VF 5) * 16)) 6 (fun i => VF (6 + (0 + i)))) (128 + ((VF 5) * 16 + 6)) 8 (fun i => (cpA VF (128 + ((VF 5) * 16)) 6 (fun i => VF (6 + (0 + i)))) (12 + (0 + i)))) (128 + (((VF 5) * 16 + 16) - 2)) (VF 20)) (128 + j)) (((VF 5) * 16 + 16) - 1) (VF 21)) hw (fun j hj => va_up_ne _ _ (by omega)) (fun j hj => up_sh _ _ _ _ _)
    have hfr := fr_tr hfr hf16 (by omega) (by omega)
    refine lv_aload_n hx hb dX4_push_106 rfl (lv_at hl 1 rfl) ?_
    refine lv_dup hx hb dX4_push_107 rfl ?_
    refine nr_get (own := RX4) (C := RX4) (T := TX4) (N := 2) (v := .int (nI (VF 5))) hx hb hts hi_X4_push_X4 hown hw (by omega) (isV_11 hV) rfl 1 (by decide) wl_X4_push_1 rfl (congrArg (fun z => some (Value.int (nI z))) (show (va_up (va_up (cpA (cpA VF (128 + ((VF 5) * 16)) 6 (fun i => VF (6 + (0 + i)))) (128 + ((VF 5) * 16 + 6)) 8 (fun i => (cpA VF (128 + ((VF 5) * 16)) 6 (fun i => VF (6 + (0 + i)))) (12 + (0 + i)))) (128 + (((VF 5) * 16 + 16) - 2)) (VF 20)) (128 + (((VF 5) * 16 + 16) - 1)) (VF 21)) 5 = VF 5 from by first | rfl | (simp only [va_up, cpA]; (repeat' split) <;> first | rfl | omega | contradiction | (exfalso; omega) | simp_all))) dX4_push_108 ?_
    refine lv_iconst (v := nI 1) hx hb dX4_push_111 (by decide) ?_
    refine nr_iadd hx hb dX4_push_112 ?_
    obtain ⟨w18, ew18⟩ : ∃ f, f = va_up (va_up (va_up (cpA (cpA VF (128 + ((VF 5) * 16)) 6 (fun i => VF (6 + (0 + i)))) (128 + ((VF 5) * 16 + 6)) 8 (fun i => (cpA VF (128 + ((VF 5) * 16)) 6 (fun i => VF (6 + (0 + i)))) (12 + (0 + i)))) (128 + (((VF 5) * 16 + 16) - 2)) (VF 20)) (128 + (((VF 5) * 16 + 16) - 1)) (VF 21)) 5 (VF 5 + 1) := ⟨_, rfl⟩
    refine nr_put (own := RX4) (C := RX4) (T := TX4) (N := 2) (ty := .int) (v := .int (nI (VF 5 + 1))) (fs' := [.ref (ad Γ (b + 15)), .int (nI (w18 5))]) hx hb hts hi_X4_push_X4 tyX4 tyX4_ok nmX4 hown hw hj hA hS (by omega) (isV_11 hV) rfl 1 (by decide) wl_X4_push_1 rfl rfl (by decide +kernel) rfl rfl (Nat.le_of_ble_eq_true rfl) (by rw [ew18]; rfl) dX4_push_113 (fun H locs hw hS => ?_)
    subst ew18
    obtain ⟨G17, hw, hV, hf17⟩ := nv_c11 hV (va_up (va_up (va_up (cpA (cpA VF (128 + ((VF 5) * 16)) 6 (fun i => VF (6 + (0 + i)))) (128 + ((VF 5) * 16 + 6)) 8 (fun i => (cpA VF (128 + ((VF 5) * 16)) 6 (fun i => VF (6 + (0 + i)))) (12 + (0 + i)))) (128 + (((VF 5) * 16 + 16) - 2)) (VF 20)) (128 + (((VF 5) * 16 + 16) - 1)) (VF 21)) 5 (VF 5 + 1)) hw (fun j h1 => va_up_ne _ _ (by assumption))
    have hfr := fr_tr hfr hf17 (by omega) (by omega)
    exact nr_retV hx hb hr hlocks hw hS (⟨by rw [← push_e2 (V := V) (W := VF) (s := VF 5) rfl (by omega) _ rfl eVF]; exact hV, hfr⟩) dX4_push_116
theorem wl_X4_pop_1 : Cond.fieldLink RX4 15 "BellForgiven$Past" "size" "I" ∈ wsX4_pop := List.mem_of_getElem? (i := 1) rfl
theorem wl_X4_pop_2 : Cond.fieldLink RX4 11 "BellForgiven$Past" "cells" "[I" ∈ wsX4_pop := List.mem_of_getElem? (i := 2) rfl
theorem wl_X4_pop_3 : Cond.fieldLink RX4 25 "BellForgiven$Valley" "rung" "[I" ∈ wsX4_pop := List.mem_of_getElem? (i := 3) rfl
theorem wl_X4_pop_4 : Cond.methodLink RX4 19 arraycopyName ∈ wsX4_pop := List.mem_of_getElem? (i := 4) rfl
theorem wl_X4_pop_5 : Cond.native arraycopyName ∈ wsX4_pop := List.mem_of_getElem? (i := 5) rfl
theorem wl_X4_pop_6 : Cond.static arraycopyName ∈ wsX4_pop := List.mem_of_getElem? (i := 6) rfl
theorem wl_X4_pop_7 : Cond.initialized "java/lang/System" ∈ wsX4_pop := List.mem_of_getElem? (i := 7) rfl
theorem wl_X4_pop_8 : Cond.fieldLink RX4 30 "BellForgiven$Valley" "age" "[I" ∈ wsX4_pop := List.mem_of_getElem? (i := 8) rfl
theorem wl_X4_pop_9 : Cond.fieldLink RX4 33 "BellForgiven$Valley" "letOff" "I" ∈ wsX4_pop := List.mem_of_getElem? (i := 9) rfl
theorem wl_X4_pop_10 : Cond.fieldLink RX4 36 "BellForgiven$Valley" "day" "I" ∈ wsX4_pop := List.mem_of_getElem? (i := 10) rfl
theorem hi_X4_pop_X4 : ∀ w ∈ u_ws RX4 TX4 2, w ∈ wsX4_pop := fun w h => (List.mem_cons_of_mem _ (List.mem_append_left _ (List.mem_append_right _ h)))
theorem hi_X4_pop_X10 : ∀ w ∈ u_ws RX10 TX10 15, w ∈ wsX4_pop := fun w h => (List.mem_cons_of_mem _ (List.mem_append_right _ h))
set_option maxHeartbeats 4000000 in
set_option maxRecDepth 100000 in
theorem c_X4_pop (l : Launch) (Γ : Gam) (n : Nat) (G : Nat → va_E) (b : Nat) (V : Nat → Nat) (hV : isV Γ G b V) (hn_b : b + 16 ≤ n) (hj : winj Γ n) (hI : vI V) (h5 : 0 < V 5)  : Met l yX4_pop wsX4_pop ({ frames := 1, cells := 0, slots := 0, locals := 26 }) (va_Pc [.ref (ad Γ (b + 11)), .ref (ad Γ (b + 0))] (fun U => hw Γ n G U U.heap)) (wQv Γ n (fun G2 => isV Γ G2 b (popR V) ∧ fr G G2 (b + 0) (b + 16))) 0 0 (wA Γ n) := by
  refine Met.ofW (cc := cX4_pop) (maxL := 3) (ret := none) (by decide) rfl ?_
  intro p e s m args below meth c s₁ B hml hv
  obtain ⟨rfl, hw⟩ := hv
  have hx := B.exec
  have hb := B.bytes
  have hr := B.returns
  have hts := atoms_spec (ws := wsX4_pop) B.pre
  have hown : s.vm.findClass RX4 = some m.cls := findClass_of_methodNamed B.named
  have hlocks := B.notSynchronized
  have hS : va_S (wA Γ n) s.heap s.heap [] := va_S.rf
  have hA : ∀ q, wA Γ n q → wA Γ n q := fun _ h => h
  have hl := lv_entry ([.ref (ad Γ (b + 11)), .ref (ad Γ (b + 0))]) (n := 3) (Nat.le_of_ble_eq_true rfl)
  rw [lg_entry_eq]
  generalize (lg_sl ([.ref (ad Γ (b + 11)), .ref (ad Γ (b + 0))]) ++ List.replicate (3 - (lg_sl ([.ref (ad Γ (b + 11)), .ref (ad Γ (b + 0))])).length) Slot.unset).toArray = ls at hl ⊢
  have hl : lv_has ls 3 [(0, .ref (ad Γ (b + 11))), (1, .ref (ad Γ (b + 0)))] := hl
  have hfr := fr_rf G (b + 0) (b + 16)
  have hB := hI.1
  have hB0 := hI.2.1
  have hB1 := hI.2.2.1
  have hB20 := hI.2.2.2.2.2.2.2.2.2
  have hBz2 := hI.2.2.2.1
  have hBz3 := hI.2.2.2.2.1
  have hBz4 := hI.2.2.2.2.2.1
  have hBz5 := hI.2.2.2.2.2.2.1
  have hBd := hB 21
  refine lv_aload_n hx hb dX4_pop_0 rfl (lv_at hl 0 rfl) ?_
  refine nr_get (own := RX4) (C := RX4) (T := TX4) (N := 2) (v := .int (nI (V 5))) hx hb hts hi_X4_pop_X4 hown hw (by omega) (isV_11 hV) rfl 1 (by decide) wl_X4_pop_1 rfl rfl dX4_pop_1 ?_
  refine nr_if_ne (tgt := 8) hx hb (by omega) dX4_pop_4 (by decide) (fun c1 => ?_) (fun c1 => ?_)
  · refine lv_aload_n hx hb dX4_pop_8 rfl (lv_at hl 0 rfl) ?_
    refine lv_dup hx hb dX4_pop_9 rfl ?_
    refine nr_get (own := RX4) (C := RX4) (T := TX4) (N := 2) (v := .int (nI (V 5))) hx hb hts hi_X4_pop_X4 hown hw (by omega) (isV_11 hV) rfl 1 (by decide) wl_X4_pop_1 rfl rfl dX4_pop_10 ?_
    refine lv_iconst (v := nI 1) hx hb dX4_pop_13 (by decide) ?_
    refine nr_isub hx hb (by omega) dX4_pop_14 ?_
    obtain ⟨w3, ew3⟩ : ∃ f, f = va_up V 5 ((V 5) - 1) := ⟨_, rfl⟩
    refine nr_put (own := RX4) (C := RX4) (T := TX4) (N := 2) (ty := .int) (v := .int (nI ((V 5) - 1))) (fs' := [.ref (ad Γ (b + 15)), .int (nI (w3 5))]) hx hb hts hi_X4_pop_X4 tyX4 tyX4_ok nmX4 hown hw hj hA hS (by omega) (isV_11 hV) rfl 1 (by decide) wl_X4_pop_1 rfl rfl (by decide +kernel) rfl rfl (Nat.le_of_ble_eq_true rfl) (by rw [ew3]; rfl) dX4_pop_15 (fun H locs hw hS => ?_)
    subst ew3
    obtain ⟨G2, hw, hV, hf2⟩ := nv_c11 hV (va_up V 5 ((V 5) - 1)) hw (fun j h1 => va_up_ne _ _ (by assumption))
    have hfr := fr_tr hfr hf2 (by omega) (by omega)
    refine lv_aload_n hx hb dX4_pop_18 rfl (lv_at hl 0 rfl) ?_
    refine nr_get (own := RX4) (C := RX4) (T := TX4) (N := 2) (v := .int (nI (V 5 - 1))) hx hb hts hi_X4_pop_X4 hown hw (by omega) (isV_11 hV) rfl 1 (by decide) wl_X4_pop_1 rfl (congrArg (fun z => some (Value.int (nI z))) (show (va_up V 5 ((V 5) - 1)) 5 = V 5 - 1 from by first | rfl | (simp only [va_up, cpA]; (repeat' split) <;> first | rfl | omega | contradiction | (exfalso; omega) | simp_all))) dX4_pop_19 ?_
    refine lv_bipush (v := nI 16) hx hb dX4_pop_22 (by decide) ?_
    refine nr_imul hx hb dX4_pop_24 ?_
    refine lv_istore_n (lv' := [(2, .int (nI ((V 5 - 1) * 16))), (0, .ref (ad Γ (b + 11))), (1, .ref (ad Γ (b + 0)))]) hx hb dX4_pop_25 rfl hl (by decide) rfl (fun ls hl => ?_)
    refine lv_aload_n hx hb dX4_pop_26 rfl (lv_at hl 1 rfl) ?_
    refine nr_get (own := RX4) (C := RX4) (T := TX4) (N := 2) (v := .ref (ad Γ (b + 15))) hx hb hts hi_X4_pop_X4 hown hw (by omega) (isV_11 hV) rfl 0 (by decide) wl_X4_pop_2 rfl rfl dX4_pop_27 ?_
    refine lv_iload_n hx hb dX4_pop_30 rfl (lv_at hl 0 rfl) ?_
    refine lv_aload_n hx hb dX4_pop_31 rfl (lv_at hl 2 rfl) ?_
    refine nr_get (own := RX4) (C := RX10) (T := TX10) (N := 15) (v := .ref (ad Γ (b + 2))) hx hb hts hi_X4_pop_X10 hown hw (by omega) (isV_0 hV) rfl 2 (by decide) wl_X4_pop_3 rfl rfl dX4_pop_32 ?_
    refine lv_iconst (v := nI 0) hx hb dX4_pop_35 (by decide) ?_
    refine lv_bipush (v := nI 6) hx hb dX4_pop_36 (by decide) ?_
    refine nr_copyi hx hb (hml.trans hl.1.symm) hown (hts _ wl_X4_pop_4) (hts _ wl_X4_pop_5) (hts _ wl_X4_pop_6) (hts _ wl_X4_pop_7) hw hj hA hS (by omega) (by omega) (isV_15 hV) (isV_2 hV) (by omega) (by decide) (by decide) (by omega) (by omega) (Nat.le_of_ble_eq_true rfl) (Nat.le_of_ble_eq_true rfl) dX4_pop_38 (fun H locs hw hS => ?_)
    obtain ⟨G4, hw, hV, hf4⟩ := nv_c2 hV (cpA (va_up V 5 ((V 5) - 1)) (6 + 0) 6 (fun i => (va_up V 5 ((V 5) - 1)) (128 + (((V 5 - 1) * 16) + i)))) (va_cpy (fun j => (va_up V 5 ((V 5) - 1)) (128 + j)) (fun j => (va_up V 5 ((V 5) - 1)) (6 + j)) ((V 5 - 1) * 16) 0 6) hw (fun j hj => cpA_out (by omega)) (fun j hj => cp_sh _ _ _ _ _ _ _)
    have hfr := fr_tr hfr hf4 (by omega) (by omega)
    refine lv_aload_n hx hb dX4_pop_41 rfl (lv_at hl 1 rfl) ?_
    refine nr_get (own := RX4) (C := RX4) (T := TX4) (N := 2) (v := .ref (ad Γ (b + 15))) hx hb hts hi_X4_pop_X4 hown hw (by omega) (isV_11 hV) rfl 0 (by decide) wl_X4_pop_2 rfl rfl dX4_pop_42 ?_
    refine lv_iload_n hx hb dX4_pop_45 rfl (lv_at hl 0 rfl) ?_
    refine lv_bipush (v := nI 6) hx hb dX4_pop_46 (by decide) ?_
    refine nr_iadd hx hb dX4_pop_48 ?_
    refine lv_aload_n hx hb dX4_pop_49 rfl (lv_at hl 2 rfl) ?_
    refine nr_get (own := RX4) (C := RX10) (T := TX10) (N := 15) (v := .ref (ad Γ (b + 7))) hx hb hts hi_X4_pop_X10 hown hw (by omega) (isV_0 hV) rfl 8 (by decide) wl_X4_pop_8 rfl rfl dX4_pop_50 ?_
    refine lv_iconst (v := nI 0) hx hb dX4_pop_53 (by decide) ?_
    refine lv_bipush (v := nI 8) hx hb dX4_pop_54 (by decide) ?_
    refine nr_copyi hx hb (hml.trans hl.1.symm) hown (hts _ wl_X4_pop_4) (hts _ wl_X4_pop_5) (hts _ wl_X4_pop_6) (hts _ wl_X4_pop_7) hw hj hA hS (by omega) (by omega) (isV_15 hV) (isV_7 hV) (by omega) (by decide) (by decide) (by omega) (by omega) (Nat.le_of_ble_eq_true rfl) (Nat.le_of_ble_eq_true rfl) dX4_pop_56 (fun H locs hw hS => ?_)
    obtain ⟨G5, hw, hV, hf5⟩ := nv_c7 hV (cpA (cpA (va_up V 5 ((V 5) - 1)) (6 + 0) 6 (fun i => (va_up V 5 ((V 5) - 1)) (128 + (((V 5 - 1) * 16) + i)))) (12 + 0) 8 (fun i => (cpA (va_up V 5 ((V 5) - 1)) (6 + 0) 6 (fun i => (va_up V 5 ((V 5) - 1)) (128 + (((V 5 - 1) * 16) + i)))) (128 + ((((V 5 - 1) * 16) + 6) + i)))) (va_cpy (fun j => (cpA (va_up V 5 ((V 5) - 1)) (6 + 0) 6 (fun i => (va_up V 5 ((V 5) - 1)) (128 + (((V 5 - 1) * 16) + i)))) (128 + j)) (fun j => (cpA (va_up V 5 ((V 5) - 1)) (6 + 0) 6 (fun i => (va_up V 5 ((V 5) - 1)) (128 + (((V 5 - 1) * 16) + i)))) (12 + j)) (((V 5 - 1) * 16) + 6) 0 8) hw (fun j hj => cpA_out (by omega)) (fun j hj => cp_sh _ _ _ _ _ _ _)
    have hfr := fr_tr hfr hf5 (by omega) (by omega)
    refine lv_aload_n hx hb dX4_pop_59 rfl (lv_at hl 2 rfl) ?_
    refine lv_aload_n hx hb dX4_pop_60 rfl (lv_at hl 1 rfl) ?_
    refine nr_get (own := RX4) (C := RX4) (T := TX4) (N := 2) (v := .ref (ad Γ (b + 15))) hx hb hts hi_X4_pop_X4 hown hw (by omega) (isV_11 hV) rfl 0 (by decide) wl_X4_pop_2 rfl rfl dX4_pop_61 ?_
    refine lv_iload_n hx hb dX4_pop_64 rfl (lv_at hl 0 rfl) ?_
    refine lv_bipush (v := nI 16) hx hb dX4_pop_65 (by decide) ?_
    refine nr_iadd hx hb dX4_pop_67 ?_
    refine lv_iconst (v := nI 2) hx hb dX4_pop_68 (by decide) ?_
    refine nr_isub hx hb (by omega) dX4_pop_69 ?_
    refine nr_iald (x := (V (128 + ((V 5 - 1) * 16 + 14)))) hx hb hw (by omega) (isV_15 hV) (by simp only [va_up, cpA]; (repeat' split) <;> first | exact congrArg _ (by omega) | (exfalso; omega)) (by omega) (by decide) dX4_pop_70 ?_
    have hq1 := hB (128 + ((V 5 - 1) * 16 + 14))
    obtain ⟨w7, ew7⟩ : ∃ f, f = va_up (cpA (cpA (va_up V 5 ((V 5) - 1)) (6 + 0) 6 (fun i => (va_up V 5 ((V 5) - 1)) (128 + (((V 5 - 1) * 16) + i)))) (12 + 0) 8 (fun i => (cpA (va_up V 5 ((V 5) - 1)) (6 + 0) 6 (fun i => (va_up V 5 ((V 5) - 1)) (128 + (((V 5 - 1) * 16) + i)))) (128 + ((((V 5 - 1) * 16) + 6) + i)))) 20 (V (128 + ((V 5 - 1) * 16 + 14))) := ⟨_, rfl⟩
    refine nr_put (own := RX4) (C := RX10) (T := TX10) (N := 15) (ty := .int) (v := .int (nI (V (128 + ((V 5 - 1) * 16 + 14))))) (fs' := [.int (nI (w7 0)), .ref (ad Γ (b + 1)), .ref (ad Γ (b + 2)), .int (nI (w7 1)), .ref (ad Γ (b + 3)), .ref (ad Γ (b + 4)), .ref (ad Γ (b + 5)), .ref (ad Γ (b + 6)), .ref (ad Γ (b + 7)), .int (nI (w7 20)), .int (nI (w7 21)), .ref (ad Γ (b + 8)), .ref (ad Γ (b + 9)), .ref (ad Γ (b + 10)), .ref (ad Γ (b + 11))]) hx hb hts hi_X4_pop_X10 tyX10 tyX10_ok nmX10 hown hw hj hA hS (by omega) (isV_0 hV) rfl 9 (by decide) wl_X4_pop_9 rfl rfl (by decide +kernel) rfl rfl (Nat.le_of_ble_eq_true rfl) (by rw [ew7]; rfl) dX4_pop_71 (fun H locs hw hS => ?_)
    subst ew7
    obtain ⟨G6, hw, hV, hf6⟩ := nv_c0 hV (va_up (cpA (cpA (va_up V 5 ((V 5) - 1)) (6 + 0) 6 (fun i => (va_up V 5 ((V 5) - 1)) (128 + (((V 5 - 1) * 16) + i)))) (12 + 0) 8 (fun i => (cpA (va_up V 5 ((V 5) - 1)) (6 + 0) 6 (fun i => (va_up V 5 ((V 5) - 1)) (128 + (((V 5 - 1) * 16) + i)))) (128 + ((((V 5 - 1) * 16) + 6) + i)))) 20 (V (128 + ((V 5 - 1) * 16 + 14)))) hw (fun j h1 h2 h3 h4 => va_up_ne _ _ (by assumption))
    have hfr := fr_tr hfr hf6 (by omega) (by omega)
    refine lv_aload_n hx hb dX4_pop_74 rfl (lv_at hl 2 rfl) ?_
    refine lv_aload_n hx hb dX4_pop_75 rfl (lv_at hl 1 rfl) ?_
    refine nr_get (own := RX4) (C := RX4) (T := TX4) (N := 2) (v := .ref (ad Γ (b + 15))) hx hb hts hi_X4_pop_X4 hown hw (by omega) (isV_11 hV) rfl 0 (by decide) wl_X4_pop_2 rfl rfl dX4_pop_76 ?_
    refine lv_iload_n hx hb dX4_pop_79 rfl (lv_at hl 0 rfl) ?_
    refine lv_bipush (v := nI 16) hx hb dX4_pop_80 (by decide) ?_
    refine nr_iadd hx hb dX4_pop_82 ?_
    refine lv_iconst (v := nI 1) hx hb dX4_pop_83 (by decide) ?_
    refine nr_isub hx hb (by omega) dX4_pop_84 ?_
    refine nr_iald (x := (V (128 + ((V 5 - 1) * 16 + 15)))) hx hb hw (by omega) (isV_15 hV) (by simp only [va_up, cpA]; (repeat' split) <;> first | exact congrArg _ (by omega) | (exfalso; omega)) (by omega) (by decide) dX4_pop_85 ?_
    have hq2 := hB (128 + ((V 5 - 1) * 16 + 15))
    obtain ⟨w9, ew9⟩ : ∃ f, f = va_up (va_up (cpA (cpA (va_up V 5 ((V 5) - 1)) (6 + 0) 6 (fun i => (va_up V 5 ((V 5) - 1)) (128 + (((V 5 - 1) * 16) + i)))) (12 + 0) 8 (fun i => (cpA (va_up V 5 ((V 5) - 1)) (6 + 0) 6 (fun i => (va_up V 5 ((V 5) - 1)) (128 + (((V 5 - 1) * 16) + i)))) (128 + ((((V 5 - 1) * 16) + 6) + i)))) 20 (V (128 + ((V 5 - 1) * 16 + 14)))) 21 (V (128 + ((V 5 - 1) * 16 + 15))) := ⟨_, rfl⟩
    refine nr_put (own := RX4) (C := RX10) (T := TX10) (N := 15) (ty := .int) (v := .int (nI (V (128 + ((V 5 - 1) * 16 + 15))))) (fs' := [.int (nI (w9 0)), .ref (ad Γ (b + 1)), .ref (ad Γ (b + 2)), .int (nI (w9 1)), .ref (ad Γ (b + 3)), .ref (ad Γ (b + 4)), .ref (ad Γ (b + 5)), .ref (ad Γ (b + 6)), .ref (ad Γ (b + 7)), .int (nI (w9 20)), .int (nI (w9 21)), .ref (ad Γ (b + 8)), .ref (ad Γ (b + 9)), .ref (ad Γ (b + 10)), .ref (ad Γ (b + 11))]) hx hb hts hi_X4_pop_X10 tyX10 tyX10_ok nmX10 hown hw hj hA hS (by omega) (isV_0 hV) rfl 10 (by decide) wl_X4_pop_10 rfl rfl (by decide +kernel) rfl rfl (Nat.le_of_ble_eq_true rfl) (by rw [ew9]; rfl) dX4_pop_86 (fun H locs hw hS => ?_)
    subst ew9
    obtain ⟨G8, hw, hV, hf8⟩ := nv_c0 hV (va_up (va_up (cpA (cpA (va_up V 5 ((V 5) - 1)) (6 + 0) 6 (fun i => (va_up V 5 ((V 5) - 1)) (128 + (((V 5 - 1) * 16) + i)))) (12 + 0) 8 (fun i => (cpA (va_up V 5 ((V 5) - 1)) (6 + 0) 6 (fun i => (va_up V 5 ((V 5) - 1)) (128 + (((V 5 - 1) * 16) + i)))) (128 + ((((V 5 - 1) * 16) + 6) + i)))) 20 (V (128 + ((V 5 - 1) * 16 + 14)))) 21 (V (128 + ((V 5 - 1) * 16 + 15)))) hw (fun j h1 h2 h3 h4 => va_up_ne _ _ (by assumption))
    have hfr := fr_tr hfr hf8 (by omega) (by omega)
    exact nr_retV hx hb hr hlocks hw hS (⟨by rw [← pop_e (V := V) (s := V 5 - 1) rfl (by omega) _ rfl]; exact hV, hfr⟩) dX4_pop_89
  · omega
theorem wl_X4_take_1 : Cond.fieldLink RX4 11 "BellForgiven$Past" "cells" "[I" ∈ wsX4_take := List.mem_of_getElem? (i := 1) rfl
theorem wl_X4_take_2 : Cond.methodLink RX4 19 arraycopyName ∈ wsX4_take := List.mem_of_getElem? (i := 2) rfl
theorem wl_X4_take_3 : Cond.native arraycopyName ∈ wsX4_take := List.mem_of_getElem? (i := 3) rfl
theorem wl_X4_take_4 : Cond.static arraycopyName ∈ wsX4_take := List.mem_of_getElem? (i := 4) rfl
theorem wl_X4_take_5 : Cond.initialized "java/lang/System" ∈ wsX4_take := List.mem_of_getElem? (i := 5) rfl
theorem wl_X4_take_6 : Cond.fieldLink RX4 15 "BellForgiven$Past" "size" "I" ∈ wsX4_take := List.mem_of_getElem? (i := 6) rfl
theorem hi_X4_take_X4 : ∀ w ∈ u_ws RX4 TX4 2, w ∈ wsX4_take := fun w h => (List.mem_cons_of_mem _ (List.mem_append_right _ h))
set_option maxHeartbeats 4000000 in
set_option maxRecDepth 100000 in
theorem c_X4_take (l : Launch) (Γ : Gam) (n : Nat) (G : Nat → va_E) (b o : Nat) (V W : Nat → Nat) (hV : isV Γ G b V) (hW : isV Γ G o W) (hn_b : b + 16 ≤ n) (hn_o : o + 16 ≤ n) (hj : winj Γ n) (hdis : o + 16 ≤ b ∨ b + 16 ≤ o)  : Met l yX4_take wsX4_take ({ frames := 1, cells := 0, slots := 0, locals := 26 }) (va_Pc [.ref (ad Γ (b + 11)), .ref (ad Γ (o + 11))] (fun U => hw Γ n G U U.heap)) (wQv Γ n (fun G2 => isV Γ G2 b (va_up (cpA V (128 + 0) 128 (fun i => W (128 + (0 + i)))) 5 (W 5)) ∧ fr G G2 (b + 0) (b + 16))) 0 0 (wA Γ n) := by
  refine Met.ofW (cc := cX4_take) (maxL := 2) (ret := none) (by decide) rfl ?_
  intro p e s m args below meth c s₁ B hml hv
  obtain ⟨rfl, hw⟩ := hv
  have hx := B.exec
  have hb := B.bytes
  have hr := B.returns
  have hts := atoms_spec (ws := wsX4_take) B.pre
  have hown : s.vm.findClass RX4 = some m.cls := findClass_of_methodNamed B.named
  have hlocks := B.notSynchronized
  have hS : va_S (wA Γ n) s.heap s.heap [] := va_S.rf
  have hA : ∀ q, wA Γ n q → wA Γ n q := fun _ h => h
  have hl := lv_entry ([.ref (ad Γ (b + 11)), .ref (ad Γ (o + 11))]) (n := 2) (Nat.le_of_ble_eq_true rfl)
  rw [lg_entry_eq]
  generalize (lg_sl ([.ref (ad Γ (b + 11)), .ref (ad Γ (o + 11))]) ++ List.replicate (2 - (lg_sl ([.ref (ad Γ (b + 11)), .ref (ad Γ (o + 11))])).length) Slot.unset).toArray = ls at hl ⊢
  have hl : lv_has ls 2 [(0, .ref (ad Γ (b + 11))), (1, .ref (ad Γ (o + 11)))] := hl
  have hfr := fr_rf G (b + 0) (b + 16)
  refine lv_aload_n hx hb dX4_take_0 rfl (lv_at hl 1 rfl) ?_
  refine nr_get (own := RX4) (C := RX4) (T := TX4) (N := 2) (v := .ref (ad Γ (o + 15))) hx hb hts hi_X4_take_X4 hown hw (by omega) (isV_11 hW) rfl 0 (by decide) wl_X4_take_1 rfl rfl dX4_take_1 ?_
  refine lv_iconst (v := nI 0) hx hb dX4_take_4 (by decide) ?_
  refine lv_aload_n hx hb dX4_take_5 rfl (lv_at hl 0 rfl) ?_
  refine nr_get (own := RX4) (C := RX4) (T := TX4) (N := 2) (v := .ref (ad Γ (b + 15))) hx hb hts hi_X4_take_X4 hown hw (by omega) (isV_11 hV) rfl 0 (by decide) wl_X4_take_1 rfl rfl dX4_take_6 ?_
  refine lv_iconst (v := nI 0) hx hb dX4_take_9 (by decide) ?_
  refine lv_aload_n hx hb dX4_take_10 rfl (lv_at hl 0 rfl) ?_
  refine nr_get (own := RX4) (C := RX4) (T := TX4) (N := 2) (v := .ref (ad Γ (b + 15))) hx hb hts hi_X4_take_X4 hown hw (by omega) (isV_11 hV) rfl 0 (by decide) wl_X4_take_1 rfl rfl dX4_take_11 ?_
  refine nr_alen (len := 128) hx hb hw (by omega) (isV_15 hV) dX4_take_14 ?_
  refine nr_copyi hx hb (hml.trans hl.1.symm) hown (hts _ wl_X4_take_2) (hts _ wl_X4_take_3) (hts _ wl_X4_take_4) (hts _ wl_X4_take_5) hw hj hA hS (by omega) (by omega) (isV_15 hW) (isV_15 hV) (by decide) (by decide) (by decide) (by omega) (by omega) (Nat.le_of_ble_eq_true rfl) (Nat.le_of_ble_eq_true rfl) dX4_take_15 (fun H locs hw hS => ?_)
  obtain ⟨G1, hw, hV, hf1⟩ := nv_c15 hV (cpA V (128 + 0) 128 (fun i => W (128 + (0 + i)))) (va_cpy (fun j => W (128 + j)) (fun j => V (128 + j)) 0 0 128) hw (fun j hj => cpA_out (by omega)) (fun j hj => cp_sh _ _ _ _ _ _ _)
  have hW := isV_fr hW hf1 (by omega)
  have hfr := fr_tr hfr hf1 (by omega) (by omega)
  refine lv_aload_n hx hb dX4_take_18 rfl (lv_at hl 0 rfl) ?_
  refine lv_aload_n hx hb dX4_take_19 rfl (lv_at hl 1 rfl) ?_
  refine nr_get (own := RX4) (C := RX4) (T := TX4) (N := 2) (v := .int (nI (W 5))) hx hb hts hi_X4_take_X4 hown hw (by omega) (isV_11 hW) rfl 1 (by decide) wl_X4_take_6 rfl rfl dX4_take_20 ?_
  obtain ⟨w3, ew3⟩ : ∃ f, f = va_up (cpA V (128 + 0) 128 (fun i => W (128 + (0 + i)))) 5 (W 5) := ⟨_, rfl⟩
  refine nr_put (own := RX4) (C := RX4) (T := TX4) (N := 2) (ty := .int) (v := .int (nI (W 5))) (fs' := [.ref (ad Γ (b + 15)), .int (nI (w3 5))]) hx hb hts hi_X4_take_X4 tyX4 tyX4_ok nmX4 hown hw hj hA hS (by omega) (isV_11 hV) rfl 1 (by decide) wl_X4_take_6 rfl rfl (by decide +kernel) rfl rfl (Nat.le_of_ble_eq_true rfl) (by rw [ew3]; rfl) dX4_take_23 (fun H locs hw hS => ?_)
  subst ew3
  obtain ⟨G2, hw, hV, hf2⟩ := nv_c11 hV (va_up (cpA V (128 + 0) 128 (fun i => W (128 + (0 + i)))) 5 (W 5)) hw (fun j h1 => va_up_ne _ _ (by assumption))
  have hW := isV_fr hW hf2 (by omega)
  have hfr := fr_tr hfr hf2 (by omega) (by omega)
  exact nr_retV hx hb hr hlocks hw hS (⟨hV, hfr⟩) dX4_take_26
theorem wl_X10_empty_1 : Cond.fieldLink RX10 55 "BellForgiven$Valley" "people" "I" ∈ wsX10_empty := List.mem_of_getElem? (i := 1) rfl
theorem wl_X10_empty_2 : Cond.fieldLink RX10 59 "BellForgiven$Valley" "wrongs" "I" ∈ wsX10_empty := List.mem_of_getElem? (i := 2) rfl
theorem wl_X10_empty_3 : Cond.fieldLink RX10 62 "BellForgiven$Valley" "letOff" "I" ∈ wsX10_empty := List.mem_of_getElem? (i := 3) rfl
theorem wl_X10_empty_4 : Cond.fieldLink RX10 65 "BellForgiven$Valley" "day" "I" ∈ wsX10_empty := List.mem_of_getElem? (i := 4) rfl
theorem wl_X10_empty_5 : Cond.fieldLink RX10 38 "BellForgiven$Valley" "seen" "LBellForgiven$Rows;" ∈ wsX10_empty := List.mem_of_getElem? (i := 5) rfl
theorem wl_X10_empty_6 : Cond.fieldLink RX10 68 "BellForgiven$Rows" "size" "I" ∈ wsX10_empty := List.mem_of_getElem? (i := 6) rfl
theorem wl_X10_empty_7 : Cond.fieldLink RX10 42 "BellForgiven$Valley" "notes" "LBellForgiven$Rows;" ∈ wsX10_empty := List.mem_of_getElem? (i := 7) rfl
theorem wl_X10_empty_8 : Cond.fieldLink RX10 45 "BellForgiven$Valley" "marks" "LBellForgiven$Rows;" ∈ wsX10_empty := List.mem_of_getElem? (i := 8) rfl
theorem wl_X10_empty_9 : Cond.fieldLink RX10 51 "BellForgiven$Valley" "past" "LBellForgiven$Past;" ∈ wsX10_empty := List.mem_of_getElem? (i := 9) rfl
theorem wl_X10_empty_10 : Cond.fieldLink RX10 71 "BellForgiven$Past" "size" "I" ∈ wsX10_empty := List.mem_of_getElem? (i := 10) rfl
theorem hi_X10_empty_X10 : ∀ w ∈ u_ws RX10 TX10 15, w ∈ wsX10_empty := fun w h => (List.mem_cons_of_mem _ (List.mem_append_left _ (List.mem_append_left _ (List.mem_append_right _ h))))
theorem hi_X10_empty_X7 : ∀ w ∈ u_ws RX7 TX7 3, w ∈ wsX10_empty := fun w h => (List.mem_cons_of_mem _ (List.mem_append_left _ (List.mem_append_right _ h)))
theorem hi_X10_empty_X4 : ∀ w ∈ u_ws RX4 TX4 2, w ∈ wsX10_empty := fun w h => (List.mem_cons_of_mem _ (List.mem_append_right _ h))
set_option maxHeartbeats 4000000 in
set_option maxRecDepth 100000 in
theorem c_X10_empty (l : Launch) (Γ : Gam) (n : Nat) (G : Nat → va_E) (b : Nat) (V : Nat → Nat) (hV : isV Γ G b V) (hn_b : b + 16 ≤ n) (hj : winj Γ n) (hI : vI V)  : Met l yX10_empty wsX10_empty ({ frames := 0, cells := 0, slots := 0, locals := 0 }) (va_Pc [.ref (ad Γ (b + 0))] (fun U => hw Γ n G U U.heap)) (wQv Γ n (fun G2 => isV Γ G2 b (emV V) ∧ fr G G2 (b + 0) (b + 16))) 0 0 (wA Γ n) := by
  refine Met.ofW (cc := cX10_empty) (maxL := 1) (ret := none) (by decide) rfl ?_
  intro p e s m args below meth c s₁ B hml hv
  obtain ⟨rfl, hw⟩ := hv
  have hx := B.exec
  have hb := B.bytes
  have hr := B.returns
  have hts := atoms_spec (ws := wsX10_empty) B.pre
  have hown : s.vm.findClass RX10 = some m.cls := findClass_of_methodNamed B.named
  have hlocks := B.notSynchronized
  have hS : va_S (wA Γ n) s.heap s.heap [] := va_S.rf
  have hA : ∀ q, wA Γ n q → wA Γ n q := fun _ h => h
  have hl := lv_entry ([.ref (ad Γ (b + 0))]) (n := 1) (Nat.le_of_ble_eq_true rfl)
  rw [lg_entry_eq]
  generalize (lg_sl ([.ref (ad Γ (b + 0))]) ++ List.replicate (1 - (lg_sl ([.ref (ad Γ (b + 0))])).length) Slot.unset).toArray = ls at hl ⊢
  have hl : lv_has ls 1 [(0, .ref (ad Γ (b + 0)))] := hl
  have hfr := fr_rf G (b + 0) (b + 16)
  have hB := hI.1
  have hB0 := hI.2.1
  have hB1 := hI.2.2.1
  have hB20 := hI.2.2.2.2.2.2.2.2.2
  have hBz2 := hI.2.2.2.1
  have hBz3 := hI.2.2.2.2.1
  have hBz4 := hI.2.2.2.2.2.1
  have hBz5 := hI.2.2.2.2.2.2.1
  have hBd := hB 21
  refine lv_aload_n hx hb dX10_empty_0 rfl (lv_at hl 0 rfl) ?_
  refine lv_iconst (v := nI 0) hx hb dX10_empty_1 (by decide) ?_
  obtain ⟨w2, ew2⟩ : ∃ f, f = va_up V 0 0 := ⟨_, rfl⟩
  refine nr_put (own := RX10) (C := RX10) (T := TX10) (N := 15) (ty := .int) (v := .int (nI 0)) (fs' := [.int (nI (w2 0)), .ref (ad Γ (b + 1)), .ref (ad Γ (b + 2)), .int (nI (w2 1)), .ref (ad Γ (b + 3)), .ref (ad Γ (b + 4)), .ref (ad Γ (b + 5)), .ref (ad Γ (b + 6)), .ref (ad Γ (b + 7)), .int (nI (w2 20)), .int (nI (w2 21)), .ref (ad Γ (b + 8)), .ref (ad Γ (b + 9)), .ref (ad Γ (b + 10)), .ref (ad Γ (b + 11))]) hx hb hts hi_X10_empty_X10 tyX10 tyX10_ok nmX10 hown hw hj hA hS (by omega) (isV_0 hV) rfl 0 (by decide) wl_X10_empty_1 rfl rfl (by decide +kernel) rfl rfl (Nat.le_of_ble_eq_true rfl) (by rw [ew2]; rfl) dX10_empty_2 (fun H locs hw hS => ?_)
  subst ew2
  obtain ⟨G1, hw, hV, hf1⟩ := nv_c0 hV (va_up V 0 0) hw (fun j h1 h2 h3 h4 => va_up_ne _ _ (by assumption))
  have hfr := fr_tr hfr hf1 (by omega) (by omega)
  refine lv_aload_n hx hb dX10_empty_5 rfl (lv_at hl 0 rfl) ?_
  refine lv_iconst (v := nI 0) hx hb dX10_empty_6 (by decide) ?_
  obtain ⟨w4, ew4⟩ : ∃ f, f = va_up (va_up V 0 0) 1 0 := ⟨_, rfl⟩
  refine nr_put (own := RX10) (C := RX10) (T := TX10) (N := 15) (ty := .int) (v := .int (nI 0)) (fs' := [.int (nI (w4 0)), .ref (ad Γ (b + 1)), .ref (ad Γ (b + 2)), .int (nI (w4 1)), .ref (ad Γ (b + 3)), .ref (ad Γ (b + 4)), .ref (ad Γ (b + 5)), .ref (ad Γ (b + 6)), .ref (ad Γ (b + 7)), .int (nI (w4 20)), .int (nI (w4 21)), .ref (ad Γ (b + 8)), .ref (ad Γ (b + 9)), .ref (ad Γ (b + 10)), .ref (ad Γ (b + 11))]) hx hb hts hi_X10_empty_X10 tyX10 tyX10_ok nmX10 hown hw hj hA hS (by omega) (isV_0 hV) rfl 3 (by decide) wl_X10_empty_2 rfl rfl (by decide +kernel) rfl rfl (Nat.le_of_ble_eq_true rfl) (by rw [ew4]; rfl) dX10_empty_7 (fun H locs hw hS => ?_)
  subst ew4
  obtain ⟨G3, hw, hV, hf3⟩ := nv_c0 hV (va_up (va_up V 0 0) 1 0) hw (fun j h1 h2 h3 h4 => va_up_ne _ _ (by assumption))
  have hfr := fr_tr hfr hf3 (by omega) (by omega)
  refine lv_aload_n hx hb dX10_empty_10 rfl (lv_at hl 0 rfl) ?_
  refine lv_iconst (v := nI 0) hx hb dX10_empty_11 (by decide) ?_
  obtain ⟨w6, ew6⟩ : ∃ f, f = va_up (va_up (va_up V 0 0) 1 0) 20 0 := ⟨_, rfl⟩
  refine nr_put (own := RX10) (C := RX10) (T := TX10) (N := 15) (ty := .int) (v := .int (nI 0)) (fs' := [.int (nI (w6 0)), .ref (ad Γ (b + 1)), .ref (ad Γ (b + 2)), .int (nI (w6 1)), .ref (ad Γ (b + 3)), .ref (ad Γ (b + 4)), .ref (ad Γ (b + 5)), .ref (ad Γ (b + 6)), .ref (ad Γ (b + 7)), .int (nI (w6 20)), .int (nI (w6 21)), .ref (ad Γ (b + 8)), .ref (ad Γ (b + 9)), .ref (ad Γ (b + 10)), .ref (ad Γ (b + 11))]) hx hb hts hi_X10_empty_X10 tyX10 tyX10_ok nmX10 hown hw hj hA hS (by omega) (isV_0 hV) rfl 9 (by decide) wl_X10_empty_3 rfl rfl (by decide +kernel) rfl rfl (Nat.le_of_ble_eq_true rfl) (by rw [ew6]; rfl) dX10_empty_12 (fun H locs hw hS => ?_)
  subst ew6
  obtain ⟨G5, hw, hV, hf5⟩ := nv_c0 hV (va_up (va_up (va_up V 0 0) 1 0) 20 0) hw (fun j h1 h2 h3 h4 => va_up_ne _ _ (by assumption))
  have hfr := fr_tr hfr hf5 (by omega) (by omega)
  refine lv_aload_n hx hb dX10_empty_15 rfl (lv_at hl 0 rfl) ?_
  refine lv_iconst (v := nI 0) hx hb dX10_empty_16 (by decide) ?_
  obtain ⟨w8, ew8⟩ : ∃ f, f = va_up (va_up (va_up (va_up V 0 0) 1 0) 20 0) 21 0 := ⟨_, rfl⟩
  refine nr_put (own := RX10) (C := RX10) (T := TX10) (N := 15) (ty := .int) (v := .int (nI 0)) (fs' := [.int (nI (w8 0)), .ref (ad Γ (b + 1)), .ref (ad Γ (b + 2)), .int (nI (w8 1)), .ref (ad Γ (b + 3)), .ref (ad Γ (b + 4)), .ref (ad Γ (b + 5)), .ref (ad Γ (b + 6)), .ref (ad Γ (b + 7)), .int (nI (w8 20)), .int (nI (w8 21)), .ref (ad Γ (b + 8)), .ref (ad Γ (b + 9)), .ref (ad Γ (b + 10)), .ref (ad Γ (b + 11))]) hx hb hts hi_X10_empty_X10 tyX10 tyX10_ok nmX10 hown hw hj hA hS (by omega) (isV_0 hV) rfl 10 (by decide) wl_X10_empty_4 rfl rfl (by decide +kernel) rfl rfl (Nat.le_of_ble_eq_true rfl) (by rw [ew8]; rfl) dX10_empty_17 (fun H locs hw hS => ?_)
  subst ew8
  obtain ⟨G7, hw, hV, hf7⟩ := nv_c0 hV (va_up (va_up (va_up (va_up V 0 0) 1 0) 20 0) 21 0) hw (fun j h1 h2 h3 h4 => va_up_ne _ _ (by assumption))
  have hfr := fr_tr hfr hf7 (by omega) (by omega)
  refine lv_aload_n hx hb dX10_empty_20 rfl (lv_at hl 0 rfl) ?_
  refine nr_get (own := RX10) (C := RX10) (T := TX10) (N := 15) (v := .ref (ad Γ (b + 8))) hx hb hts hi_X10_empty_X10 hown hw (by omega) (isV_0 hV) rfl 11 (by decide) wl_X10_empty_5 rfl rfl dX10_empty_21 ?_
  refine lv_iconst (v := nI 0) hx hb dX10_empty_24 (by decide) ?_
  obtain ⟨w10, ew10⟩ : ∃ f, f = va_up (va_up (va_up (va_up (va_up V 0 0) 1 0) 20 0) 21 0) 2 0 := ⟨_, rfl⟩
  refine nr_put (own := RX10) (C := RX7) (T := TX7) (N := 3) (ty := .int) (v := .int (nI 0)) (fs' := [.ref (ad Γ (b + 12)), .int (nI 5), .int (nI (w10 2))]) hx hb hts hi_X10_empty_X7 tyX7 tyX7_ok nmX7 hown hw hj hA hS (by omega) (isV_8 hV) rfl 2 (by decide) wl_X10_empty_6 rfl rfl (by decide +kernel) rfl rfl (Nat.le_of_ble_eq_true rfl) (by rw [ew10]; rfl) dX10_empty_25 (fun H locs hw hS => ?_)
  subst ew10
  obtain ⟨G9, hw, hV, hf9⟩ := nv_c8 hV (va_up (va_up (va_up (va_up (va_up V 0 0) 1 0) 20 0) 21 0) 2 0) hw (fun j h1 => va_up_ne _ _ (by assumption))
  have hfr := fr_tr hfr hf9 (by omega) (by omega)
  refine lv_aload_n hx hb dX10_empty_28 rfl (lv_at hl 0 rfl) ?_
  refine nr_get (own := RX10) (C := RX10) (T := TX10) (N := 15) (v := .ref (ad Γ (b + 9))) hx hb hts hi_X10_empty_X10 hown hw (by omega) (isV_0 hV) rfl 12 (by decide) wl_X10_empty_7 rfl rfl dX10_empty_29 ?_
  refine lv_iconst (v := nI 0) hx hb dX10_empty_32 (by decide) ?_
  obtain ⟨w12, ew12⟩ : ∃ f, f = va_up (va_up (va_up (va_up (va_up (va_up V 0 0) 1 0) 20 0) 21 0) 2 0) 3 0 := ⟨_, rfl⟩
  refine nr_put (own := RX10) (C := RX7) (T := TX7) (N := 3) (ty := .int) (v := .int (nI 0)) (fs' := [.ref (ad Γ (b + 13)), .int (nI 6), .int (nI (w12 3))]) hx hb hts hi_X10_empty_X7 tyX7 tyX7_ok nmX7 hown hw hj hA hS (by omega) (isV_9 hV) rfl 2 (by decide) wl_X10_empty_6 rfl rfl (by decide +kernel) rfl rfl (Nat.le_of_ble_eq_true rfl) (by rw [ew12]; rfl) dX10_empty_33 (fun H locs hw hS => ?_)
  subst ew12
  obtain ⟨G11, hw, hV, hf11⟩ := nv_c9 hV (va_up (va_up (va_up (va_up (va_up (va_up V 0 0) 1 0) 20 0) 21 0) 2 0) 3 0) hw (fun j h1 => va_up_ne _ _ (by assumption))
  have hfr := fr_tr hfr hf11 (by omega) (by omega)
  refine lv_aload_n hx hb dX10_empty_36 rfl (lv_at hl 0 rfl) ?_
  refine nr_get (own := RX10) (C := RX10) (T := TX10) (N := 15) (v := .ref (ad Γ (b + 10))) hx hb hts hi_X10_empty_X10 hown hw (by omega) (isV_0 hV) rfl 13 (by decide) wl_X10_empty_8 rfl rfl dX10_empty_37 ?_
  refine lv_iconst (v := nI 0) hx hb dX10_empty_40 (by decide) ?_
  obtain ⟨w14, ew14⟩ : ∃ f, f = va_up (va_up (va_up (va_up (va_up (va_up (va_up V 0 0) 1 0) 20 0) 21 0) 2 0) 3 0) 4 0 := ⟨_, rfl⟩
  refine nr_put (own := RX10) (C := RX7) (T := TX7) (N := 3) (ty := .int) (v := .int (nI 0)) (fs' := [.ref (ad Γ (b + 14)), .int (nI 6), .int (nI (w14 4))]) hx hb hts hi_X10_empty_X7 tyX7 tyX7_ok nmX7 hown hw hj hA hS (by omega) (isV_10 hV) rfl 2 (by decide) wl_X10_empty_6 rfl rfl (by decide +kernel) rfl rfl (Nat.le_of_ble_eq_true rfl) (by rw [ew14]; rfl) dX10_empty_41 (fun H locs hw hS => ?_)
  subst ew14
  obtain ⟨G13, hw, hV, hf13⟩ := nv_c10 hV (va_up (va_up (va_up (va_up (va_up (va_up (va_up V 0 0) 1 0) 20 0) 21 0) 2 0) 3 0) 4 0) hw (fun j h1 => va_up_ne _ _ (by assumption))
  have hfr := fr_tr hfr hf13 (by omega) (by omega)
  refine lv_aload_n hx hb dX10_empty_44 rfl (lv_at hl 0 rfl) ?_
  refine nr_get (own := RX10) (C := RX10) (T := TX10) (N := 15) (v := .ref (ad Γ (b + 11))) hx hb hts hi_X10_empty_X10 hown hw (by omega) (isV_0 hV) rfl 14 (by decide) wl_X10_empty_9 rfl rfl dX10_empty_45 ?_
  refine lv_iconst (v := nI 0) hx hb dX10_empty_48 (by decide) ?_
  obtain ⟨w16, ew16⟩ : ∃ f, f = va_up (va_up (va_up (va_up (va_up (va_up (va_up (va_up V 0 0) 1 0) 20 0) 21 0) 2 0) 3 0) 4 0) 5 0 := ⟨_, rfl⟩
  refine nr_put (own := RX10) (C := RX4) (T := TX4) (N := 2) (ty := .int) (v := .int (nI 0)) (fs' := [.ref (ad Γ (b + 15)), .int (nI (w16 5))]) hx hb hts hi_X10_empty_X4 tyX4 tyX4_ok nmX4 hown hw hj hA hS (by omega) (isV_11 hV) rfl 1 (by decide) wl_X10_empty_10 rfl rfl (by decide +kernel) rfl rfl (Nat.le_of_ble_eq_true rfl) (by rw [ew16]; rfl) dX10_empty_49 (fun H locs hw hS => ?_)
  subst ew16
  obtain ⟨G15, hw, hV, hf15⟩ := nv_c11 hV (va_up (va_up (va_up (va_up (va_up (va_up (va_up (va_up V 0 0) 1 0) 20 0) 21 0) 2 0) 3 0) 4 0) 5 0) hw (fun j h1 => va_up_ne _ _ (by assumption))
  have hfr := fr_tr hfr hf15 (by omega) (by omega)
  exact nr_retV hx hb hr hlocks hw hS (⟨hV, hfr⟩) dX10_empty_52
theorem wl_X10_addPerson_1 : Cond.fieldLink RX10 9 "BellForgiven$Valley" "nature" "[I" ∈ wsX10_addPerson := List.mem_of_getElem? (i := 1) rfl
theorem wl_X10_addPerson_2 : Cond.fieldLink RX10 55 "BellForgiven$Valley" "people" "I" ∈ wsX10_addPerson := List.mem_of_getElem? (i := 2) rfl
theorem wl_X10_addPerson_3 : Cond.fieldLink RX10 15 "BellForgiven$Valley" "rung" "[I" ∈ wsX10_addPerson := List.mem_of_getElem? (i := 3) rfl
theorem hi_X10_addPerson_X10 : ∀ w ∈ u_ws RX10 TX10 15, w ∈ wsX10_addPerson := fun w h => (List.mem_cons_of_mem _ (List.mem_append_right _ h))
set_option maxHeartbeats 4000000 in
set_option maxRecDepth 100000 in
theorem c_X10_addPerson (l : Launch) (Γ : Gam) (n : Nat) (G : Nat → va_E) (b : Nat) (V : Nat → Nat) (hV : isV Γ G b V) (hn_b : b + 16 ≤ n) (hj : winj Γ n) (k : Nat) (hI : vI V) (h6 : V 0 < 6)  : Met l yX10_addPerson wsX10_addPerson ({ frames := 0, cells := 0, slots := 0, locals := 0 }) (va_Pc [.ref (ad Γ (b + 0)), .int (nI k)] (fun U => hw Γ n G U U.heap)) (wQi Γ n (fun z G2 => (z = nI (V 0)) ∧ (isV Γ G2 b (perV V k) ∧ fr G G2 (b + 0) (b + 16)))) 0 0 (wA Γ n) := by
  refine Met.ofW (cc := cX10_addPerson) (maxL := 2) (ret := (some .int)) (by decide) rfl ?_
  intro p e s m args below meth c s₁ B hml hv
  obtain ⟨rfl, hw⟩ := hv
  have hx := B.exec
  have hb := B.bytes
  have hr := B.returns
  have hts := atoms_spec (ws := wsX10_addPerson) B.pre
  have hown : s.vm.findClass RX10 = some m.cls := findClass_of_methodNamed B.named
  have hlocks := B.notSynchronized
  have hS : va_S (wA Γ n) s.heap s.heap [] := va_S.rf
  have hA : ∀ q, wA Γ n q → wA Γ n q := fun _ h => h
  have hl := lv_entry ([.ref (ad Γ (b + 0)), .int (nI k)]) (n := 2) (Nat.le_of_ble_eq_true rfl)
  rw [lg_entry_eq]
  generalize (lg_sl ([.ref (ad Γ (b + 0)), .int (nI k)]) ++ List.replicate (2 - (lg_sl ([.ref (ad Γ (b + 0)), .int (nI k)])).length) Slot.unset).toArray = ls at hl ⊢
  have hl : lv_has ls 2 [(0, .ref (ad Γ (b + 0))), (1, .int (nI k))] := hl
  have hfr := fr_rf G (b + 0) (b + 16)
  have hB := hI.1
  have hB0 := hI.2.1
  have hB1 := hI.2.2.1
  have hB20 := hI.2.2.2.2.2.2.2.2.2
  have hBz2 := hI.2.2.2.1
  have hBz3 := hI.2.2.2.2.1
  have hBz4 := hI.2.2.2.2.2.1
  have hBz5 := hI.2.2.2.2.2.2.1
  have hBd := hB 21
  refine lv_aload_n hx hb dX10_addPerson_0 rfl (lv_at hl 0 rfl) ?_
  refine nr_get (own := RX10) (C := RX10) (T := TX10) (N := 15) (v := .ref (ad Γ (b + 1))) hx hb hts hi_X10_addPerson_X10 hown hw (by omega) (isV_0 hV) rfl 1 (by decide) wl_X10_addPerson_1 rfl rfl dX10_addPerson_1 ?_
  refine lv_aload_n hx hb dX10_addPerson_4 rfl (lv_at hl 0 rfl) ?_
  refine nr_get (own := RX10) (C := RX10) (T := TX10) (N := 15) (v := .int (nI (V 0))) hx hb hts hi_X10_addPerson_X10 hown hw (by omega) (isV_0 hV) rfl 0 (by decide) wl_X10_addPerson_2 rfl rfl dX10_addPerson_5 ?_
  refine lv_iload_n hx hb dX10_addPerson_8 rfl (lv_at hl 1 rfl) ?_
  refine nr_iast (k := V 0) (v := k) hx hb hw hj hA hS (by omega) (isV_1 hV) (by omega) (by decide) dX10_addPerson_9 (fun H locs hw hS => ?_)
  obtain ⟨G1, hw, hV, hf1⟩ := nv_c1 hV (va_up V (22 + (V 0)) k) (va_up (fun j => V (22 + j)) (V 0) k) hw (fun j hj => va_up_ne _ _ (by omega)) (fun j hj => up_sh _ _ _ _ _)
  have hfr := fr_tr hfr hf1 (by omega) (by omega)
  refine lv_aload_n hx hb dX10_addPerson_10 rfl (lv_at hl 0 rfl) ?_
  refine nr_get (own := RX10) (C := RX10) (T := TX10) (N := 15) (v := .ref (ad Γ (b + 2))) hx hb hts hi_X10_addPerson_X10 hown hw (by omega) (isV_0 hV) rfl 2 (by decide) wl_X10_addPerson_3 rfl rfl dX10_addPerson_11 ?_
  refine lv_aload_n hx hb dX10_addPerson_14 rfl (lv_at hl 0 rfl) ?_
  refine nr_get (own := RX10) (C := RX10) (T := TX10) (N := 15) (v := .int (nI (V 0))) hx hb hts hi_X10_addPerson_X10 hown hw (by omega) (isV_0 hV) rfl 0 (by decide) wl_X10_addPerson_2 rfl (congrArg (fun z => some (Value.int (nI z))) (show (va_up V (22 + (V 0)) k) 0 = V 0 from by first | rfl | (simp only [va_up, cpA]; (repeat' split) <;> first | rfl | omega | contradiction | (exfalso; omega) | simp_all))) dX10_addPerson_15 ?_
  refine lv_iconst (v := nI 0) hx hb dX10_addPerson_18 (by decide) ?_
  refine nr_iast (k := V 0) (v := 0) hx hb hw hj hA hS (by omega) (isV_2 hV) (by omega) (by decide) dX10_addPerson_19 (fun H locs hw hS => ?_)
  obtain ⟨G2, hw, hV, hf2⟩ := nv_c2 hV (va_up (va_up V (22 + (V 0)) k) (6 + (V 0)) 0) (va_up (fun j => (va_up V (22 + (V 0)) k) (6 + j)) (V 0) 0) hw (fun j hj => va_up_ne _ _ (by omega)) (fun j hj => up_sh _ _ _ _ _)
  have hfr := fr_tr hfr hf2 (by omega) (by omega)
  refine lv_aload_n hx hb dX10_addPerson_20 rfl (lv_at hl 0 rfl) ?_
  refine lv_dup hx hb dX10_addPerson_21 rfl ?_
  refine nr_get (own := RX10) (C := RX10) (T := TX10) (N := 15) (v := .int (nI (V 0))) hx hb hts hi_X10_addPerson_X10 hown hw (by omega) (isV_0 hV) rfl 0 (by decide) wl_X10_addPerson_2 rfl (congrArg (fun z => some (Value.int (nI z))) (show (va_up (va_up V (22 + (V 0)) k) (6 + (V 0)) 0) 0 = V 0 from by first | rfl | (simp only [va_up, cpA]; (repeat' split) <;> first | rfl | omega | contradiction | (exfalso; omega) | simp_all))) dX10_addPerson_22 ?_
  refine lv_iconst (v := nI 1) hx hb dX10_addPerson_25 (by decide) ?_
  refine nr_iadd hx hb dX10_addPerson_26 ?_
  obtain ⟨w4, ew4⟩ : ∃ f, f = va_up (va_up (va_up V (22 + (V 0)) k) (6 + (V 0)) 0) 0 (V 0 + 1) := ⟨_, rfl⟩
  refine nr_put (own := RX10) (C := RX10) (T := TX10) (N := 15) (ty := .int) (v := .int (nI (V 0 + 1))) (fs' := [.int (nI (w4 0)), .ref (ad Γ (b + 1)), .ref (ad Γ (b + 2)), .int (nI (w4 1)), .ref (ad Γ (b + 3)), .ref (ad Γ (b + 4)), .ref (ad Γ (b + 5)), .ref (ad Γ (b + 6)), .ref (ad Γ (b + 7)), .int (nI (w4 20)), .int (nI (w4 21)), .ref (ad Γ (b + 8)), .ref (ad Γ (b + 9)), .ref (ad Γ (b + 10)), .ref (ad Γ (b + 11))]) hx hb hts hi_X10_addPerson_X10 tyX10 tyX10_ok nmX10 hown hw hj hA hS (by omega) (isV_0 hV) rfl 0 (by decide) wl_X10_addPerson_2 rfl rfl (by decide +kernel) rfl rfl (Nat.le_of_ble_eq_true rfl) (by rw [ew4]; rfl) dX10_addPerson_27 (fun H locs hw hS => ?_)
  subst ew4
  obtain ⟨G3, hw, hV, hf3⟩ := nv_c0 hV (va_up (va_up (va_up V (22 + (V 0)) k) (6 + (V 0)) 0) 0 (V 0 + 1)) hw (fun j h1 h2 h3 h4 => va_up_ne _ _ (by assumption))
  have hfr := fr_tr hfr hf3 (by omega) (by omega)
  refine lv_aload_n hx hb dX10_addPerson_30 rfl (lv_at hl 0 rfl) ?_
  refine nr_get (own := RX10) (C := RX10) (T := TX10) (N := 15) (v := .int (nI (V 0 + 1))) hx hb hts hi_X10_addPerson_X10 hown hw (by omega) (isV_0 hV) rfl 0 (by decide) wl_X10_addPerson_2 rfl (congrArg (fun z => some (Value.int (nI z))) (show (va_up (va_up (va_up V (22 + (V 0)) k) (6 + (V 0)) 0) 0 (V 0 + 1)) 0 = V 0 + 1 from by first | rfl | (simp only [va_up, cpA]; (repeat' split) <;> first | rfl | omega | contradiction | (exfalso; omega) | simp_all))) dX10_addPerson_31 ?_
  refine lv_iconst (v := nI 1) hx hb dX10_addPerson_34 (by decide) ?_
  refine nr_isub hx hb (by omega) dX10_addPerson_35 ?_
  exact nr_retI hx hb hr hlocks hw hS (⟨congrArg nI (by omega), hV, hfr⟩) dX10_addPerson_36
theorem wl_X10_addWrong_1 : Cond.fieldLink RX10 18 "BellForgiven$Valley" "kind" "[I" ∈ wsX10_addWrong := List.mem_of_getElem? (i := 1) rfl
theorem wl_X10_addWrong_2 : Cond.fieldLink RX10 59 "BellForgiven$Valley" "wrongs" "I" ∈ wsX10_addWrong := List.mem_of_getElem? (i := 2) rfl
theorem wl_X10_addWrong_3 : Cond.fieldLink RX10 21 "BellForgiven$Valley" "by" "[I" ∈ wsX10_addWrong := List.mem_of_getElem? (i := 3) rfl
theorem wl_X10_addWrong_4 : Cond.fieldLink RX10 24 "BellForgiven$Valley" "to" "[I" ∈ wsX10_addWrong := List.mem_of_getElem? (i := 4) rfl
theorem wl_X10_addWrong_5 : Cond.fieldLink RX10 27 "BellForgiven$Valley" "gravity" "[I" ∈ wsX10_addWrong := List.mem_of_getElem? (i := 5) rfl
theorem wl_X10_addWrong_6 : Cond.fieldLink RX10 30 "BellForgiven$Valley" "age" "[I" ∈ wsX10_addWrong := List.mem_of_getElem? (i := 6) rfl
theorem hi_X10_addWrong_X10 : ∀ w ∈ u_ws RX10 TX10 15, w ∈ wsX10_addWrong := fun w h => (List.mem_cons_of_mem _ (List.mem_append_right _ h))
set_option maxHeartbeats 4000000 in
set_option maxRecDepth 100000 in
theorem c_X10_addWrong (l : Launch) (Γ : Gam) (n : Nat) (G : Nat → va_E) (b : Nat) (V : Nat → Nat) (hV : isV Γ G b V) (hn_b : b + 16 ≤ n) (hj : winj Γ n) (k a q gr : Nat) (hI : vI V) (h8 : V 1 < 8)  : Met l yX10_addWrong wsX10_addWrong ({ frames := 0, cells := 0, slots := 0, locals := 0 }) (va_Pc [.ref (ad Γ (b + 0)), .int (nI k), .int (nI a), .int (nI q), .int (nI gr)] (fun U => hw Γ n G U U.heap)) (wQi Γ n (fun z G2 => (z = nI (V 1)) ∧ (isV Γ G2 b (layR V k a q gr) ∧ fr G G2 (b + 0) (b + 16)))) 0 0 (wA Γ n) := by
  refine Met.ofW (cc := cX10_addWrong) (maxL := 5) (ret := (some .int)) (by decide) rfl ?_
  intro p e s m args below meth c s₁ B hml hv
  obtain ⟨rfl, hw⟩ := hv
  have hx := B.exec
  have hb := B.bytes
  have hr := B.returns
  have hts := atoms_spec (ws := wsX10_addWrong) B.pre
  have hown : s.vm.findClass RX10 = some m.cls := findClass_of_methodNamed B.named
  have hlocks := B.notSynchronized
  have hS : va_S (wA Γ n) s.heap s.heap [] := va_S.rf
  have hA : ∀ q, wA Γ n q → wA Γ n q := fun _ h => h
  have hl := lv_entry ([.ref (ad Γ (b + 0)), .int (nI k), .int (nI a), .int (nI q), .int (nI gr)]) (n := 5) (Nat.le_of_ble_eq_true rfl)
  rw [lg_entry_eq]
  generalize (lg_sl ([.ref (ad Γ (b + 0)), .int (nI k), .int (nI a), .int (nI q), .int (nI gr)]) ++ List.replicate (5 - (lg_sl ([.ref (ad Γ (b + 0)), .int (nI k), .int (nI a), .int (nI q), .int (nI gr)])).length) Slot.unset).toArray = ls at hl ⊢
  have hl : lv_has ls 5 [(0, .ref (ad Γ (b + 0))), (1, .int (nI k)), (2, .int (nI a)), (3, .int (nI q)), (4, .int (nI gr))] := hl
  have hfr := fr_rf G (b + 0) (b + 16)
  have hB := hI.1
  have hB0 := hI.2.1
  have hB1 := hI.2.2.1
  have hB20 := hI.2.2.2.2.2.2.2.2.2
  have hBz2 := hI.2.2.2.1
  have hBz3 := hI.2.2.2.2.1
  have hBz4 := hI.2.2.2.2.2.1
  have hBz5 := hI.2.2.2.2.2.2.1
  have hBd := hB 21
  refine lv_aload_n hx hb dX10_addWrong_0 rfl (lv_at hl 0 rfl) ?_
  refine nr_get (own := RX10) (C := RX10) (T := TX10) (N := 15) (v := .ref (ad Γ (b + 3))) hx hb hts hi_X10_addWrong_X10 hown hw (by omega) (isV_0 hV) rfl 4 (by decide) wl_X10_addWrong_1 rfl rfl dX10_addWrong_1 ?_
  refine lv_aload_n hx hb dX10_addWrong_4 rfl (lv_at hl 0 rfl) ?_
  refine nr_get (own := RX10) (C := RX10) (T := TX10) (N := 15) (v := .int (nI (V 1))) hx hb hts hi_X10_addWrong_X10 hown hw (by omega) (isV_0 hV) rfl 3 (by decide) wl_X10_addWrong_2 rfl rfl dX10_addWrong_5 ?_
  refine lv_iload_n hx hb dX10_addWrong_8 rfl (lv_at hl 1 rfl) ?_
  refine nr_iast (k := V 1) (v := k) hx hb hw hj hA hS (by omega) (isV_3 hV) (by omega) (by decide) dX10_addWrong_9 (fun H locs hw hS => ?_)
  obtain ⟨G1, hw, hV, hf1⟩ := nv_c3 hV (va_up V (28 + (V 1)) k) (va_up (fun j => V (28 + j)) (V 1) k) hw (fun j hj => va_up_ne _ _ (by omega)) (fun j hj => up_sh _ _ _ _ _)
  have hfr := fr_tr hfr hf1 (by omega) (by omega)
  refine lv_aload_n hx hb dX10_addWrong_10 rfl (lv_at hl 0 rfl) ?_
  refine nr_get (own := RX10) (C := RX10) (T := TX10) (N := 15) (v := .ref (ad Γ (b + 4))) hx hb hts hi_X10_addWrong_X10 hown hw (by omega) (isV_0 hV) rfl 5 (by decide) wl_X10_addWrong_3 rfl rfl dX10_addWrong_11 ?_
  refine lv_aload_n hx hb dX10_addWrong_14 rfl (lv_at hl 0 rfl) ?_
  refine nr_get (own := RX10) (C := RX10) (T := TX10) (N := 15) (v := .int (nI (V 1))) hx hb hts hi_X10_addWrong_X10 hown hw (by omega) (isV_0 hV) rfl 3 (by decide) wl_X10_addWrong_2 rfl (congrArg (fun z => some (Value.int (nI z))) (show (va_up V (28 + (V 1)) k) 1 = V 1 from by first | rfl | (simp only [va_up, cpA]; (repeat' split) <;> first | rfl | omega | contradiction | (exfalso; omega) | simp_all))) dX10_addWrong_15 ?_
  refine lv_iload_n hx hb dX10_addWrong_18 rfl (lv_at hl 2 rfl) ?_
  refine nr_iast (k := V 1) (v := a) hx hb hw hj hA hS (by omega) (isV_4 hV) (by omega) (by decide) dX10_addWrong_19 (fun H locs hw hS => ?_)
  obtain ⟨G2, hw, hV, hf2⟩ := nv_c4 hV (va_up (va_up V (28 + (V 1)) k) (36 + (V 1)) a) (va_up (fun j => (va_up V (28 + (V 1)) k) (36 + j)) (V 1) a) hw (fun j hj => va_up_ne _ _ (by omega)) (fun j hj => up_sh _ _ _ _ _)
  have hfr := fr_tr hfr hf2 (by omega) (by omega)
  refine lv_aload_n hx hb dX10_addWrong_20 rfl (lv_at hl 0 rfl) ?_
  refine nr_get (own := RX10) (C := RX10) (T := TX10) (N := 15) (v := .ref (ad Γ (b + 5))) hx hb hts hi_X10_addWrong_X10 hown hw (by omega) (isV_0 hV) rfl 6 (by decide) wl_X10_addWrong_4 rfl rfl dX10_addWrong_21 ?_
  refine lv_aload_n hx hb dX10_addWrong_24 rfl (lv_at hl 0 rfl) ?_
  refine nr_get (own := RX10) (C := RX10) (T := TX10) (N := 15) (v := .int (nI (V 1))) hx hb hts hi_X10_addWrong_X10 hown hw (by omega) (isV_0 hV) rfl 3 (by decide) wl_X10_addWrong_2 rfl (congrArg (fun z => some (Value.int (nI z))) (show (va_up (va_up V (28 + (V 1)) k) (36 + (V 1)) a) 1 = V 1 from by first | rfl | (simp only [va_up, cpA]; (repeat' split) <;> first | rfl | omega | contradiction | (exfalso; omega) | simp_all))) dX10_addWrong_25 ?_
  refine lv_iload_n hx hb dX10_addWrong_28 rfl (lv_at hl 3 rfl) ?_
  refine nr_iast (k := V 1) (v := q) hx hb hw hj hA hS (by omega) (isV_5 hV) (by omega) (by decide) dX10_addWrong_29 (fun H locs hw hS => ?_)
  obtain ⟨G3, hw, hV, hf3⟩ := nv_c5 hV (va_up (va_up (va_up V (28 + (V 1)) k) (36 + (V 1)) a) (44 + (V 1)) q) (va_up (fun j => (va_up (va_up V (28 + (V 1)) k) (36 + (V 1)) a) (44 + j)) (V 1) q) hw (fun j hj => va_up_ne _ _ (by omega)) (fun j hj => up_sh _ _ _ _ _)
  have hfr := fr_tr hfr hf3 (by omega) (by omega)
  refine lv_aload_n hx hb dX10_addWrong_30 rfl (lv_at hl 0 rfl) ?_
  refine nr_get (own := RX10) (C := RX10) (T := TX10) (N := 15) (v := .ref (ad Γ (b + 6))) hx hb hts hi_X10_addWrong_X10 hown hw (by omega) (isV_0 hV) rfl 7 (by decide) wl_X10_addWrong_5 rfl rfl dX10_addWrong_31 ?_
  refine lv_aload_n hx hb dX10_addWrong_34 rfl (lv_at hl 0 rfl) ?_
  refine nr_get (own := RX10) (C := RX10) (T := TX10) (N := 15) (v := .int (nI (V 1))) hx hb hts hi_X10_addWrong_X10 hown hw (by omega) (isV_0 hV) rfl 3 (by decide) wl_X10_addWrong_2 rfl (congrArg (fun z => some (Value.int (nI z))) (show (va_up (va_up (va_up V (28 + (V 1)) k) (36 + (V 1)) a) (44 + (V 1)) q) 1 = V 1 from by first | rfl | (simp only [va_up, cpA]; (repeat' split) <;> first | rfl | omega | contradiction | (exfalso; omega) | simp_all))) dX10_addWrong_35 ?_
  refine lv_iload hx hb dX10_addWrong_38 (lv_at hl 4 rfl) ?_
  refine nr_iast (k := V 1) (v := gr) hx hb hw hj hA hS (by omega) (isV_6 hV) (by omega) (by decide) dX10_addWrong_40 (fun H locs hw hS => ?_)
  obtain ⟨G4, hw, hV, hf4⟩ := nv_c6 hV (va_up (va_up (va_up (va_up V (28 + (V 1)) k) (36 + (V 1)) a) (44 + (V 1)) q) (52 + (V 1)) gr) (va_up (fun j => (va_up (va_up (va_up V (28 + (V 1)) k) (36 + (V 1)) a) (44 + (V 1)) q) (52 + j)) (V 1) gr) hw (fun j hj => va_up_ne _ _ (by omega)) (fun j hj => up_sh _ _ _ _ _)
  have hfr := fr_tr hfr hf4 (by omega) (by omega)
  refine lv_aload_n hx hb dX10_addWrong_41 rfl (lv_at hl 0 rfl) ?_
  refine nr_get (own := RX10) (C := RX10) (T := TX10) (N := 15) (v := .ref (ad Γ (b + 7))) hx hb hts hi_X10_addWrong_X10 hown hw (by omega) (isV_0 hV) rfl 8 (by decide) wl_X10_addWrong_6 rfl rfl dX10_addWrong_42 ?_
  refine lv_aload_n hx hb dX10_addWrong_45 rfl (lv_at hl 0 rfl) ?_
  refine nr_get (own := RX10) (C := RX10) (T := TX10) (N := 15) (v := .int (nI (V 1))) hx hb hts hi_X10_addWrong_X10 hown hw (by omega) (isV_0 hV) rfl 3 (by decide) wl_X10_addWrong_2 rfl (congrArg (fun z => some (Value.int (nI z))) (show (va_up (va_up (va_up (va_up V (28 + (V 1)) k) (36 + (V 1)) a) (44 + (V 1)) q) (52 + (V 1)) gr) 1 = V 1 from by first | rfl | (simp only [va_up, cpA]; (repeat' split) <;> first | rfl | omega | contradiction | (exfalso; omega) | simp_all))) dX10_addWrong_46 ?_
  refine lv_iconst (v := nI 0) hx hb dX10_addWrong_49 (by decide) ?_
  refine nr_iast (k := V 1) (v := 0) hx hb hw hj hA hS (by omega) (isV_7 hV) (by omega) (by decide) dX10_addWrong_50 (fun H locs hw hS => ?_)
  obtain ⟨G5, hw, hV, hf5⟩ := nv_c7 hV (va_up (va_up (va_up (va_up (va_up V (28 + (V 1)) k) (36 + (V 1)) a) (44 + (V 1)) q) (52 + (V 1)) gr) (12 + (V 1)) 0) (va_up (fun j => (va_up (va_up (va_up (va_up V (28 + (V 1)) k) (36 + (V 1)) a) (44 + (V 1)) q) (52 + (V 1)) gr) (12 + j)) (V 1) 0) hw (fun j hj => va_up_ne _ _ (by omega)) (fun j hj => up_sh _ _ _ _ _)
  have hfr := fr_tr hfr hf5 (by omega) (by omega)
  refine lv_aload_n hx hb dX10_addWrong_51 rfl (lv_at hl 0 rfl) ?_
  refine lv_dup hx hb dX10_addWrong_52 rfl ?_
  refine nr_get (own := RX10) (C := RX10) (T := TX10) (N := 15) (v := .int (nI (V 1))) hx hb hts hi_X10_addWrong_X10 hown hw (by omega) (isV_0 hV) rfl 3 (by decide) wl_X10_addWrong_2 rfl (congrArg (fun z => some (Value.int (nI z))) (show (va_up (va_up (va_up (va_up (va_up V (28 + (V 1)) k) (36 + (V 1)) a) (44 + (V 1)) q) (52 + (V 1)) gr) (12 + (V 1)) 0) 1 = V 1 from by first | rfl | (simp only [va_up, cpA]; (repeat' split) <;> first | rfl | omega | contradiction | (exfalso; omega) | simp_all))) dX10_addWrong_53 ?_
  refine lv_iconst (v := nI 1) hx hb dX10_addWrong_56 (by decide) ?_
  refine nr_iadd hx hb dX10_addWrong_57 ?_
  obtain ⟨w7, ew7⟩ : ∃ f, f = va_up (va_up (va_up (va_up (va_up (va_up V (28 + (V 1)) k) (36 + (V 1)) a) (44 + (V 1)) q) (52 + (V 1)) gr) (12 + (V 1)) 0) 1 (V 1 + 1) := ⟨_, rfl⟩
  refine nr_put (own := RX10) (C := RX10) (T := TX10) (N := 15) (ty := .int) (v := .int (nI (V 1 + 1))) (fs' := [.int (nI (w7 0)), .ref (ad Γ (b + 1)), .ref (ad Γ (b + 2)), .int (nI (w7 1)), .ref (ad Γ (b + 3)), .ref (ad Γ (b + 4)), .ref (ad Γ (b + 5)), .ref (ad Γ (b + 6)), .ref (ad Γ (b + 7)), .int (nI (w7 20)), .int (nI (w7 21)), .ref (ad Γ (b + 8)), .ref (ad Γ (b + 9)), .ref (ad Γ (b + 10)), .ref (ad Γ (b + 11))]) hx hb hts hi_X10_addWrong_X10 tyX10 tyX10_ok nmX10 hown hw hj hA hS (by omega) (isV_0 hV) rfl 3 (by decide) wl_X10_addWrong_2 rfl rfl (by decide +kernel) rfl rfl (Nat.le_of_ble_eq_true rfl) (by rw [ew7]; rfl) dX10_addWrong_58 (fun H locs hw hS => ?_)
  subst ew7
  obtain ⟨G6, hw, hV, hf6⟩ := nv_c0 hV (va_up (va_up (va_up (va_up (va_up (va_up V (28 + (V 1)) k) (36 + (V 1)) a) (44 + (V 1)) q) (52 + (V 1)) gr) (12 + (V 1)) 0) 1 (V 1 + 1)) hw (fun j h1 h2 h3 h4 => va_up_ne _ _ (by assumption))
  have hfr := fr_tr hfr hf6 (by omega) (by omega)
  refine lv_aload_n hx hb dX10_addWrong_61 rfl (lv_at hl 0 rfl) ?_
  refine nr_get (own := RX10) (C := RX10) (T := TX10) (N := 15) (v := .int (nI (V 1 + 1))) hx hb hts hi_X10_addWrong_X10 hown hw (by omega) (isV_0 hV) rfl 3 (by decide) wl_X10_addWrong_2 rfl (congrArg (fun z => some (Value.int (nI z))) (show (va_up (va_up (va_up (va_up (va_up (va_up V (28 + (V 1)) k) (36 + (V 1)) a) (44 + (V 1)) q) (52 + (V 1)) gr) (12 + (V 1)) 0) 1 (V 1 + 1)) 1 = V 1 + 1 from by first | rfl | (simp only [va_up, cpA]; (repeat' split) <;> first | rfl | omega | contradiction | (exfalso; omega) | simp_all))) dX10_addWrong_62 ?_
  refine lv_iconst (v := nI 1) hx hb dX10_addWrong_65 (by decide) ?_
  refine nr_isub hx hb (by omega) dX10_addWrong_66 ?_
  exact nr_retI hx hb hr hlocks hw hS (⟨congrArg nI (by omega), hV, hfr⟩) dX10_addWrong_67
theorem wl_X10_stroke_1 : Cond.fieldLink RX10 21 "BellForgiven$Valley" "by" "[I" ∈ wsX10_stroke := List.mem_of_getElem? (i := 1) rfl
theorem wl_X10_stroke_2 : Cond.fieldLink RX10 62 "BellForgiven$Valley" "letOff" "I" ∈ wsX10_stroke := List.mem_of_getElem? (i := 2) rfl
theorem wl_X10_stroke_3 : Cond.fieldLink RX10 15 "BellForgiven$Valley" "rung" "[I" ∈ wsX10_stroke := List.mem_of_getElem? (i := 3) rfl
theorem hi_X10_stroke_X10 : ∀ w ∈ u_ws RX10 TX10 15, w ∈ wsX10_stroke := fun w h => (List.mem_cons_of_mem _ (List.mem_append_right _ h))
set_option maxHeartbeats 4000000 in
set_option maxRecDepth 100000 in
theorem c_X10_stroke (l : Launch) (Γ : Gam) (n : Nat) (G : Nat → va_E) (b : Nat) (V : Nat → Nat) (hV : isV Γ G b V) (hn_b : b + 16 ≤ n) (hj : winj Γ n) (k : Nat) (hI : vI V) (hk : k < 8) (hr9 : V (6 + V (36 + k)) ≤ 1998)  : Met l yX10_stroke wsX10_stroke ({ frames := 0, cells := 0, slots := 0, locals := 0 }) (va_Pc [.ref (ad Γ (b + 0)), .int (nI k)] (fun U => hw Γ n G U U.heap)) (wQi Γ n (fun z G2 => (z = nI (V (6 + V (36 + k)) + 1)) ∧ (isV Γ G2 b (stkV V k) ∧ fr G G2 (b + 0) (b + 16)))) 0 0 (wA Γ n) := by
  refine Met.ofW (cc := cX10_stroke) (maxL := 3) (ret := (some .int)) (by decide) rfl ?_
  intro p e s m args below meth c s₁ B hml hv
  obtain ⟨rfl, hw⟩ := hv
  have hx := B.exec
  have hb := B.bytes
  have hr := B.returns
  have hts := atoms_spec (ws := wsX10_stroke) B.pre
  have hown : s.vm.findClass RX10 = some m.cls := findClass_of_methodNamed B.named
  have hlocks := B.notSynchronized
  have hS : va_S (wA Γ n) s.heap s.heap [] := va_S.rf
  have hA : ∀ q, wA Γ n q → wA Γ n q := fun _ h => h
  have hl := lv_entry ([.ref (ad Γ (b + 0)), .int (nI k)]) (n := 3) (Nat.le_of_ble_eq_true rfl)
  rw [lg_entry_eq]
  generalize (lg_sl ([.ref (ad Γ (b + 0)), .int (nI k)]) ++ List.replicate (3 - (lg_sl ([.ref (ad Γ (b + 0)), .int (nI k)])).length) Slot.unset).toArray = ls at hl ⊢
  have hl : lv_has ls 3 [(0, .ref (ad Γ (b + 0))), (1, .int (nI k))] := hl
  have hfr := fr_rf G (b + 0) (b + 16)
  have hB := hI.1
  have hB0 := hI.2.1
  have hB1 := hI.2.2.1
  have hB20 := hI.2.2.2.2.2.2.2.2.2
  have hBz2 := hI.2.2.2.1
  have hBz3 := hI.2.2.2.2.1
  have hBz4 := hI.2.2.2.2.2.1
  have hBz5 := hI.2.2.2.2.2.2.1
  have hBd := hB 21
  have hby := hI.2.2.2.2.2.2.2.1 k hk
  refine lv_aload_n hx hb dX10_stroke_0 rfl (lv_at hl 0 rfl) ?_
  refine nr_get (own := RX10) (C := RX10) (T := TX10) (N := 15) (v := .ref (ad Γ (b + 4))) hx hb hts hi_X10_stroke_X10 hown hw (by omega) (isV_0 hV) rfl 5 (by decide) wl_X10_stroke_1 rfl rfl dX10_stroke_1 ?_
  refine lv_iload_n hx hb dX10_stroke_4 rfl (lv_at hl 1 rfl) ?_
  refine nr_iald (x := (V (36 + k))) hx hb hw (by omega) (isV_4 hV) rfl (by omega) (by decide) dX10_stroke_5 ?_
  refine lv_istore_n (lv' := [(2, .int (nI (V (36 + k)))), (0, .ref (ad Γ (b + 0))), (1, .int (nI k))]) hx hb dX10_stroke_6 rfl hl (by decide) rfl (fun ls hl => ?_)
  refine lv_aload_n hx hb dX10_stroke_7 rfl (lv_at hl 1 rfl) ?_
  refine lv_dup hx hb dX10_stroke_8 rfl ?_
  refine nr_get (own := RX10) (C := RX10) (T := TX10) (N := 15) (v := .int (nI (V 20))) hx hb hts hi_X10_stroke_X10 hown hw (by omega) (isV_0 hV) rfl 9 (by decide) wl_X10_stroke_2 rfl rfl dX10_stroke_9 ?_
  refine lv_iconst (v := nI 1) hx hb dX10_stroke_12 (by decide) ?_
  refine lv_iload_n hx hb dX10_stroke_13 rfl (lv_at hl 2 rfl) ?_
  refine nr_ishl1 hx hb (by omega) dX10_stroke_14 ?_
  refine nr_ior hx hb dX10_stroke_15 ?_
  obtain ⟨w2, ew2⟩ : ∃ f, f = va_up V 20 ((V 20) ||| (2 ^ k)) := ⟨_, rfl⟩
  refine nr_put (own := RX10) (C := RX10) (T := TX10) (N := 15) (ty := .int) (v := .int (nI ((V 20) ||| (2 ^ k)))) (fs' := [.int (nI (w2 0)), .ref (ad Γ (b + 1)), .ref (ad Γ (b + 2)), .int (nI (w2 1)), .ref (ad Γ (b + 3)), .ref (ad Γ (b + 4)), .ref (ad Γ (b + 5)), .ref (ad Γ (b + 6)), .ref (ad Γ (b + 7)), .int (nI (w2 20)), .int (nI (w2 21)), .ref (ad Γ (b + 8)), .ref (ad Γ (b + 9)), .ref (ad Γ (b + 10)), .ref (ad Γ (b + 11))]) hx hb hts hi_X10_stroke_X10 tyX10 tyX10_ok nmX10 hown hw hj hA hS (by omega) (isV_0 hV) rfl 9 (by decide) wl_X10_stroke_2 rfl rfl (by decide +kernel) rfl rfl (Nat.le_of_ble_eq_true rfl) (by rw [ew2]; rfl) dX10_stroke_16 (fun H locs hw hS => ?_)
  subst ew2
  obtain ⟨G1, hw, hV, hf1⟩ := nv_c0 hV (va_up V 20 ((V 20) ||| (2 ^ k))) hw (fun j h1 h2 h3 h4 => va_up_ne _ _ (by assumption))
  have hfr := fr_tr hfr hf1 (by omega) (by omega)
  refine lv_aload_n hx hb dX10_stroke_19 rfl (lv_at hl 1 rfl) ?_
  refine nr_get (own := RX10) (C := RX10) (T := TX10) (N := 15) (v := .ref (ad Γ (b + 2))) hx hb hts hi_X10_stroke_X10 hown hw (by omega) (isV_0 hV) rfl 2 (by decide) wl_X10_stroke_3 rfl rfl dX10_stroke_20 ?_
  refine lv_iload_n hx hb dX10_stroke_23 rfl (lv_at hl 0 rfl) ?_
  refine lv_dup2_11 hx hb dX10_stroke_24 rfl rfl ?_
  refine nr_iald (x := (V (6 + V (36 + k)))) hx hb hw (by omega) (isV_2 hV) (by first | rfl | (simp only [va_up, cpA]; (repeat' split) <;> first | rfl | omega | contradiction | (exfalso; omega) | simp_all)) (by omega) (by decide) dX10_stroke_25 ?_
  refine lv_iconst (v := nI 1) hx hb dX10_stroke_26 (by decide) ?_
  refine nr_iadd hx hb dX10_stroke_27 ?_
  refine nr_iast (k := V (36 + k)) (v := V (6 + V (36 + k)) + 1) hx hb hw hj hA hS (by omega) (isV_2 hV) (by omega) (by decide) dX10_stroke_28 (fun H locs hw hS => ?_)
  obtain ⟨G3, hw, hV, hf3⟩ := nv_c2 hV (va_up (va_up V 20 ((V 20) ||| (2 ^ k))) (6 + (V (36 + k))) (V (6 + V (36 + k)) + 1)) (va_up (fun j => (va_up V 20 ((V 20) ||| (2 ^ k))) (6 + j)) (V (36 + k)) (V (6 + V (36 + k)) + 1)) hw (fun j hj => va_up_ne _ _ (by omega)) (fun j hj => up_sh _ _ _ _ _)
  have hfr := fr_tr hfr hf3 (by omega) (by omega)
  refine lv_aload_n hx hb dX10_stroke_29 rfl (lv_at hl 1 rfl) ?_
  refine nr_get (own := RX10) (C := RX10) (T := TX10) (N := 15) (v := .ref (ad Γ (b + 2))) hx hb hts hi_X10_stroke_X10 hown hw (by omega) (isV_0 hV) rfl 2 (by decide) wl_X10_stroke_3 rfl rfl dX10_stroke_30 ?_
  refine lv_iload_n hx hb dX10_stroke_33 rfl (lv_at hl 0 rfl) ?_
  refine nr_iald (x := (V (6 + V (36 + k)) + 1)) hx hb hw (by omega) (isV_2 hV) (by first | rfl | (simp only [va_up, cpA]; (repeat' split) <;> first | rfl | omega | contradiction | (exfalso; omega) | simp_all)) (by omega) (by decide) dX10_stroke_34 ?_
  exact nr_retI hx hb hr hlocks hw hS (⟨rfl, ⟨hV, hfr⟩⟩) dX10_stroke_35
theorem wl_X10_remember_1 : Cond.fieldLink RX10 51 "BellForgiven$Valley" "past" "LBellForgiven$Past;" ∈ wsX10_remember := List.mem_of_getElem? (i := 1) rfl
theorem hi_X10_remember_X10 : ∀ w ∈ u_ws RX10 TX10 15, w ∈ wsX10_remember := fun w h => (List.mem_cons_of_mem _ (List.mem_append_left _ (List.mem_append_right _ h)))
set_option maxHeartbeats 4000000 in
set_option maxRecDepth 100000 in
theorem c_X10_remember (l : Launch) (Γ : Gam) (n : Nat) (G : Nat → va_E) (b : Nat) (V : Nat → Nat) (hV : isV Γ G b V) (hn_b : b + 16 ≤ n) (hj : winj Γ n) (hI : vI V)  : Met l yX10_remember wsX10_remember ({ frames := 2, cells := 0, slots := 0, locals := 48 }) (va_Pc [.ref (ad Γ (b + 0))] (fun U => hw Γ n G U U.heap)) (wQv Γ n (fun G2 => isV Γ G2 b (saveR V) ∧ fr G G2 (b + 0) (b + 16))) 0 0 (wA Γ n) := by
  refine Met.ofW (cc := cX10_remember) (maxL := 1) (ret := none) (by decide) rfl ?_
  intro p e s m args below meth c s₁ B hml hv
  obtain ⟨rfl, hw⟩ := hv
  have hx := B.exec
  have hb := B.bytes
  have hr := B.returns
  have hts := atoms_spec (ws := wsX10_remember) B.pre
  have hown : s.vm.findClass RX10 = some m.cls := findClass_of_methodNamed B.named
  have hlocks := B.notSynchronized
  have hS : va_S (wA Γ n) s.heap s.heap [] := va_S.rf
  have hA : ∀ q, wA Γ n q → wA Γ n q := fun _ h => h
  have hl := lv_entry ([.ref (ad Γ (b + 0))]) (n := 1) (Nat.le_of_ble_eq_true rfl)
  rw [lg_entry_eq]
  generalize (lg_sl ([.ref (ad Γ (b + 0))]) ++ List.replicate (1 - (lg_sl ([.ref (ad Γ (b + 0))])).length) Slot.unset).toArray = ls at hl ⊢
  have hl : lv_has ls 1 [(0, .ref (ad Γ (b + 0)))] := hl
  have hfr := fr_rf G (b + 0) (b + 16)
  have hB := hI.1
  have hB0 := hI.2.1
  have hB1 := hI.2.2.1
  have hB20 := hI.2.2.2.2.2.2.2.2.2
  have hBz2 := hI.2.2.2.1
  have hBz3 := hI.2.2.2.2.1
  have hBz4 := hI.2.2.2.2.2.1
  have hBz5 := hI.2.2.2.2.2.2.1
  have hBd := hB 21
  refine lv_aload_n hx hb dX10_remember_0 rfl (lv_at hl 0 rfl) ?_
  refine nr_get (own := RX10) (C := RX10) (T := TX10) (N := 15) (v := .ref (ad Γ (b + 11))) hx hb hts hi_X10_remember_X10 hown hw (by omega) (isV_0 hV) rfl 14 (by decide) wl_X10_remember_1 rfl rfl dX10_remember_1 ?_
  refine lv_aload_n hx hb dX10_remember_4 rfl (lv_at hl 0 rfl) ?_
  refine nr_goV (nr_runV (As := [.ref (ad Γ (b + 0))]) (C := RX4) (T := TX4) (N := 2) ⟨hx, hb, hml, hown, hts⟩ hw (by omega) (isV_11 hV) rfl (c_X4_push l Γ n G b V hV (by omega) hj (by first | assumption | omega)) (cwV 1 hts gX10_remember_X4_push rfl rfl rfl (by decide +kernel) ⟨Nat.le_of_ble_eq_true rfl, Nat.le_of_ble_eq_true rfl⟩) rfl hl.1 rfl (Nat.le_of_ble_eq_true rfl) dX10_remember_5 ⟨Nat.zero_le _, Nat.zero_le _⟩) hw hA hS (fun G1 H locs hp hw hS => ?_)
  obtain ⟨hV, hf1⟩ := hp
  have hfr := fr_tr hfr hf1 (by omega) (by omega)
  have hV : isV Γ G1 b (saveR V) := hV
  exact nr_retV hx hb hr hlocks hw hS (⟨hV, hfr⟩) dX10_remember_8
theorem wl_X10_goBack_1 : Cond.fieldLink RX10 51 "BellForgiven$Valley" "past" "LBellForgiven$Past;" ∈ wsX10_goBack := List.mem_of_getElem? (i := 1) rfl
theorem hi_X10_goBack_X10 : ∀ w ∈ u_ws RX10 TX10 15, w ∈ wsX10_goBack := fun w h => (List.mem_cons_of_mem _ (List.mem_append_left _ (List.mem_append_right _ h)))
set_option maxHeartbeats 4000000 in
set_option maxRecDepth 100000 in
theorem c_X10_goBack (l : Launch) (Γ : Gam) (n : Nat) (G : Nat → va_E) (b : Nat) (V : Nat → Nat) (hV : isV Γ G b V) (hn_b : b + 16 ≤ n) (hj : winj Γ n) (hI : vI V) (h5 : 0 < V 5)  : Met l yX10_goBack wsX10_goBack ({ frames := 2, cells := 0, slots := 0, locals := 48 }) (va_Pc [.ref (ad Γ (b + 0))] (fun U => hw Γ n G U U.heap)) (wQv Γ n (fun G2 => isV Γ G2 b (popR V) ∧ fr G G2 (b + 0) (b + 16))) 0 0 (wA Γ n) := by
  refine Met.ofW (cc := cX10_goBack) (maxL := 1) (ret := none) (by decide) rfl ?_
  intro p e s m args below meth c s₁ B hml hv
  obtain ⟨rfl, hw⟩ := hv
  have hx := B.exec
  have hb := B.bytes
  have hr := B.returns
  have hts := atoms_spec (ws := wsX10_goBack) B.pre
  have hown : s.vm.findClass RX10 = some m.cls := findClass_of_methodNamed B.named
  have hlocks := B.notSynchronized
  have hS : va_S (wA Γ n) s.heap s.heap [] := va_S.rf
  have hA : ∀ q, wA Γ n q → wA Γ n q := fun _ h => h
  have hl := lv_entry ([.ref (ad Γ (b + 0))]) (n := 1) (Nat.le_of_ble_eq_true rfl)
  rw [lg_entry_eq]
  generalize (lg_sl ([.ref (ad Γ (b + 0))]) ++ List.replicate (1 - (lg_sl ([.ref (ad Γ (b + 0))])).length) Slot.unset).toArray = ls at hl ⊢
  have hl : lv_has ls 1 [(0, .ref (ad Γ (b + 0)))] := hl
  have hfr := fr_rf G (b + 0) (b + 16)
  have hB := hI.1
  have hB0 := hI.2.1
  have hB1 := hI.2.2.1
  have hB20 := hI.2.2.2.2.2.2.2.2.2
  have hBz2 := hI.2.2.2.1
  have hBz3 := hI.2.2.2.2.1
  have hBz4 := hI.2.2.2.2.2.1
  have hBz5 := hI.2.2.2.2.2.2.1
  have hBd := hB 21
  refine lv_aload_n hx hb dX10_goBack_0 rfl (lv_at hl 0 rfl) ?_
  refine nr_get (own := RX10) (C := RX10) (T := TX10) (N := 15) (v := .ref (ad Γ (b + 11))) hx hb hts hi_X10_goBack_X10 hown hw (by omega) (isV_0 hV) rfl 14 (by decide) wl_X10_goBack_1 rfl rfl dX10_goBack_1 ?_
  refine lv_aload_n hx hb dX10_goBack_4 rfl (lv_at hl 0 rfl) ?_
  refine nr_goV (nr_runV (As := [.ref (ad Γ (b + 0))]) (C := RX4) (T := TX4) (N := 2) ⟨hx, hb, hml, hown, hts⟩ hw (by omega) (isV_11 hV) rfl (c_X4_pop l Γ n G b V hV (by omega) hj (by first | assumption | omega) (by first | assumption | omega)) (cwV 1 hts gX10_goBack_X4_pop rfl rfl rfl (by decide +kernel) ⟨Nat.le_of_ble_eq_true rfl, Nat.le_of_ble_eq_true rfl⟩) rfl hl.1 rfl (Nat.le_of_ble_eq_true rfl) dX10_goBack_5 ⟨Nat.zero_le _, Nat.zero_le _⟩) hw hA hS (fun G1 H locs hp hw hS => ?_)
  obtain ⟨hV, hf1⟩ := hp
  have hfr := fr_tr hfr hf1 (by omega) (by omega)
  have hV : isV Γ G1 b (popR V) := hV
  exact nr_retV hx hb hr hlocks hw hS (⟨hV, hfr⟩) dX10_goBack_8
theorem wl_X10_pass_1 : Cond.fieldLink RX10 65 "BellForgiven$Valley" "day" "I" ∈ wsX10_pass := List.mem_of_getElem? (i := 1) rfl
theorem wl_X10_pass_2 : Cond.methodLink RX10 89 Lib.Math.min.name ∈ wsX10_pass := List.mem_of_getElem? (i := 2) rfl
theorem wl_X10_pass_3 : Cond.static Lib.Math.min.name ∈ wsX10_pass := List.mem_of_getElem? (i := 3) rfl
theorem wl_X10_pass_4 : Cond.initialized "java/lang/Math" ∈ wsX10_pass := List.mem_of_getElem? (i := 4) rfl
theorem wl_X10_pass_5 : Cond.code Lib.Math.min.name Lib.Math.min.code 2 (some .int) ∈ wsX10_pass := List.mem_of_getElem? (i := 5) rfl
theorem wl_X10_pass_6 : Cond.fieldLink RX10 59 "BellForgiven$Valley" "wrongs" "I" ∈ wsX10_pass := List.mem_of_getElem? (i := 6) rfl
theorem wl_X10_pass_7 : Cond.fieldLink RX10 62 "BellForgiven$Valley" "letOff" "I" ∈ wsX10_pass := List.mem_of_getElem? (i := 7) rfl
theorem wl_X10_pass_8 : Cond.fieldLink RX10 30 "BellForgiven$Valley" "age" "[I" ∈ wsX10_pass := List.mem_of_getElem? (i := 8) rfl
theorem wl_X10_pass_9 : Cond.static yX11_holds ∈ wsX10_pass := List.mem_of_getElem? (i := 9) rfl
theorem wl_X10_pass_10 : Cond.initialized RX11 ∈ wsX10_pass := List.mem_of_getElem? (i := 10) rfl
theorem hi_X10_pass_X10 : ∀ w ∈ u_ws RX10 TX10 15, w ∈ wsX10_pass := fun w h => (List.mem_cons_of_mem _ (List.mem_append_right _ h))
set_option maxHeartbeats 4000000 in
set_option maxRecDepth 100000 in
theorem c_X10_pass (l : Launch) (Γ : Gam) (n : Nat) (G : Nat → va_E) (b : Nat) (V : Nat → Nat) (hV : isV Γ G b V) (hn_b : b + 16 ≤ n) (hj : winj Γ n) (q : Nat) (hI : vI V) (h21 : V 21 ≤ 999) (hq : q ≤ 2000)  : Met l yX10_pass wsX10_pass ({ frames := 2, cells := 0, slots := 0, locals := 43 }) (va_Pc [.ref (ad Γ (b + 0)), .int (nI q)] (fun U => hw Γ n G U U.heap)) (wQv Γ n (fun G2 => isV Γ G2 b (pasV V (min q (999 - V 21))) ∧ fr G G2 (b + 0) (b + 16))) 0 0 (wA Γ n) := by
  refine Met.ofW (cc := cX10_pass) (maxL := 4) (ret := none) (by decide) rfl ?_
  intro p e s m args below meth c s₁ B hml hv
  obtain ⟨rfl, hw⟩ := hv
  have hx := B.exec
  have hb := B.bytes
  have hr := B.returns
  have hts := atoms_spec (ws := wsX10_pass) B.pre
  have hown : s.vm.findClass RX10 = some m.cls := findClass_of_methodNamed B.named
  have hlocks := B.notSynchronized
  have hS : va_S (wA Γ n) s.heap s.heap [] := va_S.rf
  have hA : ∀ q, wA Γ n q → wA Γ n q := fun _ h => h
  have hl := lv_entry ([.ref (ad Γ (b + 0)), .int (nI q)]) (n := 4) (Nat.le_of_ble_eq_true rfl)
  rw [lg_entry_eq]
  generalize (lg_sl ([.ref (ad Γ (b + 0)), .int (nI q)]) ++ List.replicate (4 - (lg_sl ([.ref (ad Γ (b + 0)), .int (nI q)])).length) Slot.unset).toArray = ls at hl ⊢
  have hl : lv_has ls 4 [(0, .ref (ad Γ (b + 0))), (1, .int (nI q))] := hl
  have hfr := fr_rf G (b + 0) (b + 16)
  have hB := hI.1
  have hB0 := hI.2.1
  have hB1 := hI.2.2.1
  have hB20 := hI.2.2.2.2.2.2.2.2.2
  have hBz2 := hI.2.2.2.1
  have hBz3 := hI.2.2.2.2.1
  have hBz4 := hI.2.2.2.2.2.1
  have hBz5 := hI.2.2.2.2.2.2.1
  have hBd := hB 21
  refine lv_iload_n hx hb dX10_pass_0 rfl (lv_at hl 1 rfl) ?_
  refine lv_sipush (v := nI 999) hx hb dX10_pass_1 (by decide) ?_
  refine lv_aload_n hx hb dX10_pass_4 rfl (lv_at hl 0 rfl) ?_
  refine nr_get (own := RX10) (C := RX10) (T := TX10) (N := 15) (v := .int (nI (V 21))) hx hb hts hi_X10_pass_X10 hown hw (by omega) (isV_0 hV) rfl 10 (by decide) wl_X10_pass_1 rfl rfl dX10_pass_5 ?_
  refine nr_isub hx hb (by omega) dX10_pass_8 ?_
  refine nr_mmin hx hb (hml.trans hl.1.symm) hown (hts _ wl_X10_pass_2) (hts _ wl_X10_pass_3) (hts _ wl_X10_pass_4) (hts _ wl_X10_pass_5) (Nat.le_of_ble_eq_true rfl) (Nat.le_of_ble_eq_true rfl) (Nat.zero_le _) (Nat.zero_le _) (by omega) (by omega) dX10_pass_9 ?_
  refine lv_istore_n (lv' := [(2, .int (nI (min q (999 - (V 21))))), (0, .ref (ad Γ (b + 0))), (1, .int (nI q))]) hx hb dX10_pass_12 rfl hl (by decide) rfl (fun ls hl => ?_)
  refine lv_iconst (v := nI 0) hx hb dX10_pass_13 (by decide) ?_
  refine lv_istore_n (lv' := [(3, .int (nI 0)), (2, .int (nI (min q (999 - (V 21))))), (0, .ref (ad Γ (b + 0))), (1, .int (nI q))]) hx hb dX10_pass_14 rfl hl (by decide) rfl (fun ls hl => ?_)
  refine nr_lpI (σ := (Nat → va_E) × Nat × (Nat → Nat)) 15 (fun x => x.1) (fun x lv => lv = [(0, .ref (ad Γ (b + 0))), (1, .int (nI q)), (2, .int (nI (min q (999 - (V 21))))), (3, .int (nI x.2.1))] ∧ isV Γ x.1 b x.2.2 ∧ fr G x.1 (b + 0) (b + 16) ∧ (x.2.1 ≤ V 1) ∧ (x.2.2 = agP V (min q (999 - V 21)) x.2.1)) (fun x => V 1 - x.2.1) (G, 0, V) hw hS (lv_sub hl [2, 3, 1, 0] rfl) ⟨rfl, hV, hfr, by (try dsimp only); omega, by (try dsimp only); exact (agP_0 V _)⟩ ?_
  intro x lv ls H locs hw hS hl hI ih15
  obtain ⟨Gl15, k, VL15⟩ := x
  obtain ⟨rfl, hV, hfr, hk, hVL⟩ := hI
  try dsimp only at hV hfr hk hVL hw hl ih15
  have hIL : vI VL15 := by rw [hVL]; exact vI_agP hI _ (by omega)
  have hA9 : VL15 (12 + k) = V (12 + k) := by rw [hVL]; exact agP_out (by omega)
  refine lv_iload_n hx hb dX10_pass_15 rfl (lv_at hl 3 rfl) ?_
  refine lv_aload_n hx hb dX10_pass_16 rfl (lv_at hl 0 rfl) ?_
  refine nr_get (own := RX10) (C := RX10) (T := TX10) (N := 15) (v := .int (nI (V 1))) hx hb hts hi_X10_pass_X10 hown hw (by omega) (isV_0 hV) rfl 3 (by decide) wl_X10_pass_6 rfl (congrArg (fun z => some (Value.int (nI z))) (show VL15 1 = V 1 from by rw [hVL]; exact agP_out (by omega))) dX10_pass_17 ?_
  refine nr_icmp_ge (tgt := 52) hx hb (by omega) (by omega) dX10_pass_20 (by decide) (fun c1 => ?_) (fun c1 => ?_)
  · refine lv_aload_n hx hb dX10_pass_52 rfl (lv_at hl 0 rfl) ?_
    refine lv_dup hx hb dX10_pass_53 rfl ?_
    refine nr_get (own := RX10) (C := RX10) (T := TX10) (N := 15) (v := .int (nI (V 21))) hx hb hts hi_X10_pass_X10 hown hw (by omega) (isV_0 hV) rfl 10 (by decide) wl_X10_pass_1 rfl (congrArg (fun z => some (Value.int (nI z))) (show VL15 21 = V 21 from by rw [hVL]; exact agP_out (by omega))) dX10_pass_54 ?_
    refine lv_iload_n hx hb dX10_pass_57 rfl (lv_at hl 2 rfl) ?_
    refine nr_iadd hx hb dX10_pass_58 ?_
    obtain ⟨w3, ew3⟩ : ∃ f, f = va_up VL15 21 (V 21 + (min q (999 - (V 21)))) := ⟨_, rfl⟩
    refine nr_put (own := RX10) (C := RX10) (T := TX10) (N := 15) (ty := .int) (v := .int (nI (V 21 + (min q (999 - (V 21)))))) (fs' := [.int (nI (w3 0)), .ref (ad Γ (b + 1)), .ref (ad Γ (b + 2)), .int (nI (w3 1)), .ref (ad Γ (b + 3)), .ref (ad Γ (b + 4)), .ref (ad Γ (b + 5)), .ref (ad Γ (b + 6)), .ref (ad Γ (b + 7)), .int (nI (w3 20)), .int (nI (w3 21)), .ref (ad Γ (b + 8)), .ref (ad Γ (b + 9)), .ref (ad Γ (b + 10)), .ref (ad Γ (b + 11))]) hx hb hts hi_X10_pass_X10 tyX10 tyX10_ok nmX10 hown hw hj hA hS (by omega) (isV_0 hV) rfl 10 (by decide) wl_X10_pass_1 rfl rfl (by decide +kernel) rfl rfl (Nat.le_of_ble_eq_true rfl) (by rw [ew3]; rfl) dX10_pass_59 (fun H locs hw hS => ?_)
    subst ew3
    obtain ⟨G2, hw, hV, hf2⟩ := nv_c0 hV (va_up VL15 21 (V 21 + (min q (999 - (V 21))))) hw (fun j h1 h2 h3 h4 => va_up_ne _ _ (by assumption))
    have hfr := fr_tr hfr hf2 (by omega) (by omega)
    exact nr_retV hx hb hr hlocks hw hS (⟨by rw [show pasV V (min q (999 - V 21)) = va_up VL15 21 (V 21 + (min q (999 - (V 21)))) from (by rw [hVL, show k = V 1 by omega]; rfl)]; exact hV, hfr⟩) dX10_pass_62
  · refine lv_aload_n hx hb dX10_pass_23 rfl (lv_at hl 0 rfl) ?_
    refine nr_get (own := RX10) (C := RX10) (T := TX10) (N := 15) (v := .int (nI (V 20))) hx hb hts hi_X10_pass_X10 hown hw (by omega) (isV_0 hV) rfl 9 (by decide) wl_X10_pass_7 rfl (congrArg (fun z => some (Value.int (nI z))) (show VL15 20 = V 20 from by rw [hVL]; exact agP_out (by omega))) dX10_pass_24 ?_
    refine lv_iload_n hx hb dX10_pass_27 rfl (lv_at hl 3 rfl) ?_
    refine nr_goB (P := bt (V 20) k) (nr_runN (As := [.int (nI (V 20)), .int (nI k)]) ⟨hx, hb, hml, hown, hts⟩ hw (c_X11_holds l Γ n Gl15 (V 20) k (by omega) (by omega)) ⟨va_cnB 2 hts gX10_pass_X11_holds_n95 rfl rfl rfl (hw.2.2 _ (List.mem_of_getElem? (i := 15) rfl)) (hts _ wl_X10_pass_10) (by decide +kernel) ⟨Nat.le_of_ble_eq_true rfl, Nat.le_of_ble_eq_true rfl⟩, hts _ wl_X10_pass_9, trivial⟩ rfl hl.1 rfl (Nat.le_of_ble_eq_true rfl) dX10_pass_28 ⟨Nat.zero_le _, Nat.zero_le _⟩) (fun b4 => ?_) (fun b4 => ?_)
    · refine nr_if_ne (tgt := 46) hx hb (by decide) dX10_pass_31 (by decide) (fun c5 => ?_) (fun c5 => absurd c5 (by decide))
      refine nr_inc (d := 1) (k := 3) (lv' := [(3, .int (nI (k + 1))), (0, .ref (ad Γ (b + 0))), (1, .int (nI q)), (2, .int (nI (min q (999 - (V 21)))))]) hx hb dX10_pass_46 hl rfl (by decide) (by decide) rfl (fun ls hl => ?_)
      refine lv_goto (tgt := 15) hx hb dX10_pass_49 (by decide) ?_
      exact ih15 (Gl15, k + 1, VL15) _ _ _ _ hw hS (lv_sub hl [1, 2, 3, 0] rfl) ⟨rfl, hV, hfr, by (try dsimp only); omega, by (try dsimp only); first | (rw [hVL]; exact agP_n (by assumption)) | (rw [hA9, hVL]; exact agP_y (by assumption))⟩ (by (try dsimp only); omega)
    · refine nr_if_ne (tgt := 46) hx hb (by decide) dX10_pass_31 (by decide) (fun c6 => absurd c6 (by decide)) (fun c6 => ?_)
      refine lv_aload_n hx hb dX10_pass_34 rfl (lv_at hl 0 rfl) ?_
      refine nr_get (own := RX10) (C := RX10) (T := TX10) (N := 15) (v := .ref (ad Γ (b + 7))) hx hb hts hi_X10_pass_X10 hown hw (by omega) (isV_0 hV) rfl 8 (by decide) wl_X10_pass_8 rfl rfl dX10_pass_35 ?_
      refine lv_iload_n hx hb dX10_pass_38 rfl (lv_at hl 3 rfl) ?_
      refine lv_aload_n hx hb dX10_pass_39 rfl (lv_at hl 0 rfl) ?_
      refine lv_iload_n hx hb dX10_pass_40 rfl (lv_at hl 3 rfl) ?_
      refine lv_iload_n hx hb dX10_pass_41 rfl (lv_at hl 2 rfl) ?_
      refine nr_goS (nr_runV (As := [.int (nI k), .int (nI (min q (999 - (V 21))))]) (C := RX10) (T := TX10) (N := 15) ⟨hx, hb, hml, hown, hts⟩ hw (by omega) (isV_0 hV) rfl (c_X10_ageIn l Γ n Gl15 b VL15 hV (by assumption) (by omega) k (min q (999 - (V 21))) (by omega) (by omega)) (cwV 2 hts gX10_pass_X10_ageIn rfl rfl rfl (by decide +kernel) ⟨Nat.le_of_ble_eq_true rfl, Nat.le_of_ble_eq_true rfl⟩) rfl hl.1 rfl (Nat.le_of_ble_eq_true rfl) dX10_pass_42 ⟨Nat.zero_le _, Nat.zero_le _⟩) (fun r7 hr7 => ?_)
      obtain rfl : r7 = (nI (min 99 (VL15 (12 + k) + (min q (999 - (V 21)))))) := hr7
      refine nr_iast (k := k) (v := min 99 (VL15 (12 + k) + (min q (999 - (V 21))))) hx hb hw hj hA hS (by omega) (isV_7 hV) (by omega) (by decide) dX10_pass_45 (fun H locs hw hS => ?_)
      obtain ⟨G8, hw, hV, hf8⟩ := nv_c7 hV (va_up VL15 (12 + k) (min 99 (VL15 (12 + k) + (min q (999 - (V 21)))))) (va_up (fun j => VL15 (12 + j)) k (min 99 (VL15 (12 + k) + (min q (999 - (V 21)))))) hw (fun j hj => va_up_ne _ _ (by omega)) (fun j hj => up_sh _ _ _ _ _)
      have hfr := fr_tr hfr hf8 (by omega) (by omega)
      refine nr_inc (d := 1) (k := 3) (lv' := [(3, .int (nI (k + 1))), (0, .ref (ad Γ (b + 0))), (1, .int (nI q)), (2, .int (nI (min q (999 - (V 21)))))]) hx hb dX10_pass_46 hl rfl (by decide) (by decide) rfl (fun ls hl => ?_)
      refine lv_goto (tgt := 15) hx hb dX10_pass_49 (by decide) ?_
      exact ih15 (G8, k + 1, va_up VL15 (12 + k) (min 99 (VL15 (12 + k) + (min q (999 - (V 21)))))) _ _ _ _ hw hS (lv_sub hl [1, 2, 3, 0] rfl) ⟨rfl, hV, hfr, by (try dsimp only); omega, by (try dsimp only); first | (rw [hVL]; exact agP_n (by assumption)) | (rw [hA9, hVL]; exact agP_y (by assumption))⟩ (by (try dsimp only); omega)
