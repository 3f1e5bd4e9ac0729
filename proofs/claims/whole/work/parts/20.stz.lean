section SZ
def runF (P : Nat → Prop) [DecidablePred P] : Nat → Nat → Nat
  | 0, a => a
  | f + 1, a => if P a then runF P f (a + 1) else a
/-- from a on as long as P holds, at most to L -/
def runL (P : Nat → Prop) [DecidablePred P] (L a : Nat) : Nat := runF P (L - a) a
theorem runL_stop {P : Nat → Prop} [DecidablePred P] {L a : Nat} (hp : L ≤ a ∨ ¬ P a) : runL P L a = a := by
  unfold runL
  cases h : L - a with
  | zero => rfl
  | succ f =>
    unfold runF
    rw [if_neg]
    rcases hp with q | q
    · omega
    · exact q
theorem runL_go {P : Nat → Prop} [DecidablePred P] {L a : Nat} (h : a < L) (hp : P a) : runL P L (a + 1) = runL P L a := by
  unfold runL
  rw [show L - a = (L - (a + 1)) + 1 by omega]
  show _ = runF P ((L - (a + 1)) + 1) a
  conv => rhs; unfold runF
  rw [if_pos hp]
theorem runF_b {P : Nat → Prop} [DecidablePred P] : ∀ (f a : Nat), a ≤ runF P f a ∧ runF P f a ≤ a + f ∧ ∀ j, a ≤ j → j < runF P f a → P j
  | 0, a => ⟨Nat.le_refl _, Nat.le_refl _, fun j h1 h2 => absurd h2 (Nat.not_lt.mpr h1)⟩
  | f + 1, a => by
    obtain ⟨h1, h2, h3⟩ := runF_b (P := P) f (a + 1)
    unfold runF
    split
    · refine ⟨by omega, by omega, fun j g1 g2 => ?_⟩
      rcases Nat.lt_or_eq_of_le g1 with q | q
      · exact h3 j q g2
      · rw [← q]; assumption
    · exact ⟨Nat.le_refl _, by omega, fun j g1 g2 => absurd g2 (Nat.not_lt.mpr g1)⟩
theorem runL_b {P : Nat → Prop} [DecidablePred P] {L a : Nat} (h : a ≤ L) : a ≤ runL P L a ∧ runL P L a ≤ L ∧ ∀ j, a ≤ j → j < runL P L a → P j := by
  obtain ⟨h1, h2, h3⟩ := runF_b (P := P) (L - a) a
  exact ⟨h1, by unfold runL; omega, h3⟩
abbrev isSm (c : Nat) : Prop := 97 ≤ c ∧ c ≤ 122
abbrev isFg (c : Nat) : Prop := 48 ≤ c ∧ c ≤ 57
abbrev spP (T : Nat → Nat) (j : Nat) : Prop := T j = 32
abbrev smP (T : Nat → Nat) (j : Nat) : Prop := isSm (T j)
abbrev fgP (T : Nat → Nat) (j : Nat) : Prop := isFg (T j)
def tokS (T : Nat → Nat) (L a : Nat) : Nat := runL (spP T) L a
def tokE (T : Nat → Nat) (L x : Nat) : Nat := if x < L then (if isSm (T x) then runL (smP T) L x else if isFg (T x) then runL (fgP T) L x else x + 1) else x
def tokK (T : Nat → Nat) (L x : Nat) : Nat := if x < L then (if isSm (T x) then 1 else if isFg (T x) then (if 2 < tokE T L x - x then 4 else 2) else if T x = 59 then 3 else 4) else 0
def valF (T : Nat → Nat) (x : Nat) : Nat → Nat
  | 0 => 0
  | k + 1 => 10 * valF T x k + T (x + k) - 48
def tokV (T : Nat → Nat) (L x : Nat) : Nat := if x < L ∧ ¬ isSm (T x) ∧ isFg (T x) then valF T x (min 2 (tokE T L x - x)) else 0
def nT (T : Nat → Nat) (L x : Nat) : Nat := tokS T L (tokE T L x)
theorem tokS_b {T : Nat → Nat} {L a : Nat} (h : a ≤ L) : a ≤ tokS T L a ∧ tokS T L a ≤ L := ⟨(runL_b h).1, (runL_b h).2.1⟩
theorem tokE_b {T : Nat → Nat} {L x : Nat} (h : x ≤ L) : x ≤ tokE T L x ∧ tokE T L x ≤ L ∧ (x < L → x < tokE T L x) := by
  unfold tokE
  have h1 := runL_b (P := smP T) h
  have h2 := runL_b (P := fgP T) h
  split
  · split
    · rename_i a b
      have h3 := runL_go (P := smP T) a b
      have h4 := runL_b (P := smP T) (L := L) (a := x + 1) (by omega)
      omega
    · split
      · rename_i a b c
        have h3 := runL_go (P := fgP T) a c
        have h4 := runL_b (P := fgP T) (L := L) (a := x + 1) (by omega)
        omega
      · omega
  · omega
theorem nT_b {T : Nat → Nat} {L x : Nat} (h : x ≤ L) : x ≤ nT T L x ∧ nT T L x ≤ L ∧ (x < L → x < nT T L x) := by
  have h1 := tokE_b (T := T) h
  have h2 := tokS_b (T := T) h1.2.1
  unfold nT
  omega
theorem tokK_le (T : Nat → Nat) (L x : Nat) : tokK T L x ≤ 4 := by
  unfold tokK; (repeat' split) <;> omega
theorem tokV_le (T : Nat → Nat) (L x : Nat) : tokV T L x ≤ 99 := by
  unfold tokV
  split
  · rename_i h
    have hE : tokE T L x = runL (fgP T) L x := by unfold tokE; rw [if_pos h.1, if_neg h.2.1, if_pos h.2.2]
    have h3 := (runL_b (P := fgP T) (L := L) (a := x) (by omega)).2.2
    rw [← hE] at h3
    generalize tokE T L x = e9 at h3 ⊢
    rcases (show min 2 (e9 - x) = 0 ∨ min 2 (e9 - x) = 1 ∨ min 2 (e9 - x) = 2 by omega) with q | q | q <;> rw [q]
    · exact Nat.zero_le _
    · have := (h3 x (by omega) (by omega)).2
      simp only [valF, Nat.add_zero]
      omega
    · have := (h3 x (by omega) (by omega)).2
      have := (h3 (x + 1) (by omega) (by omega)).2
      simp only [valF, Nat.add_zero]
      omega
  · omega
/-- the reference stands at the token that begins at iv 1 -/
def lkAt (T : Nat → Nat) (L : Nat) (iv : Nat → Nat) : Prop := iv 0 = L ∧ iv 1 ≤ L ∧ iv 2 = tokE T L (iv 1) - iv 1 ∧ iv 3 = tokK T L (iv 1) ∧ iv 4 = tokV T L (iv 1)
def lkP (T : Nat → Nat) (L a : Nat) (iv iv2 : Nat → Nat) : Prop := lkAt T L iv2 ∧ iv2 1 = tokS T L a ∧ iv2 5 = iv 5 ∧ iv2 6 = iv 6
def lkN (T : Nat → Nat) (L : Nat) (iv iv2 : Nat → Nat) : Prop := lkAt T L iv2 ∧ iv2 1 = nT T L (iv 1) ∧ iv2 5 = iv 5 ∧ iv2 6 = iv 6
theorem lk_f {T : Nat → Nat} {L : Nat} {iv : Nat → Nat} (h : lkAt T L iv) : iv 0 = L ∧ iv 1 ≤ L ∧ iv 1 + iv 2 ≤ L ∧ iv 3 ≤ 4 ∧ iv 4 ≤ 99 := by
  obtain ⟨h1, h2, h3, h4, h5⟩ := h
  have h6 := tokE_b (T := T) h2
  have h7 := tokK_le T L (iv 1)
  have h8 := tokV_le T L (iv 1)
  omega
theorem lk_e {T : Nat → Nat} {L : Nat} {iv : Nat → Nat} (h : lkAt T L iv) : iv 1 + iv 2 = tokE T L (iv 1) := by
  obtain ⟨h1, h2, h3, h4, h5⟩ := h
  have h6 := tokE_b (T := T) h2
  omega
end SZ
section SZ2
variable {p : Program} {l : Launch} {e : Env} {R : Room} {s : State} {m : MethodId} {args : Array Value} {below : List Frame} {meth : Method} {c : Code} {H : Heap} {locs : List Loc} {cells slots : Nat} {Q : State → Prop} {Γ : Gam} {n : Nat}
/-- a place where ways meet: what is said there once, is used by each -/
theorem nr_join {σ : Type} (pc : Nat) (Gf : σ → Nat → va_E) (I : σ → List (Nat × Value) → Prop) {nL : Nat} {A : Nat → Prop} {H0 : Heap} {pc0 : Nat} {ls0 : Array Slot} {st0 : List Value}
    (J : ∀ (x : σ) (lv : List (Nat × Value)) (ls : Array Slot) (H : Heap) (locs : List Loc), hw Γ n (Gf x) s H → va_S A H0 H locs → lv_has ls nL lv → I x lv → W p l e R s m args below meth c H locs cells slots Q (F0 m pc ls []))
    (K : (∀ (x : σ) (lv : List (Nat × Value)) (ls : Array Slot) (H : Heap) (locs : List Loc), hw Γ n (Gf x) s H → va_S A H0 H locs → lv_has ls nL lv → I x lv → W p l e R s m args below meth c H locs cells slots Q (F0 m pc ls [])) → W p l e R s m args below meth c H locs cells slots Q (F0 m pc0 ls0 st0)) : W p l e R s m args below meth c H locs cells slots Q (F0 m pc0 ls0 st0) := K J
end SZ2
