section SK1
/-- the q-th token behind the one at x -/
def xq (T : Nat → Nat) (L x : Nat) : Nat → Nat
  | 0 => x
  | q + 1 => nT T L (xq T L x q)
theorem xq_b {T : Nat → Nat} {L x : Nat} (h : x ≤ L) : ∀ q, x ≤ xq T L x q ∧ xq T L x q ≤ L
  | 0 => ⟨Nat.le_refl _, h⟩
  | q + 1 => by
    have h1 := xq_b (T := T) h q
    have h2 := nT_b (T := T) h1.2
    show _ ≤ nT T L (xq T L x q) ∧ nT T L (xq T L x q) ≤ L
    omega
def nmF (wd : Nat) : Nat := if wd = 0 then 0 else if wd = 2 then 4 else 1
/-- whether a word (+ 1) may begin an item here: P people, W wrongs -/
abbrev cstP (P W w its : Nat) : Prop := (w = 1 ∧ its = 0) ∨ (w = 2 ∧ 0 < its ∧ P < 6) ∨ (w = 3 ∧ 0 < its ∧ W < 8) ∨ ((w = 4 ∨ w = 5) ∧ 0 < its)
def fitP (P W : Nat) (can : Nat → Prop) (g1 wd q v : Nat) : Prop :=
  if wd = 1 then v < 6 else if wd = 2 then (if q = 0 then v < 6 else if q = 1 then v < P else if q = 2 then v < P ∧ ¬ v = g1 else 1 ≤ v ∧ v ≤ 9) else if wd = 3 then v < W ∧ can v else 1 ≤ v ∧ v ≤ 99
/-- the q-th number of an item that begins at x is one, and fits -/
def okQ (T : Nat → Nat) (L P W : Nat) (can : Nat → Prop) (wd x q : Nat) : Prop := tokK T L (xq T L x (q + 1)) = 2 ∧ fitP P W can (tokV T L (xq T L x 2)) wd q (tokV T L (xq T L x (q + 1)))
theorem numF_valF {T : Nat → Nat} {x : Nat} : ∀ k, k ≤ 2 → (∀ j, j < k → isFg (T (x + j))) → numF T x k = valF T x k
  | 0, _, _ => rfl
  | 1, _, h => by
    have h0 := h 0 (by omega)
    have e0 : valF T x 1 = 10 * 0 + T (x + 0) - 48 := rfl
    have e1 : numF T x 1 = (0 * 10 + T (x + 0) - 48) % 1000 := rfl
    rw [e0, e1]
    omega
  | 2, _, h => by
    have h0 := h 0 (by omega)
    have h1 := h 1 (by omega)
    have e0 : valF T x 2 = 10 * (10 * 0 + T (x + 0) - 48) + T (x + 1) - 48 := rfl
    have e1 : numF T x 2 = ((0 * 10 + T (x + 0) - 48) % 1000 * 10 + T (x + 1) - 48) % 1000 := rfl
    rw [e0, e1]
    omega
theorem vlK_num {T : Nat → Nat} {L x : Nat} (h : tokK T L x = 2) : vlK T L x = tokV T L x + 1 := by
  unfold tokK at h
  split at h
  · rename_i h1
    split at h
    · omega
    · rename_i h2
      split at h
      · rename_i h3
        split at h
        · omega
        · rename_i h4
          have e := (tk_fig h1 h2 h3).1
          have hr := (runL_b (P := fgP T) (L := L) (a := x) (by omega)).2.2
          unfold vlK tokV
          rw [if_pos h1, if_neg h2, if_pos h3, if_pos ⟨h1, h2, h3⟩, show min 2 (tokE T L x - x) = tokE T L x - x by omega, numF_valF _ (by omega) (fun j hj => hr (x + j) (by omega) (by omega))]
      · split at h <;> omega
  · omega
theorem tokV_lt {T : Nat → Nat} {L x : Nat} : tokV T L x < 2000 := by have := tokV_le T L x; omega
/-- where the text's items go -/
def stopX (T : Nat → Nat) (L x : Nat) : Nat := xq T L x (nmF (vlK T L x - 1) + 1)
def itOK (T : Nat → Nat) (L P W : Nat) (can : Nat → Prop) (x its : Nat) : Prop := tokK T L x = 1 ∧ cstP P W (vlK T L x) its ∧ (∀ q, q < nmF (vlK T L x - 1) → okQ T L P W can (vlK T L x - 1) x q) ∧ tokK T L (stopX T L x) = 3
def itBad (T : Nat → Nat) (L P W : Nat) (can : Nat → Prop) (x its p : Nat) : Prop :=
  (¬ (tokK T L x = 1 ∧ cstP P W (vlK T L x) its) ∧ p = x) ∨ ((tokK T L x = 1 ∧ cstP P W (vlK T L x) its) ∧ ∃ q, q < nmF (vlK T L x - 1) ∧ (∀ u, u < q → okQ T L P W can (vlK T L x - 1) x u) ∧ ¬ okQ T L P W can (vlK T L x - 1) x q ∧ p = xq T L x (q + 1)) ∨
  ((tokK T L x = 1 ∧ cstP P W (vlK T L x) its) ∧ (∀ q, q < nmF (vlK T L x - 1) → okQ T L P W can (vlK T L x - 1) x q) ∧ ¬ tokK T L (stopX T L x) = 3 ∧ p = stopX T L x)
/-- the valley behind an item, by the class -/
def itV (T : Nat → Nat) (L : Nat) (V : Nat → Nat) (x : Nat) : Nat → Nat :=
  if vlK T L x = 2 then perV V (tokV T L (xq T L x 1)) else if vlK T L x = 3 then layR V (tokV T L (xq T L x 1)) (tokV T L (xq T L x 2)) (tokV T L (xq T L x 3)) (tokV T L (xq T L x 4)) else if vlK T L x = 4 then stkV V (tokV T L (xq T L x 1)) else if vlK T L x = 5 then pasV V (min (tokV T L (xq T L x 1)) (999 - V 21)) else V
end SK1
section SK2
/-- a valley's live numbers are in order -/
def vG (V : Nat → Nat) : Prop := vI V ∧ V 21 ≤ 999 ∧ V 20 < 2 ^ V 1 ∧ (∀ k, k < V 1 → V (36 + k) < V 0 ∧ V (44 + k) < V 0 ∧ V (12 + k) ≤ 99) ∧ ∀ i, i < V 0 → V (6 + i) = cntBy V i (V 20) (V 1)
theorem vG_r {V : Nat → Nat} (h : vG V) {i : Nat} (hi : i < V 0) : V (6 + i) ≤ 8 := by
  have h1 := cntBy_le V i (V 20) (V 1)
  have h2 := h.1.2.2.1
  rw [h.2.2.2.2 i hi]
  omega
theorem cntBy_cong {V V2 : Nat → Nat} {i s s2 : Nat} : ∀ {m : Nat}, (∀ k, k < m → (bt s k ∧ V (36 + k) = i ↔ bt s2 k ∧ V2 (36 + k) = i)) → cntBy V i s m = cntBy V2 i s2 m
  | 0, _ => rfl
  | m + 1, h => by
    unfold cntBy
    rw [cntBy_cong (fun k hk => h k (by omega))]
    by_cases q : bt s m ∧ V (36 + m) = i
    · rw [if_pos q, if_pos ((h m (by omega)).mp q)]
    · rw [if_neg q, if_neg (fun z => q ((h m (by omega)).mpr z))]
theorem cntBy_0 {V : Nat → Nat} {i s : Nat} : ∀ {m : Nat}, (∀ k, k < m → ¬ (bt s k ∧ V (36 + k) = i)) → cntBy V i s m = 0
  | 0, _ => rfl
  | m + 1, h => by
    unfold cntBy
    rw [cntBy_0 (fun k hk => h k (by omega)), if_neg (h m (by omega))]
theorem cntBy_or {V : Nat → Nat} {i s k : Nat} (hk : ¬ bt s k) : ∀ {m : Nat}, k < m → cntBy V i (s ||| 2 ^ k) m = cntBy V i s m + (if V (36 + k) = i then 1 else 0)
  | 0, h => absurd h (Nat.not_lt_zero _)
  | m + 1, h => by
    unfold cntBy
    rcases Nat.lt_or_eq_of_le (Nat.le_of_lt_succ h) with q | q
    · rw [cntBy_or hk q]
      have e : (bt (s ||| 2 ^ k) m ∧ V (36 + m) = i) ↔ (bt s m ∧ V (36 + m) = i) := by
        rw [bt_or]
        constructor
        · rintro ⟨z | z, y⟩
          · exact ⟨z, y⟩
          · omega
        · rintro ⟨z, y⟩
          exact ⟨Or.inl z, y⟩
      by_cases z : bt s m ∧ V (36 + m) = i
      · rw [if_pos z, if_pos (e.mpr z)]; omega
      · rw [if_neg z, if_neg (fun y => z (e.mp y))]; omega
    · rw [← q]
      rw [cntBy_cong (V := V) (V2 := V) (i := i) (s := s ||| 2 ^ k) (s2 := s) (m := k) (fun u hu => by
        rw [bt_or]
        constructor
        · rintro ⟨z | z, y⟩
          · exact ⟨z, y⟩
          · omega
        · rintro ⟨z, y⟩
          exact ⟨Or.inl z, y⟩)]
      have hn : ¬ (bt s k ∧ V (36 + k) = i) := fun z => hk z.1
      rw [if_neg hn]
      by_cases z : V (36 + k) = i
      · have hy : bt (s ||| 2 ^ k) k ∧ V (36 + k) = i := ⟨(bt_or _ _ _).mpr (Or.inr rfl), z⟩
        rw [if_pos hy, if_pos z]
      · have hy : ¬ (bt (s ||| 2 ^ k) k ∧ V (36 + k) = i) := fun y => z y.2
        rw [if_neg hy, if_neg z]
theorem vG_em {V : Nat → Nat} (h : vI V) : vG (emV V) := by
  have h0 : emV V 0 = 0 := by simp [emV, va_up]
  have h1 : emV V 1 = 0 := by simp [emV, va_up]
  refine ⟨vI_em h, by simp [emV, va_up], by rw [h1]; simp [emV, va_up], fun k hk => by omega, fun i hi => by omega⟩
theorem vG_per {V : Nat → Nat} (h : vG V) {k : Nat} (hk : k < 6) (h6 : V 0 < 6) : vG (perV V k) := by
  obtain ⟨⟨i1, i2, i3, i4, i5, i6, i7, i8, i9, i10⟩, h2, h3, h4, h5⟩ := h
  have e : ∀ j, ¬ j = 0 → ¬ j = 22 + V 0 → ¬ j = 6 + V 0 → perV V k j = V j := fun j a b c => by
    unfold perV; rw [va_up_ne _ _ a, va_up_ne _ _ c, va_up_ne _ _ b]
  have e0 : perV V k 0 = V 0 + 1 := va_up_self _ _ _
  have e6 : perV V k (6 + V 0) = 0 := by unfold perV; rw [va_up_ne _ _ (by omega), va_up_self]
  refine ⟨⟨fun j => ?_, by omega, by rw [e 1 (by omega) (by omega) (by omega)]; exact i3, by rw [e 2 (by omega) (by omega) (by omega)]; exact i4, by rw [e 3 (by omega) (by omega) (by omega)]; exact i5, by rw [e 4 (by omega) (by omega) (by omega)]; exact i6, by rw [e 5 (by omega) (by omega) (by omega)]; exact i7, fun j hj => by rw [e _ (by omega) (by omega) (by omega)]; exact i8 j hj, fun j hj => by rw [e _ (by omega) (by omega) (by omega)]; exact i9 j hj, by rw [e 20 (by omega) (by omega) (by omega)]; exact i10⟩, by rw [e 21 (by omega) (by omega) (by omega)]; exact h2, by rw [e 20 (by omega) (by omega) (by omega), e 1 (by omega) (by omega) (by omega)]; exact h3, fun j hj => ?_, fun i hi => ?_⟩
  · have := i1 j
    simp only [perV, va_up]; (repeat' split) <;> omega
  · rw [e 1 (by omega) (by omega) (by omega)] at hj
    have := h4 j hj
    rw [e (36 + j) (by omega) (by omega) (by omega), e (44 + j) (by omega) (by omega) (by omega), e (12 + j) (by omega) (by omega) (by omega), e0]
    omega
  · rw [e0] at hi
    rw [e 20 (by omega) (by omega) (by omega), e 1 (by omega) (by omega) (by omega)]
    have ec : cntBy (perV V k) i (V 20) (V 1) = cntBy V i (V 20) (V 1) := cntBy_cong (fun u hu => by rw [e (36 + u) (by omega) (by omega) (by omega)])
    rw [ec]
    rcases Nat.lt_or_eq_of_le (Nat.le_of_lt_succ hi) with z | z
    · rw [e _ (by omega) (by omega) (by omega)]; exact h5 i z
    · rw [z, e6, cntBy_0 (fun u hu y => by have := (h4 u hu).1; omega)]
theorem vG_lay {V : Nat → Nat} (h : vG V) {kd a b g : Nat} (hk : kd < 6) (ha : a < V 0) (hb : b < V 0) (hg : g ≤ 9) (h8 : V 1 < 8) : vG (layR V kd a b g) := by
  obtain ⟨⟨i1, i2, i3, i4, i5, i6, i7, i8, i9, i10⟩, h2, h3, h4, h5⟩ := h
  have e : ∀ j, ¬ j = 1 → ¬ j = 12 + V 1 → ¬ j = 28 + V 1 → ¬ j = 36 + V 1 → ¬ j = 44 + V 1 → ¬ j = 52 + V 1 → layR V kd a b g j = V j := fun j a1 a2 a3 a4 a5 a6 => by
    unfold layR; rw [va_up_ne _ _ a1, va_up_ne _ _ a2, va_up_ne _ _ a6, va_up_ne _ _ a5, va_up_ne _ _ a4, va_up_ne _ _ a3]
  have e1 : layR V kd a b g 1 = V 1 + 1 := va_up_self _ _ _
  have ee : ∀ j, j < 12 → ¬ j = 1 → layR V kd a b g j = V j := fun j q1 q2 => e j q2 (by omega) (by omega) (by omega) (by omega) (by omega)
  have e20 : layR V kd a b g 20 = V 20 := e 20 (by omega) (by omega) (by omega) (by omega) (by omega) (by omega)
  have e21 : layR V kd a b g 21 = V 21 := e 21 (by omega) (by omega) (by omega) (by omega) (by omega) (by omega)
  have hp : 2 ^ V 1 ≤ 2 ^ (V 1 + 1) := Nat.pow_le_pow_right (by omega) (by omega)
  have eby : ∀ u, u < 8 → layR V kd a b g (36 + u) = if u = V 1 then a else V (36 + u) := fun u hu => by
    simp only [layR, va_up]; (repeat' split) <;> omega
  have eto : ∀ u, u < 8 → layR V kd a b g (44 + u) = if u = V 1 then b else V (44 + u) := fun u hu => by
    simp only [layR, va_up]; (repeat' split) <;> omega
  have eag : ∀ u, u < 8 → layR V kd a b g (12 + u) = if u = V 1 then 0 else V (12 + u) := fun u hu => by
    simp only [layR, va_up]; (repeat' split) <;> omega
  refine ⟨⟨fun j => ?_, by rw [ee 0 (by omega) (by omega)]; exact i2, by omega, by rw [ee 2 (by omega) (by omega)]; exact i4, by rw [ee 3 (by omega) (by omega)]; exact i5, by rw [ee 4 (by omega) (by omega)]; exact i6, by rw [ee 5 (by omega) (by omega)]; exact i7, fun j hj => by have := i8 j hj; rw [eby j hj]; split <;> omega, fun j hj => by have := i9 j hj; rw [eto j hj]; split <;> omega, by omega⟩, by omega, by rw [e20, e1]; omega, fun j hj => ?_, fun i hi => ?_⟩
  · have := i1 j
    simp only [layR, va_up]; (repeat' split) <;> omega
  · rw [e1] at hj
    have hq : j < V 1 → V (36 + j) < V 0 ∧ V (44 + j) < V 0 ∧ V (12 + j) ≤ 99 := h4 j
    rw [eby j (by omega), eto j (by omega), eag j (by omega), ee 0 (by omega) (by omega)]
    refine ⟨?_, ?_, ?_⟩ <;> (split <;> omega)
  · rw [ee 0 (by omega) (by omega)] at hi
    rw [ee (6 + i) (by omega) (by omega), e20, e1]
    unfold cntBy
    have hnb : ¬ bt (V 20) (V 1) := bt_hi h3 (Nat.le_refl _)
    rw [if_neg (fun z => hnb z.1), Nat.add_zero, h5 i hi]
    exact cntBy_cong (fun u hu => by rw [eby u (by omega), if_neg (by omega)])
theorem vG_stk {V : Nat → Nat} (h : vG V) {k : Nat} (hk : k < V 1) (hb : ¬ bt (V 20) k) : vG (stkV V k) := by
  have h8 := fun i hi => vG_r h (i := i) hi
  obtain ⟨⟨i1, i2, i3, i4, i5, i6, i7, i8, i9, i10⟩, h2, h3, h4, h5⟩ := h
  have hby := h4 k hk
  have hr := h8 _ hby.1
  have e : ∀ j, ¬ j = 20 → ¬ j = 6 + V (36 + k) → stkV V k j = V j := fun j a b => by
    unfold stkV; rw [va_up_ne _ _ b, va_up_ne _ _ a]
  have e20 : stkV V k 20 = V 20 ||| 2 ^ k := by unfold stkV; rw [va_up_ne _ _ (by omega), va_up_self]
  have er : stkV V k (6 + V (36 + k)) = V (6 + V (36 + k)) + 1 := va_up_self _ _ _
  refine ⟨⟨fun j => ?_, by rw [e 0 (by omega) (by omega)]; exact i2, by rw [e 1 (by omega) (by omega)]; exact i3, by rw [e 2 (by omega) (by omega)]; exact i4, by rw [e 3 (by omega) (by omega)]; exact i5, by rw [e 4 (by omega) (by omega)]; exact i6, by rw [e 5 (by omega) (by omega)]; exact i7, fun j hj => by rw [e _ (by omega) (by omega)]; exact i8 j hj, fun j hj => by rw [e _ (by omega) (by omega)]; exact i9 j hj, by rw [e20]; exact or_lt256 i10 (by omega)⟩, by rw [e 21 (by omega) (by omega)]; exact h2, ?_, fun j hj => ?_, fun i hi => ?_⟩
  · have h9 := or_lt256 i10 (k := k) (by omega)
    by_cases q : j = 6 + V (36 + k)
    · rw [q, er]; omega
    · by_cases q2 : j = 20
      · rw [q2, e20]; omega
      · rw [e j q2 q]; exact i1 j
  · rw [e20, e 1 (by omega) (by omega)]
    exact Nat.or_lt_two_pow h3 (Nat.pow_lt_pow_right (by omega) hk)
  · rw [e 1 (by omega) (by omega)] at hj
    have := h4 j hj
    rw [e (36 + j) (by omega) (by omega), e (44 + j) (by omega) (by omega), e 0 (by omega) (by omega), e (12 + j) (by omega) (by omega)]
    exact this
  · rw [e 0 (by omega) (by omega)] at hi
    rw [e20, e 1 (by omega) (by omega)]
    have ec : cntBy (stkV V k) i (V 20 ||| 2 ^ k) (V 1) = cntBy V i (V 20 ||| 2 ^ k) (V 1) := cntBy_cong (fun u hu => by rw [e (36 + u) (by omega) (by omega)])
    rw [ec, cntBy_or hb hk]
    by_cases q : V (36 + k) = i
    · rw [if_pos q, ← q, er, h5 _ hby.1]
    · rw [if_neg q, e _ (by omega) (by omega), h5 i hi, Nat.add_zero]
theorem vG_pas {V : Nat → Nat} (h : vG V) {q : Nat} (hq : V 21 + q ≤ 999) : vG (pasV V q) := by
  obtain ⟨h1, h2, h3, h4, h5⟩ := h
  have h1' := h1
  obtain ⟨i1, i2, i3, i4, i5, i6, i7, i8, i9, i10⟩ := h1
  have e : ∀ j, (j < 12 ∨ 20 ≤ j) → ¬ j = 21 → pasV V q j = V j := fun j a b => by
    unfold pasV; rw [va_up_ne _ _ b, agP_out (by omega)]
  have e21 : pasV V q 21 = V 21 + q := va_up_self _ _ _
  refine ⟨vI_of h1' (fun j => ?_) (by rw [e 5 (by omega) (by omega)]; exact i7) (fun j a1 a2 a3 a4 => e j (by omega) a4), by omega, by rw [e 20 (by omega) (by omega), e 1 (by omega) (by omega)]; exact h3, fun k hk => ?_, fun i hi => ?_⟩
  · by_cases z : j = 21
    · rw [z, e21]; omega
    · unfold pasV; rw [va_up_ne _ _ z]
      have := i1 j
      unfold agP; split <;> omega
  · rw [e 1 (by omega) (by omega)] at hk
    have := h4 k hk
    rw [e (36 + k) (by omega) (by omega), e (44 + k) (by omega) (by omega), e 0 (by omega) (by omega)]
    refine ⟨this.1, this.2.1, ?_⟩
    unfold pasV; rw [va_up_ne _ _ (by omega)]
    unfold agP; split <;> omega
  · rw [e 0 (by omega) (by omega)] at hi
    rw [e (6 + i) (by omega) (by omega), e 20 (by omega) (by omega), e 1 (by omega) (by omega), h5 i hi]
    exact cntBy_cong (fun u hu => by rw [e (36 + u) (by omega) (by omega)])
end SK2
section SK3
theorem fit_g1 {P W g1 g2 wd q v : Nat} {can : Nat → Prop} (h : q = 2 → g1 = g2) : fitP P W can g1 wd q v ↔ fitP P W can g2 wd q v := by
  unfold fitP
  by_cases z : q = 2
  · rw [h z]
  · rw [if_neg z, if_neg z]
theorem ex_lt {x N : Nat} (hx : x < 2147483648) (hN : N ≤ 2147483648) : (∃ j, j < N ∧ nI x = nI j) ↔ x < N := by
  constructor
  · rintro ⟨j, h1, h2⟩
    rw [(nI_eq hx (by omega)).mp h2]; exact h1
  · exact fun h => ⟨x, h, rfl⟩
theorem wi_lt {x a b : Nat} (hx : x < 2147483648) (ha : a < 2147483648) (hb : b < 2147483648) : (nI a ≤ nI x ∧ nI x ≤ nI b) ↔ a ≤ x ∧ x ≤ b := by
  rw [nI_leI ha hx, nI_leI hx hb]
theorem stp_xq {T tv tv2 : Nat → Nat} {L x q : Nat} (h : stpR T tv tv2) (h0 : tv 0 = L) (h1 : tv 1 = tokE T L (xq T L x q)) : tv2 0 = L ∧ tv2 2 = xq T L x (q + 1) ∧ tv2 1 = tokE T L (xq T L x (q + 1)) ∧ tv2 3 = tokK T L (xq T L x (q + 1)) ∧ tv2 4 = vlK T L (xq T L x (q + 1)) := by
  obtain ⟨a, b, c, d, e⟩ := h
  have ex : tokS T (tv 0) (tv 1) = xq T L x (q + 1) := by rw [h0, h1]; rfl
  rw [ex] at b c d e
  rw [h0] at a c d e
  exact ⟨a, b, c, d, e⟩
end SK3
def carV (V gv : Nat → Nat) (wd : Nat) : Nat → Nat := if wd = 1 then perV V (gv 0) else if wd = 2 then layR V (gv 0) (gv 1) (gv 2) (gv 3) else if wd = 3 then stkV V (gv 0) else if wd = 4 then pasV V (min (gv 0) (999 - V 21)) else V
theorem nr_top {p : Program} {l : Launch} {e : Env} {R : Room} {s : State} {m : MethodId} {args : Array Value} {below : List Frame} {meth : Method} {c : Code} {H : Heap} {locs : List Loc} {cells slots : Nat} {Q : State → Prop} {pc : Nat} {ls : Array Slot} {rest : List Value} {x y : Int32} (h : x = y) (k : W p l e R s m args below meth c H locs cells slots Q (F0 m pc ls (.int y :: rest))) : W p l e R s m args below meth c H locs cells slots Q (F0 m pc ls (.int x :: rest)) := by
  rw [h]; exact k
set_option maxHeartbeats 4000000 in
set_option maxRecDepth 100000 in
theorem c_X5_numbersOf (l : Launch) (Γ : Gam) (n : Nat) (G : Nat → va_E) (wd : Nat) (hwd : wd < 5)  : Met l yX5_numbersOf wsX5_numbersOf ({ frames := 0, cells := 0, slots := 0, locals := 0 }) (va_Pc [.int (nI wd)] (fun U => hw Γ n G U U.heap)) (vp_Si (fun z => z = nI (nmF wd))) 0 0 (fun _ => False) := by
  refine Met.ofW (cc := cX5_numbersOf) (maxL := 1) (ret := (some .int)) (by decide) rfl ?_
  intro p e s m args below meth c s₁ B hml hv
  obtain ⟨rfl, hw⟩ := hv
  have hx := B.exec
  have hb := B.bytes
  have hr := B.returns
  have hts := atoms_spec (ws := wsX5_numbersOf) B.pre
  have hown : s.vm.findClass RX5 = some m.cls := findClass_of_methodNamed B.named
  have hlocks := B.notSynchronized
  have hl := lv_entry ([.int (nI wd)]) (n := 1) (Nat.le_of_ble_eq_true rfl)
  rw [lg_entry_eq]
  generalize (lg_sl ([.int (nI wd)]) ++ List.replicate (1 - (lg_sl ([.int (nI wd)])).length) Slot.unset).toArray = ls at hl ⊢
  have hl : lv_has ls 1 [(0, .int (nI wd))] := hl
  rcases (show wd = 0 ∨ wd = 1 ∨ wd = 2 ∨ wd = 3 ∨ wd = 4 by omega) with rfl | rfl | rfl | rfl | rfl
  · refine lv_iload_n hx hb dX5_numbersOf_0 rfl (lv_at hl 0 rfl) ?_
    refine lv_lookup (off := 27) (tgt := 28) hx hb dX5_numbersOf_1 (by decide) (by decide) (by decide) ?_
    refine lv_iconst (v := nI 0) hx hb dX5_numbersOf_28 (by decide) ?_
    exact nr_retS hx hb hr hlocks (by decide) rfl dX5_numbersOf_29
  · refine lv_iload_n hx hb dX5_numbersOf_0 rfl (lv_at hl 0 rfl) ?_
    refine lv_lookup (off := 31) (tgt := 32) hx hb dX5_numbersOf_1 (by decide) (by decide) (by decide) ?_
    refine lv_iconst (v := nI 1) hx hb dX5_numbersOf_32 (by decide) ?_
    exact nr_retS hx hb hr hlocks (by decide) rfl dX5_numbersOf_33
  · refine lv_iload_n hx hb dX5_numbersOf_0 rfl (lv_at hl 0 rfl) ?_
    refine lv_lookup (off := 29) (tgt := 30) hx hb dX5_numbersOf_1 (by decide) (by decide) (by decide) ?_
    refine lv_iconst (v := nI 4) hx hb dX5_numbersOf_30 (by decide) ?_
    exact nr_retS hx hb hr hlocks (by decide) rfl dX5_numbersOf_31
  · refine lv_iload_n hx hb dX5_numbersOf_0 rfl (lv_at hl 0 rfl) ?_
    refine lv_lookup (off := 31) (tgt := 32) hx hb dX5_numbersOf_1 (by decide) (by decide) (by decide) ?_
    refine lv_iconst (v := nI 1) hx hb dX5_numbersOf_32 (by decide) ?_
    exact nr_retS hx hb hr hlocks (by decide) rfl dX5_numbersOf_33
  · refine lv_iload_n hx hb dX5_numbersOf_0 rfl (lv_at hl 0 rfl) ?_
    refine lv_lookup (off := 31) (tgt := 32) hx hb dX5_numbersOf_1 (by decide) (by decide) (by decide) ?_
    refine lv_iconst (v := nI 1) hx hb dX5_numbersOf_32 (by decide) ?_
    exact nr_retS hx hb hr hlocks (by decide) rfl dX5_numbersOf_33
theorem wl_X5_canStand_1 : Cond.fieldLink RX5 12 "BellForgiven$Reader" "draft" "LBellForgiven$Valley;" ∈ wsX5_canStand := List.mem_of_getElem? (i := 1) rfl
theorem wl_X5_canStand_2 : Cond.fieldLink RX5 52 "BellForgiven$Valley" "people" "I" ∈ wsX5_canStand := List.mem_of_getElem? (i := 2) rfl
theorem wl_X5_canStand_3 : Cond.fieldLink RX5 55 "BellForgiven$Valley" "wrongs" "I" ∈ wsX5_canStand := List.mem_of_getElem? (i := 3) rfl
theorem hi_X5_canStand_X5 : ∀ w ∈ u_ws RX5 TX5 2, w ∈ wsX5_canStand := fun w h => (List.mem_cons_of_mem _ (List.mem_append_left _ (List.mem_append_right _ h)))
theorem hi_X5_canStand_X10 : ∀ w ∈ u_ws RX10 TX10 15, w ∈ wsX5_canStand := fun w h => (List.mem_cons_of_mem _ (List.mem_append_right _ h))
set_option maxHeartbeats 4000000 in
set_option maxRecDepth 100000 in
theorem c_X5_canStand (l : Launch) (Γ : Gam) (n : Nat) (G : Nat → va_E) (to : Nat) (gv V : Nat → Nat) (hRd : isRd Γ G (to + 2) gv) (hV : isV Γ G (to + 4) V) (hn_to : to + 20 ≤ n) (w its : Nat) (hw6 : w ≤ 5) (hits : its ≤ 200) (hI : vI V)  : Met l yX5_canStand wsX5_canStand ({ frames := 0, cells := 0, slots := 0, locals := 0 }) (va_Pc [.ref (ad Γ (to + 2)), .int (nI w - nI 1), .int (nI its)] (fun U => hw Γ n G U U.heap)) (vp_Si (bp (cstP (V 0) (V 1) w its))) 0 0 (fun _ => False) := by
  refine Met.ofW (cc := cX5_canStand) (maxL := 3) (ret := (some .boolean)) (by decide) rfl ?_
  intro p e s m args below meth c s₁ B hml hv
  obtain ⟨rfl, hw⟩ := hv
  have hx := B.exec
  have hb := B.bytes
  have hr := B.returns
  have hts := atoms_spec (ws := wsX5_canStand) B.pre
  have hown : s.vm.findClass RX5 = some m.cls := findClass_of_methodNamed B.named
  have hlocks := B.notSynchronized
  have hl := lv_entry ([.ref (ad Γ (to + 2)), .int (nI w - nI 1), .int (nI its)]) (n := 3) (Nat.le_of_ble_eq_true rfl)
  rw [lg_entry_eq]
  generalize (lg_sl ([.ref (ad Γ (to + 2)), .int (nI w - nI 1), .int (nI its)]) ++ List.replicate (3 - (lg_sl ([.ref (ad Γ (to + 2)), .int (nI w - nI 1), .int (nI its)])).length) Slot.unset).toArray = ls at hl ⊢
  have hl : lv_has ls 3 [(0, .ref (ad Γ (to + 2))), (1, .int (nI w - nI 1)), (2, .int (nI its))] := hl
  have hB := hI.1
  have hB0 := hI.2.1
  have hB1 := hI.2.2.1
  have hB20 := hI.2.2.2.2.2.2.2.2.2
  have hBz2 := hI.2.2.2.1
  have hBz3 := hI.2.2.2.2.1
  have hBz4 := hI.2.2.2.2.2.1
  have hBz5 := hI.2.2.2.2.2.2.1
  have hBd := hB 21
  refine lv_iload_n hx hb dX5_canStand_0 rfl (lv_at hl 1 rfl) ?_
  rcases Nat.eq_zero_or_pos w with hw0 | hw1
  · subst hw0
    refine lv_tableOut (tgt := 100) hx hb dX5_canStand_1 (by decide) (by decide) ?_
    refine lv_iconst (v := nI 0) hx hb dX5_canStand_100 (by decide) ?_
    exact nr_retB hx hb hr hlocks (Or.inr ⟨by unfold cstP; omega, rfl⟩) rfl dX5_canStand_101
  · refine nr_top (pk_sub hw1) ?_
    rcases (show (w - 1) = 0 ∨ (w - 1) = 1 ∨ (w - 1) = 2 ∨ (w - 1) = 3 ∨ (w - 1) = 4 ∨ 4 < (w - 1) by omega) with c1 | c1 | c1 | c1 | c1 | c1
    · refine nr_tabIn (j := 0) (tgt := 36) hx hb (by omega) c1 dX5_canStand_1 (by decide) (by decide) rfl (by decide) ?_
      refine lv_iload_n hx hb dX5_canStand_36 rfl (lv_at hl 2 rfl) ?_
      refine nr_if_ne (tgt := 44) hx hb (by omega) dX5_canStand_37 (by decide) (fun c2 => ?_) (fun c2 => ?_)
      · refine lv_iconst (v := nI 0) hx hb dX5_canStand_44 (by decide) ?_
        exact nr_retB hx hb hr hlocks (Or.inr ⟨by unfold cstP; omega, rfl⟩) rfl dX5_canStand_45
      · refine lv_iconst (v := nI 1) hx hb dX5_canStand_40 (by decide) ?_
        refine lv_goto (tgt := 45) hx hb dX5_canStand_41 (by decide) ?_
        exact nr_retB hx hb hr hlocks (Or.inl ⟨by unfold cstP; omega, rfl⟩) rfl dX5_canStand_45
    · refine nr_tabIn (j := 1) (tgt := 46) hx hb (by omega) c1 dX5_canStand_1 (by decide) (by decide) rfl (by decide) ?_
      refine lv_iload_n hx hb dX5_canStand_46 rfl (lv_at hl 2 rfl) ?_
      refine nr_if_le (tgt := 66) hx hb (by omega) dX5_canStand_47 (by decide) (fun c3 => ?_) (fun c3 => ?_)
      · refine lv_iconst (v := nI 0) hx hb dX5_canStand_66 (by decide) ?_
        exact nr_retB hx hb hr hlocks (Or.inr ⟨by unfold cstP; omega, rfl⟩) rfl dX5_canStand_67
      · refine lv_aload_n hx hb dX5_canStand_50 rfl (lv_at hl 0 rfl) ?_
        refine nr_get (own := RX5) (C := RX5) (T := TX5) (N := 2) (v := .ref (ad Γ (to + 4))) hx hb hts hi_X5_canStand_X5 hown hw (by omega) (isRd_0 hRd) rfl 0 (by decide) wl_X5_canStand_1 rfl rfl dX5_canStand_51 ?_
        refine nr_get (own := RX5) (C := RX10) (T := TX10) (N := 15) (v := .int (nI (V 0))) hx hb hts hi_X5_canStand_X10 hown hw (by omega) (isV_0 hV) rfl 0 (by decide) wl_X5_canStand_2 rfl rfl dX5_canStand_54 ?_
        refine lv_bipush (v := nI 6) hx hb dX5_canStand_57 (by decide) ?_
        refine nr_icmp_ge (tgt := 66) hx hb (by omega) (by decide) dX5_canStand_59 (by decide) (fun c4 => ?_) (fun c4 => ?_)
        · refine lv_iconst (v := nI 0) hx hb dX5_canStand_66 (by decide) ?_
          exact nr_retB hx hb hr hlocks (Or.inr ⟨by unfold cstP; omega, rfl⟩) rfl dX5_canStand_67
        · refine lv_iconst (v := nI 1) hx hb dX5_canStand_62 (by decide) ?_
          refine lv_goto (tgt := 67) hx hb dX5_canStand_63 (by decide) ?_
          exact nr_retB hx hb hr hlocks (Or.inl ⟨by unfold cstP; omega, rfl⟩) rfl dX5_canStand_67
    · refine nr_tabIn (j := 2) (tgt := 68) hx hb (by omega) c1 dX5_canStand_1 (by decide) (by decide) rfl (by decide) ?_
      refine lv_iload_n hx hb dX5_canStand_68 rfl (lv_at hl 2 rfl) ?_
      refine nr_if_le (tgt := 88) hx hb (by omega) dX5_canStand_69 (by decide) (fun c5 => ?_) (fun c5 => ?_)
      · refine lv_iconst (v := nI 0) hx hb dX5_canStand_88 (by decide) ?_
        exact nr_retB hx hb hr hlocks (Or.inr ⟨by unfold cstP; omega, rfl⟩) rfl dX5_canStand_89
      · refine lv_aload_n hx hb dX5_canStand_72 rfl (lv_at hl 0 rfl) ?_
        refine nr_get (own := RX5) (C := RX5) (T := TX5) (N := 2) (v := .ref (ad Γ (to + 4))) hx hb hts hi_X5_canStand_X5 hown hw (by omega) (isRd_0 hRd) rfl 0 (by decide) wl_X5_canStand_1 rfl rfl dX5_canStand_73 ?_
        refine nr_get (own := RX5) (C := RX10) (T := TX10) (N := 15) (v := .int (nI (V 1))) hx hb hts hi_X5_canStand_X10 hown hw (by omega) (isV_0 hV) rfl 3 (by decide) wl_X5_canStand_3 rfl rfl dX5_canStand_76 ?_
        refine lv_bipush (v := nI 8) hx hb dX5_canStand_79 (by decide) ?_
        refine nr_icmp_ge (tgt := 88) hx hb (by omega) (by decide) dX5_canStand_81 (by decide) (fun c6 => ?_) (fun c6 => ?_)
        · refine lv_iconst (v := nI 0) hx hb dX5_canStand_88 (by decide) ?_
          exact nr_retB hx hb hr hlocks (Or.inr ⟨by unfold cstP; omega, rfl⟩) rfl dX5_canStand_89
        · refine lv_iconst (v := nI 1) hx hb dX5_canStand_84 (by decide) ?_
          refine lv_goto (tgt := 89) hx hb dX5_canStand_85 (by decide) ?_
          exact nr_retB hx hb hr hlocks (Or.inl ⟨by unfold cstP; omega, rfl⟩) rfl dX5_canStand_89
    · refine nr_tabIn (j := 3) (tgt := 90) hx hb (by omega) c1 dX5_canStand_1 (by decide) (by decide) rfl (by decide) ?_
      refine lv_iload_n hx hb dX5_canStand_90 rfl (lv_at hl 2 rfl) ?_
      refine nr_if_le (tgt := 98) hx hb (by omega) dX5_canStand_91 (by decide) (fun c7 => ?_) (fun c7 => ?_)
      · refine lv_iconst (v := nI 0) hx hb dX5_canStand_98 (by decide) ?_
        exact nr_retB hx hb hr hlocks (Or.inr ⟨by unfold cstP; omega, rfl⟩) rfl dX5_canStand_99
      · refine lv_iconst (v := nI 1) hx hb dX5_canStand_94 (by decide) ?_
        refine lv_goto (tgt := 99) hx hb dX5_canStand_95 (by decide) ?_
        exact nr_retB hx hb hr hlocks (Or.inl ⟨by unfold cstP; omega, rfl⟩) rfl dX5_canStand_99
    · refine nr_tabIn (j := 4) (tgt := 90) hx hb (by omega) c1 dX5_canStand_1 (by decide) (by decide) rfl (by decide) ?_
      refine lv_iload_n hx hb dX5_canStand_90 rfl (lv_at hl 2 rfl) ?_
      refine nr_if_le (tgt := 98) hx hb (by omega) dX5_canStand_91 (by decide) (fun c8 => ?_) (fun c8 => ?_)
      · refine lv_iconst (v := nI 0) hx hb dX5_canStand_98 (by decide) ?_
        exact nr_retB hx hb hr hlocks (Or.inr ⟨by unfold cstP; omega, rfl⟩) rfl dX5_canStand_99
      · refine lv_iconst (v := nI 1) hx hb dX5_canStand_94 (by decide) ?_
        refine lv_goto (tgt := 99) hx hb dX5_canStand_95 (by decide) ?_
        exact nr_retB hx hb hr hlocks (Or.inl ⟨by unfold cstP; omega, rfl⟩) rfl dX5_canStand_99
    · refine nr_tabOut (tgt := 100) hx hb (by omega) dX5_canStand_1 (by omega) (by decide) ?_
      refine lv_iconst (v := nI 0) hx hb dX5_canStand_100 (by decide) ?_
      exact nr_retB hx hb hr hlocks (Or.inr ⟨by unfold cstP; omega, rfl⟩) rfl dX5_canStand_101
theorem wl_X5_fitsWrong_1 : Cond.fieldLink RX5 12 "BellForgiven$Reader" "draft" "LBellForgiven$Valley;" ∈ wsX5_fitsWrong := List.mem_of_getElem? (i := 1) rfl
theorem wl_X5_fitsWrong_2 : Cond.fieldLink RX5 18 "BellForgiven$Reader" "given" "[I" ∈ wsX5_fitsWrong := List.mem_of_getElem? (i := 2) rfl
theorem wl_X5_fitsWrong_9 : Cond.static yX11_within ∈ wsX5_fitsWrong := List.mem_of_getElem? (i := 9) rfl
theorem wl_X5_fitsWrong_10 : Cond.initialized RX11 ∈ wsX5_fitsWrong := List.mem_of_getElem? (i := 10) rfl
theorem hi_X5_fitsWrong_X5 : ∀ w ∈ u_ws RX5 TX5 2, w ∈ wsX5_fitsWrong := fun w h => (List.mem_cons_of_mem _ (List.mem_append_left _ (List.mem_append_right _ h)))
set_option maxHeartbeats 4000000 in
set_option maxRecDepth 100000 in
theorem c_X5_fitsWrong (l : Launch) (Γ : Gam) (n : Nat) (G : Nat → va_E) (to : Nat) (gv V : Nat → Nat) (hRd : isRd Γ G (to + 2) gv) (hV : isV Γ G (to + 4) V) (hn_to : to + 20 ≤ n) (q x : Nat) (hq : q < 4) (hx9 : x < 2000) (hI : vI V) (hgv : ∀ j, gv j < 2147483648)  : Met l yX5_fitsWrong wsX5_fitsWrong ({ frames := 2, cells := 0, slots := 0, locals := 43 }) (va_Pc [.ref (ad Γ (to + 2)), .int (nI q), .int (nI x)] (fun U => hw Γ n G U U.heap)) (vp_Si (bp ((if q = 0 then x < 6 else if q = 1 then x < V 0 else if q = 2 then x < V 0 ∧ ¬ x = gv 1 else 1 ≤ x ∧ x ≤ 9)))) 0 0 (fun _ => False) := by
  refine Met.ofW (cc := cX5_fitsWrong) (maxL := 3) (ret := (some .boolean)) (by decide) rfl ?_
  intro p e s m args below meth c s₁ B hml hv
  obtain ⟨rfl, hw⟩ := hv
  have hx := B.exec
  have hb := B.bytes
  have hr := B.returns
  have hts := atoms_spec (ws := wsX5_fitsWrong) B.pre
  have hown : s.vm.findClass RX5 = some m.cls := findClass_of_methodNamed B.named
  have hlocks := B.notSynchronized
  have hl := lv_entry ([.ref (ad Γ (to + 2)), .int (nI q), .int (nI x)]) (n := 3) (Nat.le_of_ble_eq_true rfl)
  rw [lg_entry_eq]
  generalize (lg_sl ([.ref (ad Γ (to + 2)), .int (nI q), .int (nI x)]) ++ List.replicate (3 - (lg_sl ([.ref (ad Γ (to + 2)), .int (nI q), .int (nI x)])).length) Slot.unset).toArray = ls at hl ⊢
  have hl : lv_has ls 3 [(0, .ref (ad Γ (to + 2))), (1, .int (nI q)), (2, .int (nI x))] := hl
  have hB := hI.1
  have hB0 := hI.2.1
  have hB1 := hI.2.2.1
  have hB20 := hI.2.2.2.2.2.2.2.2.2
  have hBz2 := hI.2.2.2.1
  have hBz3 := hI.2.2.2.2.1
  have hBz4 := hI.2.2.2.2.2.1
  have hBz5 := hI.2.2.2.2.2.2.1
  have hBd := hB 21
  have hg1 := hgv 1
  refine lv_iload_n hx hb dX5_fitsWrong_0 rfl (lv_at hl 1 rfl) ?_
  rcases (show q = 0 ∨ q = 1 ∨ q = 2 ∨ 2 < q by omega) with c1 | c1 | c1 | c1
  · refine nr_tabIn (j := 0) (tgt := 28) hx hb (by omega) c1 dX5_fitsWrong_1 (by decide) (by decide) rfl (by decide) ?_
    refine lv_iload_n hx hb dX5_fitsWrong_28 rfl (lv_at hl 2 rfl) ?_
    refine lv_bipush (v := nI 6) hx hb dX5_fitsWrong_29 (by decide) ?_
    refine nr_icmp_ge (tgt := 38) hx hb (by omega) (by decide) dX5_fitsWrong_31 (by decide) (fun c2 => ?_) (fun c2 => ?_)
    · refine lv_iconst (v := nI 0) hx hb dX5_fitsWrong_38 (by decide) ?_
      exact nr_retB hx hb hr hlocks (Or.inr ⟨by (repeat' split) <;> omega, rfl⟩) rfl dX5_fitsWrong_39
    · refine lv_iconst (v := nI 1) hx hb dX5_fitsWrong_34 (by decide) ?_
      refine lv_goto (tgt := 39) hx hb dX5_fitsWrong_35 (by decide) ?_
      exact nr_retB hx hb hr hlocks (Or.inl ⟨by (repeat' split) <;> omega, rfl⟩) rfl dX5_fitsWrong_39
  · refine nr_tabIn (j := 1) (tgt := 40) hx hb (by omega) c1 dX5_fitsWrong_1 (by decide) (by decide) rfl (by decide) ?_
    refine lv_aload_n hx hb dX5_fitsWrong_40 rfl (lv_at hl 0 rfl) ?_
    refine nr_get (own := RX5) (C := RX5) (T := TX5) (N := 2) (v := .ref (ad Γ (to + 4))) hx hb hts hi_X5_fitsWrong_X5 hown hw (by omega) (isRd_0 hRd) rfl 0 (by decide) wl_X5_fitsWrong_1 rfl rfl dX5_fitsWrong_41 ?_
    refine lv_iload_n hx hb dX5_fitsWrong_44 rfl (lv_at hl 2 rfl) ?_
    refine nr_goB (P := ∃ j, j < V 0 ∧ (nI x) = nI j) (nr_runV (As := [.int (nI x)]) (C := RX10) (T := TX10) (N := 15) ⟨hx, hb, hml, hown, hts⟩ hw (by omega) (isV_0 hV) rfl (c_X10_hasPerson l Γ n G (to + 4) V hV (by assumption) (by omega) (nI x)) (cwV 1 hts gX5_fitsWrong_X10_hasPerson rfl rfl rfl (by decide +kernel) ⟨Nat.le_of_ble_eq_true rfl, Nat.le_of_ble_eq_true rfl⟩) rfl hl.1 rfl (Nat.le_of_ble_eq_true rfl) dX5_fitsWrong_45 ⟨Nat.zero_le _, Nat.zero_le _⟩) (fun b3 => ?_) (fun b3 => ?_)
    · have hx8 := (ex_lt (by omega) (by omega)).mp b3
      exact nr_retB hx hb hr hlocks (Or.inl ⟨by (repeat' split) <;> omega, rfl⟩) rfl dX5_fitsWrong_48
    · have hx8 : ¬ x < V 0 := fun z => b3 ((ex_lt (by omega) (by omega)).mpr z)
      exact nr_retB hx hb hr hlocks (Or.inr ⟨by (repeat' split) <;> omega, rfl⟩) rfl dX5_fitsWrong_48
  · refine nr_tabIn (j := 2) (tgt := 49) hx hb (by omega) c1 dX5_fitsWrong_1 (by decide) (by decide) rfl (by decide) ?_
    refine lv_aload_n hx hb dX5_fitsWrong_49 rfl (lv_at hl 0 rfl) ?_
    refine nr_get (own := RX5) (C := RX5) (T := TX5) (N := 2) (v := .ref (ad Γ (to + 4))) hx hb hts hi_X5_fitsWrong_X5 hown hw (by omega) (isRd_0 hRd) rfl 0 (by decide) wl_X5_fitsWrong_1 rfl rfl dX5_fitsWrong_50 ?_
    refine lv_iload_n hx hb dX5_fitsWrong_53 rfl (lv_at hl 2 rfl) ?_
    refine nr_goB (P := ∃ j, j < V 0 ∧ (nI x) = nI j) (nr_runV (As := [.int (nI x)]) (C := RX10) (T := TX10) (N := 15) ⟨hx, hb, hml, hown, hts⟩ hw (by omega) (isV_0 hV) rfl (c_X10_hasPerson l Γ n G (to + 4) V hV (by assumption) (by omega) (nI x)) (cwV 1 hts gX5_fitsWrong_X10_hasPerson rfl rfl rfl (by decide +kernel) ⟨Nat.le_of_ble_eq_true rfl, Nat.le_of_ble_eq_true rfl⟩) rfl hl.1 rfl (Nat.le_of_ble_eq_true rfl) dX5_fitsWrong_54 ⟨Nat.zero_le _, Nat.zero_le _⟩) (fun b4 => ?_) (fun b4 => ?_)
    · have hx8 := (ex_lt (by omega) (by omega)).mp b4
      refine nr_if_eq (tgt := 74) hx hb (by decide) dX5_fitsWrong_57 (by decide) (fun c5 => absurd c5 (by decide)) (fun c5 => ?_)
      refine lv_iload_n hx hb dX5_fitsWrong_60 rfl (lv_at hl 2 rfl) ?_
      refine lv_aload_n hx hb dX5_fitsWrong_61 rfl (lv_at hl 0 rfl) ?_
      refine nr_get (own := RX5) (C := RX5) (T := TX5) (N := 2) (v := .ref (ad Γ (to + 3))) hx hb hts hi_X5_fitsWrong_X5 hown hw (by omega) (isRd_0 hRd) rfl 1 (by decide) wl_X5_fitsWrong_2 rfl rfl dX5_fitsWrong_62 ?_
      refine lv_iconst (v := nI 1) hx hb dX5_fitsWrong_65 (by decide) ?_
      refine nr_iald (x := (gv 1)) hx hb hw (by omega) (isRd_1 hRd) rfl (by omega) (by decide) dX5_fitsWrong_66 ?_
      have hL6 := hgv (1)
      refine nr_icmp_eq (tgt := 74) hx hb (by omega) (by omega) dX5_fitsWrong_67 (by decide) (fun c7 => ?_) (fun c7 => ?_)
      · refine lv_iconst (v := nI 0) hx hb dX5_fitsWrong_74 (by decide) ?_
        exact nr_retB hx hb hr hlocks (Or.inr ⟨by (repeat' split) <;> omega, rfl⟩) rfl dX5_fitsWrong_75
      · refine lv_iconst (v := nI 1) hx hb dX5_fitsWrong_70 (by decide) ?_
        refine lv_goto (tgt := 75) hx hb dX5_fitsWrong_71 (by decide) ?_
        exact nr_retB hx hb hr hlocks (Or.inl ⟨by (repeat' split) <;> omega, rfl⟩) rfl dX5_fitsWrong_75
    · have hx8 : ¬ x < V 0 := fun z => b4 ((ex_lt (by omega) (by omega)).mpr z)
      refine nr_if_eq (tgt := 74) hx hb (by decide) dX5_fitsWrong_57 (by decide) (fun c8 => ?_) (fun c8 => absurd c8 (by decide))
      refine lv_iconst (v := nI 0) hx hb dX5_fitsWrong_74 (by decide) ?_
      exact nr_retB hx hb hr hlocks (Or.inr ⟨by (repeat' split) <;> omega, rfl⟩) rfl dX5_fitsWrong_75
  · refine nr_tabOut (tgt := 76) hx hb (by omega) dX5_fitsWrong_1 (by omega) (by decide) ?_
    refine lv_iload_n hx hb dX5_fitsWrong_76 rfl (lv_at hl 2 rfl) ?_
    refine lv_iconst (v := nI 1) hx hb dX5_fitsWrong_77 (by decide) ?_
    refine lv_bipush (v := nI 9) hx hb dX5_fitsWrong_78 (by decide) ?_
    refine nr_goB (P := (nI 1) ≤ (nI x) ∧ (nI x) ≤ (nI 9)) (nr_runN (As := [.int (nI x), .int (nI 1), .int (nI 9)]) ⟨hx, hb, hml, hown, hts⟩ hw (c_X11_within l Γ n G (nI x) (nI 1) (nI 9)) ⟨va_cnB 3 hts gX5_fitsWrong_X11_within_n77 rfl rfl rfl (hw.2.2 _ (List.mem_of_getElem? (i := 10) rfl)) (hts _ wl_X5_fitsWrong_10) (by decide +kernel) ⟨Nat.le_of_ble_eq_true rfl, Nat.le_of_ble_eq_true rfl⟩, hts _ wl_X5_fitsWrong_9, trivial⟩ rfl hl.1 rfl (Nat.le_of_ble_eq_true rfl) dX5_fitsWrong_80 ⟨Nat.zero_le _, Nat.zero_le _⟩) (fun b9 => ?_) (fun b9 => ?_)
    · have hx8 := (wi_lt (by omega) (by omega) (by omega)).mp b9
      exact nr_retB hx hb hr hlocks (Or.inl ⟨by (repeat' split) <;> omega, rfl⟩) rfl dX5_fitsWrong_83
    · have hx8 : ¬ (1 ≤ x ∧ x ≤ 9) := fun z => b9 ((wi_lt (by omega) (by omega) (by omega)).mpr z)
      exact nr_retB hx hb hr hlocks (Or.inr ⟨by (repeat' split) <;> omega, rfl⟩) rfl dX5_fitsWrong_83
theorem wl_X5_fits_1 : Cond.fieldLink RX5 12 "BellForgiven$Reader" "draft" "LBellForgiven$Valley;" ∈ wsX5_fits := List.mem_of_getElem? (i := 1) rfl
theorem wl_X5_fits_14 : Cond.static yX11_within ∈ wsX5_fits := List.mem_of_getElem? (i := 14) rfl
theorem wl_X5_fits_15 : Cond.initialized RX11 ∈ wsX5_fits := List.mem_of_getElem? (i := 15) rfl
theorem hi_X5_fits_X5 : ∀ w ∈ u_ws RX5 TX5 2, w ∈ wsX5_fits := fun w h => (List.mem_cons_of_mem _ (List.mem_append_left _ (List.mem_append_right _ h)))
set_option maxHeartbeats 4000000 in
set_option maxRecDepth 100000 in
theorem c_X5_fits (l : Launch) (Γ : Gam) (n : Nat) (G : Nat → va_E) (to : Nat) (gv V : Nat → Nat) (hRd : isRd Γ G (to + 2) gv) (hV : isV Γ G (to + 4) V) (hn_to : to + 20 ≤ n) (wd q x : Nat) (hwd : 1 ≤ wd ∧ wd ≤ 4) (hq : q < 4) (hx9 : x < 2000) (hI : vI V) (hgv : ∀ j, gv j < 2147483648)  : Met l yX5_fits wsX5_fits ({ frames := 4, cells := 0, slots := 0, locals := 95 }) (va_Pc [.ref (ad Γ (to + 2)), .int (nI wd), .int (nI q), .int (nI x)] (fun U => hw Γ n G U U.heap)) (vp_Si (bp (fitP (V 0) (V 1) (fun k => could V k 0 0 0) (gv 1) wd q x))) 0 0 (fun _ => False) := by
  refine Met.ofW (cc := cX5_fits) (maxL := 4) (ret := (some .boolean)) (by decide) rfl ?_
  intro p e s m args below meth c s₁ B hml hv
  obtain ⟨rfl, hw⟩ := hv
  have hx := B.exec
  have hb := B.bytes
  have hr := B.returns
  have hts := atoms_spec (ws := wsX5_fits) B.pre
  have hown : s.vm.findClass RX5 = some m.cls := findClass_of_methodNamed B.named
  have hlocks := B.notSynchronized
  have hl := lv_entry ([.ref (ad Γ (to + 2)), .int (nI wd), .int (nI q), .int (nI x)]) (n := 4) (Nat.le_of_ble_eq_true rfl)
  rw [lg_entry_eq]
  generalize (lg_sl ([.ref (ad Γ (to + 2)), .int (nI wd), .int (nI q), .int (nI x)]) ++ List.replicate (4 - (lg_sl ([.ref (ad Γ (to + 2)), .int (nI wd), .int (nI q), .int (nI x)])).length) Slot.unset).toArray = ls at hl ⊢
  have hl : lv_has ls 4 [(0, .ref (ad Γ (to + 2))), (1, .int (nI wd)), (2, .int (nI q)), (3, .int (nI x))] := hl
  have hB := hI.1
  have hB0 := hI.2.1
  have hB1 := hI.2.2.1
  have hB20 := hI.2.2.2.2.2.2.2.2.2
  have hBz2 := hI.2.2.2.1
  have hBz3 := hI.2.2.2.2.1
  have hBz4 := hI.2.2.2.2.2.1
  have hBz5 := hI.2.2.2.2.2.2.1
  have hBd := hB 21
  refine lv_iload_n hx hb dX5_fits_0 rfl (lv_at hl 1 rfl) ?_
  rcases (show wd = 1 ∨ wd = 2 ∨ wd = 3 ∨ (wd < 1 ∨ 3 < wd) by omega) with c1 | c1 | c1 | c1
  · refine nr_tabIn (j := 1) (tgt := 28) hx hb (by omega) c1 dX5_fits_1 (by decide) (by decide) rfl (by decide) ?_
    refine lv_iload_n hx hb dX5_fits_28 rfl (lv_at hl 3 rfl) ?_
    refine lv_bipush (v := nI 6) hx hb dX5_fits_29 (by decide) ?_
    refine nr_icmp_ge (tgt := 38) hx hb (by omega) (by decide) dX5_fits_31 (by decide) (fun c2 => ?_) (fun c2 => ?_)
    · refine lv_iconst (v := nI 0) hx hb dX5_fits_38 (by decide) ?_
      exact nr_retB hx hb hr hlocks (Or.inr ⟨by unfold fitP; (repeat' split) <;> first | omega | (intro hh; first | exact absurd hh.1 (by omega) | exact absurd hh.2 (by assumption) | exact absurd hh (by assumption) | omega), rfl⟩) rfl dX5_fits_39
    · refine lv_iconst (v := nI 1) hx hb dX5_fits_34 (by decide) ?_
      refine lv_goto (tgt := 39) hx hb dX5_fits_35 (by decide) ?_
      exact nr_retB hx hb hr hlocks (Or.inl ⟨by unfold fitP; (repeat' split) <;> first | omega | assumption | exact ⟨by omega, by assumption⟩, rfl⟩) rfl dX5_fits_39
  · refine nr_tabIn (j := 2) (tgt := 40) hx hb (by omega) c1 dX5_fits_1 (by decide) (by decide) rfl (by decide) ?_
    refine lv_aload_n hx hb dX5_fits_40 rfl (lv_at hl 0 rfl) ?_
    refine lv_iload_n hx hb dX5_fits_41 rfl (lv_at hl 2 rfl) ?_
    refine lv_iload_n hx hb dX5_fits_42 rfl (lv_at hl 3 rfl) ?_
    refine nr_goB (P := (if q = 0 then x < 6 else if q = 1 then x < V 0 else if q = 2 then x < V 0 ∧ ¬ x = gv 1 else 1 ≤ x ∧ x ≤ 9)) (nr_runV (As := [.int (nI q), .int (nI x)]) (C := RX5) (T := TX5) (N := 2) ⟨hx, hb, hml, hown, hts⟩ hw (by omega) (isRd_0 hRd) rfl (c_X5_fitsWrong l Γ n G to gv V hRd hV (by omega) q x (by first | assumption | omega) (by first | assumption | omega) (by first | assumption | omega) (by first | assumption | omega)) (cwV 2 hts gX5_fits_X5_fitsWrong rfl rfl rfl (by decide +kernel) ⟨Nat.le_of_ble_eq_true rfl, Nat.le_of_ble_eq_true rfl⟩) rfl hl.1 rfl (Nat.le_of_ble_eq_true rfl) dX5_fits_43 ⟨Nat.zero_le _, Nat.zero_le _⟩) (fun b3 => ?_) (fun b3 => ?_)
    · have hfw : fitP (V 0) (V 1) (fun k => could V k 0 0 0) (gv 1) wd q x := by unfold fitP; rw [if_neg (by omega), if_pos (by omega)]; exact b3
      exact nr_retB hx hb hr hlocks (Or.inl ⟨hfw, rfl⟩) rfl dX5_fits_46
    · have hfw : ¬ fitP (V 0) (V 1) (fun k => could V k 0 0 0) (gv 1) wd q x := by unfold fitP; rw [if_neg (by omega), if_pos (by omega)]; exact b3
      exact nr_retB hx hb hr hlocks (Or.inr ⟨hfw, rfl⟩) rfl dX5_fits_46
  · refine nr_tabIn (j := 3) (tgt := 47) hx hb (by omega) c1 dX5_fits_1 (by decide) (by decide) rfl (by decide) ?_
    refine lv_aload_n hx hb dX5_fits_47 rfl (lv_at hl 0 rfl) ?_
    refine nr_get (own := RX5) (C := RX5) (T := TX5) (N := 2) (v := .ref (ad Γ (to + 4))) hx hb hts hi_X5_fits_X5 hown hw (by omega) (isRd_0 hRd) rfl 0 (by decide) wl_X5_fits_1 rfl rfl dX5_fits_48 ?_
    refine lv_iload_n hx hb dX5_fits_51 rfl (lv_at hl 3 rfl) ?_
    refine nr_goB (P := ∃ j, j < V 1 ∧ (nI x) = nI j) (nr_runV (As := [.int (nI x)]) (C := RX10) (T := TX10) (N := 15) ⟨hx, hb, hml, hown, hts⟩ hw (by omega) (isV_0 hV) rfl (c_X10_hasWrong l Γ n G (to + 4) V hV (by assumption) (by omega) (nI x)) (cwV 1 hts gX5_fits_X10_hasWrong rfl rfl rfl (by decide +kernel) ⟨Nat.le_of_ble_eq_true rfl, Nat.le_of_ble_eq_true rfl⟩) rfl hl.1 rfl (Nat.le_of_ble_eq_true rfl) dX5_fits_52 ⟨Nat.zero_le _, Nat.zero_le _⟩) (fun b4 => ?_) (fun b4 => ?_)
    · have hx8 := (ex_lt (by omega) (by omega)).mp b4
      refine nr_if_eq (tgt := 76) hx hb (by decide) dX5_fits_55 (by decide) (fun c5 => absurd c5 (by decide)) (fun c5 => ?_)
      refine lv_aload_n hx hb dX5_fits_58 rfl (lv_at hl 0 rfl) ?_
      refine nr_get (own := RX5) (C := RX5) (T := TX5) (N := 2) (v := .ref (ad Γ (to + 4))) hx hb hts hi_X5_fits_X5 hown hw (by omega) (isRd_0 hRd) rfl 0 (by decide) wl_X5_fits_1 rfl rfl dX5_fits_59 ?_
      refine lv_iload_n hx hb dX5_fits_62 rfl (lv_at hl 3 rfl) ?_
      refine lv_iconst (v := nI 0) hx hb dX5_fits_63 (by decide) ?_
      refine lv_iconst (v := nI 0) hx hb dX5_fits_64 (by decide) ?_
      refine lv_iconst (v := nI 0) hx hb dX5_fits_65 (by decide) ?_
      refine nr_goB (P := could V x 0 0 0) (nr_runV (As := [.int (nI x), .int (nI 0), .int (nI 0), .int (nI 0)]) (C := RX10) (T := TX10) (N := 15) ⟨hx, hb, hml, hown, hts⟩ hw (by omega) (isV_0 hV) rfl (c_X10_could l Γ n G (to + 4) V hV (by assumption) (by omega) x 0 0 0 (by omega) (by omega) (by omega) (by omega)) (cwV 4 hts gX5_fits_X10_could rfl rfl rfl (by decide +kernel) ⟨Nat.le_of_ble_eq_true rfl, Nat.le_of_ble_eq_true rfl⟩) rfl hl.1 rfl (Nat.le_of_ble_eq_true rfl) dX5_fits_66 ⟨Nat.zero_le _, Nat.zero_le _⟩) (fun b6 => ?_) (fun b6 => ?_)
      · refine nr_if_eq (tgt := 76) hx hb (by decide) dX5_fits_69 (by decide) (fun c7 => absurd c7 (by decide)) (fun c7 => ?_)
        refine lv_iconst (v := nI 1) hx hb dX5_fits_72 (by decide) ?_
        refine lv_goto (tgt := 77) hx hb dX5_fits_73 (by decide) ?_
        exact nr_retB hx hb hr hlocks (Or.inl ⟨by unfold fitP; (repeat' split) <;> first | omega | assumption | exact ⟨by omega, by assumption⟩, rfl⟩) rfl dX5_fits_77
      · refine nr_if_eq (tgt := 76) hx hb (by decide) dX5_fits_69 (by decide) (fun c8 => ?_) (fun c8 => absurd c8 (by decide))
        refine lv_iconst (v := nI 0) hx hb dX5_fits_76 (by decide) ?_
        exact nr_retB hx hb hr hlocks (Or.inr ⟨by unfold fitP; (repeat' split) <;> first | omega | (intro hh; first | exact absurd hh.1 (by omega) | exact absurd hh.2 (by assumption) | exact absurd hh (by assumption) | omega), rfl⟩) rfl dX5_fits_77
    · have hx8 : ¬ x < V 1 := fun z => b4 ((ex_lt (by omega) (by omega)).mpr z)
      refine nr_if_eq (tgt := 76) hx hb (by decide) dX5_fits_55 (by decide) (fun c9 => ?_) (fun c9 => absurd c9 (by decide))
      refine lv_iconst (v := nI 0) hx hb dX5_fits_76 (by decide) ?_
      exact nr_retB hx hb hr hlocks (Or.inr ⟨by unfold fitP; (repeat' split) <;> first | omega | (intro hh; first | exact absurd hh.1 (by omega) | exact absurd hh.2 (by assumption) | exact absurd hh (by assumption) | omega), rfl⟩) rfl dX5_fits_77
  · refine nr_tabOut (tgt := 78) hx hb (by omega) dX5_fits_1 (by omega) (by decide) ?_
    refine lv_iload_n hx hb dX5_fits_78 rfl (lv_at hl 3 rfl) ?_
    refine lv_iconst (v := nI 1) hx hb dX5_fits_79 (by decide) ?_
    refine lv_bipush (v := nI 99) hx hb dX5_fits_80 (by decide) ?_
    refine nr_goB (P := (nI 1) ≤ (nI x) ∧ (nI x) ≤ (nI 99)) (nr_runN (As := [.int (nI x), .int (nI 1), .int (nI 99)]) ⟨hx, hb, hml, hown, hts⟩ hw (c_X11_within l Γ n G (nI x) (nI 1) (nI 99)) ⟨va_cnB 3 hts gX5_fits_X11_within_n77 rfl rfl rfl (hw.2.2 _ (List.mem_of_getElem? (i := 10) rfl)) (hts _ wl_X5_fits_15) (by decide +kernel) ⟨Nat.le_of_ble_eq_true rfl, Nat.le_of_ble_eq_true rfl⟩, hts _ wl_X5_fits_14, trivial⟩ rfl hl.1 rfl (Nat.le_of_ble_eq_true rfl) dX5_fits_82 ⟨Nat.zero_le _, Nat.zero_le _⟩) (fun b10 => ?_) (fun b10 => ?_)
    · have hx8 := (wi_lt (by omega) (by omega) (by omega)).mp b10
      exact nr_retB hx hb hr hlocks (Or.inl ⟨by unfold fitP; (repeat' split) <;> first | omega | assumption | exact ⟨by omega, by assumption⟩, rfl⟩) rfl dX5_fits_85
    · have hx8 : ¬ (1 ≤ x ∧ x ≤ 99) := fun z => b10 ((wi_lt (by omega) (by omega) (by omega)).mpr z)
      exact nr_retB hx hb hr hlocks (Or.inr ⟨by unfold fitP; (repeat' split) <;> first | omega | (intro hh; first | exact absurd hh.1 (by omega) | exact absurd hh.2 (by assumption) | exact absurd hh (by assumption) | omega), rfl⟩) rfl dX5_fits_85
theorem wl_X5_carryOut_1 : Cond.fieldLink RX5 12 "BellForgiven$Reader" "draft" "LBellForgiven$Valley;" ∈ wsX5_carryOut := List.mem_of_getElem? (i := 1) rfl
theorem wl_X5_carryOut_2 : Cond.fieldLink RX5 18 "BellForgiven$Reader" "given" "[I" ∈ wsX5_carryOut := List.mem_of_getElem? (i := 2) rfl
theorem hi_X5_carryOut_X5 : ∀ w ∈ u_ws RX5 TX5 2, w ∈ wsX5_carryOut := fun w h => (List.mem_cons_of_mem _ (List.mem_append_left _ (List.mem_append_right _ h)))
set_option maxHeartbeats 4000000 in
set_option maxRecDepth 100000 in
theorem c_X5_carryOut (l : Launch) (Γ : Gam) (n : Nat) (G : Nat → va_E) (to : Nat) (gv V : Nat → Nat) (hRd : isRd Γ G (to + 2) gv) (hV : isV Γ G (to + 4) V) (hn_to : to + 20 ≤ n) (hj : winj Γ n) (wd : Nat) (hI : vI V) (hg : ∀ j, gv j < 2000) (hwd : wd < 5) (h1 : wd = 1 → V 0 < 6) (h2 : wd = 2 → V 1 < 8) (h3 : wd = 3 → gv 0 < 8 ∧ V (6 + V (36 + gv 0)) ≤ 1998) (h4 : wd = 4 → V 21 ≤ 999)  : Met l yX5_carryOut wsX5_carryOut ({ frames := 3, cells := 0, slots := 0, locals := 66 }) (va_Pc [.ref (ad Γ (to + 2)), .int (nI wd)] (fun U => hw Γ n G U U.heap)) (wQv Γ n (fun G2 => isV Γ G2 (to + 4) (carV V gv wd) ∧ fr G G2 (to + 4) (to + 20))) 0 0 (wA Γ n) := by
  refine Met.ofW (cc := cX5_carryOut) (maxL := 2) (ret := none) (by decide) rfl ?_
  intro p e s m args below meth c s₁ B hml hv
  obtain ⟨rfl, hw⟩ := hv
  have hx := B.exec
  have hb := B.bytes
  have hr := B.returns
  have hts := atoms_spec (ws := wsX5_carryOut) B.pre
  have hown : s.vm.findClass RX5 = some m.cls := findClass_of_methodNamed B.named
  have hlocks := B.notSynchronized
  have hS : va_S (wA Γ n) s.heap s.heap [] := va_S.rf
  have hA : ∀ q, wA Γ n q → wA Γ n q := fun _ h => h
  have hl := lv_entry ([.ref (ad Γ (to + 2)), .int (nI wd)]) (n := 2) (Nat.le_of_ble_eq_true rfl)
  rw [lg_entry_eq]
  generalize (lg_sl ([.ref (ad Γ (to + 2)), .int (nI wd)]) ++ List.replicate (2 - (lg_sl ([.ref (ad Γ (to + 2)), .int (nI wd)])).length) Slot.unset).toArray = ls at hl ⊢
  have hl : lv_has ls 2 [(0, .ref (ad Γ (to + 2))), (1, .int (nI wd))] := hl
  have hfr := fr_rf G (to + 4) (to + 20)
  have hB := hI.1
  have hB0 := hI.2.1
  have hB1 := hI.2.2.1
  have hB20 := hI.2.2.2.2.2.2.2.2.2
  have hBz2 := hI.2.2.2.1
  have hBz3 := hI.2.2.2.2.1
  have hBz4 := hI.2.2.2.2.2.1
  have hBz5 := hI.2.2.2.2.2.2.1
  have hBd := hB 21
  refine lv_iload_n hx hb dX5_carryOut_0 rfl (lv_at hl 1 rfl) ?_
  rcases (show wd = 1 ∨ wd = 2 ∨ wd = 3 ∨ wd = 4 ∨ (wd < 1 ∨ 4 < wd) by omega) with c1 | c1 | c1 | c1 | c1
  · refine nr_tabIn (j := 1) (tgt := 32) hx hb (by omega) c1 dX5_carryOut_1 (by decide) (by decide) rfl (by decide) ?_
    refine lv_aload_n hx hb dX5_carryOut_32 rfl (lv_at hl 0 rfl) ?_
    refine nr_get (own := RX5) (C := RX5) (T := TX5) (N := 2) (v := .ref (ad Γ (to + 4))) hx hb hts hi_X5_carryOut_X5 hown hw (by omega) (isRd_0 hRd) rfl 0 (by decide) wl_X5_carryOut_1 rfl rfl dX5_carryOut_33 ?_
    refine lv_aload_n hx hb dX5_carryOut_36 rfl (lv_at hl 0 rfl) ?_
    refine nr_get (own := RX5) (C := RX5) (T := TX5) (N := 2) (v := .ref (ad Γ (to + 3))) hx hb hts hi_X5_carryOut_X5 hown hw (by omega) (isRd_0 hRd) rfl 1 (by decide) wl_X5_carryOut_2 rfl rfl dX5_carryOut_37 ?_
    refine lv_iconst (v := nI 0) hx hb dX5_carryOut_40 (by decide) ?_
    refine nr_iald (x := (gv 0)) hx hb hw (by omega) (isRd_1 hRd) rfl (by omega) (by decide) dX5_carryOut_41 ?_
    have hL2 := hg (0)
    refine nr_goI (nr_runV (As := [.int (nI (gv 0))]) (C := RX10) (T := TX10) (N := 15) ⟨hx, hb, hml, hown, hts⟩ hw (by omega) (isV_0 hV) rfl (c_X10_addPerson l Γ n G (to + 4) V hV (by omega) hj (gv 0) hI (h1 (by omega))) (cwV 1 hts gX5_carryOut_X10_addPerson rfl rfl rfl (by decide +kernel) ⟨Nat.le_of_ble_eq_true rfl, Nat.le_of_ble_eq_true rfl⟩) rfl hl.1 rfl (Nat.le_of_ble_eq_true rfl) dX5_carryOut_42 ⟨Nat.zero_le _, Nat.zero_le _⟩) hw hA hS (fun z3 G3 H locs hp hw hS => ?_)
    obtain ⟨ha3, hV, hf3⟩ := hp
    have hRd := isRd_fr hRd hf3 (by omega)
    have hfr := fr_tr hfr hf3 (by omega) (by omega)
    have hV : isV Γ G3 (to + 4) (perV V (gv 0)) := hV
    subst ha3
    refine lv_pop hx hb dX5_carryOut_45 rfl ?_
    refine lv_goto (tgt := 117) hx hb dX5_carryOut_46 (by decide) ?_
    exact nr_retV hx hb hr hlocks hw hS (⟨by rw [show carV V gv wd = (perV V (gv 0)) from (by unfold carV; (repeat' split) <;> first | rfl | omega | (exfalso; omega))]; exact hV, hfr⟩) dX5_carryOut_117
  · refine nr_tabIn (j := 2) (tgt := 49) hx hb (by omega) c1 dX5_carryOut_1 (by decide) (by decide) rfl (by decide) ?_
    refine lv_aload_n hx hb dX5_carryOut_49 rfl (lv_at hl 0 rfl) ?_
    refine nr_get (own := RX5) (C := RX5) (T := TX5) (N := 2) (v := .ref (ad Γ (to + 4))) hx hb hts hi_X5_carryOut_X5 hown hw (by omega) (isRd_0 hRd) rfl 0 (by decide) wl_X5_carryOut_1 rfl rfl dX5_carryOut_50 ?_
    refine lv_aload_n hx hb dX5_carryOut_53 rfl (lv_at hl 0 rfl) ?_
    refine nr_get (own := RX5) (C := RX5) (T := TX5) (N := 2) (v := .ref (ad Γ (to + 3))) hx hb hts hi_X5_carryOut_X5 hown hw (by omega) (isRd_0 hRd) rfl 1 (by decide) wl_X5_carryOut_2 rfl rfl dX5_carryOut_54 ?_
    refine lv_iconst (v := nI 0) hx hb dX5_carryOut_57 (by decide) ?_
    refine nr_iald (x := (gv 0)) hx hb hw (by omega) (isRd_1 hRd) rfl (by omega) (by decide) dX5_carryOut_58 ?_
    have hL4 := hg (0)
    refine lv_aload_n hx hb dX5_carryOut_59 rfl (lv_at hl 0 rfl) ?_
    refine nr_get (own := RX5) (C := RX5) (T := TX5) (N := 2) (v := .ref (ad Γ (to + 3))) hx hb hts hi_X5_carryOut_X5 hown hw (by omega) (isRd_0 hRd) rfl 1 (by decide) wl_X5_carryOut_2 rfl rfl dX5_carryOut_60 ?_
    refine lv_iconst (v := nI 1) hx hb dX5_carryOut_63 (by decide) ?_
    refine nr_iald (x := (gv 1)) hx hb hw (by omega) (isRd_1 hRd) rfl (by omega) (by decide) dX5_carryOut_64 ?_
    have hL5 := hg (1)
    refine lv_aload_n hx hb dX5_carryOut_65 rfl (lv_at hl 0 rfl) ?_
    refine nr_get (own := RX5) (C := RX5) (T := TX5) (N := 2) (v := .ref (ad Γ (to + 3))) hx hb hts hi_X5_carryOut_X5 hown hw (by omega) (isRd_0 hRd) rfl 1 (by decide) wl_X5_carryOut_2 rfl rfl dX5_carryOut_66 ?_
    refine lv_iconst (v := nI 2) hx hb dX5_carryOut_69 (by decide) ?_
    refine nr_iald (x := (gv 2)) hx hb hw (by omega) (isRd_1 hRd) rfl (by omega) (by decide) dX5_carryOut_70 ?_
    have hL6 := hg (2)
    refine lv_aload_n hx hb dX5_carryOut_71 rfl (lv_at hl 0 rfl) ?_
    refine nr_get (own := RX5) (C := RX5) (T := TX5) (N := 2) (v := .ref (ad Γ (to + 3))) hx hb hts hi_X5_carryOut_X5 hown hw (by omega) (isRd_0 hRd) rfl 1 (by decide) wl_X5_carryOut_2 rfl rfl dX5_carryOut_72 ?_
    refine lv_iconst (v := nI 3) hx hb dX5_carryOut_75 (by decide) ?_
    refine nr_iald (x := (gv 3)) hx hb hw (by omega) (isRd_1 hRd) rfl (by omega) (by decide) dX5_carryOut_76 ?_
    have hL7 := hg (3)
    refine nr_goI (nr_runV (As := [.int (nI (gv 0)), .int (nI (gv 1)), .int (nI (gv 2)), .int (nI (gv 3))]) (C := RX10) (T := TX10) (N := 15) ⟨hx, hb, hml, hown, hts⟩ hw (by omega) (isV_0 hV) rfl (c_X10_addWrong l Γ n G (to + 4) V hV (by omega) hj (gv 0) (gv 1) (gv 2) (gv 3) hI (h2 (by omega))) (cwV 4 hts gX5_carryOut_X10_addWrong rfl rfl rfl (by decide +kernel) ⟨Nat.le_of_ble_eq_true rfl, Nat.le_of_ble_eq_true rfl⟩) rfl hl.1 rfl (Nat.le_of_ble_eq_true rfl) dX5_carryOut_77 ⟨Nat.zero_le _, Nat.zero_le _⟩) hw hA hS (fun z8 G8 H locs hp hw hS => ?_)
    obtain ⟨ha8, hV, hf8⟩ := hp
    have hRd := isRd_fr hRd hf8 (by omega)
    have hfr := fr_tr hfr hf8 (by omega) (by omega)
    have hV : isV Γ G8 (to + 4) (layR V (gv 0) (gv 1) (gv 2) (gv 3)) := hV
    subst ha8
    refine lv_pop hx hb dX5_carryOut_80 rfl ?_
    refine lv_goto (tgt := 117) hx hb dX5_carryOut_81 (by decide) ?_
    exact nr_retV hx hb hr hlocks hw hS (⟨by rw [show carV V gv wd = (layR V (gv 0) (gv 1) (gv 2) (gv 3)) from (by unfold carV; (repeat' split) <;> first | rfl | omega | (exfalso; omega))]; exact hV, hfr⟩) dX5_carryOut_117
  · refine nr_tabIn (j := 3) (tgt := 84) hx hb (by omega) c1 dX5_carryOut_1 (by decide) (by decide) rfl (by decide) ?_
    refine lv_aload_n hx hb dX5_carryOut_84 rfl (lv_at hl 0 rfl) ?_
    refine nr_get (own := RX5) (C := RX5) (T := TX5) (N := 2) (v := .ref (ad Γ (to + 4))) hx hb hts hi_X5_carryOut_X5 hown hw (by omega) (isRd_0 hRd) rfl 0 (by decide) wl_X5_carryOut_1 rfl rfl dX5_carryOut_85 ?_
    refine lv_aload_n hx hb dX5_carryOut_88 rfl (lv_at hl 0 rfl) ?_
    refine nr_get (own := RX5) (C := RX5) (T := TX5) (N := 2) (v := .ref (ad Γ (to + 3))) hx hb hts hi_X5_carryOut_X5 hown hw (by omega) (isRd_0 hRd) rfl 1 (by decide) wl_X5_carryOut_2 rfl rfl dX5_carryOut_89 ?_
    refine lv_iconst (v := nI 0) hx hb dX5_carryOut_92 (by decide) ?_
    refine nr_iald (x := (gv 0)) hx hb hw (by omega) (isRd_1 hRd) rfl (by omega) (by decide) dX5_carryOut_93 ?_
    have hL9 := hg (0)
    refine nr_goI (nr_runV (As := [.int (nI (gv 0))]) (C := RX10) (T := TX10) (N := 15) ⟨hx, hb, hml, hown, hts⟩ hw (by omega) (isV_0 hV) rfl (c_X10_stroke l Γ n G (to + 4) V hV (by omega) hj (gv 0) hI (h3 (by omega)).1 (h3 (by omega)).2) (cwV 1 hts gX5_carryOut_X10_stroke rfl rfl rfl (by decide +kernel) ⟨Nat.le_of_ble_eq_true rfl, Nat.le_of_ble_eq_true rfl⟩) rfl hl.1 rfl (Nat.le_of_ble_eq_true rfl) dX5_carryOut_94 ⟨Nat.zero_le _, Nat.zero_le _⟩) hw hA hS (fun z10 G10 H locs hp hw hS => ?_)
    obtain ⟨ha10, hV, hf10⟩ := hp
    have hRd := isRd_fr hRd hf10 (by omega)
    have hfr := fr_tr hfr hf10 (by omega) (by omega)
    have hV : isV Γ G10 (to + 4) (stkV V (gv 0)) := hV
    subst ha10
    refine lv_pop hx hb dX5_carryOut_97 rfl ?_
    refine lv_goto (tgt := 117) hx hb dX5_carryOut_98 (by decide) ?_
    exact nr_retV hx hb hr hlocks hw hS (⟨by rw [show carV V gv wd = (stkV V (gv 0)) from (by unfold carV; (repeat' split) <;> first | rfl | omega | (exfalso; omega))]; exact hV, hfr⟩) dX5_carryOut_117
  · refine nr_tabIn (j := 4) (tgt := 101) hx hb (by omega) c1 dX5_carryOut_1 (by decide) (by decide) rfl (by decide) ?_
    refine lv_aload_n hx hb dX5_carryOut_101 rfl (lv_at hl 0 rfl) ?_
    refine nr_get (own := RX5) (C := RX5) (T := TX5) (N := 2) (v := .ref (ad Γ (to + 4))) hx hb hts hi_X5_carryOut_X5 hown hw (by omega) (isRd_0 hRd) rfl 0 (by decide) wl_X5_carryOut_1 rfl rfl dX5_carryOut_102 ?_
    refine lv_aload_n hx hb dX5_carryOut_105 rfl (lv_at hl 0 rfl) ?_
    refine nr_get (own := RX5) (C := RX5) (T := TX5) (N := 2) (v := .ref (ad Γ (to + 3))) hx hb hts hi_X5_carryOut_X5 hown hw (by omega) (isRd_0 hRd) rfl 1 (by decide) wl_X5_carryOut_2 rfl rfl dX5_carryOut_106 ?_
    refine lv_iconst (v := nI 0) hx hb dX5_carryOut_109 (by decide) ?_
    refine nr_iald (x := (gv 0)) hx hb hw (by omega) (isRd_1 hRd) rfl (by omega) (by decide) dX5_carryOut_110 ?_
    have hL11 := hg (0)
    refine nr_goV (nr_runV (As := [.int (nI (gv 0))]) (C := RX10) (T := TX10) (N := 15) ⟨hx, hb, hml, hown, hts⟩ hw (by omega) (isV_0 hV) rfl (c_X10_pass l Γ n G (to + 4) V hV (by omega) hj (gv 0) hI (h4 (by omega)) (by omega)) (cwV 1 hts gX5_carryOut_X10_pass rfl rfl rfl (by decide +kernel) ⟨Nat.le_of_ble_eq_true rfl, Nat.le_of_ble_eq_true rfl⟩) rfl hl.1 rfl (Nat.le_of_ble_eq_true rfl) dX5_carryOut_111 ⟨Nat.zero_le _, Nat.zero_le _⟩) hw hA hS (fun G12 H locs hp hw hS => ?_)
    obtain ⟨hV, hf12⟩ := hp
    have hRd := isRd_fr hRd hf12 (by omega)
    have hfr := fr_tr hfr hf12 (by omega) (by omega)
    have hV : isV Γ G12 (to + 4) (pasV V (min (gv 0) (999 - V 21))) := hV
    refine lv_goto (tgt := 117) hx hb dX5_carryOut_114 (by decide) ?_
    exact nr_retV hx hb hr hlocks hw hS (⟨by rw [show carV V gv wd = (pasV V (min (gv 0) (999 - V 21))) from (by unfold carV; (repeat' split) <;> first | rfl | omega | (exfalso; omega))]; exact hV, hfr⟩) dX5_carryOut_117
  · refine nr_tabOut (tgt := 117) hx hb (by omega) dX5_carryOut_1 (by omega) (by decide) ?_
    exact nr_retV hx hb hr hlocks hw hS (⟨by rw [show carV V gv wd = V from (by unfold carV; (repeat' split) <;> first | rfl | omega | (exfalso; omega))]; exact hV, hfr⟩) dX5_carryOut_117
