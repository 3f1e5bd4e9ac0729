section SRA
/-- live places of a moment that may be undone -/
abbrev l16 (P W i : Nat) : Prop := i < P ∨ (6 ≤ i ∧ i < 6 + W) ∨ i = 14 ∨ i = 15
/-- two rows tell of the same valley: the live places are equal -/
def eqL (V R : Nat → Nat) : Prop := (∀ j, j < 6 → V j = R j) ∧ V 20 = R 20 ∧ V 21 = R 21 ∧ (∀ i, i < V 0 → V (22 + i) = R (22 + i) ∧ V (6 + i) = R (6 + i)) ∧ (∀ k, k < V 1 → V (28 + k) = R (28 + k) ∧ V (36 + k) = R (36 + k) ∧ V (44 + k) = R (44 + k) ∧ V (52 + k) = R (52 + k) ∧ V (12 + k) = R (12 + k)) ∧ (∀ r, r < 4 * V 2 → V (60 + r) = R (60 + r)) ∧ (∀ r, r < 4 * V 3 → V (80 + r) = R (80 + r)) ∧ (∀ r, r < 4 * V 4 → V (104 + r) = R (104 + r)) ∧ ∀ e, e < V 5 → ∀ i, i < 16 → l16 (V 0) (V 1) i → V (128 + (16 * e + i)) = R (128 + (16 * e + i))
theorem sW_c {V R : Nat → Nat} (h : eqL V R) {k : Nat} (hk : k < V 1) (d : Nat) : sW V k d = sW R k d := by
  obtain ⟨h1, h2, h3, h4, h5, -⟩ := h
  obtain ⟨a1, a2, a3, a4, a5⟩ := h5 k hk
  unfold sW
  rw [a1, a4, a5]
theorem cnt_c {V R : Nat → Nat} (h : eqL V R) (i s : Nat) : cntBy V i s (V 1) = cntBy R i s (R 1) := by
  rw [← h.1 1 (by omega)]
  exact cntBy_cong (fun k hk => by rw [(h.2.2.2.2.1 k hk).2.1])
theorem sM_c {V R : Nat → Nat} (h : eqL V R) {i : Nat} (hi : i < V 0) (s d : Nat) : sM V i s d = sM R i s d := by
  have h4 := h.2.2.2.1 i hi
  unfold sM
  rw [h4.1, h4.2, cnt_c h, h.2.2.1]
theorem could_c {V R : Nat → Nat} (h : eqL V R) (hG : vG V) {k : Nat} (hk : k < V 1) (g s d : Nat) : could V k g s d ↔ could R k g s d := by
  have h5 := (h.2.2.2.2.1 k hk).2.2.1
  have hb := (hG.2.2.2.1 k hk).2.1
  unfold could
  rw [h.2.1, sW_c h hk, h5, ← h5, sM_c h hb, h5]
theorem bits_c {P Q : Nat → Prop} [DecidablePred P] [DecidablePred Q] : ∀ {m : Nat}, (∀ k, k < m → (P k ↔ Q k)) → bitsOf P m = bitsOf Q m
  | 0, _ => rfl
  | m + 1, h => by
    unfold bitsOf
    rw [bits_c (fun k hk => h k (by omega))]
    by_cases q : P m
    · rw [if_pos q, if_pos ((h m (by omega)).mp q)]
    · rw [if_neg q, if_neg (fun z => q ((h m (by omega)).mpr z))]
theorem pass_c {V R : Nat → Nat} (h : eqL V R) (hG : vG V) (st g : Nat) : ∀ m, m ≤ V 1 → passF V st g m = passF R st g m
  | 0, _ => rfl
  | m + 1, hm => by
    unfold passF
    rw [pass_c h hG st g m (by omega)]
    have e := could_c h hG (k := m) (by omega) (passF R st g m) (passF R st g m) 0
    by_cases q : ¬ bt st m ∧ could V m (passF R st g m) (passF R st g m) 0
    · rw [if_pos q, if_pos ⟨q.1, e.mp q.2⟩]
    · rw [if_neg q, if_neg (fun z => q ⟨z.1, e.mpr z.2⟩)]
theorem clo_c {V R : Nat → Nat} (h : eqL V R) (hG : vG V) (st : Nat) : ∀ m, clo V st m = clo R st m
  | 0 => rfl
  | m + 1 => by
    show passF V st (clo V st m) (V 1) = passF R st (clo R st m) (R 1)
    rw [clo_c h hG st m, ← h.1 1 (by omega)]
    exact pass_c h hG st _ _ (Nat.le_refl _)
theorem guilty_c {V R : Nat → Nat} (h : eqL V R) (i : Nat) : guiltyP V i ↔ guiltyP R i := by
  unfold guiltyP
  rw [← h.1 1 (by omega), h.2.1]
  constructor
  · rintro ⟨k, h1, h2, h3⟩; exact ⟨k, h1, by rw [← (h.2.2.2.2.1 k h1).2.1]; exact h2, h3⟩
  · rintro ⟨k, h1, h2, h3⟩; exact ⟨k, h1, by rw [(h.2.2.2.2.1 k h1).2.1]; exact h2, h3⟩
/-! answers -/
theorem an_may {V R : Nat → Nat} (h : eqL V R) (hG : vG V) (hR : vG R) : bitsOf (fun k => could V k 0 0 0) (V 1) = bitsOf (fun k => canP R k) (R 1) := by
  rw [← h.1 1 (by omega)]
  exact bits_c (fun k hk => (could_c h hG hk 0 0 0).trans (cn_can hR (by rw [← h.1 1 (by omega)]; exact hk)))
theorem an_cn {V R : Nat → Nat} (h : eqL V R) (hG : vG V) (hR : vG R) {k : Nat} (hk : k < V 1) : cn V k ↔ canP R k := (could_c h hG hk 0 0 0).trans (cn_can hR (by rw [← h.1 1 (by omega)]; exact hk))
theorem an_of {V R : Nat → Nat} (h : eqL V R) {i : Nat} (hi : i < V 0) (w : Nat) : ofC V i w = rOf R i w := by
  have h4 := h.2.2.2.1 i hi
  have hg := guilty_c h i
  unfold ofC rOf
  rw [h4.1, h4.2, sM_c h hi, sM_r]
  by_cases q : guiltyP V i
  · rw [if_pos q, if_pos (hg.mp q)]
  · rw [if_neg q, if_neg (fun z => q (hg.mpr z))]
theorem bt_val (s k : Nat) : (if bt s k then 1 else 0) = s / 2 ^ k % 2 := by
  split
  · rename_i h; exact h.symm
  · rename_i h
    have : s / 2 ^ k % 2 < 2 := Nat.mod_lt _ (by decide)
    have h2 : ¬ s / 2 ^ k % 2 = 1 := h
    omega
theorem an_about {V R : Nat → Nat} (h : eqL V R) (hG : vG R) {k : Nat} (hk : k < V 1) (w : Nat) : sTold V k w = rTold R k w := by
  obtain ⟨a1, a2, a3, a4, a5⟩ := h.2.2.2.2.1 k hk
  have hk2 : k < R 1 := by rw [← h.1 1 (by omega)]; exact hk
  unfold sTold rTold
  rw [a1, a2, a3, a4, a5, h.2.1, bt_val, sW_c h hk, sW_r hG hk2]
theorem an_first {x : Nat} : (if (if x < 3 then 11 else 2) = 11 then 1 else 0) = (if x < 3 then 1 else 0 : Nat) := by
  by_cases q : x < 3
  · rw [if_pos q, if_pos q, if_pos rfl]
  · rw [if_neg q, if_neg q, if_neg (by decide)]
theorem an_tally {V R tv iv : Nat → Nat} (h : eqL V R) (ht : tv 0 = iv 0) {w : Nat} (hw9 : w ≤ 10) : tlyC V tv w = rTally R iv w := by
  have e2 : cnt (guiltyP V) (V 0) = cnt (guiltyP R) (R 0) := by
    rw [← h.1 0 (by omega)]
    exact cnt_cong (fun k _ => guilty_c h k)
  have e5 : sumN (fun j => V (6 + j)) (V 0) = sumN (fun j => R (6 + j)) (R 0) := by
    rw [← h.1 0 (by omega)]
    have : ∀ m, m ≤ V 0 → sumN (fun j => V (6 + j)) m = sumN (fun j => R (6 + j)) m := fun m => by
      induction m with
      | zero => intro _; rfl
      | succ m ih => intro hm; show sumN (fun j => V (6 + j)) m + V (6 + m) = sumN (fun j => R (6 + j)) m + R (6 + m); rw [ih (by omega), (h.2.2.2.1 m (by omega)).2]
    exact this _ (Nat.le_refl _)
  unfold tlyC rTally
  have h0 := h.1 0 (by omega)
  have h1 := h.1 1 (by omega)
  have h2 := h.1 2 (by omega)
  have h3 := h.1 3 (by omega)
  have h4 := h.1 4 (by omega)
  have h5 := h.1 5 (by omega)
  rw [e2, e5, h0, h1, h.2.1, h.2.2.1, ht]
  rcases (show w = 0 ∨ w = 1 ∨ w = 2 ∨ w = 3 ∨ w = 4 ∨ w = 5 ∨ w = 6 ∨ w = 7 ∨ w = 8 ∨ w = 9 ∨ w = 10 by omega) with rfl | rfl | rfl | rfl | rfl | rfl | rfl | rfl | rfl | rfl | rfl <;> first | rfl | exact h2 | exact h3 | exact h4 | exact h5
theorem dg_c {f f2 : Nat → Nat} {h : Nat} : ∀ {m : Nat}, (∀ j, j < m → f j = f2 j) → dg f h m = dg f2 h m
  | 0, _ => rfl
  | m + 1, e => by
    show 31 * dg f h m + f m = 31 * dg f2 h m + f2 m
    rw [dg_c (fun j hj => e j (by omega)), e m (by omega)]
theorem dgP_c {V R : Nat → Nat} {h : Nat} : ∀ {m : Nat}, (∀ i, i < m → V (22 + i) = R (22 + i) ∧ V (6 + i) = R (6 + i)) → dgP V h m = dgP R h m
  | 0, _ => rfl
  | m + 1, e => by
    show 31 * (31 * dgP V h m + V (22 + m)) + V (6 + m) = 31 * (31 * dgP R h m + R (22 + m)) + R (6 + m)
    rw [dgP_c (fun i hi => e i (by omega)), (e m (by omega)).1, (e m (by omega)).2]
theorem dgT_c {V R : Nat → Nat} (hE : eqL V R) (hG : vG R) {h : Nat} : ∀ {m : Nat}, m ≤ V 1 → dgR V h m = dgT R h m
  | 0, _ => rfl
  | m + 1, hm => by
    show dg (sTold V m) (dgR V h m) 6 = dg (rTold R m) (dgT R h m) 6
    rw [dgT_c hE hG (by omega)]
    exact dg_c (fun j _ => an_about hE hG (by omega) j)
theorem an_digest {V R tv iv : Nat → Nat} (h : eqL V R) (hG : vG R) (ht : tv 0 = iv 0) : dgV V (dg (tlyC V tv) 1693 11) = dg (fun j => R (104 + j)) (dg (fun j => R (80 + j)) (dg (fun j => R (60 + j)) (dgT R (dgP R (dg (rTally R iv) 1693 11) (R 0)) (R 1)) (4 * R 2)) (4 * R 3)) (4 * R 4) := by
  obtain ⟨b1, b2, b3, b4, b5, b6, b7, b8, b9⟩ := h
  have h : eqL V R := ⟨b1, b2, b3, b4, b5, b6, b7, b8, b9⟩
  have e0 : dg (tlyC V tv) 1693 11 = dg (rTally R iv) 1693 11 := dg_c (fun j hj => an_tally h ht (by omega))
  have h0 := b1 0 (by omega)
  have h1 := b1 1 (by omega)
  have h2 := b1 2 (by omega)
  have h3 := b1 3 (by omega)
  have h4 := b1 4 (by omega)
  unfold dgV
  rw [e0, dgP_c b4, h0, dgT_c h hG (Nat.le_refl _), h1, Nat.mul_comm (V 2), Nat.mul_comm (V 3), Nat.mul_comm (V 4), dg_c (f := fun j => V (60 + j)) b6, dg_c (f := fun j => V (80 + j)) b7, dg_c (f := fun j => V (104 + j)) b8, h2, h3, h4]
end SRA
