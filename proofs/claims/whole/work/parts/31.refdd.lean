section SDD
def pickC (a b c d e f k : Nat) : Nat := if k = 0 then a else if k = 1 then b else if k = 2 then c else if k = 3 then d else if k = 4 then e else f
abbrev splP (T iv : Nat → Nat) (i : Nat) : Prop := iv 3 = 1 ∧ wmP T (iv 1) (iv 1 + iv 2) i
def splX (T iv : Nat → Nat) (sz a b c d e f : Nat) : Prop := iv 3 = 1 ∧ iv 2 = sz ∧ ∀ k, k < sz → T (iv 1 + k) = pickC a b c d e f k
theorem spl_i {T iv : Nat → Nat} {sz a b c d e f i : Nat} (h1 : lenW i = sz) (h2 : ∀ k, k < sz → pickC a b c d e f k = chW i k) : splX T iv sz a b c d e f ↔ splP T iv i := by
  unfold splX
  constructor
  · rintro ⟨g1, g2, g3⟩
    exact ⟨g1, by omega, fun j hj => by rw [g3 j (by omega), h2 j (by omega)]⟩
  · rintro ⟨g1, g2, g3⟩
    exact ⟨g1, by omega, fun j hj => by rw [g3 j (by omega), h2 j (by omega)]⟩
theorem wW_ne : ∀ i, i < 5 → ∀ j, j < 5 → i ≠ j → lenW i ≠ lenW j ∨ chW i 0 ≠ chW j 0 := by decide +kernel
theorem wm_one {T : Nat → Nat} {x e i j : Nat} (hi : i < 5) (hj : j < 5) (h1 : wmP T x e i) (h2 : wmP T x e j) : i = j := by
  by_cases q : i = j
  · exact q
  · have a := lenW_le i hi
    have b := lenW_le j hj
    rcases wW_ne i hi j hj q with z | z
    · exact absurd (h1.1.symm.trans h2.1) z
    · exact absurd ((h1.2 0 (by omega)).symm.trans (h2.2 0 (by omega))) z
theorem wdF_is {T : Nat → Nat} {x e i : Nat} (hi : i < 5) (h : wmP T x e i) : ∀ m, m ≤ 5 → wdF T x e 0 m = if i < m then i + 1 else 0
  | 0, _ => by rw [if_neg (by omega)]; rfl
  | m + 1, hm => by
    have ih := wdF_is hi h m (by omega)
    unfold wdF
    by_cases q : wmP T x e m
    · have := wm_one hi (by omega) h q
      rw [if_pos q, if_pos (by omega), this]
    · rw [if_neg q, ih]
      by_cases z : i < m
      · rw [if_pos z, if_pos (by omega)]
      · rw [if_neg z, if_neg (fun y => q (by rw [show m = i by omega]; exact h))]
theorem wdF_no {T : Nat → Nat} {x e : Nat} : ∀ m, (∀ i, i < m → ¬ wmP T x e i) → wdF T x e 0 m = 0
  | 0, _ => rfl
  | m + 1, h => by
    unfold wdF
    rw [if_neg (h m (by omega))]
    exact wdF_no m (fun i hi => h i (by omega))
theorem spl_vl {T iv : Nat → Nat} {L i : Nat} (hl : lkAt T L iv) (hi : i < 5) (h : splP T iv i) : tokK T L (iv 1) = 1 ∧ vlK T L (iv 1) = i + 1 := by
  obtain ⟨h1, h2, h3, h4, h5⟩ := hl
  have hk : tokK T L (iv 1) = 1 := by rw [← h4]; exact h.1
  have he := tokE_b (T := T) h2
  refine ⟨hk, ?_⟩
  have hx : iv 1 < L ∧ isSm (T (iv 1)) := by
    rcases Nat.lt_or_ge (iv 1) L with q | q
    · by_cases z : isSm (T (iv 1))
      · exact ⟨q, z⟩
      · by_cases y : isFg (T (iv 1))
        · rw [(tk_fig q z y).2.1] at hk; split at hk <;> omega
        · rw [(tk_oth q z y).2.1] at hk; split at hk <;> omega
    · rw [(tk_end q).2.1] at hk; omega
  have e := tk_let hx.1 hx.2
  rw [e.2.2]
  have hw1 : wmP T (iv 1) (runL (smP T) L (iv 1)) i := by
    rw [← e.1, show tokE T L (iv 1) = iv 1 + iv 2 by omega]
    exact h.2
  rw [wdF_is hi hw1 5 (Nat.le_refl _), if_pos hi]
theorem spl_no {T iv : Nat → Nat} {L : Nat} (hl : lkAt T L iv) (h : ∀ i, i < 5 → ¬ splP T iv i) : ¬ (tokK T L (iv 1) = 1 ∧ 1 ≤ vlK T L (iv 1)) := by
  obtain ⟨h1, h2, h3, h4, h5⟩ := hl
  rintro ⟨hk, hv⟩
  have he := tokE_b (T := T) h2
  have hx : iv 1 < L ∧ isSm (T (iv 1)) := by
    rcases Nat.lt_or_ge (iv 1) L with q | q
    · by_cases z : isSm (T (iv 1))
      · exact ⟨q, z⟩
      · by_cases y : isFg (T (iv 1))
        · rw [(tk_fig q z y).2.1] at hk; split at hk <;> omega
        · rw [(tk_oth q z y).2.1] at hk; split at hk <;> omega
    · rw [(tk_end q).2.1] at hk; omega
  have e := tk_let hx.1 hx.2
  rw [e.2.2, wdF_no 5 (fun i hi hw1 => h i hi ⟨by rw [h4]; exact hk, by rw [show iv 1 + iv 2 = runL (smP T) L (iv 1) by rw [← e.1]; omega]; exact hw1⟩)] at hv
  omega
theorem in_m1 {v P lo : Nat} (hv : v < 2147483648) (hP : P < 2147483648) (hl : lo < 2147483648) : (lN lo ≤ lN v ∧ lN v ≤ (nI P - nI 1).toInt64) ↔ lo ≤ v ∧ v < P := by
  rw [← nI_l hv, ← nI_l hl, wide_le, wide_le, nI_leI hl hv]
  rcases Nat.eq_zero_or_pos P with q | q
  · subst q
    constructor
    · rintro ⟨h1, h2⟩
      have := (within_nat (N := 0) (by decide)).mp ⟨nI_le (Nat.zero_le v) hv, h2⟩
      obtain ⟨j, hj, _⟩ := this
      omega
    · rintro ⟨_, h2⟩; omega
  · rw [pk_sub q, nI_leI hv (by omega)]
    omega
/-- the reference's row is good, and its unused people have no strokes -/
def rG (R : Nat → Nat) : Prop := vG R ∧ ∀ i, R 0 ≤ i → i < 6 → R (6 + i) = 0
theorem cntBy_z (V : Nat → Nat) (i m : Nat) : cntBy V i 0 m = 0 := cntBy_0 (fun k _ z => bt_0 k z.1)
theorem sW_r {R : Nat → Nat} (h : vG R) {k : Nat} (hk : k < R 1) : sW R k 0 = rW R k := by
  have := (h.2.2.2.1 k hk).2.2
  unfold sW rW
  rw [Nat.add_zero, Nat.min_eq_right this]
theorem sM_r (R : Nat → Nat) (i : Nat) : sM R i 0 0 = rL R i := by
  unfold sM rL
  rw [cntBy_z, Nat.add_zero, Nat.add_zero]
theorem cn_can {R : Nat → Nat} (h : vG R) {k : Nat} (hk : k < R 1) : cn R k ↔ canP R k := by
  show (¬ bt (R 20 ||| 0) k ∧ sW R k 0 ≤ sM R (R (44 + k)) 0 0) ↔ _
  rw [Nat.or_zero, sW_r h hk, sM_r]
theorem off_stk {R : Nat → Nat} (h : vG R) {k : Nat} (hk : k < R 1) : offR R k 1 = stkV R k := by
  have := vG_r h (h.2.2.2.1 k hk).1
  unfold offR stkV
  rw [if_pos ⟨rfl, by omega⟩]
theorem per_one {R : Nat → Nat} (h : rG R) (h6 : R 0 < 6) (k : Nat) : va_up (va_up R (22 + R 0) k) 0 (R 0 + 1) = perV R k := by
  unfold perV
  funext j
  by_cases q : j = 0
  · rw [q, va_up_self, va_up_self]
  · rw [va_up_ne _ _ q, va_up_ne _ _ q]
    by_cases z : j = 6 + R 0
    · rw [z, va_up_self, va_up_ne _ _ (by omega)]; exact h.2 (R 0) (Nat.le_refl _) h6
    · rw [va_up_ne _ _ z]
theorem day_pas {R : Nat → Nat} (h : ∀ k, k < R 1 → R (12 + k) ≤ 99) : dayR R = pasV R 1 := by
  unfold dayR pasV
  refine congrArg (fun z => va_up z 21 (R 21 + 1)) (funext fun j => ?_)
  unfold agesR agP
  by_cases q : (12 ≤ j ∧ j < 12 + R 1) ∧ ¬ bt (R 20) (j - 12)
  · have := h (j - 12) (by omega)
    rw [show 12 + (j - 12) = j by omega] at this
    rw [if_pos q]
    by_cases z : R j < 99
    · rw [if_pos ⟨q.1, q.2, z⟩]; omega
    · rw [if_neg (fun y => z y.2.2)]; omega
  · rw [if_neg (fun y => q ⟨y.1, y.2.1⟩), if_neg q]
theorem pas_0 {R : Nat → Nat} (h : ∀ k, k < R 1 → R (12 + k) ≤ 99) : pasV R 0 = R := by
  funext j
  unfold pasV
  by_cases q : j = 21
  · rw [q, va_up_self, Nat.add_zero]
  · rw [va_up_ne _ _ q]
    unfold agP
    split
    · rename_i z
      have := h (j - 12) (by omega)
      rw [show 12 + (j - 12) = j by omega] at this
      omega
    · rfl
theorem pas_o {R : Nat → Nat} (h8 : R 1 ≤ 8) (m j : Nat) (a : j < 12 ∨ 20 ≤ j) (b : ¬ j = 21) : pasV R m j = R j := by
  unfold pasV; rw [va_up_ne _ _ b, agP_out (by omega)]
theorem pas_s {R : Nat → Nat} (h8 : R 1 ≤ 8) (m : Nat) : pasV (pasV R m) 1 = pasV R (m + 1) := by
  have e1 := pas_o h8 m 1 (by omega) (by omega)
  have e20 := pas_o h8 m 20 (by omega) (by omega)
  have e21 : pasV R m 21 = R 21 + m := va_up_self _ _ _
  funext j
  by_cases q : j = 21
  · rw [q]
    have x1 : pasV (pasV R m) 1 21 = pasV R m 21 + 1 := va_up_self _ _ _
    have x2 : pasV R (m + 1) 21 = R 21 + (m + 1) := va_up_self _ _ _
    rw [x1, x2, e21]; omega
  · have x1 : pasV (pasV R m) 1 j = agP (pasV R m) 1 (pasV R m 1) j := va_up_ne _ _ q
    have x2 : pasV R (m + 1) j = agP R (m + 1) (R 1) j := va_up_ne _ _ q
    have x3 : pasV R m j = agP R m (R 1) j := va_up_ne _ _ q
    rw [x1, x2, e1]
    unfold agP at x3 ⊢
    rw [e20]
    by_cases z : (12 ≤ j ∧ j < 12 + R 1) ∧ ¬ bt (R 20) (j - 12)
    · rw [if_pos z] at x3
      rw [if_pos z, if_pos z, x3]; omega
    · rw [if_neg z] at x3
      rw [if_neg z, if_neg z]; exact x3
theorem it_pas {R : Nat → Nat} (h : ∀ k, k < R 1 → R (12 + k) ≤ 99) (h8 : R 1 ≤ 8) : ∀ m, itD R m = pasV R m
  | 0 => (pas_0 h).symm
  | m + 1 => by
    show dayR (itD R m) = _
    rw [it_pas h h8 m]
    have e1 : pasV R m 1 = R 1 := by
      unfold pasV; rw [va_up_ne _ _ (by decide), agP_out (by omega)]
    rw [day_pas (fun k hk => by
      rw [e1] at hk
      unfold pasV; rw [va_up_ne _ _ (by omega)]
      have := h k hk
      unfold agP; split <;> omega), pas_s h8]
theorem itV_r {T : Nat → Nat} {L : Nat} {R : Nat → Nat} {x its : Nat} (hG : rG R) (h : itOK T L (R 0) (R 1) (cn R) x its) : rG (itV T L R x) := by
  refine ⟨itV_good hG.1 h, fun i h1 h2 => ?_⟩
  obtain ⟨a1, a2, a3, a4⟩ := h
  have h8 := hG.1.1.2.2.1
  unfold itV at h1 ⊢
  split
  · rename_i e
    rw [if_pos e] at h1
    have e0 : ∀ k, perV R k 0 = R 0 + 1 := fun k => va_up_self _ _ _
    rw [e0] at h1
    unfold perV
    rw [va_up_ne _ _ (by omega), va_up_ne _ _ (by omega), va_up_ne _ _ (by omega)]
    exact hG.2 i (by omega) h2
  · rename_i e
    rw [if_neg e] at h1
    split
    · rename_i e2
      rw [if_pos e2] at h1
      have e0 : ∀ kd a b g, layR R kd a b g 0 = R 0 := fun kd a b g => by simp only [layR, va_up]; (repeat' split) <;> first | rfl | omega
      have e6 : ∀ kd a b g, layR R kd a b g (6 + i) = R (6 + i) := fun kd a b g => by simp only [layR, va_up]; (repeat' split) <;> first | rfl | omega
      rw [e0] at h1
      rw [e6]; exact hG.2 i h1 h2
    · rename_i e2
      rw [if_neg e2] at h1
      split
      · rename_i e3
        rw [if_pos e3] at h1
        have f := (a3 0 (by rw [e3]; decide)).2
        rw [e3] at f
        unfold fitP at f
        rw [if_neg (by decide), if_neg (by decide), if_pos rfl] at f
        have hb := (hG.1.2.2.2.1 _ f.1).1
        have e0 : stkV R (tokV T L (xq T L x 1)) 0 = R 0 := by unfold stkV; rw [va_up_ne _ _ (by omega), va_up_ne _ _ (by omega)]
        rw [e0] at h1
        have e6 : stkV R (tokV T L (xq T L x 1)) (6 + i) = R (6 + i) := by
          unfold stkV
          have hb : R (36 + tokV T L (xq T L x 1)) < R 0 := hb
          rw [va_up_ne _ _ (by omega), va_up_ne _ _ (by omega)]
        rw [e6]; exact hG.2 i h1 h2
      · rename_i e3
        rw [if_neg e3] at h1
        split
        · rename_i e4
          rw [if_pos e4, pas_o h8 _ 0 (by omega) (by omega)] at h1
          rw [pas_o h8 _ (6 + i) (by omega) (by omega)]; exact hG.2 i h1 h2
        · rename_i e4
          rw [if_neg e4] at h1
          exact hG.2 i h1 h2
end SDD
