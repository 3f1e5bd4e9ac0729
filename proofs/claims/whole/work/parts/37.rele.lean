section SRE
theorem sMercy_mono {kd r r2 t : Nat} (h : r ≤ r2) : sMercy kd r t ≤ sMercy kd r2 t := by
  unfold sMercy
  (repeat' split) <;> omega
theorem cntBy_mono {V : Nat → Nat} {i s s2 : Nat} : ∀ {m : Nat}, (∀ j, bt s j → bt s2 j) → cntBy V i s m ≤ cntBy V i s2 m
  | 0, _ => Nat.le_refl _
  | m + 1, h => by
    have ih := cntBy_mono (V := V) (i := i) (m := m) h
    have h1 := h m
    unfold cntBy
    by_cases q : bt s m ∧ V (36 + m) = i
    · rw [if_pos q, if_pos ⟨h1 q.1, q.2⟩]; omega
    · rw [if_neg q]; omega
theorem could_mono {V : Nat → Nat} {j g g2 : Nat} (h : could V j g g 0) (hs : ∀ i, bt g i → bt g2 i) (hj : ¬ bt g2 j) : could V j g2 g2 0 := by
  refine ⟨fun z => ((bt_orr _ _ _).mp z).elim (fun y => h.1 ((bt_orr _ _ _).mpr (Or.inl y))) hj, Nat.le_trans h.2 ?_⟩
  have := cntBy_mono (V := V) (i := V (44 + j)) (m := V 1) hs
  unfold sM
  exact sMercy_mono (by omega)
theorem cnt_cb (s : Nat) : ∀ m, cnt (bt s) m = cntBy (fun _ => 0) 0 s m
  | 0 => rfl
  | m + 1 => by
    unfold cnt cntBy
    rw [cnt_cb s m]
    by_cases q : bt s m
    · rw [if_pos q, if_pos ⟨q, rfl⟩]
    · rw [if_neg q, if_neg (fun z => q z.1)]; try rfl
theorem cnt_or {s k m : Nat} (hk : ¬ bt s k) (hm : k < m) : cnt (bt (s ||| 2 ^ k)) m = cnt (bt s) m + 1 := by
  rw [cnt_cb, cnt_cb, cntBy_or hk hm, if_pos rfl]
/-- the sets that can be gone through, one after another, without those in S -/
def reaN (V : Nat → Nat) (S : Nat) : Nat → Nat → Prop
  | 0, w => w = 0
  | n + 1, w => ∃ u j, reaN V S n u ∧ j < V 1 ∧ ¬ bt S j ∧ could V j u u 0 ∧ w = u ||| 2 ^ j
theorem rea_cnt {V : Nat → Nat} {S : Nat} : ∀ {n w : Nat}, reaN V S n w → w < 2 ^ V 1 ∧ cnt (bt w) (V 1) = n
  | 0, w, h => by
    have h0 : w = 0 := h
    subst h0
    exact ⟨Nat.two_pow_pos _, cnt_0 (fun k _ => bt_0 k)⟩
  | n + 1, w, h => by
    obtain ⟨u, j, h1, h2, h3, h4, rfl⟩ := h
    obtain ⟨g1, g2⟩ := rea_cnt h1
    have hb := could_nb h4
    exact ⟨(or_up g1 h2 hb).2, by rw [cnt_or hb h2, g2]⟩
theorem rea_n {V : Nat → Nat} {S n w : Nat} (h : reaN V S n w) : n ≤ V 1 := by
  rw [← (rea_cnt h).2]; exact cnt_le _ _
theorem rea_c {V R : Nat → Nat} (h : eqL V R) (hG : vG V) {S : Nat} : ∀ {n w : Nat}, reaN V S n w ↔ reaN R S n w
  | 0, w => Iff.rfl
  | n + 1, w => by
    have h1 := h.1 1 (by omega)
    constructor
    · rintro ⟨u, j, a1, a2, a3, a4, a5⟩
      exact ⟨u, j, (rea_c h hG).mp a1, by omega, a3, (could_c h hG a2 u u 0).mp a4, a5⟩
    · rintro ⟨u, j, a1, a2, a3, a4, a5⟩
      exact ⟨u, j, (rea_c h hG).mpr a1, by omega, a3, (could_c h hG (by omega) u u 0).mpr a4, a5⟩
theorem pass_ge {V : Nat → Nat} {st g j : Nat} (h : bt g j) : ∀ m, bt (passF V st g m) j
  | 0 => h
  | m + 1 => by
    have ih := pass_ge (V := V) (st := st) h m
    unfold passF
    split
    · exact (bt_or _ _ _).mpr (Or.inl ih)
    · exact ih
theorem pass_up {V : Nat → Nat} {st g j m : Nat} (h : bt (passF V st g m) j) : ∀ d, bt (passF V st g (m + d)) j
  | 0 => h
  | d + 1 => by
    have ih := pass_up h d
    show bt (passF V st g (m + d + 1)) j
    unfold passF
    split
    · exact (bt_or _ _ _).mpr (Or.inl ih)
    · exact ih
theorem clo_up {V : Nat → Nat} {st j a : Nat} (h : bt (clo V st a) j) : ∀ d, bt (clo V st (a + d)) j
  | 0 => h
  | d + 1 => pass_ge (clo_up h d) _
theorem rea_clo {V : Nat → Nat} {S : Nat} : ∀ {n w : Nat}, reaN V S n w → ∀ j, bt w j → bt (clo V S n) j
  | 0, w, h, j, hj => by
    have h0 : w = 0 := h
    subst h0
    exact absurd hj (bt_0 j)
  | n + 1, w, h, j, hj => by
    obtain ⟨u, i, h1, h2, h3, h4, rfl⟩ := h
    have ih := rea_clo h1
    show bt (passF V S (clo V S n) (V 1)) j
    rcases (bt_or _ _ _).mp hj with z | rfl
    · exact pass_ge (ih j z) _
    · have h5 : bt (passF V S (clo V S n) (j + 1)) j := by
        by_cases q : bt (passF V S (clo V S n) j) j
        · exact pass_up q 1
        · unfold passF
          rw [if_pos ⟨h3, could_mono h4 (fun i hi => pass_ge (ih i hi) _) q⟩]
          exact (bt_or _ _ _).mpr (Or.inr rfl)
      rw [show V 1 = j + 1 + (V 1 - (j + 1)) by omega]
      exact pass_up h5 _
theorem pass_rea {V : Nat → Nat} {S g n : Nat} (h : reaN V S n g) : ∀ m, m ≤ V 1 → ∃ n2, reaN V S n2 (passF V S g m)
  | 0, _ => ⟨n, h⟩
  | m + 1, hm => by
    obtain ⟨n2, ih⟩ := pass_rea h m (by omega)
    unfold passF
    split
    · rename_i q
      exact ⟨n2 + 1, _, m, ih, by omega, q.1, q.2, rfl⟩
    · exact ⟨n2, ih⟩
theorem clo_rea {V : Nat → Nat} {S : Nat} : ∀ m, ∃ n, reaN V S n (clo V S m)
  | 0 => ⟨0, rfl⟩
  | m + 1 => by
    obtain ⟨n, ih⟩ := clo_rea (V := V) (S := S) m
    exact pass_rea ih _ (Nat.le_refl _)
theorem rea_bt {V : Nat → Nat} {S j : Nat} : ∀ {n w : Nat}, reaN V S n w → bt w j → ∃ n2 u, reaN V S n2 u ∧ j < V 1 ∧ ¬ bt S j ∧ could V j u u 0
  | 0, w, h, hj => by
    have h0 : w = 0 := h
    subst h0
    exact absurd hj (bt_0 j)
  | n + 1, w, h, hj => by
    obtain ⟨u, i, h1, h2, h3, h4, rfl⟩ := h
    rcases (bt_or _ _ _).mp hj with z | rfl
    · exact rea_bt h1 z
    · exact ⟨n, u, h1, h2, h3, h4⟩
/-- the class's peal, by the sets that can be gone through -/
theorem clo_iff {V : Nat → Nat} {S j : Nat} : bt (clo V S (V 1)) j ↔ ∃ n u, reaN V S n u ∧ j < V 1 ∧ ¬ bt S j ∧ could V j u u 0 := by
  constructor
  · intro h
    obtain ⟨n, hn⟩ := clo_rea (V := V) (S := S) (V 1)
    exact rea_bt hn h
  · rintro ⟨n, u, h1, h2, h3, h4⟩
    have h5 : reaN V S (n + 1) (u ||| 2 ^ j) := ⟨u, j, h1, h2, h3, h4, rfl⟩
    have := rea_clo h5 j ((bt_or _ _ _).mpr (Or.inr rfl))
    rw [show V 1 = n + 1 + (V 1 - (n + 1)) by have := rea_n h5; omega]
    exact clo_up this _
theorem cb_could {R : Nat → Nat} (hR : vG R) {k : Nat} (hk : k < R 1) (w : Nat) : cbP R k w ↔ could R k w w 0 := by
  have h1 := hR.2.2.2.1 k hk
  have h2 := vG_r hR h1.2.1
  have h3 := cntBy_le R (R (44 + k)) w (R 1)
  have h4 := hR.1.2.2.1
  unfold cbP could rbR sM
  rw [sW_r hR hk, bt_orr, show min 99 (R (6 + R (44 + k)) + cntBy R (R (44 + k)) w (R 1)) = R (6 + R (44 + k)) + cntBy R (R (44 + k)) w (R 1) by omega, Nat.add_zero]
  constructor
  · rintro ⟨a, b, c⟩; exact ⟨fun z => z.elim a b, c⟩
  · rintro ⟨a, c⟩; exact ⟨fun z => a (Or.inl z), fun z => a (Or.inr z), c⟩
theorem canS_iff {R : Nat → Nat} (hR : vG R) {w j : Nat} : bt (canS R w) j ↔ j < R 1 ∧ could R j w w 0 := by
  unfold canS
  rw [bt_bitsOf]
  constructor
  · rintro ⟨a, b⟩; exact ⟨a, (cb_could hR a w).mp b⟩
  · rintro ⟨a, b⟩; exact ⟨a, (cb_could hR a w).mpr b⟩
theorem clr_or {w j : Nat} (hw9 : w < 256) (hj : j < 8) (hb : bt w j) : w &&& (2 ^ j ^^^ 4294967295) ||| 2 ^ j = w := by
  refine bits_ext 8 (Nat.or_lt_two_pow (Nat.lt_of_le_of_lt Nat.and_le_left hw9) (Nat.pow_lt_pow_right (by omega) hj)) hw9 (fun k hk => ?_)
  rw [bt_or, bt_and, bt_neg (by omega), bt_2]
  constructor
  · rintro (⟨a, _⟩ | rfl); exact a; exact hb
  · intro a
    by_cases q : k = j
    · exact Or.inr q
    · exact Or.inl ⟨a, q⟩
theorem or_clr {u j : Nat} (hu : u < 256) (hj : j < 8) (hb : ¬ bt u j) : (u ||| 2 ^ j) &&& (2 ^ j ^^^ 4294967295) = u := by
  refine bits_ext 8 (Nat.lt_of_le_of_lt Nat.and_le_left (Nat.or_lt_two_pow (n := 8) hu (Nat.pow_lt_pow_right (by omega) hj))) hu (fun k hk => ?_)
  rw [bt_and, bt_or, bt_neg (by omega), bt_2]
  constructor
  · rintro ⟨a | a, b⟩; exact a; exact absurd a b
  · intro a
    exact ⟨Or.inl a, fun z => hb (by rw [← z]; exact a)⟩
theorem rc_rea {R rc : Nat → Nat} (hR : vG R) (hrc : ∀ w, w < 2 ^ R 1 → rc w ≤ 1 ∧ (rc w = 1 ↔ rchK R rc w (R 1))) : ∀ d w, w < d → w < 2 ^ R 1 → rc w = 1 → ∃ n, reaN R 0 n w
  | 0, w, hd9, _, _ => absurd hd9 (Nat.not_lt_zero _)
  | d + 1, w, hd9, hw9, h => by
    have h8 := hR.1.2.2.1
    rcases (hrc w hw9).2.mp h with h0 | ⟨j, h1, h2, h3, h4⟩
    · exact ⟨0, h0⟩
    · have hlt := clr_lt h2 (by omega)
      obtain ⟨n, hn⟩ := rc_rea hR hrc d _ (by omega) (by omega) h3
      have hc := (canS_iff hR).mp h4
      refine ⟨n + 1, _, j, hn, h1, bt_0 j, hc.2, ?_⟩
      exact (clr_or (Nat.lt_of_lt_of_le hw9 (p2_le h8)) (by omega) h2).symm
theorem rea_rc {R rc : Nat → Nat} (hR : vG R) (hrc : ∀ w, w < 2 ^ R 1 → rc w ≤ 1 ∧ (rc w = 1 ↔ rchK R rc w (R 1))) : ∀ n w, reaN R 0 n w → rc w = 1
  | 0, w, h => (hrc w (rea_cnt (n := 0) h).1).2.mpr (Or.inl h)
  | n + 1, w, h => by
    have h8 := hR.1.2.2.1
    have hw9 := (rea_cnt h).1
    obtain ⟨u, j, h1, h2, h3, h4, rfl⟩ := h
    have hu := (rea_cnt h1).1
    have e := or_clr (Nat.lt_of_lt_of_le hu (p2_le h8)) (show j < 8 by omega) (could_nb h4)
    refine (hrc _ hw9).2.mpr (Or.inr ⟨j, h2, (bt_or _ _ _).mpr (Or.inr rfl), ?_⟩)
    rw [e]
    exact ⟨rea_rc hR hrc n u h1, (canS_iff hR).mpr ⟨h2, h4⟩⟩
theorem an_peal {V R rc : Nat → Nat} (h : eqL V R) (hG : vG V) (hR : vG R) (hrc : ∀ w, w < 2 ^ R 1 → rc w ≤ 1 ∧ (rc w = 1 ↔ rchK R rc w (R 1))) {y : Nat} (hy : y < 256) (hb : ∀ j, bt y j ↔ ∃ w, w < 2 ^ R 1 ∧ rc w = 1 ∧ bt (canS R w) j) : clo V 0 (V 1) = y := by
  have h8 := hG.1.2.2.1
  refine bits_ext 8 (clo_lt h8 0 _) hy (fun j hj => ?_)
  rw [clo_c h hG, h.1 1 (by omega), clo_iff, hb j]
  constructor
  · rintro ⟨n, u, h1, h2, h3, h4⟩
    exact ⟨u, (rea_cnt h1).1, rea_rc hR hrc n u h1, (canS_iff hR).mpr ⟨h2, h4⟩⟩
  · rintro ⟨w, h1, h2, h3⟩
    obtain ⟨n, hn⟩ := rc_rea hR hrc (w + 1) w (by omega) h1 h2
    have hc := (canS_iff hR).mp h3
    exact ⟨n, w, hn, hc.1, bt_0 j, hc.2⟩
end SRE
