section SRF
/-- how many strokes are left, by the class and by the reference: the same, or neither -/
abbrev lfE (a b c : Nat) : Prop := (a = 100 ∧ b = 1000000) ∨ (a = b ∧ 1 ≤ b ∧ b + c ≤ 8)
theorem few_y {V F : Nat → Nat} {k w N : Nat} (hc : could V k w w 0) (h0 : F (w ||| 2 ^ k) = 0) (h1 : ∀ j, j < N → could V j w w 0 → ¬ j = k → 1 ≤ F (w ||| 2 ^ j)) : ∀ m, m ≤ N → (m ≤ k → 2 ≤ fewF V F w m) ∧ (k < m → fewF V F w m = 1)
  | 0, _ => ⟨fun _ => by show (2 : Nat) ≤ 100; decide, fun z => absurd z (Nat.not_lt_zero _)⟩
  | m + 1, hm => by
    obtain ⟨a, b⟩ := few_y hc h0 h1 m (by omega)
    unfold fewF
    by_cases q : m = k
    · subst q
      have := a (Nat.le_refl _)
      rw [if_pos hc, h0]
      exact ⟨fun z => by omega, fun _ => by omega⟩
    · by_cases z : could V m w w 0
      · have := h1 m (by omega) z q
        rw [if_pos z]
        exact ⟨fun y => by have := a (by omega); omega, fun y => by have := b (by omega); omega⟩
      · rw [if_neg z]
        exact ⟨fun y => a (by omega), fun y => b (by omega)⟩
theorem few_n {V R Fc Fr : Nat → Nat} (h : eqL V R) (hG : vG V) (hR : vG R) {k w c : Nat} (hk : ¬ bt (canS R w) k) (h1 : ∀ j, j < V 1 → could V j w w 0 → lfE (Fc (w ||| 2 ^ j)) (Fr (w ||| 2 ^ j)) (c + 1)) : ∀ m, m ≤ V 1 → (fewF V Fc w m = 100 ∧ lfJ (canS R) Fr k 0 w m = 1000000) ∨ (fewF V Fc w m = lfJ (canS R) Fr k 0 w m ∧ 2 ≤ lfJ (canS R) Fr k 0 w m ∧ lfJ (canS R) Fr k 0 w m + c ≤ 8)
  | 0, _ => Or.inl ⟨rfl, by unfold lfJ; rw [if_neg hk]⟩
  | m + 1, hm => by
    have ih := few_n h hG hR hk h1 m (by omega)
    have e1 := h.1 1 (by omega)
    have hmR : m < R 1 := by omega
    have hg := h1 m (by omega)
    have hx : could V m w w 0 ↔ bt (canS R w) m := (could_c h hG (by omega) w w 0).trans ⟨fun z => (canS_iff hR).mpr ⟨hmR, z⟩, fun z => ((canS_iff hR).mp z).2⟩
    rw [lfJ_s]
    unfold fewF
    by_cases q : could V m w w 0
    · have hne : ¬ m = k := fun z => hk (by rw [← z]; exact hx.mp q)
      have h2 : 1 < lfJ (canS R) Fr k 0 w m := by omega
      rw [if_pos q, if_pos ⟨h2, hne, hx.mp q, bt_0 m⟩]
      have := hg q
      unfold lfE at this
      omega
    · rw [if_neg q, if_neg (fun z => q (hx.mpr z.2.2.1))]
      exact ih
theorem few_e {V R Fc Fr : Nat → Nat} (h : eqL V R) (hG : vG V) (hR : vG R) {k : Nat} (hk : k < V 1) (hFc : sizR V Fc k 0) (hFr : ∀ w, w < 2 ^ R 1 → Fr w = lfJ (canS R) Fr k 0 w (R 1)) : ∀ (d w : Nat), w < 2 ^ V 1 → 2 ^ V 1 - w ≤ d → ¬ bt w k → lfE (Fc w) (Fr w) (cnt (bt w) (V 1))
  | 0, w, h1, h2, _ => by omega
  | d + 1, w, h1, h2, h3 => by
    have e1 := h.1 1 (by omega)
    have h8 := hG.1.2.2.1
    have ec := hFc w (Nat.zero_le _) h1
    unfold sizE at ec
    rw [if_neg h3] at ec
    have er := hFr w (by rw [← e1]; exact h1)
    have hz : ∀ j, j < V 1 → could V j w w 0 → ¬ j = k → lfE (Fc (w ||| 2 ^ j)) (Fr (w ||| 2 ^ j)) (cnt (bt w) (V 1) + 1) := fun j hj hc hne => by
      have hb := could_nb hc
      obtain ⟨g1, g2⟩ := or_up h1 hj hb
      have := few_e h hG hR hk hFc hFr d (w ||| 2 ^ j) g2 (by omega) (fun z => ((bt_or _ _ _).mp z).elim h3 (fun y => hne y.symm))
      rwa [cnt_or hb hj] at this
    by_cases q : could V k w w 0
    · have hkk : bt (w ||| 2 ^ k) k := (bt_or _ _ _).mpr (Or.inr rfl)
      have f0 : Fc (w ||| 2 ^ k) = 0 := by
        have := hFc _ (Nat.zero_le _) (or_up h1 hk h3).2
        unfold sizE at this
        rwa [if_pos hkk] at this
      have f1 : fewF V Fc w (V 1) = 1 := (few_y (N := V 1) q f0 (fun j y hc hne => by have := hz j y hc hne; unfold lfE at this; omega) (V 1) (Nat.le_refl _)).2 hk
      have hck : bt (canS R w) k := (canS_iff hR).mpr ⟨by omega, (could_c h hG hk w w 0).mp q⟩
      have g0 : lfJ (canS R) Fr k 0 w 0 = 1 := by unfold lfJ; rw [if_pos hck]
      have g1 := lfJ_stop (j := 0) (show lfJ (canS R) Fr k 0 w 0 ≤ 1 by omega) (R 1)
      rw [Nat.zero_add, g0] at g1
      have g2 := cnt_or h3 hk
      have g3 := cnt_le (bt (w ||| 2 ^ k)) (V 1)
      exact Or.inr ⟨by rw [ec, er, f1, g1], by rw [er, g1]; omega, by rw [er, g1]; omega⟩
    · have hnk : ¬ bt (canS R w) k := fun z => q ((could_c h hG hk w w 0).mpr ((canS_iff hR).mp z).2)
      have := few_n (Fc := Fc) (Fr := Fr) h hG hR hnk (fun j hj hc => hz j hj hc (fun z => q (by rw [← z]; exact hc))) (V 1) (Nat.le_refl _)
      rw [e1] at this
      unfold lfE
      rw [ec, er, e1]
      omega
theorem k_0 {V F : Nat → Nat} {k g : Nat} (hF : sizR V F k 0) (hg : g < 2 ^ V 1) (hb : bt g k) : F g = 0 := by
  have := hF g (Nat.zero_le _) hg
  unfold sizE at this
  rwa [if_pos hb] at this
theorem step_e {V R Fc Fr ca : Nat → Nat} (h : eqL V R) (hG : vG V) (hR : vG R) {k g : Nat} (hk : k < V 1) (hFc : sizR V Fc k 0) (hca : ∀ w, w < 2 ^ R 1 → ca w = canS R w) (hE : ∀ w, w < 2 ^ V 1 → ¬ bt w k → lfE (Fc w) (Fr w) (cnt (bt w) (V 1))) (hg : g < 2 ^ V 1) (hgk : ¬ bt g k) (hlt : Fr g < 1000000) {w w2 : Nat} (h1 : wayS V Fc g w) (h2 : stepR ca Fr k (R 1) g w2) : w = w2 := by
  have e1 := h.1 1 (by omega)
  have hEg := hE g hg hgk
  obtain ⟨a1, a2, a3⟩ := h1
  have hx : ∀ j, j < V 1 → (could V j g g 0 ↔ bt (ca g) j) := fun j hj => by
    rw [hca g (by rw [← e1]; exact hg), canS_iff hR, ← e1, could_c h hG hj]
    exact ⟨fun z => ⟨hj, z⟩, fun z => z.2⟩
  have hu : ∀ j, j < V 1 → could V j g g 0 → g ||| 2 ^ j < 2 ^ V 1 ∧ ∀ i, bt (g ||| 2 ^ j) i ↔ bt g i ∨ i = j := fun j hj hc => ⟨(or_up hg hj (could_nb hc)).2, fun i => bt_or _ _ _⟩
  have hj : ∀ j, j < V 1 → could V j g g 0 → ¬ j = k → lfE (Fc (g ||| 2 ^ j)) (Fr (g ||| 2 ^ j)) (cnt (bt (g ||| 2 ^ j)) (V 1)) := fun j hj hc hne => hE _ (hu j hj hc).1 (fun z => ((bt_or _ _ _).mp z).elim hgk (fun y => hne y.symm))
  rcases h2 with ⟨b1, b2⟩ | ⟨b1, b2, b3, b4⟩
  · by_cases q : w = k
    · rw [q, b2]
    · have c1 := hj w a1 a2.1 q
      have c2 := a2.2
      unfold lfE at c1 hEg
      omega
  · have hiff : ∀ j, j < V 1 → (wayP V Fc g j ↔ pwP ca Fr k g j) := fun j y => by
      constructor
      · rintro ⟨c1, c2⟩
        have hne : ¬ j = k := fun z => by
          have := k_0 hFc (hu j y c1).1 (((hu j y c1).2 k).mpr (Or.inr z.symm))
          unfold lfE at hEg
          omega
        have c3 := hj j y c1 hne
        refine ⟨hne, (hx j y).mp c1, ?_⟩
        unfold lfE at c3 hEg
        omega
      · rintro ⟨c1, c2, c3⟩
        have c4 := (hx j y).mpr c2
        have c5 := hj j y c4 c1
        refine ⟨c4, ?_⟩
        unfold lfE at c5 hEg
        omega
    rcases Nat.lt_trichotomy w w2 with z | z | z
    · exact absurd ((hiff w a1).mp a2) (b4 w z)
    · exact z
    · exact absurd ((hiff w2 (by omega)).mpr b3) (a3 w2 z)
theorem path_e {V R Fc Fr ca : Nat → Nat} (h : eqL V R) (hG : vG V) (hR : vG R) {k : Nat} (hk : k < V 1) (hFc : sizR V Fc k 0) (hca : ∀ w, w < 2 ^ R 1 → ca w = canS R w) (hE : ∀ w, w < 2 ^ V 1 → ¬ bt w k → lfE (Fc w) (Fr w) (cnt (bt w) (V 1))) (h0 : Fc 0 < 100) : ∀ (q g g2 : Nat), q < Fc 0 → pathC V Fc q g → pathR ca Fr k (R 1) q g2 → g = g2 ∧ g < 2 ^ V 1 ∧ ¬ bt g k ∧ Fr g < 1000000
  | 0, g, g2, hq, h1, h2 => by
    have a : g = 0 := h1
    have b : g2 = 0 := h2
    subst a; subst b
    have := hE 0 (Nat.two_pow_pos _) (bt_0 k)
    unfold lfE at this
    exact ⟨rfl, Nat.two_pow_pos _, bt_0 k, by omega⟩
  | q + 1, g, g2, hq, h1, h2 => by
    have hp := path_c hFc h0 (q + 1) g h1 (by omega)
    obtain ⟨s0, w, a1, a2, rfl⟩ := h1
    obtain ⟨t0, w2, b1, b2, rfl⟩ := h2
    obtain ⟨rfl, c1, c2, c3⟩ := path_e h hG hR hk hFc hca hE h0 q s0 t0 (by omega) a1 b1
    have := step_e h hG hR hk hFc hca hE c1 c2 c3 a2 b2
    subst this
    have d1 : ¬ bt (s0 ||| 2 ^ w) k := fun z => by
      have := k_0 hFc hp.1 z
      omega
    have := hE _ hp.1 d1
    unfold lfE at this
    exact ⟨rfl, hp.1, d1, by omega⟩
theorem an_few {V R Fc Fr ca : Nat → Nat} (h : eqL V R) (hG : vG V) (hR : vG R) {k : Nat} (hk : k < V 1) {q z z2 : Int32} (h1 : (¬ bt (V 20) k → sizR V Fc k 0) ∧ fewC V Fc k q z) (hca : ∀ w, w < 2 ^ R 1 → ca w = canS R w) (hFr : ∀ w, w < 2 ^ R 1 → Fr w = lfJ ca Fr k 0 w (R 1)) (h2 : fewA ca Fr R k q z2) : z = z2 := by
  obtain ⟨h0, h1⟩ := h1
  have e20 := h.2.1
  unfold fewC fewZ at h1
  unfold fewA at h2
  by_cases hb : bt (V 20) k
  · rw [if_pos hb] at h1
    rw [if_pos (by rw [← e20]; exact hb)] at h2
    rcases h1 with ⟨a, _⟩ | ⟨_, ⟨a, b⟩ | ⟨a, a2, b⟩ | ⟨y, _, a, _⟩⟩
    · omega
    · rcases h2 with ⟨c, _⟩ | ⟨_, ⟨c, d⟩ | ⟨c, _, d⟩ | ⟨y, _, c, _⟩⟩
      · omega
      · rw [b, d]
      · exact absurd a c
      · omega
    · rcases h2 with ⟨c, _⟩ | ⟨_, ⟨c, d⟩ | ⟨c, _, d⟩ | ⟨y, _, c, _⟩⟩
      · omega
      · exact absurd c a
      · rw [b, d]
      · omega
    · omega
  · have hF := h0 hb
    have hFr2 : ∀ w, w < 2 ^ R 1 → Fr w = lfJ (canS R) Fr k 0 w (R 1) := fun w hw9 => (hFr w hw9).trans (lfJ_ca (hca w hw9) _)
    have hE : ∀ w, w < 2 ^ V 1 → ¬ bt w k → lfE (Fc w) (Fr w) (cnt (bt w) (V 1)) := fun w h1 h3 => few_e h hG hR hk hF hFr2 (2 ^ V 1) w h1 (Nat.sub_le _ _) h3
    have hE0 := hE 0 (Nat.two_pow_pos _) (bt_0 k)
    rw [if_neg hb] at h1
    rw [if_neg (by rw [← e20]; exact hb)] at h2
    unfold lfE at hE0
    rcases h1 with ⟨a, b⟩ | ⟨a0, h1⟩
    · rcases h2 with ⟨c, d⟩ | ⟨c, _⟩
      · rw [b, d]
      · omega
    · rcases h2 with ⟨c, d⟩ | ⟨c0, h2⟩
      · omega
      · have eF : Fc 0 = Fr 0 := by omega
        rw [← eF] at h2 c0
        have hlt : Fc 0 < 2147483648 := by omega
        rcases h1 with ⟨a, b⟩ | ⟨a, a2, b⟩ | ⟨y, a, a2, g, w, a3, a4, b⟩
        · rcases h2 with ⟨c, d⟩ | ⟨c, _, d⟩ | ⟨y, c, c2, _⟩
          · rw [b, d]
          · exact absurd a c
          · rw [c] at a; exact absurd a (nI_ne_m1 (by omega))
        · rcases h2 with ⟨c, d⟩ | ⟨c, _, d⟩ | ⟨y, c, c2, _⟩
          · exact absurd c a
          · rw [b, d]
          · rw [c, Int32.le_iff_toInt_le, nI_toInt hlt, nI_toInt (by omega)] at a2; omega
        · rcases h2 with ⟨c, d⟩ | ⟨c, c2, d⟩ | ⟨y2, c, c2, g2, w2, c3, c4, d⟩
          · rw [a] at c; exact absurd c (nI_ne_m1 (by omega))
          · rw [a, Int32.le_iff_toInt_le, nI_toInt hlt, nI_toInt (by omega)] at c2; omega
          · obtain rfl : y = y2 := (nI_eq (by omega) (by omega)).mp (by rw [← a, ← c])
            obtain ⟨rfl, d1, d2, d3⟩ := path_e h hG hR hk hF hca hE (by omega) y g g2 a2 a3 c3
            rw [b, d, step_e h hG hR hk hF hca hE d1 d2 d3 a4 c4]
end SRF
