section SRD
theorem sub_le {s w : Nat} (hs : s < 2 ^ 8) (h : s &&& (w ^^^ 4294967295) = 0) : ∀ j, bt s j → bt w j := fun j hj => by
  have hj8 : j < 8 := by
    rcases Nat.lt_or_ge j 8 with q | q
    · exact q
    · exact absurd hj (bt_hi hs q)
  by_cases q : bt w j
  · exact q
  · have : bt (s &&& (w ^^^ 4294967295)) j := by
      rw [bt_and, bt_neg (by omega)]; exact ⟨hj, q⟩
    rw [h] at this
    exact absurd this (bt_0 j)
theorem sub_0 {s w : Nat} (hs : s < 2 ^ 8) (h : ∀ j, bt s j → bt w j) : s &&& (w ^^^ 4294967295) = 0 := by
  refine bits_ext 8 (Nat.lt_of_le_of_lt Nat.and_le_left hs) (by decide) (fun k hk => ?_)
  rw [bt_and, bt_neg (by omega)]
  exact ⟨fun z => absurd (h k z.1) z.2, fun z => absurd z (bt_0 k)⟩
/-- a set within another is not above it -/
theorem sub_num {s w : Nat} (h : ∀ j, bt s j → bt w j) : s ≤ w := by
  have : s = s &&& w := by
    apply Nat.eq_of_testBit_eq
    intro i
    rw [Nat.testBit_and]
    have h1 := h i
    rw [bt_tb, bt_tb] at h1
    cases a : s.testBit i <;> simp_all
  rw [this]; exact Nat.and_le_right
theorem sound_c {V R : Nat → Nat} (h : eqL V R) (hG : vG V) (ws si : Nat) : ∀ m, m ≤ V 1 → soundF V ws si m = soundF R ws si m
  | 0, _ => rfl
  | m + 1, hm => by
    unfold soundF
    rw [sound_c h hG ws si m (by omega)]
    have e := could_c h hG (k := m) (by omega) 0 (soundF R ws si m) 0
    by_cases q : (bt ws m ∧ ¬ bt si m) ∧ could V m 0 (soundF R ws si m) 0
    · rw [if_pos q, if_pos ⟨q.1, e.mp q.2⟩]
    · rw [if_neg q, if_neg (fun z => q ⟨z.1, e.mpr z.2⟩)]
theorem sound_b {R : Nat → Nat} {ws si : Nat} : ∀ {m j : Nat}, bt (soundF R ws si m) j → j < m ∧ bt ws j
  | 0, j, h => absurd h (bt_0 j)
  | m + 1, j, h => by
    unfold soundF at h
    split at h
    · rename_i q
      rcases (bt_or _ _ _).mp h with z | z
      · have := sound_b z; exact ⟨by omega, this.2⟩
      · rw [z]; exact ⟨by omega, q.1.1⟩
    · have := sound_b h; exact ⟨by omega, this.2⟩
/-- could, whatever else is let off meanwhile, if not this one -/
theorem could_g {R : Nat → Nat} {k g s d : Nat} (hg : ¬ bt g k) : could R k g s d ↔ could R k 0 s d := by
  unfold could
  rw [Nat.or_zero, bt_orr]
  constructor
  · rintro ⟨a, b⟩; exact ⟨fun z => a (Or.inl z), b⟩
  · rintro ⟨a, b⟩; exact ⟨fun z => z.elim a hg, b⟩
theorem hand_hd {R X : Nat → Nat} (hR : vG R) (e : ∀ j, j < 60 → X j = R j) (ws si : Nat) : ∀ m, m ≤ R 1 → ∃ g, hdI R (handF X ws si m) g (soundF R ws si m) 0 ∧ ∀ j, bt g j → j < m ∧ bt ws j
  | 0, _ => ⟨0, hdI_0 hR e, fun j hj => absurd hj (bt_0 j)⟩
  | m + 1, hm => by
    obtain ⟨g, ih, hg⟩ := hand_hd hR e ws si m (by omega)
    have hgm : ¬ bt g m := fun z => by have := (hg m z).1; omega
    have hsm : ¬ bt (soundF R ws si m) m := fun z => by have := (sound_b z).1; omega
    have hc := hdI_can hR ih (k := m) (by omega)
    rw [could_g hgm] at hc
    unfold handF soundF
    by_cases q : bt ws m
    · by_cases z : could R m 0 (soundF R ws si m) 0
      · rw [if_pos ⟨q, hc.mpr z⟩]
        refine ⟨g ||| 2 ^ m, ?_, fun j hj => ?_⟩
        · by_cases y : bt si m
          · rw [if_pos y, if_neg (fun u => u.1.2 y)]
            have := hdI_off (sn := 0) hR ih (k := m) (by omega) hsm (by decide)
            rwa [if_neg (by decide)] at this
          · rw [if_neg y, if_pos ⟨⟨q, y⟩, z⟩]
            have := hdI_off (sn := 1) hR ih (k := m) (by omega) hsm (by decide)
            rwa [if_pos rfl] at this
        · rcases (bt_or _ _ _).mp hj with u | u
          · have := hg j u; exact ⟨by omega, this.2⟩
          · rw [u]; exact ⟨by omega, q⟩
      · rw [if_neg (fun u => z (hc.mp u.2)), if_neg (fun u => z u.2)]
        exact ⟨g, ih, fun j hj => by have := hg j hj; exact ⟨by omega, this.2⟩⟩
    · rw [if_neg (fun u => q u.1), if_neg (fun u => q u.1.1)]
      exact ⟨g, ih, fun j hj => by have := hg j hj; exact ⟨by omega, this.2⟩⟩
theorem ways_m {ws si c m : Nat} (hw9 : ws < 2 ^ m) : ∀ d, waysF ws si c (m + d) = waysF ws si c m
  | 0 => rfl
  | d + 1 => by
    show waysF ws si c (m + d + 1) = _
    conv => lhs; unfold waysF
    rw [if_neg (bt_hi hw9 (by omega)), ways_m hw9 d]
theorem whole_p (ws : Nat) : ∀ m, wholeF ws m = 10 ^ cnt (bt ws) m
  | 0 => rfl
  | m + 1 => by
    unfold wholeF cnt
    rw [whole_p ws m]
    by_cases q : bt ws m
    · rw [if_pos q, if_pos q, Nat.pow_succ]
    · rw [if_neg q, if_neg q, Nat.mul_one]
theorem cnt_m {ws m : Nat} (hw9 : ws < 2 ^ m) : ∀ d, cnt (bt ws) (m + d) = cnt (bt ws) m
  | 0 => rfl
  | d + 1 => by
    show cnt (bt ws) (m + d + 1) = _
    conv => lhs; unfold cnt
    rw [if_neg (bt_hi hw9 (by omega)), cnt_m hw9 d]
theorem an_whole {ws m : Nat} (hm : m ≤ 8) (hw9 : ws < 2 ^ m) : wholeF ws m = 10 ^ pc8 ws := by
  rw [whole_p, show pc8 ws = cnt (bt ws) (m + (8 - m)) by rw [show m + (8 - m) = 8 by omega]; rfl, cnt_m hw9]
theorem an_sum {V R X : Nat → Nat} (h : eqL V R) (hG : vG V) (hR : vG R) (e : ∀ j, j < 60 → X j = R j) {k ws c : Nat} (hk : k < R 1) (hws : ws < 2 ^ R 1) (hkw : ¬ bt ws k) : ∀ q, q ≤ 2 ^ R 1 → sumF X ws k c (R 1) q = sumC V k ws c (min q (ws + 1))
  | 0, _ => by rw [Nat.zero_min]; rfl
  | q + 1, hq => by
    have ih := an_sum h hG hR e (c := c) hk hws hkw q (by omega)
    have h1 := h.1 1 (by omega)
    have h8 := hR.1.2.2.1
    have hq8 : q < 2 ^ 8 := Nat.lt_of_lt_of_le (show q < 2 ^ R 1 by omega) (Nat.pow_le_pow_right (by omega) h8)
    unfold sumF
    by_cases z : q &&& (ws ^^^ 4294967295) = 0
    · have hle := sub_num (sub_le hq8 z)
      obtain ⟨g, g1, g2⟩ := hand_hd hR e ws q (R 1) (Nat.le_refl _)
      have hgk : ¬ bt g k := fun y => hkw (g2 k y).2
      have hc := hdI_can hR g1 hk
      rw [could_g hgk] at hc
      have hcv := could_c h hG (k := k) (by omega) 0 (soundF V ws q (V 1)) 0
      rw [show soundF V ws q (V 1) = soundF R ws q (R 1) by rw [← h1]; exact sound_c h hG ws q _ (Nat.le_refl _)] at hcv
      rw [show min (q + 1) (ws + 1) = q + 1 by omega]
      rw [show min q (ws + 1) = q by omega] at ih
      unfold sumC
      rw [show soundF V ws q (V 1) = soundF R ws q (R 1) by rw [← h1]; exact sound_c h hG ws q _ (Nat.le_refl _)]
      have hwy : waysF ws q c 8 = waysF ws q c (R 1) := by
        have := ways_m (ws := ws) (si := q) (c := c) hws (8 - R 1)
        rwa [show R 1 + (8 - R 1) = 8 by omega] at this
      by_cases y : could R k 0 (soundF R ws q (R 1)) 0
      · rw [if_pos ⟨z, hc.mpr y⟩, if_pos ⟨z, hcv.mpr y⟩, ih, hwy]
      · rw [if_neg (fun u => y (hc.mp u.2)), if_neg (fun u => y (hcv.mp u.2)), ih]
    · rw [if_neg (fun u => z u.1), ih]
      rcases Nat.lt_or_ge q (ws + 1) with y | y
      · rw [show min q (ws + 1) = q by omega, show min (q + 1) (ws + 1) = q + 1 by omega]
        conv => rhs; unfold sumC
        rw [if_neg (fun u => z u.1)]
      · rw [show min q (ws + 1) = ws + 1 by omega, show min (q + 1) (ws + 1) = ws + 1 by omega]
theorem an_rust {V R X : Nat → Nat} (h : eqL V R) (hG : vG V) (hR : vG R) (e : ∀ j, j < 60 → X j = R j) {k ws c : Nat} (hk : k < R 1) (hws : ws < 2 ^ R 1) (hkw : ¬ bt ws k) : sumF X ws k c (R 1) (2 ^ R 1) = sumC V k ws c (ws + 1) := by
  rw [an_sum h hG hR e hk hws hkw _ (Nat.le_refl _), show min (2 ^ R 1) (ws + 1) = ws + 1 by omega]
end SRD
