section SRG
/-- whom S silences, by the reference's numbers -/
theorem lf_ex {R : Nat → Nat} (k S : Nat) : ∀ d, d ≤ 2 ^ R 1 → ∃ F : Nat → Nat, ∀ w, 2 ^ R 1 - d ≤ w → w < 2 ^ R 1 → F w = lfJ (canS R) F k S w (R 1)
  | 0, _ => ⟨fun _ => 0, fun w h1 h2 => by omega⟩
  | d + 1, hd9 => by
    obtain ⟨F, hF⟩ := lf_ex (R := R) k S d (by omega)
    have key : ∀ w, 2 ^ R 1 - (d + 1) ≤ w → w < 2 ^ R 1 → lfJ (canS R) (va_up F (2 ^ R 1 - (d + 1)) (lfJ (canS R) F k S (2 ^ R 1 - (d + 1)) (R 1))) k S w (R 1) = lfJ (canS R) F k S w (R 1) := fun w h1 h2 => by
      refine lfJ_cong (m := R 1) (fun j hj hb => va_up_ne _ _ ?_) _ (Nat.le_refl _)
      have := (or_up h2 hj (canS_bt hb).2.2.1).1
      omega
    refine ⟨va_up F (2 ^ R 1 - (d + 1)) (lfJ (canS R) F k S (2 ^ R 1 - (d + 1)) (R 1)), fun w h1 h2 => ?_⟩
    rw [key w h1 h2]
    by_cases q : w = 2 ^ R 1 - (d + 1)
    · rw [← q, va_up_self]
    · rw [va_up_ne _ _ q]
      exact hF w (by omega) h2
theorem lf_or {ca F : Nat → Nat} {k wo w : Nat} : ∀ {j : Nat}, lfJ ca F k wo w j < 1000000 → bt (ca w) k ∨ ∃ i, i < j ∧ ¬ i = k ∧ bt (ca w) i ∧ ¬ bt wo i ∧ lfJ ca F k wo w j = 1 + F (w ||| 2 ^ i)
  | 0, h => by
    unfold lfJ at h
    split at h
    · rename_i q; exact Or.inl q
    · omega
  | j + 1, h => by
    rw [lfJ_s] at h ⊢
    by_cases q : 1 < lfJ ca F k wo w j ∧ ¬ j = k ∧ bt (ca w) j ∧ ¬ bt wo j
    · rw [if_pos q] at h ⊢
      rcases Nat.lt_or_ge (1 + F (w ||| 2 ^ j)) (lfJ ca F k wo w j) with z | z
      · exact Or.inr ⟨j, by omega, q.2.1, q.2.2.1, q.2.2.2, by omega⟩
      · rcases lf_or (ca := ca) (F := F) (k := k) (wo := wo) (w := w) (j := j) (by omega) with y | ⟨i, i1, i2, i3, i4, i5⟩
        · exact Or.inl y
        · exact Or.inr ⟨i, by omega, i2, i3, i4, by omega⟩
    · rw [if_neg q] at h ⊢
      rcases lf_or h with y | ⟨i, i1, i2, i3, i4, i5⟩
      · exact Or.inl y
      · exact Or.inr ⟨i, by omega, i2, i3, i4, i5⟩
theorem lf_rea {R F : Nat → Nat} (hR : vG R) {k S : Nat} (hF : ∀ w, w < 2 ^ R 1 → F w = lfJ (canS R) F k S w (R 1)) : ∀ (d n w : Nat), w < 2 ^ R 1 → 2 ^ R 1 - w ≤ d → reaN R S n w → F w < 1000000 → ∃ n2 u, reaN R S n2 u ∧ could R k u u 0 ∧ k < R 1
  | 0, n, w, h1, h2, _, _ => by omega
  | d + 1, n, w, h1, h2, h3, h4 => by
    rw [hF w h1] at h4
    rcases lf_or h4 with q | ⟨i, i1, i2, i3, i4, i5⟩
    · have := (canS_iff hR).mp q
      exact ⟨n, w, h3, this.2, this.1⟩
    · have hc := (canS_iff hR).mp i3
      obtain ⟨g1, g2⟩ := or_up h1 i1 (could_nb hc.2)
      exact lf_rea hR hF d (n + 1) (w ||| 2 ^ i) g2 (by omega) ⟨w, i, h3, i1, i4, hc.2, rfl⟩ (by omega)
theorem lf_dn {ca F : Nat → Nat} {k wo w j : Nat} : ∀ d, lfJ ca F k wo w (j + d) ≤ lfJ ca F k wo w j
  | 0 => Nat.le_refl _
  | d + 1 => by
    have ih := lf_dn (ca := ca) (F := F) (k := k) (wo := wo) (w := w) (j := j) d
    rw [← Nat.add_assoc, lfJ_s]
    split <;> omega
theorem lf_big {R F : Nat → Nat} (hR : vG R) {k S : Nat} (hF : ∀ w, w < 2 ^ R 1 → F w = lfJ (canS R) F k S w (R 1)) (h0 : 1000000 ≤ F 0) : ∀ n u, reaN R S n u → ¬ bt u k → 1000000 ≤ F u + n
  | 0, u, h, _ => by
    have a : u = 0 := h
    subst a
    exact h0
  | n + 1, u, h, hb => by
    obtain ⟨v, j, h1, h2, h3, h4, rfl⟩ := h
    have hvk : ¬ bt v k := fun z => hb ((bt_or _ _ _).mpr (Or.inl z))
    have hjk : ¬ j = k := fun z => hb ((bt_or _ _ _).mpr (Or.inr z.symm))
    have ih := lf_big hR hF h0 n v h1 hvk
    have hn := rea_n h1
    have h8 := hR.1.2.2.1
    have e := hF v (rea_cnt h1).1
    have d1 := lf_dn (ca := canS R) (F := F) (k := k) (wo := S) (w := v) (j := j + 1) (R 1 - (j + 1))
    rw [show j + 1 + (R 1 - (j + 1)) = R 1 by omega, ← e] at d1
    have d2 := lf_dn (ca := canS R) (F := F) (k := k) (wo := S) (w := v) (j := j) 1
    have h9 : 1 < lfJ (canS R) F k S v j := by omega
    rw [lfJ_s, if_pos ⟨h9, hjk, (canS_iff hR).mpr ⟨h2, h4⟩, h3⟩] at d1
    omega
theorem blk_iff {R : Nat → Nat} (hR : vG R) {k S : Nat} (hk : k < R 1) (hS : ¬ bt S k) : blkR R k S ↔ ¬ bt (clo R S (R 1)) k := by
  have h8 := hR.1.2.2.1
  constructor
  · rintro ⟨F, hF, h0⟩ hc
    obtain ⟨n, u, h1, -, -, h4⟩ := clo_iff.mp hc
    have := lf_big hR hF h0 n u h1 (could_nb h4)
    have hn := rea_n h1
    have e := hF u (rea_cnt h1).1
    have g0 : lfJ (canS R) F k S u 0 = 1 := by unfold lfJ; rw [if_pos ((canS_iff hR).mpr ⟨hk, h4⟩)]
    have g1 := lf_dn (ca := canS R) (F := F) (k := k) (wo := S) (w := u) (j := 0) (R 1)
    rw [Nat.zero_add, ← e, g0] at g1
    omega
  · intro hc
    obtain ⟨F, hF⟩ := lf_ex (R := R) k S (2 ^ R 1) (Nat.le_refl _)
    have hF2 : ∀ w, w < 2 ^ R 1 → F w = lfJ (canS R) F k S w (R 1) := fun w hw9 => hF w (by omega) hw9
    refine ⟨F, hF2, ?_⟩
    rcases Nat.lt_or_ge (F 0) 1000000 with q | q
    · obtain ⟨n2, u, h1, h2, h3⟩ := lf_rea hR hF2 (2 ^ R 1) 0 0 (Nat.two_pow_pos _) (Nat.sub_le _ _) rfl q
      exact absurd (clo_iff.mpr ⟨n2, u, h1, h3, hS, h2⟩) hc
    · exact q
theorem cnt_mono {P Q : Nat → Prop} [DecidablePred P] [DecidablePred Q] : ∀ {m : Nat}, (∀ k, k < m → P k → Q k) → cnt P m ≤ cnt Q m
  | 0, _ => Nat.le_refl _
  | m + 1, h => by
    have ih := cnt_mono (P := P) (Q := Q) (m := m) (fun k hk => h k (by omega))
    unfold cnt
    by_cases q : P m
    · rw [if_pos q, if_pos (h m (by omega) q)]; omega
    · rw [if_neg q]; split <;> omega
theorem cnt_eq {P Q : Nat → Prop} [DecidablePred P] [DecidablePred Q] : ∀ {m : Nat}, (∀ k, k < m → P k → Q k) → cnt Q m ≤ cnt P m → ∀ k, k < m → Q k → P k
  | 0, _, _, k, hk, _ => absurd hk (Nat.not_lt_zero _)
  | m + 1, h, he, k, hk, hq => by
    have h0 := cnt_mono (P := P) (Q := Q) (m := m) (fun k hk => h k (by omega))
    unfold cnt at he
    by_cases q : P m
    · rw [if_pos q, if_pos (h m (by omega) q)] at he
      rcases Nat.lt_or_eq_of_le (Nat.le_of_lt_succ hk) with z | z
      · exact cnt_eq (fun k hk => h k (by omega)) (by omega) k z hq
      · rw [z]; exact q
    · rw [if_neg q] at he
      by_cases y : Q m
      · rw [if_pos y] at he; omega
      · rw [if_neg y] at he
        rcases Nat.lt_or_eq_of_le (Nat.le_of_lt_succ hk) with z | z
        · exact cnt_eq (fun k hk => h k (by omega)) he k z hq
        · rw [z] at hq; exact absurd hq y
theorem pc_mono {s t : Nat} (h : ∀ j, bt s j → bt t j) : pc8 s ≤ pc8 t := cnt_mono (fun j _ => h j)
theorem pc_eq {s t : Nat} (hs : s < 256) (ht : t < 256) (h : ∀ j, bt s j → bt t j) (he : pc8 t ≤ pc8 s) : s = t :=
  bits_ext 8 hs ht (fun k hk => ⟨h k, cnt_eq (P := bt s) (Q := bt t) (fun j _ => h j) he k hk⟩)
theorem rea_peal {V : Nat → Nat} {S : Nat} : ∀ {n u : Nat}, reaN V S n u → reaN V 0 n u
  | 0, _, h => h
  | n + 1, u, h => by
    obtain ⟨v, j, h1, h2, h3, h4, rfl⟩ := h
    exact ⟨v, j, rea_peal h1, h2, bt_0 j, h4, rfl⟩
/-- without all the others nobody is rung -/
theorem oth_0 {V : Nat → Nat} {k ot : Nat} (hot : ∀ j, bt (clo V 0 (V 1)) j → ¬ j = k → bt ot j) (h0 : ¬ could V k 0 0 0) : ∀ {n u : Nat}, reaN V ot n u → u = 0
  | 0, _, h => h
  | n + 1, u, h => by
    obtain ⟨v, j, h1, h2, h3, h4, rfl⟩ := h
    have := oth_0 hot h0 h1
    subst this
    have hj : bt (clo V 0 (V 1)) j := clo_iff.mpr ⟨0, 0, rfl, h2, bt_0 j, h4⟩
    by_cases q : j = k
    · rw [q] at h4; exact absurd h4 h0
    · exact absurd (hot j hj q) h3
/-- only those of the peal need silencing -/
theorem cut_rea {V : Nat → Nat} {k ot b : Nat} (hot : ∀ j, bt (clo V 0 (V 1)) j → ¬ j = k → bt ot j) (hb : ¬ bt b k) : ∀ {n u : Nat}, reaN V (b &&& ot) n u → reaN V b n u
  | 0, _, h => h
  | n + 1, u, h => by
    obtain ⟨v, j, h1, h2, h3, h4, rfl⟩ := h
    have hj : bt (clo V 0 (V 1)) j := clo_iff.mpr ⟨n, v, rea_peal h1, h2, bt_0 j, h4⟩
    refine ⟨v, j, cut_rea hot hb h1, h2, fun z => ?_, h4, rfl⟩
    by_cases q : j = k
    · rw [q] at z; exact hb z
    · exact h3 ((bt_and _ _ _).mpr ⟨z, hot j hj q⟩)
/-- the best among those below s, or all the others -/
theorem sil_inv {V : Nat → Nat} {k ot : Nat} (hot8 : ot < 256) (hob : ¬ bt (clo V ot (V 1)) k) : ∀ s, s < ot ∨ s = 0 → (∀ j, bt (silB V k ot s) j → bt ot j) ∧ ¬ bt (clo V (silB V k ot s) (V 1)) k ∧ pc8 (silB V k ot s) ≤ pc8 ot ∧ (silB V k ot s = ot ∨ silB V k ot s ≤ s) ∧ ∀ S, 1 ≤ S → S ≤ s → (∀ j, bt S j → bt ot j) → ¬ bt (clo V S (V 1)) k → pc8 (silB V k ot s) < pc8 S ∨ (pc8 (silB V k ot s) = pc8 S ∧ silB V k ot s ≤ S)
  | 0, _ => ⟨fun _ h => h, hob, Nat.le_refl _, Or.inl rfl, fun S h1 h2 => by omega⟩
  | s + 1, hs => by
    obtain ⟨a1, a2, a3, a4, a5⟩ := sil_inv hot8 hob s (by omega)
    have hs8 : s + 1 < 256 := by omega
    unfold silB
    by_cases q : (s + 1) &&& (ot ^^^ 4294967295) = 0 ∧ pc8 (s + 1) < pc8 (silB V k ot s) ∧ ¬ bt (clo V (s + 1) (V 1)) k
    · rw [if_pos q]
      refine ⟨sub_le hs8 q.1, q.2.2, by omega, Or.inr (Nat.le_refl _), fun S h1 h2 h3 h4 => ?_⟩
      rcases Nat.lt_or_eq_of_le h2 with z | z
      · have := a5 S h1 (by omega) h3 h4
        have q2 := q.2.1
        omega
      · rw [z]; omega
    · rw [if_neg q]
      refine ⟨a1, a2, a3, by omega, fun S h1 h2 h3 h4 => ?_⟩
      rcases Nat.lt_or_eq_of_le h2 with z | z
      · exact a5 S h1 (by omega) h3 h4
      · have h5 : ¬ pc8 (s + 1) < pc8 (silB V k ot s) := fun y => q ⟨by rw [← z]; exact sub_0 (by omega) h3, y, by rw [← z]; exact h4⟩
        have h6 : ¬ pc8 ot ≤ pc8 S := fun y => by
          have := pc_eq (by omega) hot8 h3 y
          omega
        rw [z] at h6 ⊢
        rcases a4 with u | u
        · rw [u] at h5; omega
        · omega
theorem an_hush {V R : Nat → Nat} (h : eqL V R) (hG : vG V) (hR : vG R) {k : Nat} (hk : k < V 1) {z z2 : Int32} (h1 : silR V k z) (h2 : hushI R k (2 ^ R 1) z2) : z = z2 := by
  have e1 := h.1 1 (by omega)
  have e20 := h.2.1
  have h8 := hG.1.2.2.1
  have hkR : k < R 1 := by omega
  have hblk : ∀ S, ¬ bt S k → (blkR R k S ↔ ¬ bt (clo V S (V 1)) k) := fun S hS => by
    rw [blk_iff hR hkR hS, clo_c h hG, e1]
  have h28 : 2 ^ R 1 ≤ 256 := p2_le (by omega)
  rcases h1 with ⟨a, b⟩ | ⟨a, a2, b⟩ | ⟨a, a2, b⟩
  · rcases h2 with ⟨c, _⟩ | ⟨y, c1, c2, c3, c4, c5, c6⟩
    · rw [b, c]
    · exact absurd (clo_iff.mpr ⟨0, 0, rfl, hk, c4.1, a⟩) ((hblk y c4.1).mp c5)
  · have hv : hushV R k 0 := ⟨bt_0 k, Nat.zero_and _⟩
    have hb0 := (hblk 0 (bt_0 k)).mpr a2
    rcases h2 with ⟨c, c1⟩ | ⟨y, c1, c2, c3, c4, c5, c6⟩
    · exact absurd hb0 (c1 0 (Nat.two_pow_pos _) hv)
    · have := c6 0 (Nat.two_pow_pos _) hv hb0
      rw [pc8_0] at this
      rw [b, c3, show y = 0 by omega]
  · have hc8 : clo V 0 (V 1) < 256 := clo_lt h8 0 _
    have hot8 : clo V 0 (V 1) &&& (2 ^ k ^^^ 4294967295) < 256 := Nat.lt_of_le_of_lt Nat.and_le_left hc8
    have hbt : ∀ j, bt (clo V 0 (V 1) &&& (2 ^ k ^^^ 4294967295)) j ↔ j < V 1 ∧ bt (clo V 0 (V 1)) j ∧ ¬ j = k := fun j => by
      rcases Nat.lt_or_ge j 8 with y | y
      · rw [bt_and, bt_neg (by omega), bt_2]
        constructor
        · rintro ⟨u, v⟩
          exact ⟨(clo_iff.mp u).choose_spec.choose_spec.2.1, u, v⟩
        · rintro ⟨_, u, v⟩; exact ⟨u, v⟩
      · constructor
        · intro u; exact absurd u (bt_hi (m := 8) hot8 y)
        · rintro ⟨u, _⟩; omega
    generalize clo V 0 (V 1) &&& (2 ^ k ^^^ 4294967295) = ot at hot8 hbt b
    have hot : ∀ j, bt (clo V 0 (V 1)) j → ¬ j = k → bt ot j := fun j u v => (hbt j).mpr ⟨(clo_iff.mp u).choose_spec.choose_spec.2.1, u, v⟩
    have hotk : ¬ bt ot k := fun u => ((hbt k).mp u).2.2 rfl
    have hob : ¬ bt (clo V ot (V 1)) k := fun u => by
      obtain ⟨n, v, u1, u2, u3, u4⟩ := clo_iff.mp u
      have := oth_0 hot a u1
      subst this
      exact a u4
    obtain ⟨i1, i2, i3, i4, i5⟩ := sil_inv hot8 hob (ot - 1) (by omega)
    have hle : silB V k ot (ot - 1) ≤ ot := sub_num i1
    generalize silB V k ot (ot - 1) = b0 at i1 i2 i3 i4 i5 hle b
    have hb0k : ¬ bt b0 k := fun u => hotk (i1 k u)
    have hV : ∀ j, bt b0 j → j < V 1 ∧ ¬ bt (V 20) j := fun j u => by
      have u2 := (hbt j).mp (i1 j u)
      obtain ⟨n, v, u3, u4, u5, u6⟩ := clo_iff.mp u2.2.1
      exact ⟨u4, fun x9 => u6.1 ((bt_orr _ _ _).mpr (Or.inl x9))⟩
    have hb02 : b0 < 2 ^ R 1 := by
      rw [← e1]
      have : b0 = b0 &&& (2 ^ V 1 - 1) := by
        refine bits_ext 8 (by omega) (Nat.lt_of_le_of_lt Nat.and_le_left (by omega)) (fun j hj => ?_)
        rw [bt_and]
        refine ⟨fun u => ⟨u, ?_⟩, fun u => u.1⟩
        rw [bt_tb, Nat.testBit_two_pow_sub_one]
        simp [(hV j u).1]
      have h9 : b0 &&& (2 ^ V 1 - 1) ≤ 2 ^ V 1 - 1 := Nat.and_le_right
      have := Nat.two_pow_pos (V 1)
      omega
    have hv0 : hushV R k b0 := ⟨hb0k, by
      refine bits_ext 8 (Nat.lt_of_le_of_lt Nat.and_le_left (by omega)) (by decide) (fun j hj => ?_)
      rw [bt_and, ← e20]
      exact ⟨fun u => absurd u.2 (hV j u.1).2, fun u => absurd u (bt_0 j)⟩⟩
    have hbb := (hblk b0 hb0k).mpr i2
    rcases h2 with ⟨c, c1⟩ | ⟨y, c1, c2, c3, c4, c5, c6⟩
    · exact absurd hbb (c1 b0 hb02 hv0)
    · have d1 := c6 b0 hb02 hv0 hbb
      have d2 := (hblk y c4.1).mp c5
      have d3 : ¬ bt (clo V (y &&& ot) (V 1)) k := fun u => by
        obtain ⟨n, v, u1, u2, u3, u4⟩ := clo_iff.mp u
        exact d2 (clo_iff.mpr ⟨n, v, cut_rea hot c4.1 u1, u2, c4.1, u4⟩)
      have d4 : ∀ j, bt (y &&& ot) j → bt ot j := fun j u => ((bt_and _ _ _).mp u).2
      have d5 : pc8 (y &&& ot) ≤ pc8 y := pc_mono (fun j u => ((bt_and _ _ _).mp u).1)
      have d6 : y &&& ot ≤ y := Nat.and_le_left
      have d7 : y &&& ot ≤ ot := Nat.and_le_right
      have d8 : 1 ≤ y &&& ot := by
        rcases Nat.eq_zero_or_pos (y &&& ot) with u | u
        · rw [u] at d3; exact absurd a2 d3
        · exact u
      have d9 : pc8 b0 < pc8 (y &&& ot) ∨ (pc8 b0 = pc8 (y &&& ot) ∧ b0 ≤ y &&& ot) := by
        rcases Nat.lt_or_ge (y &&& ot) ot with u | u
        · exact i5 _ d8 (by omega) d4 d3
        · rw [show y &&& ot = ot by omega]
          omega
      rw [b, c3, show b0 = y by omega]
end SRG
