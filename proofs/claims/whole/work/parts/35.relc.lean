section SRC
theorem php : ∀ (P : Nat) (f : Nat → Nat) (m : Nat), (∀ t, t < m → f t < P) → P < m → ∃ a b, a < b ∧ b < m ∧ f a = f b
  | 0, f, m, h, hm => absurd (h 0 (by omega)) (Nat.not_lt_zero _)
  | P + 1, f, m, h, hm => by
    obtain ⟨q, rfl⟩ : ∃ q, m = q + 1 := ⟨m - 1, by omega⟩
    by_cases z : ∃ t, t < q ∧ f t = f q
    · obtain ⟨t, t1, t2⟩ := z
      exact ⟨t, q, t1, by omega, t2⟩
    · have hn : ∀ t, t < q → ¬ f t = f q := fun t t1 t2 => z ⟨t, t1, t2⟩
      have hq := h q (by omega)
      obtain ⟨a, b, a1, a2, a3⟩ := php P (fun t => if f t = P then f q else f t) q (fun t ht => by
        have h1 := h t (by omega)
        have h2 := hn t ht
        split <;> omega) (by omega)
      refine ⟨a, b, a1, by omega, ?_⟩
      have ha := hn a (by omega)
      have hb := hn b a2
      split at a3 <;> split at a3 <;> omega
/-- one step from a set to those that it wronged -/
theorem wrd_b {V : Nat → Nat} {w v : Nat} : ∀ {m : Nat}, bt (wrd V w m) v ↔ ∃ k, k < m ∧ ¬ bt (V 20) k ∧ bt w (V (36 + k)) ∧ V (44 + k) = v
  | 0 => ⟨fun h => absurd h (bt_0 v), fun ⟨k, h, _⟩ => absurd h (Nat.not_lt_zero k)⟩
  | m + 1 => by
    have ih := wrd_b (V := V) (w := w) (v := v) (m := m)
    unfold wrd
    by_cases q : ¬ bt (V 20) m ∧ bt w (V (36 + m))
    · rw [if_pos q, bt_or, ih]
      constructor
      · rintro (⟨k, k1, k2⟩ | z)
        · exact ⟨k, by omega, k2⟩
        · exact ⟨m, by omega, q.1, q.2, z.symm⟩
      · rintro ⟨k, k1, k2, k3, k4⟩
        rcases Nat.lt_or_eq_of_le (Nat.le_of_lt_succ k1) with u | u
        · exact Or.inl ⟨k, u, k2, k3, k4⟩
        · rw [u] at k4; exact Or.inr k4.symm
    · rw [if_neg q, ih]
      constructor
      · rintro ⟨k, k1, k2⟩; exact ⟨k, by omega, k2⟩
      · rintro ⟨k, k1, k2, k3, k4⟩
        rcases Nat.lt_or_eq_of_le (Nat.le_of_lt_succ k1) with u | u
        · exact ⟨k, u, k2, k3, k4⟩
        · rw [u] at k2 k3; exact absurd ⟨k2, k3⟩ q
def edg (V : Nat → Nat) (u v : Nat) : Prop := ∃ k, k < V 1 ∧ ¬ bt (V 20) k ∧ V (36 + k) = u ∧ V (44 + k) = v
theorem wN_s {V : Nat → Nat} {w m v : Nat} : bt (wrdN V w (m + 1)) v ↔ ∃ u, bt (wrdN V w m) u ∧ edg V u v := by
  show bt (wrd V (wrdN V w m) (V 1)) v ↔ _
  rw [wrd_b]
  constructor
  · rintro ⟨k, k1, k2, k3, k4⟩; exact ⟨_, k3, k, k1, k2, rfl, k4⟩
  · rintro ⟨u, u1, k, k1, k2, k3, k4⟩; exact ⟨k, k1, k2, by rw [k3]; exact u1, k4⟩
def rch (V : Nat → Nat) (m u v : Nat) : Prop := bt (wrdN V (2 ^ u) m) v
theorem rch_0 {V : Nat → Nat} {u v : Nat} : rch V 0 u v ↔ v = u := bt_2 u v
theorem rch_s {V : Nat → Nat} {m u v : Nat} : rch V (m + 1) u v ↔ ∃ x, rch V m u x ∧ edg V x v := wN_s
theorem rch_add {V : Nat → Nat} {a u v : Nat} : ∀ {b : Nat} {w : Nat}, rch V a u v → rch V b v w → rch V (a + b) u w
  | 0, w, h1, h2 => by rw [rch_0] at h2; rw [h2]; exact h1
  | b + 1, w, h1, h2 => by
    obtain ⟨x, x1, x2⟩ := rch_s.mp h2
    exact rch_s.mpr ⟨x, rch_add h1 x1, x2⟩
theorem rch_cut {V : Nat → Nat} {a u : Nat} : ∀ {b w : Nat}, rch V (a + b) u w → ∃ v, rch V a u v ∧ rch V b v w
  | 0, w, h => ⟨w, h, rch_0.mpr rfl⟩
  | b + 1, w, h => by
    obtain ⟨x, x1, x2⟩ := rch_s.mp h
    obtain ⟨v, v1, v2⟩ := rch_cut x1
    exact ⟨v, v1, rch_s.mpr ⟨x, v2, x2⟩⟩
theorem rch_lt {V : Nat → Nat} (hG : vG V) {m u v : Nat} (h : rch V (m + 1) u v) : v < V 0 := by
  obtain ⟨x, x1, k, k1, k2, k3, k4⟩ := rch_s.mp h
  rw [← k4]; exact (hG.2.2.2.1 k k1).2.1
theorem ring_short {V : Nat → Nat} (hG : vG V) {i m : Nat} (hm : 1 ≤ m) (h : rch V m i i) (hmin : ∀ j, 1 ≤ j → j < m → ¬ rch V j i i) : m ≤ V 0 := by
  rcases Nat.lt_or_ge (V 0) m with q | q
  · exfalso
    have hf : ∀ t, ∃ x, t < m → rch V (t + 1) i x ∧ rch V (m - (t + 1)) x i := fun t => by
      by_cases ht : t < m
      · have e : m = (t + 1) + (m - (t + 1)) := by omega
        rw [e] at h
        obtain ⟨x, x1, x2⟩ := rch_cut h
        exact ⟨x, fun _ => ⟨x1, x2⟩⟩
      · exact ⟨0, fun z => absurd z ht⟩
    obtain ⟨f, hf⟩ := Classical.axiomOfChoice hf
    obtain ⟨a, b, a1, a2, a3⟩ := php (V 0) f m (fun t ht => rch_lt hG (hf t ht).1) q
    have h1 := (hf a (by omega)).1
    have h2 := (hf b a2).2
    rw [← a3] at h2
    have h3 := rch_add h1 h2
    exact hmin (a + 1 + (m - (b + 1))) (by omega) (by omega) h3
  · exact q
theorem an_ring {V R : Nat → Nat} (h : eqL V R) (hG : vG V) {i : Nat} {z z2 : Int32} (h1 : ringR V i (V 0) z) (h2 : ringR R i 6 z2) : z = z2 := by
  have h6 := hG.1.2.1
  have e : ∀ m, bt (wrdN R (2 ^ i) m) i ↔ rch V m i i := fun m => by rw [← wrdN_c h]; exact Iff.rfl
  rcases h1 with ⟨d, d1, d2, d3, d4, d5⟩ | ⟨d1, d2⟩ <;> rcases h2 with ⟨c, c1, c2, c3, c4, c5⟩ | ⟨c1, c2⟩
  · have : d = c := by
      rcases Nat.lt_trichotomy d c with u | u | u
      · exact absurd ((e d).mpr d3) (c4 d d1 u)
      · exact u
      · exact absurd ((e c).mp c3) (d4 c c1 u)
    rw [d5, c5, this]
  · exact absurd ((e d).mpr d3) (c1 d d1 (by omega))
  · have := ring_short hG c1 ((e c).mp c3) (fun j j1 j2 z => c4 j j1 j2 ((e j).mpr z))
    exact absurd ((e c).mp c3) (d1 c c1 this)
  · rw [d2, c2]
/-! easters: the reference's hand behind t days -/
theorem off_at {X : Nat → Nat} {k j : Nat} (sn : Nat) (hb : X (36 + k) < 6) : offR X k sn j = if j = 20 then X 20 ||| 2 ^ k else if j = 6 + X (36 + k) then X j + (if sn = 1 ∧ X j < 99 then 1 else 0) else X j := by
  unfold offR
  by_cases q : j = 20
  · subst q
    rw [if_pos rfl, va_up_ne _ _ (by omega), va_up_self]
  · rw [if_neg q]
    by_cases z : j = 6 + X (36 + k)
    · rw [if_pos z, z, va_up_self]
    · rw [if_neg z, va_up_ne _ _ z, va_up_ne _ _ q]
theorem day_at {X : Nat → Nat} {j : Nat} : dayR X j = if j = 21 then X 21 + 1 else if (12 ≤ j ∧ j < 12 + X 1) ∧ ¬ bt (X 20) (j - 12) ∧ X j < 99 then X j + 1 else X j := by
  unfold dayR
  by_cases q : j = 21
  · rw [if_pos q, q, va_up_self]
  · rw [if_neg q, va_up_ne _ _ q]; rfl
/-- what the hand is behind some lettings off (g: whose, s: those that sounded) and t days -/
def hdI (R X : Nat → Nat) (g s t : Nat) : Prop := X 0 = R 0 ∧ X 1 = R 1 ∧ X 20 = R 20 ||| g ∧ X 21 = R 21 + t ∧ (∀ i, i < R 0 → X (22 + i) = R (22 + i) ∧ X (6 + i) = R (6 + i) + cntBy R i s (R 1)) ∧ ∀ k, k < R 1 → X (28 + k) = R (28 + k) ∧ X (36 + k) = R (36 + k) ∧ X (44 + k) = R (44 + k) ∧ X (52 + k) = R (52 + k) ∧ (¬ bt (R 20 ||| g) k → X (12 + k) = min 99 (R (12 + k) + t))
theorem hdI_can {R X : Nat → Nat} {g s t : Nat} (hR : vG R) (h : hdI R X g s t) {k : Nat} (hk : k < R 1) : canP X k ↔ could R k g s t := by
  obtain ⟨x0, x1, x20, x21, xi, xk⟩ := h
  obtain ⟨b1, b2, b3, b4, b5⟩ := xk k hk
  have hb := (hR.2.2.2.1 k hk).2.1
  obtain ⟨c1, c2⟩ := xi _ hb
  show (¬ bt (X 20) k ∧ rW X k ≤ rL X (X (44 + k))) ↔ (¬ bt (R 20 ||| g) k ∧ sW R k t ≤ sM R (R (44 + k)) s t)
  rw [x20]
  by_cases q : bt (R 20 ||| g) k
  · exact ⟨fun z => absurd q z.1, fun z => absurd q z.1⟩
  · unfold rW rL sW sM
    rw [b1, b4, b5 q, b3, c1, c2, x21]
theorem hdI_0 {R X : Nat → Nat} (hR : vG R) (e : ∀ j, j < 60 → X j = R j) : hdI R X 0 0 0 := by
  have h8 := hR.1.2.2.1
  have h6 := hR.1.2.1
  refine ⟨e 0 (by omega), e 1 (by omega), by rw [e 20 (by omega), Nat.or_zero], e 21 (by omega), fun i hi => ⟨e _ (by omega), by rw [e _ (by omega), cntBy_z]; rfl⟩, fun k hk => ⟨e _ (by omega), e _ (by omega), e _ (by omega), e _ (by omega), fun _ => by
    have := (hR.2.2.2.1 k hk).2.2
    rw [e _ (by omega)]; omega⟩⟩
theorem hdI_off {R X : Nat → Nat} {g s t : Nat} (hR : vG R) (h : hdI R X g s t) {k sn : Nat} (hk : k < R 1) (hs : ¬ bt s k) (hsn : sn < 2) : hdI R (offR X k sn) (g ||| 2 ^ k) (if sn = 1 then s ||| 2 ^ k else s) t := by
  have h8 := hR.1.2.2.1
  have h6 := hR.1.2.1
  obtain ⟨x0, x1, x20, x21, xi, xk⟩ := h
  have hby := (hR.2.2.2.1 k hk).1
  have hbx : X (36 + k) < 6 := by rw [(xk k hk).2.1]; omega
  have ebx : X (36 + k) = R (36 + k) := (xk k hk).2.1
  have o : ∀ j, ¬ j = 20 → ¬ j = 6 + X (36 + k) → offR X k sn j = X j := fun j a b => by rw [off_at sn hbx, if_neg a, if_neg b]
  refine ⟨by rw [o _ (by omega) (by omega)]; exact x0, by rw [o _ (by omega) (by omega)]; exact x1, by rw [off_at sn hbx, if_pos rfl, x20, Nat.or_assoc], by rw [o _ (by omega) (by omega)]; exact x21, fun i hi => ⟨by rw [o _ (by omega) (by omega)]; exact (xi i hi).1, ?_⟩, fun j hj => ⟨by rw [o _ (by omega) (by omega)]; exact (xk j hj).1, by rw [o _ (by omega) (by omega)]; exact (xk j hj).2.1, by rw [o _ (by omega) (by omega)]; exact (xk j hj).2.2.1, by rw [o _ (by omega) (by omega)]; exact (xk j hj).2.2.2.1, fun z => by
    rw [o _ (by omega) (by omega)]
    exact (xk j hj).2.2.2.2 (fun y => z (by rw [← Nat.or_assoc, bt_or]; exact Or.inl y))⟩⟩
  have hr := vG_r hR hi
  have hc := cntBy_le R i s (R 1)
  have hx := (xi i hi).2
  rw [off_at sn hbx, if_neg (by omega)]
  by_cases q : R (36 + k) = i
  · rw [if_pos (by omega)]
    rcases (show sn = 0 ∨ sn = 1 by omega) with e | e
    · subst e
      rw [if_neg (fun z => absurd z.1 (by decide)), if_neg (by decide)]; exact hx
    · subst e
      rw [if_pos ⟨rfl, by omega⟩, if_pos rfl, cntBy_or hs hk, if_pos q]; omega
  · rw [if_neg (by omega)]
    rcases (show sn = 0 ∨ sn = 1 by omega) with e | e
    · subst e
      rw [if_neg (by decide)]; exact hx
    · subst e
      rw [if_pos rfl, cntBy_or hs hk, if_neg q]; exact hx
theorem hdI_day {R X : Nat → Nat} {g s t : Nat} (hR : vG R) (h : hdI R X g s t) : hdI R (dayR X) g s (t + 1) := by
  have h8 := hR.1.2.2.1
  have h6 := hR.1.2.1
  obtain ⟨x0, x1, x20, x21, xi, xk⟩ := h
  have o : ∀ j, ¬ j = 21 → (j < 12 ∨ 20 ≤ j) → dayR X j = X j := fun j a b => by rw [day_at, if_neg a, if_neg (by omega)]
  refine ⟨by rw [o _ (by omega) (by omega)]; exact x0, by rw [o _ (by omega) (by omega)]; exact x1, by rw [o _ (by omega) (by omega)]; exact x20, by rw [day_at, if_pos rfl, x21]; omega, fun i hi => ⟨by rw [o _ (by omega) (by omega)]; exact (xi i hi).1, by rw [o _ (by omega) (by omega)]; exact (xi i hi).2⟩, fun j hj => ⟨by rw [o _ (by omega) (by omega)]; exact (xk j hj).1, by rw [o _ (by omega) (by omega)]; exact (xk j hj).2.1, by rw [o _ (by omega) (by omega)]; exact (xk j hj).2.2.1, by rw [o _ (by omega) (by omega)]; exact (xk j hj).2.2.2.1, fun z => ?_⟩⟩
  have a := (xk j hj).2.2.2.2 z
  rw [day_at, if_neg (by omega), x20, x1, Nat.add_sub_cancel_left]
  by_cases q : X (12 + j) < 99
  · rw [if_pos ⟨by omega, z, q⟩]; omega
  · rw [if_neg (fun y => q y.2.2)]; omega
theorem bt_sub {s k : Nat} (h : ¬ bt s k) : ¬ bt (if 0 = 1 then s ||| 2 ^ k else s) k := by
  rw [if_neg (by decide)]; exact h
theorem ea_hd {R X : Nat → Nat} (hR : vG R) (e : ∀ j, j < 60 → X j = R j) (sd : Nat) : ∀ t, hdI R (eaH X sd t) (seedG R sd t) (seedG R sd t) t
  | 0 => hdI_0 hR e
  | t + 1 => by
    have ih := ea_hd hR e sd t
    unfold eaH seedG
    rw [show X 1 = R 1 from e 1 (by omega)]
    by_cases q : rngX sd (t + 1) / 65536 % 8 < R 1
    · have hc := hdI_can hR ih q
      by_cases z : could R (rngX sd (t + 1) / 65536 % 8) (seedG R sd t) (seedG R sd t) t
      · rw [if_pos ⟨q, hc.mpr z⟩, if_pos ⟨q, z⟩]
        have h9 := hdI_off (sn := 1) hR ih q (could_nb z) (by decide)
        rw [if_pos rfl] at h9
        exact hdI_day hR h9
      · rw [if_neg (fun y => z (hc.mp y.2)), if_neg (fun y => z y.2)]
        exact hdI_day hR ih
    · rw [if_neg (fun y => q y.1), if_neg (fun y => q y.1)]
      exact hdI_day hR ih
theorem seed_c {V R : Nat → Nat} (h : eqL V R) (hG : vG V) (sd : Nat) : ∀ t, seedG V sd t = seedG R sd t
  | 0 => rfl
  | t + 1 => by
    unfold seedG
    rw [seed_c h hG sd t, ← h.1 1 (by omega)]
    by_cases q : rngX sd (t + 1) / 65536 % 8 < V 1
    · have hc := could_c h hG q (seedG R sd t) (seedG R sd t) t
      by_cases z : could V (rngX sd (t + 1) / 65536 % 8) (seedG R sd t) (seedG R sd t) t
      · rw [if_pos ⟨q, z⟩, if_pos ⟨q, hc.mp z⟩]
      · rw [if_neg (fun y => z y.2), if_neg (fun y => z (hc.mpr y.2))]
    · rw [if_neg (fun y => q y.1), if_neg (fun y => q y.1)]
theorem an_easters {V R X : Nat → Nat} (h : eqL V R) (hG : vG V) (hR : vG R) (sd t : Nat) : pc8 (V 20 ||| seedG V sd t) = pc8 (eaH (cpyR X R 60) sd t 20) := by
  rw [(ea_hd hR (fun j hj => cpyR_at (X := X) hj) sd t).2.2.1, seed_c h hG, h.2.1]
end SRC
