section SI
variable {p : Program} {l : Launch} {e : Env} {R : Room} {s : State} {m : MethodId} {args : Array Value} {below : List Frame} {meth : Method} {c : Code} {H : Heap} {locs : List Loc} {cells slots : Nat} {Q : State → Prop} {Γ : Gam} {n : Nat}
/-- a loop that writes: the world moves with the state -/
theorem nr_lpI {σ : Type} (pc : Nat) (Gf : σ → Nat → va_E) (I : σ → List (Nat × Value) → Prop) (μ : σ → Nat) {nL : Nat} {ls : Array Slot} {lv : List (Nat × Value)} {A : Nat → Prop} {H0 : Heap} (x : σ) (h1 : hw Γ n (Gf x) s H) (h2 : va_S A H0 H locs) (hl : lv_has ls nL lv) (h0 : I x lv)
    (step : ∀ (x : σ) (lv : List (Nat × Value)) (ls : Array Slot) (H : Heap) (locs : List Loc), hw Γ n (Gf x) s H → va_S A H0 H locs → lv_has ls nL lv → I x lv → (∀ (y : σ) (lv' : List (Nat × Value)) (ls' : Array Slot) (H' : Heap) (locs' : List Loc), hw Γ n (Gf y) s H' → va_S A H0 H' locs' → lv_has ls' nL lv' → I y lv' → μ y < μ x → W p l e R s m args below meth c H' locs' cells slots Q (F0 m pc ls' [])) → W p l e R s m args below meth c H locs cells slots Q (F0 m pc ls [])) : W p l e R s m args below meth c H locs cells slots Q (F0 m pc ls []) := by
  have key : ∀ (N : Nat) (x : σ) (lv : List (Nat × Value)) (ls : Array Slot) (H : Heap) (locs : List Loc), μ x < N → hw Γ n (Gf x) s H → va_S A H0 H locs → lv_has ls nL lv → I x lv → W p l e R s m args below meth c H locs cells slots Q (F0 m pc ls []) := by
    intro N
    induction N with
    | zero => intro x lv ls H locs hm; exact absurd hm (Nat.not_lt_zero _)
    | succ N ih => exact fun x lv ls H locs hm a b hl hI => step x lv ls H locs a b hl hI (fun y lv' ls' H' locs' g1 g2 g3 g4 g5 => ih y lv' ls' H' locs' (by omega) g1 g2 g3 g4)
  exact key (μ x + 1) x lv ls H locs (Nat.lt_succ_self _) h1 h2 hl h0
end SI
section SI2
variable {p : Program} {l : Launch} {e : Env} {R : Room} {s : State} {m : MethodId} {args : Array Value} {below : List Frame} {meth : Method} {c : Code} {H : Heap} {locs : List Loc} {cells slots : Nat} {Q : State → Prop}
variable {cc : ByteArray} {pc : Nat} {ls : Array Slot} {rest : List Value} {Γ : Gam} {n : Nat} {G : Nat → va_E}
abbrev za (Γ : Gam) (len : Nat) (V : Nat → Nat) : va_E := .inl (Γ.2.1.2.2.1, len, .inl (fun j => nI (V j)))
abbrev ba (Γ : Gam) (len : Nat) (V : Nat → Nat) : va_E := .inl (Γ.2.1.2.1, len, .inl (fun j => nI (V j)))
theorem nr_zald (hx : p.tables.exec = Jvm.exec) (hb : c.code = cc) (h : hw Γ n G s H) {i : Nat} (hi : i < n) {len : Nat} {V : Nat → Nat} (hG : G i = za Γ len V) {k x : Nat} (hV : V k = x) (hk : k < len) (hl : len < 2147483648) (hdg : decode cc pc = .ok (.baload, 1)) (kk : W p l e R s m args below meth c H locs cells slots Q (F0 m (pc + 1) ls (.int (nI x) :: rest))) : W p l e R s m args below meth c H locs cells slots Q (F0 m pc ls (.int (nI k) :: .ref (ad Γ i) :: rest)) :=
  va_zald hx hb h.2.1 h.1 i 2 (f := fun j => nI (V j)) (by rw [wld_at Γ _ hi, hG]) rfl (vp_in_nI hk hl) hdg (by rw [nI_clamp (n := k) (by omega)]; show W p l e R s m args below meth c H locs cells slots Q (F0 m (pc + 1) ls (.int (nI (V k)) :: rest)); rw [hV]; exact kk)
theorem nr_nz {v : Nat} (h : v < 2) : vp_nar .boolean (nI v) = nI v := by
  rcases (show v = 0 ∨ v = 1 by omega) with rfl | rfl <;> rfl
theorem nr_zast (hx : p.tables.exec = Jvm.exec) (hb : c.code = cc) (h : hw Γ n G s H) (hj : winj Γ n) {A : Nat → Prop} {H0 : Heap} (hA : ∀ q, wA Γ n q → A q) (hS : va_S A H0 H locs) {i : Nat} (hi : i < n) {len : Nat} {V : Nat → Nat} (hG : G i = za Γ len V) {k v : Nat} (hk : k < len) (hl : len < 2147483648) (hv : v < 2) (hdg : decode cc pc = .ok (.bastore, 1))
    (kk : ∀ (H1 : Heap) (locs1 : List Loc), hw Γ n (va_up G i (za Γ len (va_up V k v))) s H1 → va_S A H0 H1 locs1 → W p l e R s m args below meth c H1 locs1 cells slots Q (F0 m (pc + 1) ls rest)) : W p l e R s m args below meth c H locs cells slots Q (F0 m pc ls (.int (nI v) :: .int (nI k) :: .ref (ad Γ i) :: rest)) :=
  va_zast hx hb h.2.1 h.1 ((wld_D (G := G) hj).weaken (fun _ q _ hq => hA q.1 hq)) hS i 2 (f := fun j => nI (V j)) (by rw [wld_at Γ _ hi, hG]) rfl (vp_in_nI hk hl) hdg (fun H1 locs1 hP1 _ hS1 => kk H1 locs1 ⟨by
    rw [wld_set Γ G _ hi, nI_clamp (n := k) (by omega), nr_nz hv, nr_upd] at hP1
    exact hP1, h.2⟩ hS1)
theorem A_id {Γ : Gam} {G : Nat → va_E} {ra len : Nat} {X : Nat → Nat} (hC : G ra = na Γ len X) : va_up G ra (na Γ len X) = G := by
  funext j
  by_cases h : j = ra
  · subst h; rw [va_up_self, hC]
  · rw [va_up_ne _ _ h]
theorem hw_A {ra len : Nat} {X : Nat → Nat} (hC : G ra = na Γ len X) (h : hw Γ n G s H) : hw Γ n (va_up G ra (na Γ len X)) s H := by rw [A_id hC]; exact h
end SI2
section SJ
/-- outside the places a .. b - 1 nothing has changed -/
def fr (G G' : Nat → va_E) (a b : Nat) : Prop := ∀ i, i < a ∨ b ≤ i → G' i = G i
theorem fr_rf (G : Nat → va_E) (a b : Nat) : fr G G a b := fun _ _ => rfl
theorem fr_up {G G' : Nat → va_E} {a b i : Nat} (h : fr G G' a b) (h1 : a ≤ i) (h2 : i < b) (e : va_E) : fr G (va_up G' i e) a b := fun j hj => by
  rw [va_up_ne _ _ (by omega)]
  exact h j hj
theorem fr_tr {G G' G2 : Nat → va_E} {a b a2 b2 : Nat} (h : fr G G' a b) (h2 : fr G' G2 a2 b2) (ha : a ≤ a2) (hb : b2 ≤ b) : fr G G2 a b := fun j hj => (h2 j (by omega)).trans (h j hj)
/-- the reference: its object and twelve rows, at the places mo .. mo + 12; iv: bytesLong, tokenAt, tokenLong, token, value, above, below -/
def isM (Γ : Gam) (G : Nat → va_E) (mo : Nat) (R K kp rf ca rc hd fw tl by0 an vl iv : Nat → Nat) : Prop :=
  G (mo + 0) = .inr (9, [.ref (ad Γ (mo + 1)), .ref (ad Γ (mo + 2)), .ref (ad Γ (mo + 3)), .ref (ad Γ (mo + 4)), .long (lN (iv 5)), .long (lN (iv 6)), .ref (ad Γ (mo + 5)), .ref (ad Γ (mo + 6)), .ref (ad Γ (mo + 7)), .ref (ad Γ (mo + 8)), .ref (ad Γ (mo + 9)), .ref (ad Γ (mo + 10)), .int (nI (iv 0)), .int (nI (iv 1)), .int (nI (iv 2)), .int (nI (iv 3)), .int (nI (iv 4)), .ref (ad Γ (mo + 11)), .ref (ad Γ (mo + 12))]) ∧ G (mo + 1) = na Γ 256 R ∧ G (mo + 2) = na Γ 512 K ∧ G (mo + 3) = za Γ 2 kp ∧ G (mo + 4) = na Γ 3 rf ∧ G (mo + 5) = na Γ 256 ca ∧ G (mo + 6) = za Γ 256 rc ∧ G (mo + 7) = na Γ 60 hd ∧ G (mo + 8) = na Γ 256 fw ∧ G (mo + 9) = na Γ 6 tl ∧ G (mo + 10) = na Γ 150 by0 ∧ G (mo + 11) = na Γ 128 an ∧ G (mo + 12) = na Γ 4 vl
theorem isM_0 {Γ : Gam} {G : Nat → va_E} {mo : Nat} {R K kp rf ca rc hd fw tl by0 an vl iv : Nat → Nat} (h : isM Γ G mo R K kp rf ca rc hd fw tl by0 an vl iv) : G (mo + 0) = .inr (9, [.ref (ad Γ (mo + 1)), .ref (ad Γ (mo + 2)), .ref (ad Γ (mo + 3)), .ref (ad Γ (mo + 4)), .long (lN (iv 5)), .long (lN (iv 6)), .ref (ad Γ (mo + 5)), .ref (ad Γ (mo + 6)), .ref (ad Γ (mo + 7)), .ref (ad Γ (mo + 8)), .ref (ad Γ (mo + 9)), .ref (ad Γ (mo + 10)), .int (nI (iv 0)), .int (nI (iv 1)), .int (nI (iv 2)), .int (nI (iv 3)), .int (nI (iv 4)), .ref (ad Γ (mo + 11)), .ref (ad Γ (mo + 12))]) := h.1
theorem isM_1 {Γ : Gam} {G : Nat → va_E} {mo : Nat} {R K kp rf ca rc hd fw tl by0 an vl iv : Nat → Nat} (h : isM Γ G mo R K kp rf ca rc hd fw tl by0 an vl iv) : G (mo + 1) = na Γ 256 R := h.2.1
theorem isM_2 {Γ : Gam} {G : Nat → va_E} {mo : Nat} {R K kp rf ca rc hd fw tl by0 an vl iv : Nat → Nat} (h : isM Γ G mo R K kp rf ca rc hd fw tl by0 an vl iv) : G (mo + 2) = na Γ 512 K := h.2.2.1
theorem isM_3 {Γ : Gam} {G : Nat → va_E} {mo : Nat} {R K kp rf ca rc hd fw tl by0 an vl iv : Nat → Nat} (h : isM Γ G mo R K kp rf ca rc hd fw tl by0 an vl iv) : G (mo + 3) = za Γ 2 kp := h.2.2.2.1
theorem isM_4 {Γ : Gam} {G : Nat → va_E} {mo : Nat} {R K kp rf ca rc hd fw tl by0 an vl iv : Nat → Nat} (h : isM Γ G mo R K kp rf ca rc hd fw tl by0 an vl iv) : G (mo + 4) = na Γ 3 rf := h.2.2.2.2.1
theorem isM_5 {Γ : Gam} {G : Nat → va_E} {mo : Nat} {R K kp rf ca rc hd fw tl by0 an vl iv : Nat → Nat} (h : isM Γ G mo R K kp rf ca rc hd fw tl by0 an vl iv) : G (mo + 5) = na Γ 256 ca := h.2.2.2.2.2.1
theorem isM_6 {Γ : Gam} {G : Nat → va_E} {mo : Nat} {R K kp rf ca rc hd fw tl by0 an vl iv : Nat → Nat} (h : isM Γ G mo R K kp rf ca rc hd fw tl by0 an vl iv) : G (mo + 6) = za Γ 256 rc := h.2.2.2.2.2.2.1
theorem isM_7 {Γ : Gam} {G : Nat → va_E} {mo : Nat} {R K kp rf ca rc hd fw tl by0 an vl iv : Nat → Nat} (h : isM Γ G mo R K kp rf ca rc hd fw tl by0 an vl iv) : G (mo + 7) = na Γ 60 hd := h.2.2.2.2.2.2.2.1
theorem isM_8 {Γ : Gam} {G : Nat → va_E} {mo : Nat} {R K kp rf ca rc hd fw tl by0 an vl iv : Nat → Nat} (h : isM Γ G mo R K kp rf ca rc hd fw tl by0 an vl iv) : G (mo + 8) = na Γ 256 fw := h.2.2.2.2.2.2.2.2.1
theorem isM_9 {Γ : Gam} {G : Nat → va_E} {mo : Nat} {R K kp rf ca rc hd fw tl by0 an vl iv : Nat → Nat} (h : isM Γ G mo R K kp rf ca rc hd fw tl by0 an vl iv) : G (mo + 9) = na Γ 6 tl := h.2.2.2.2.2.2.2.2.2.1
theorem isM_10 {Γ : Gam} {G : Nat → va_E} {mo : Nat} {R K kp rf ca rc hd fw tl by0 an vl iv : Nat → Nat} (h : isM Γ G mo R K kp rf ca rc hd fw tl by0 an vl iv) : G (mo + 10) = na Γ 150 by0 := h.2.2.2.2.2.2.2.2.2.2.1
theorem isM_11 {Γ : Gam} {G : Nat → va_E} {mo : Nat} {R K kp rf ca rc hd fw tl by0 an vl iv : Nat → Nat} (h : isM Γ G mo R K kp rf ca rc hd fw tl by0 an vl iv) : G (mo + 11) = na Γ 128 an := h.2.2.2.2.2.2.2.2.2.2.2.1
theorem isM_12 {Γ : Gam} {G : Nat → va_E} {mo : Nat} {R K kp rf ca rc hd fw tl by0 an vl iv : Nat → Nat} (h : isM Γ G mo R K kp rf ca rc hd fw tl by0 an vl iv) : G (mo + 12) = na Γ 4 vl := h.2.2.2.2.2.2.2.2.2.2.2.2
theorem isM_s1 {Γ : Gam} {G : Nat → va_E} {mo : Nat} {R K kp rf ca rc hd fw tl by0 an vl iv : Nat → Nat} (h : isM Γ G mo R K kp rf ca rc hd fw tl by0 an vl iv) (X : Nat → Nat) : isM Γ (va_up G (mo + 1) (na Γ 256 X)) mo X K kp rf ca rc hd fw tl by0 an vl iv := ⟨(va_up_ne _ _ (by omega)).trans (isM_0 h), va_up_self _ _ _, (va_up_ne _ _ (by omega)).trans (isM_2 h), (va_up_ne _ _ (by omega)).trans (isM_3 h), (va_up_ne _ _ (by omega)).trans (isM_4 h), (va_up_ne _ _ (by omega)).trans (isM_5 h), (va_up_ne _ _ (by omega)).trans (isM_6 h), (va_up_ne _ _ (by omega)).trans (isM_7 h), (va_up_ne _ _ (by omega)).trans (isM_8 h), (va_up_ne _ _ (by omega)).trans (isM_9 h), (va_up_ne _ _ (by omega)).trans (isM_10 h), (va_up_ne _ _ (by omega)).trans (isM_11 h), (va_up_ne _ _ (by omega)).trans (isM_12 h)⟩
theorem isM_s2 {Γ : Gam} {G : Nat → va_E} {mo : Nat} {R K kp rf ca rc hd fw tl by0 an vl iv : Nat → Nat} (h : isM Γ G mo R K kp rf ca rc hd fw tl by0 an vl iv) (X : Nat → Nat) : isM Γ (va_up G (mo + 2) (na Γ 512 X)) mo R X kp rf ca rc hd fw tl by0 an vl iv := ⟨(va_up_ne _ _ (by omega)).trans (isM_0 h), (va_up_ne _ _ (by omega)).trans (isM_1 h), va_up_self _ _ _, (va_up_ne _ _ (by omega)).trans (isM_3 h), (va_up_ne _ _ (by omega)).trans (isM_4 h), (va_up_ne _ _ (by omega)).trans (isM_5 h), (va_up_ne _ _ (by omega)).trans (isM_6 h), (va_up_ne _ _ (by omega)).trans (isM_7 h), (va_up_ne _ _ (by omega)).trans (isM_8 h), (va_up_ne _ _ (by omega)).trans (isM_9 h), (va_up_ne _ _ (by omega)).trans (isM_10 h), (va_up_ne _ _ (by omega)).trans (isM_11 h), (va_up_ne _ _ (by omega)).trans (isM_12 h)⟩
theorem isM_s3 {Γ : Gam} {G : Nat → va_E} {mo : Nat} {R K kp rf ca rc hd fw tl by0 an vl iv : Nat → Nat} (h : isM Γ G mo R K kp rf ca rc hd fw tl by0 an vl iv) (X : Nat → Nat) : isM Γ (va_up G (mo + 3) (za Γ 2 X)) mo R K X rf ca rc hd fw tl by0 an vl iv := ⟨(va_up_ne _ _ (by omega)).trans (isM_0 h), (va_up_ne _ _ (by omega)).trans (isM_1 h), (va_up_ne _ _ (by omega)).trans (isM_2 h), va_up_self _ _ _, (va_up_ne _ _ (by omega)).trans (isM_4 h), (va_up_ne _ _ (by omega)).trans (isM_5 h), (va_up_ne _ _ (by omega)).trans (isM_6 h), (va_up_ne _ _ (by omega)).trans (isM_7 h), (va_up_ne _ _ (by omega)).trans (isM_8 h), (va_up_ne _ _ (by omega)).trans (isM_9 h), (va_up_ne _ _ (by omega)).trans (isM_10 h), (va_up_ne _ _ (by omega)).trans (isM_11 h), (va_up_ne _ _ (by omega)).trans (isM_12 h)⟩
theorem isM_s4 {Γ : Gam} {G : Nat → va_E} {mo : Nat} {R K kp rf ca rc hd fw tl by0 an vl iv : Nat → Nat} (h : isM Γ G mo R K kp rf ca rc hd fw tl by0 an vl iv) (X : Nat → Nat) : isM Γ (va_up G (mo + 4) (na Γ 3 X)) mo R K kp X ca rc hd fw tl by0 an vl iv := ⟨(va_up_ne _ _ (by omega)).trans (isM_0 h), (va_up_ne _ _ (by omega)).trans (isM_1 h), (va_up_ne _ _ (by omega)).trans (isM_2 h), (va_up_ne _ _ (by omega)).trans (isM_3 h), va_up_self _ _ _, (va_up_ne _ _ (by omega)).trans (isM_5 h), (va_up_ne _ _ (by omega)).trans (isM_6 h), (va_up_ne _ _ (by omega)).trans (isM_7 h), (va_up_ne _ _ (by omega)).trans (isM_8 h), (va_up_ne _ _ (by omega)).trans (isM_9 h), (va_up_ne _ _ (by omega)).trans (isM_10 h), (va_up_ne _ _ (by omega)).trans (isM_11 h), (va_up_ne _ _ (by omega)).trans (isM_12 h)⟩
theorem isM_s5 {Γ : Gam} {G : Nat → va_E} {mo : Nat} {R K kp rf ca rc hd fw tl by0 an vl iv : Nat → Nat} (h : isM Γ G mo R K kp rf ca rc hd fw tl by0 an vl iv) (X : Nat → Nat) : isM Γ (va_up G (mo + 5) (na Γ 256 X)) mo R K kp rf X rc hd fw tl by0 an vl iv := ⟨(va_up_ne _ _ (by omega)).trans (isM_0 h), (va_up_ne _ _ (by omega)).trans (isM_1 h), (va_up_ne _ _ (by omega)).trans (isM_2 h), (va_up_ne _ _ (by omega)).trans (isM_3 h), (va_up_ne _ _ (by omega)).trans (isM_4 h), va_up_self _ _ _, (va_up_ne _ _ (by omega)).trans (isM_6 h), (va_up_ne _ _ (by omega)).trans (isM_7 h), (va_up_ne _ _ (by omega)).trans (isM_8 h), (va_up_ne _ _ (by omega)).trans (isM_9 h), (va_up_ne _ _ (by omega)).trans (isM_10 h), (va_up_ne _ _ (by omega)).trans (isM_11 h), (va_up_ne _ _ (by omega)).trans (isM_12 h)⟩
theorem isM_s6 {Γ : Gam} {G : Nat → va_E} {mo : Nat} {R K kp rf ca rc hd fw tl by0 an vl iv : Nat → Nat} (h : isM Γ G mo R K kp rf ca rc hd fw tl by0 an vl iv) (X : Nat → Nat) : isM Γ (va_up G (mo + 6) (za Γ 256 X)) mo R K kp rf ca X hd fw tl by0 an vl iv := ⟨(va_up_ne _ _ (by omega)).trans (isM_0 h), (va_up_ne _ _ (by omega)).trans (isM_1 h), (va_up_ne _ _ (by omega)).trans (isM_2 h), (va_up_ne _ _ (by omega)).trans (isM_3 h), (va_up_ne _ _ (by omega)).trans (isM_4 h), (va_up_ne _ _ (by omega)).trans (isM_5 h), va_up_self _ _ _, (va_up_ne _ _ (by omega)).trans (isM_7 h), (va_up_ne _ _ (by omega)).trans (isM_8 h), (va_up_ne _ _ (by omega)).trans (isM_9 h), (va_up_ne _ _ (by omega)).trans (isM_10 h), (va_up_ne _ _ (by omega)).trans (isM_11 h), (va_up_ne _ _ (by omega)).trans (isM_12 h)⟩
theorem isM_s7 {Γ : Gam} {G : Nat → va_E} {mo : Nat} {R K kp rf ca rc hd fw tl by0 an vl iv : Nat → Nat} (h : isM Γ G mo R K kp rf ca rc hd fw tl by0 an vl iv) (X : Nat → Nat) : isM Γ (va_up G (mo + 7) (na Γ 60 X)) mo R K kp rf ca rc X fw tl by0 an vl iv := ⟨(va_up_ne _ _ (by omega)).trans (isM_0 h), (va_up_ne _ _ (by omega)).trans (isM_1 h), (va_up_ne _ _ (by omega)).trans (isM_2 h), (va_up_ne _ _ (by omega)).trans (isM_3 h), (va_up_ne _ _ (by omega)).trans (isM_4 h), (va_up_ne _ _ (by omega)).trans (isM_5 h), (va_up_ne _ _ (by omega)).trans (isM_6 h), va_up_self _ _ _, (va_up_ne _ _ (by omega)).trans (isM_8 h), (va_up_ne _ _ (by omega)).trans (isM_9 h), (va_up_ne _ _ (by omega)).trans (isM_10 h), (va_up_ne _ _ (by omega)).trans (isM_11 h), (va_up_ne _ _ (by omega)).trans (isM_12 h)⟩
theorem isM_s8 {Γ : Gam} {G : Nat → va_E} {mo : Nat} {R K kp rf ca rc hd fw tl by0 an vl iv : Nat → Nat} (h : isM Γ G mo R K kp rf ca rc hd fw tl by0 an vl iv) (X : Nat → Nat) : isM Γ (va_up G (mo + 8) (na Γ 256 X)) mo R K kp rf ca rc hd X tl by0 an vl iv := ⟨(va_up_ne _ _ (by omega)).trans (isM_0 h), (va_up_ne _ _ (by omega)).trans (isM_1 h), (va_up_ne _ _ (by omega)).trans (isM_2 h), (va_up_ne _ _ (by omega)).trans (isM_3 h), (va_up_ne _ _ (by omega)).trans (isM_4 h), (va_up_ne _ _ (by omega)).trans (isM_5 h), (va_up_ne _ _ (by omega)).trans (isM_6 h), (va_up_ne _ _ (by omega)).trans (isM_7 h), va_up_self _ _ _, (va_up_ne _ _ (by omega)).trans (isM_9 h), (va_up_ne _ _ (by omega)).trans (isM_10 h), (va_up_ne _ _ (by omega)).trans (isM_11 h), (va_up_ne _ _ (by omega)).trans (isM_12 h)⟩
theorem isM_s9 {Γ : Gam} {G : Nat → va_E} {mo : Nat} {R K kp rf ca rc hd fw tl by0 an vl iv : Nat → Nat} (h : isM Γ G mo R K kp rf ca rc hd fw tl by0 an vl iv) (X : Nat → Nat) : isM Γ (va_up G (mo + 9) (na Γ 6 X)) mo R K kp rf ca rc hd fw X by0 an vl iv := ⟨(va_up_ne _ _ (by omega)).trans (isM_0 h), (va_up_ne _ _ (by omega)).trans (isM_1 h), (va_up_ne _ _ (by omega)).trans (isM_2 h), (va_up_ne _ _ (by omega)).trans (isM_3 h), (va_up_ne _ _ (by omega)).trans (isM_4 h), (va_up_ne _ _ (by omega)).trans (isM_5 h), (va_up_ne _ _ (by omega)).trans (isM_6 h), (va_up_ne _ _ (by omega)).trans (isM_7 h), (va_up_ne _ _ (by omega)).trans (isM_8 h), va_up_self _ _ _, (va_up_ne _ _ (by omega)).trans (isM_10 h), (va_up_ne _ _ (by omega)).trans (isM_11 h), (va_up_ne _ _ (by omega)).trans (isM_12 h)⟩
theorem isM_s10 {Γ : Gam} {G : Nat → va_E} {mo : Nat} {R K kp rf ca rc hd fw tl by0 an vl iv : Nat → Nat} (h : isM Γ G mo R K kp rf ca rc hd fw tl by0 an vl iv) (X : Nat → Nat) : isM Γ (va_up G (mo + 10) (na Γ 150 X)) mo R K kp rf ca rc hd fw tl X an vl iv := ⟨(va_up_ne _ _ (by omega)).trans (isM_0 h), (va_up_ne _ _ (by omega)).trans (isM_1 h), (va_up_ne _ _ (by omega)).trans (isM_2 h), (va_up_ne _ _ (by omega)).trans (isM_3 h), (va_up_ne _ _ (by omega)).trans (isM_4 h), (va_up_ne _ _ (by omega)).trans (isM_5 h), (va_up_ne _ _ (by omega)).trans (isM_6 h), (va_up_ne _ _ (by omega)).trans (isM_7 h), (va_up_ne _ _ (by omega)).trans (isM_8 h), (va_up_ne _ _ (by omega)).trans (isM_9 h), va_up_self _ _ _, (va_up_ne _ _ (by omega)).trans (isM_11 h), (va_up_ne _ _ (by omega)).trans (isM_12 h)⟩
theorem isM_s11 {Γ : Gam} {G : Nat → va_E} {mo : Nat} {R K kp rf ca rc hd fw tl by0 an vl iv : Nat → Nat} (h : isM Γ G mo R K kp rf ca rc hd fw tl by0 an vl iv) (X : Nat → Nat) : isM Γ (va_up G (mo + 11) (na Γ 128 X)) mo R K kp rf ca rc hd fw tl by0 X vl iv := ⟨(va_up_ne _ _ (by omega)).trans (isM_0 h), (va_up_ne _ _ (by omega)).trans (isM_1 h), (va_up_ne _ _ (by omega)).trans (isM_2 h), (va_up_ne _ _ (by omega)).trans (isM_3 h), (va_up_ne _ _ (by omega)).trans (isM_4 h), (va_up_ne _ _ (by omega)).trans (isM_5 h), (va_up_ne _ _ (by omega)).trans (isM_6 h), (va_up_ne _ _ (by omega)).trans (isM_7 h), (va_up_ne _ _ (by omega)).trans (isM_8 h), (va_up_ne _ _ (by omega)).trans (isM_9 h), (va_up_ne _ _ (by omega)).trans (isM_10 h), va_up_self _ _ _, (va_up_ne _ _ (by omega)).trans (isM_12 h)⟩
theorem isM_s12 {Γ : Gam} {G : Nat → va_E} {mo : Nat} {R K kp rf ca rc hd fw tl by0 an vl iv : Nat → Nat} (h : isM Γ G mo R K kp rf ca rc hd fw tl by0 an vl iv) (X : Nat → Nat) : isM Γ (va_up G (mo + 12) (na Γ 4 X)) mo R K kp rf ca rc hd fw tl by0 an X iv := ⟨(va_up_ne _ _ (by omega)).trans (isM_0 h), (va_up_ne _ _ (by omega)).trans (isM_1 h), (va_up_ne _ _ (by omega)).trans (isM_2 h), (va_up_ne _ _ (by omega)).trans (isM_3 h), (va_up_ne _ _ (by omega)).trans (isM_4 h), (va_up_ne _ _ (by omega)).trans (isM_5 h), (va_up_ne _ _ (by omega)).trans (isM_6 h), (va_up_ne _ _ (by omega)).trans (isM_7 h), (va_up_ne _ _ (by omega)).trans (isM_8 h), (va_up_ne _ _ (by omega)).trans (isM_9 h), (va_up_ne _ _ (by omega)).trans (isM_10 h), (va_up_ne _ _ (by omega)).trans (isM_11 h), va_up_self _ _ _⟩
theorem isM_s0 {Γ : Gam} {G : Nat → va_E} {mo : Nat} {R K kp rf ca rc hd fw tl by0 an vl iv : Nat → Nat} (h : isM Γ G mo R K kp rf ca rc hd fw tl by0 an vl iv) (X : Nat → Nat) : isM Γ (va_up G (mo + 0) (.inr (9, [.ref (ad Γ (mo + 1)), .ref (ad Γ (mo + 2)), .ref (ad Γ (mo + 3)), .ref (ad Γ (mo + 4)), .long (lN (X 5)), .long (lN (X 6)), .ref (ad Γ (mo + 5)), .ref (ad Γ (mo + 6)), .ref (ad Γ (mo + 7)), .ref (ad Γ (mo + 8)), .ref (ad Γ (mo + 9)), .ref (ad Γ (mo + 10)), .int (nI (X 0)), .int (nI (X 1)), .int (nI (X 2)), .int (nI (X 3)), .int (nI (X 4)), .ref (ad Γ (mo + 11)), .ref (ad Γ (mo + 12))]))) mo R K kp rf ca rc hd fw tl by0 an vl X := ⟨va_up_self _ _ _, (va_up_ne _ _ (by omega)).trans (isM_1 h), (va_up_ne _ _ (by omega)).trans (isM_2 h), (va_up_ne _ _ (by omega)).trans (isM_3 h), (va_up_ne _ _ (by omega)).trans (isM_4 h), (va_up_ne _ _ (by omega)).trans (isM_5 h), (va_up_ne _ _ (by omega)).trans (isM_6 h), (va_up_ne _ _ (by omega)).trans (isM_7 h), (va_up_ne _ _ (by omega)).trans (isM_8 h), (va_up_ne _ _ (by omega)).trans (isM_9 h), (va_up_ne _ _ (by omega)).trans (isM_10 h), (va_up_ne _ _ (by omega)).trans (isM_11 h), (va_up_ne _ _ (by omega)).trans (isM_12 h)⟩
theorem isM_fr {Γ : Gam} {G : Nat → va_E} {mo : Nat} {R K kp rf ca rc hd fw tl by0 an vl iv : Nat → Nat} (h : isM Γ G mo R K kp rf ca rc hd fw tl by0 an vl iv) {G2 : Nat → va_E} {a b : Nat} (hf : fr G G2 a b) (hdis : mo + 13 ≤ a ∨ b ≤ mo) : isM Γ G2 mo R K kp rf ca rc hd fw tl by0 an vl iv := ⟨(hf _ (by omega)).trans (isM_0 h), (hf _ (by omega)).trans (isM_1 h), (hf _ (by omega)).trans (isM_2 h), (hf _ (by omega)).trans (isM_3 h), (hf _ (by omega)).trans (isM_4 h), (hf _ (by omega)).trans (isM_5 h), (hf _ (by omega)).trans (isM_6 h), (hf _ (by omega)).trans (isM_7 h), (hf _ (by omega)).trans (isM_8 h), (hf _ (by omega)).trans (isM_9 h), (hf _ (by omega)).trans (isM_10 h), (hf _ (by omega)).trans (isM_11 h), (hf _ (by omega)).trans (isM_12 h)⟩
end SJ
section SK
def zeroR (R : Nat → Nat) (m : Nat) : Nat → Nat := fun j => if j < m then 0 else R j
theorem zeroR_0 (R : Nat → Nat) : R = zeroR R 0 := by
  funext j; simp [zeroR]
theorem zeroR_s (R : Nat → Nat) (k : Nat) : va_up (zeroR R k) k 0 = zeroR R (k + 1) := by
  funext j
  by_cases h : j = k
  · subst h; rw [va_up_self]; simp [zeroR]
  · rw [va_up_ne _ _ h]
    by_cases h2 : j < k
    · simp [zeroR, h2, Nat.lt_succ_of_lt h2]
    · have : ¬ j < k + 1 := by omega
      simp [zeroR, h2, this]
def layR (R : Nat → Nat) (kind a b g : Nat) : Nat → Nat := va_up (va_up (va_up (va_up (va_up (va_up R (28 + R 1) kind) (36 + R 1) a) (44 + R 1) b) (52 + R 1) g) (12 + R 1) 0) 1 (R 1 + 1)
def offR (R : Nat → Nat) (k sn : Nat) : Nat → Nat := va_up (va_up R 20 (R 20 ||| 2 ^ k)) (6 + R (36 + k)) (R (6 + R (36 + k)) + (if sn = 1 ∧ R (6 + R (36 + k)) < 99 then 1 else 0))
def agesR (R : Nat → Nat) (k : Nat) : Nat → Nat := fun j => if (12 ≤ j ∧ j < 12 + k) ∧ ¬ bt (R 20) (j - 12) ∧ R j < 99 then R j + 1 else R j
theorem agesR_0 (R : Nat → Nat) : R = agesR R 0 := by
  funext j; unfold agesR; rw [if_neg (by omega)]
theorem agesR_y {R : Nat → Nat} {k : Nat} (h : ¬ bt (R 20) k ∧ R (12 + k) < 99) : va_up (agesR R k) (12 + k) (R (12 + k) + 1) = agesR R (k + 1) := by
  funext j
  by_cases q : j = 12 + k
  · subst q; rw [va_up_self]; unfold agesR; rw [if_pos ⟨by omega, by rw [Nat.add_sub_cancel_left]; exact h⟩]
  · rw [va_up_ne _ _ q]; unfold agesR
    by_cases h2 : j < 12 + k
    · simp only [h2, show j < 12 + (k + 1) by omega]
    · rw [if_neg (by omega), if_neg (by omega)]
theorem agesR_n {R : Nat → Nat} {k : Nat} (h : ¬ (¬ bt (R 20) k ∧ R (12 + k) < 99)) : va_up (agesR R k) (12 + k) (R (12 + k) + 0) = agesR R (k + 1) := by
  funext j
  by_cases q : j = 12 + k
  · subst q; rw [va_up_self]; unfold agesR; rw [if_neg (fun hh => h (by have := hh.2; rwa [Nat.add_sub_cancel_left] at this))]; rfl
  · rw [va_up_ne _ _ q]; unfold agesR
    by_cases h2 : j < 12 + k
    · simp only [h2, show j < 12 + (k + 1) by omega]
    · rw [if_neg (by omega), if_neg (by omega)]
def dayR (R : Nat → Nat) : Nat → Nat := va_up (agesR R (R 1)) 21 (R 21 + 1)
theorem agesR_out {R : Nat → Nat} {k j : Nat} (h : j < 12 ∨ 12 + k ≤ j) : agesR R k j = R j := by
  unfold agesR; rw [if_neg (by omega)]
theorem agesR_le {R : Nat → Nat} {c : Nat} (hc : 99 ≤ c) (h : ∀ j, R j ≤ c) (k j : Nat) : agesR R k j ≤ c := by
  have := h j
  unfold agesR; split <;> omega
theorem aI_day {R : Nat → Nat} (h : aI R) (hd : R 21 < 1999) : aI (dayR R) := by
  obtain ⟨h1, h2, h3, h4, h5, h6⟩ := h
  have e : ∀ j, (j < 12 ∨ 20 ≤ j) → j ≠ 21 → dayR R j = R j := fun j a b => by
    unfold dayR; rw [va_up_ne _ _ b, agesR_out (by omega)]
  refine ⟨fun j => ?_, by rw [e 0 (by omega) (by omega)]; exact h2, by rw [e 1 (by omega) (by omega)]; exact h3, fun j hj => by rw [e _ (by omega) (by omega)]; exact h4 j hj, fun j hj => by rw [e _ (by omega) (by omega)]; exact h5 j hj, by rw [e 20 (by omega) (by omega)]; exact h6⟩
  unfold dayR
  by_cases q : j = 21
  · subst q; rw [va_up_self]; omega
  · rw [va_up_ne _ _ q]; exact agesR_le (by omega) h1 _ _
theorem dayR_21 (R : Nat → Nat) : dayR R 21 = R 21 + 1 := va_up_self _ _ _
def itD (R : Nat → Nat) : Nat → Nat → Nat
  | 0 => R
  | m + 1 => dayR (itD R m)
theorem itD_21 (R : Nat → Nat) : ∀ m, itD R m 21 = R 21 + m
  | 0 => rfl
  | m + 1 => by show dayR (itD R m) 21 = _; rw [dayR_21, itD_21 R m]; omega
theorem aI_it {R : Nat → Nat} (h : aI R) : ∀ m, R 21 + m ≤ 1999 → aI (itD R m)
  | 0, _ => h
  | m + 1, hm => aI_day (aI_it h m (by omega)) (by rw [itD_21]; omega)
end SK
set_option maxHeartbeats 4000000 in
set_option maxRecDepth 100000 in
theorem c_X12_begin (l : Launch) (Γ : Gam) (n : Nat) (G : Nat → va_E) (ra len : Nat) (R : Nat → Nat) (hC : G ra = na Γ len R) (hra : ra < n) (hlen : 60 ≤ len) (hlen2 : len < 2147483648) (hI : aI R) (hj : winj Γ n) (h128 : 128 ≤ len)  : Met l yX12_begin wsX12_begin ({ frames := 0, cells := 0, slots := 0, locals := 0 }) (va_Pc [.ref (ad Γ ra)] (fun U => hw Γ n G U U.heap)) (wQv Γ n (fun G2 => G2 = va_up G ra (na Γ len (zeroR R 128)))) 0 0 (wA Γ n) := by
  refine Met.ofW (cc := cX12_begin) (maxL := 2) (ret := none) (by decide) rfl ?_
  intro p e s m args below meth c s₁ B hml hv
  obtain ⟨rfl, hw⟩ := hv
  have hx := B.exec
  have hb := B.bytes
  have hr := B.returns
  have hts := atoms_spec (ws := wsX12_begin) B.pre
  have hown : s.vm.findClass RX12 = some m.cls := findClass_of_methodNamed B.named
  have hlocks := B.notSynchronized
  have hS : va_S (wA Γ n) s.heap s.heap [] := va_S.rf
  have hA : ∀ q, wA Γ n q → wA Γ n q := fun _ h => h
  have hl := lv_entry ([.ref (ad Γ ra)]) (n := 2) (Nat.le_of_ble_eq_true rfl)
  rw [lg_entry_eq]
  generalize (lg_sl ([.ref (ad Γ ra)]) ++ List.replicate (2 - (lg_sl ([.ref (ad Γ ra)])).length) Slot.unset).toArray = ls at hl ⊢
  have hl : lv_has ls 2 [(0, .ref (ad Γ ra))] := hl
  have hB := hI.1
  have hB0 := hI.2.1
  have hB1 := hI.2.2.1
  have hby := hI.2.2.2.1
  have hto := hI.2.2.2.2.1
  have hB20 := hI.2.2.2.2.2
  refine lv_iconst (v := nI 0) hx hb dX12_begin_0 (by decide) ?_
  refine lv_istore_n (lv' := [(1, .int (nI 0)), (0, .ref (ad Γ ra))]) hx hb dX12_begin_1 rfl hl (by decide) rfl (fun ls hl => ?_)
  refine nr_lpI (σ := Nat × (Nat → Nat)) 2 (fun x => va_up G ra (na Γ len x.2)) (fun x lv => lv = [(0, .ref (ad Γ ra)), (1, .int (nI x.1))] ∧ (x.1 ≤ 128) ∧ (x.2 = zeroR R x.1)) (fun x => 128 - x.1) (0, R) (hw_A hC hw) hS (lv_sub hl [1, 0] rfl) ⟨rfl, by (try dsimp only); omega, zeroR_0 R⟩ ?_
  intro x lv ls H locs hw hS hl hI ih2
  obtain ⟨k, RL2⟩ := x
  obtain ⟨rfl, hk, hR2⟩ := hI
  try dsimp only at hk hR2 hw hl ih2
  refine lv_iload_n hx hb dX12_begin_2 rfl (lv_at hl 1 rfl) ?_
  refine lv_sipush (v := nI 128) hx hb dX12_begin_3 (by decide) ?_
  refine nr_icmp_ge (tgt := 19) hx hb (by omega) (by decide) dX12_begin_6 (by decide) (fun c1 => ?_) (fun c1 => ?_)
  · exact nr_retV hx hb hr hlocks hw hS (by rw [hR2, show k = 128 by omega]) dX12_begin_19
  · refine lv_aload_n hx hb dX12_begin_9 rfl (lv_at hl 0 rfl) ?_
    refine lv_iload_n hx hb dX12_begin_10 rfl (lv_at hl 1 rfl) ?_
    refine lv_iconst (v := nI 0) hx hb dX12_begin_11 (by decide) ?_
    refine nr_iast (k := k) (v := 0) hx hb hw hj hA hS (by omega) (va_up_self _ _ _) (by omega) (by omega) dX12_begin_12 (fun H locs hw hS => ?_)
    rw [bx_uu] at hw
    refine nr_inc (d := 1) (k := 1) (lv' := [(1, .int (nI (k + 1))), (0, .ref (ad Γ ra))]) hx hb dX12_begin_13 hl rfl (by decide) (by decide) rfl (fun ls hl => ?_)
    refine lv_goto (tgt := 2) hx hb dX12_begin_16 (by decide) ?_
    exact ih2 (k + 1, va_up RL2 k 0) _ _ _ _ hw hS (lv_sub hl [1, 0] rfl) ⟨rfl, by (try dsimp only); omega, by rw [hR2]; exact zeroR_s R k⟩ (by (try dsimp only); omega)
set_option maxHeartbeats 4000000 in
set_option maxRecDepth 100000 in
theorem c_X12_layWrong (l : Launch) (Γ : Gam) (n : Nat) (G : Nat → va_E) (ra len : Nat) (R : Nat → Nat) (hC : G ra = na Γ len R) (hra : ra < n) (hlen : 60 ≤ len) (hlen2 : len < 2147483648) (hI : aI R) (hj : winj Γ n) (kind a b g : Nat) (h8 : R 1 < 8)  : Met l yX12_layWrong wsX12_layWrong ({ frames := 0, cells := 0, slots := 0, locals := 0 }) (va_Pc [.ref (ad Γ ra), .int (nI kind), .int (nI a), .int (nI b), .int (nI g)] (fun U => hw Γ n G U U.heap)) (wQv Γ n (fun G2 => G2 = va_up G ra (na Γ len (layR R kind a b g)))) 0 0 (wA Γ n) := by
  refine Met.ofW (cc := cX12_layWrong) (maxL := 6) (ret := none) (by decide) rfl ?_
  intro p e s m args below meth c s₁ B hml hv
  obtain ⟨rfl, hw⟩ := hv
  have hx := B.exec
  have hb := B.bytes
  have hr := B.returns
  have hts := atoms_spec (ws := wsX12_layWrong) B.pre
  have hown : s.vm.findClass RX12 = some m.cls := findClass_of_methodNamed B.named
  have hlocks := B.notSynchronized
  have hS : va_S (wA Γ n) s.heap s.heap [] := va_S.rf
  have hA : ∀ q, wA Γ n q → wA Γ n q := fun _ h => h
  have hl := lv_entry ([.ref (ad Γ ra), .int (nI kind), .int (nI a), .int (nI b), .int (nI g)]) (n := 6) (Nat.le_of_ble_eq_true rfl)
  rw [lg_entry_eq]
  generalize (lg_sl ([.ref (ad Γ ra), .int (nI kind), .int (nI a), .int (nI b), .int (nI g)]) ++ List.replicate (6 - (lg_sl ([.ref (ad Γ ra), .int (nI kind), .int (nI a), .int (nI b), .int (nI g)])).length) Slot.unset).toArray = ls at hl ⊢
  have hl : lv_has ls 6 [(0, .ref (ad Γ ra)), (1, .int (nI kind)), (2, .int (nI a)), (3, .int (nI b)), (4, .int (nI g))] := hl
  have hB := hI.1
  have hB0 := hI.2.1
  have hB1 := hI.2.2.1
  have hby := hI.2.2.2.1
  have hto := hI.2.2.2.2.1
  have hB20 := hI.2.2.2.2.2
  refine lv_aload_n hx hb dX12_layWrong_0 rfl (lv_at hl 0 rfl) ?_
  refine lv_iconst (v := nI 1) hx hb dX12_layWrong_1 (by decide) ?_
  refine nr_iald (x := (R 1)) hx hb hw (by omega) hC (rfl) (by omega) (by omega) dX12_layWrong_2 ?_
  have hL1 := hB (1)
  refine lv_istore (lv' := [(5, .int (nI (R 1))), (0, .ref (ad Γ ra)), (1, .int (nI kind)), (2, .int (nI a)), (3, .int (nI b)), (4, .int (nI g))]) hx hb dX12_layWrong_3 hl (by decide) rfl (fun ls hl => ?_)
  refine lv_aload_n hx hb dX12_layWrong_5 rfl (lv_at hl 1 rfl) ?_
  refine lv_bipush (v := nI 28) hx hb dX12_layWrong_6 (by decide) ?_
  refine lv_iload hx hb dX12_layWrong_8 (lv_at hl 0 rfl) ?_
  refine nr_iadd hx hb dX12_layWrong_10 ?_
  refine lv_iload_n hx hb dX12_layWrong_11 rfl (lv_at hl 2 rfl) ?_
  refine nr_iast (k := 28 + (R 1)) (v := kind) hx hb hw hj hA hS (by omega) hC (by omega) (by omega) dX12_layWrong_12 (fun H locs hw hS => ?_)
  refine lv_aload_n hx hb dX12_layWrong_13 rfl (lv_at hl 1 rfl) ?_
  refine lv_bipush (v := nI 36) hx hb dX12_layWrong_14 (by decide) ?_
  refine lv_iload hx hb dX12_layWrong_16 (lv_at hl 0 rfl) ?_
  refine nr_iadd hx hb dX12_layWrong_18 ?_
  refine lv_iload_n hx hb dX12_layWrong_19 rfl (lv_at hl 3 rfl) ?_
  refine nr_iast (k := 36 + (R 1)) (v := a) hx hb hw hj hA hS (by omega) (va_up_self _ _ _) (by omega) (by omega) dX12_layWrong_20 (fun H locs hw hS => ?_)
  rw [bx_uu] at hw
  refine lv_aload_n hx hb dX12_layWrong_21 rfl (lv_at hl 1 rfl) ?_
  refine lv_bipush (v := nI 44) hx hb dX12_layWrong_22 (by decide) ?_
  refine lv_iload hx hb dX12_layWrong_24 (lv_at hl 0 rfl) ?_
  refine nr_iadd hx hb dX12_layWrong_26 ?_
  refine lv_iload_n hx hb dX12_layWrong_27 rfl (lv_at hl 4 rfl) ?_
  refine nr_iast (k := 44 + (R 1)) (v := b) hx hb hw hj hA hS (by omega) (va_up_self _ _ _) (by omega) (by omega) dX12_layWrong_28 (fun H locs hw hS => ?_)
  rw [bx_uu] at hw
  refine lv_aload_n hx hb dX12_layWrong_29 rfl (lv_at hl 1 rfl) ?_
  refine lv_bipush (v := nI 52) hx hb dX12_layWrong_30 (by decide) ?_
  refine lv_iload hx hb dX12_layWrong_32 (lv_at hl 0 rfl) ?_
  refine nr_iadd hx hb dX12_layWrong_34 ?_
  refine lv_iload hx hb dX12_layWrong_35 (lv_at hl 5 rfl) ?_
  refine nr_iast (k := 52 + (R 1)) (v := g) hx hb hw hj hA hS (by omega) (va_up_self _ _ _) (by omega) (by omega) dX12_layWrong_37 (fun H locs hw hS => ?_)
  rw [bx_uu] at hw
  refine lv_aload_n hx hb dX12_layWrong_38 rfl (lv_at hl 1 rfl) ?_
  refine lv_bipush (v := nI 12) hx hb dX12_layWrong_39 (by decide) ?_
  refine lv_iload hx hb dX12_layWrong_41 (lv_at hl 0 rfl) ?_
  refine nr_iadd hx hb dX12_layWrong_43 ?_
  refine lv_iconst (v := nI 0) hx hb dX12_layWrong_44 (by decide) ?_
  refine nr_iast (k := 12 + (R 1)) (v := 0) hx hb hw hj hA hS (by omega) (va_up_self _ _ _) (by omega) (by omega) dX12_layWrong_45 (fun H locs hw hS => ?_)
  rw [bx_uu] at hw
  refine lv_aload_n hx hb dX12_layWrong_46 rfl (lv_at hl 1 rfl) ?_
  refine lv_iconst (v := nI 1) hx hb dX12_layWrong_47 (by decide) ?_
  refine lv_dup2_11 hx hb dX12_layWrong_48 rfl rfl ?_
  refine nr_iald (x := (R 1)) hx hb hw (by omega) (va_up_self _ _ _) (by simp only [va_up]; (repeat rw [if_neg (by omega)])) (by omega) (by omega) dX12_layWrong_49 ?_
  refine lv_iconst (v := nI 1) hx hb dX12_layWrong_50 (by decide) ?_
  refine nr_iadd hx hb dX12_layWrong_51 ?_
  refine nr_iast (k := 1) (v := R 1 + 1) hx hb hw hj hA hS (by omega) (va_up_self _ _ _) (by omega) (by omega) dX12_layWrong_52 (fun H locs hw hS => ?_)
  rw [bx_uu] at hw
  exact nr_retV hx hb hr hlocks hw hS (rfl) dX12_layWrong_53
set_option maxHeartbeats 4000000 in
set_option maxRecDepth 100000 in
theorem c_X12_goOff (l : Launch) (Γ : Gam) (n : Nat) (G : Nat → va_E) (ra len : Nat) (R : Nat → Nat) (hC : G ra = na Γ len R) (hra : ra < n) (hlen : 60 ≤ len) (hlen2 : len < 2147483648) (hI : aI R) (hj : winj Γ n) (k sn : Nat) (hk : k < 8) (hsn : sn < 2)  : Met l yX12_goOff wsX12_goOff ({ frames := 0, cells := 0, slots := 0, locals := 0 }) (va_Pc [.ref (ad Γ ra), .int (nI k), .int (nI sn)] (fun U => hw Γ n G U U.heap)) (wQv Γ n (fun G2 => G2 = va_up G ra (na Γ len (offR R k sn)))) 0 0 (wA Γ n) := by
  refine Met.ofW (cc := cX12_goOff) (maxL := 4) (ret := none) (by decide) rfl ?_
  intro p e s m args below meth c s₁ B hml hv
  obtain ⟨rfl, hw⟩ := hv
  have hx := B.exec
  have hb := B.bytes
  have hr := B.returns
  have hts := atoms_spec (ws := wsX12_goOff) B.pre
  have hown : s.vm.findClass RX12 = some m.cls := findClass_of_methodNamed B.named
  have hlocks := B.notSynchronized
  have hS : va_S (wA Γ n) s.heap s.heap [] := va_S.rf
  have hA : ∀ q, wA Γ n q → wA Γ n q := fun _ h => h
  have hl := lv_entry ([.ref (ad Γ ra), .int (nI k), .int (nI sn)]) (n := 4) (Nat.le_of_ble_eq_true rfl)
  rw [lg_entry_eq]
  generalize (lg_sl ([.ref (ad Γ ra), .int (nI k), .int (nI sn)]) ++ List.replicate (4 - (lg_sl ([.ref (ad Γ ra), .int (nI k), .int (nI sn)])).length) Slot.unset).toArray = ls at hl ⊢
  have hl : lv_has ls 4 [(0, .ref (ad Γ ra)), (1, .int (nI k)), (2, .int (nI sn))] := hl
  have hB := hI.1
  have hB0 := hI.2.1
  have hB1 := hI.2.2.1
  have hby := hI.2.2.2.1
  have hto := hI.2.2.2.2.1
  have hB20 := hI.2.2.2.2.2
  have hby1 := hby k hk
  refine lv_aload_n hx hb dX12_goOff_0 rfl (lv_at hl 0 rfl) ?_
  refine lv_bipush (v := nI 36) hx hb dX12_goOff_1 (by decide) ?_
  refine lv_iload_n hx hb dX12_goOff_3 rfl (lv_at hl 1 rfl) ?_
  refine nr_iadd hx hb dX12_goOff_4 ?_
  refine nr_iald (x := (R (36 + k))) hx hb hw (by omega) hC rfl (by omega) (by omega) dX12_goOff_5 ?_
  have hL1 := hB (36 + k)
  have hL0 := hB (6 + R (36 + k))
  refine lv_istore_n (lv' := [(3, .int (nI (R (36 + k)))), (0, .ref (ad Γ ra)), (1, .int (nI k)), (2, .int (nI sn))]) hx hb dX12_goOff_6 rfl hl (by decide) rfl (fun ls hl => ?_)
  refine lv_aload_n hx hb dX12_goOff_7 rfl (lv_at hl 1 rfl) ?_
  refine lv_bipush (v := nI 20) hx hb dX12_goOff_8 (by decide) ?_
  refine lv_dup2_11 hx hb dX12_goOff_10 rfl rfl ?_
  refine nr_iald (x := (R 20)) hx hb hw (by omega) hC rfl (by omega) (by omega) dX12_goOff_11 ?_
  have hL2 := hB (20)
  refine lv_iconst (v := nI 1) hx hb dX12_goOff_12 (by decide) ?_
  refine lv_iload_n hx hb dX12_goOff_13 rfl (lv_at hl 2 rfl) ?_
  refine nr_ishl1 hx hb (by omega) dX12_goOff_14 ?_
  refine nr_ior hx hb dX12_goOff_15 ?_
  refine nr_iast (k := 20) (v := (R 20) ||| (2 ^ k)) hx hb hw hj hA hS (by omega) hC (by omega) (by omega) dX12_goOff_16 (fun H locs hw hS => ?_)
  refine lv_aload_n hx hb dX12_goOff_17 rfl (lv_at hl 1 rfl) ?_
  refine lv_bipush (v := nI 6) hx hb dX12_goOff_18 (by decide) ?_
  refine lv_iload_n hx hb dX12_goOff_20 rfl (lv_at hl 0 rfl) ?_
  refine nr_iadd hx hb dX12_goOff_21 ?_
  refine lv_dup2_11 hx hb dX12_goOff_22 rfl rfl ?_
  refine nr_iald (x := (R (6 + R (36 + k)))) hx hb hw (by omega) (va_up_self _ _ _) (by rw [va_up_ne _ _ (by omega)]) (by omega) (by omega) dX12_goOff_23 ?_
  have hL1 := hB (6 + R (36 + k))
  refine lv_iload_n hx hb dX12_goOff_24 rfl (lv_at hl 3 rfl) ?_
  refine nr_if_eq (tgt := 43) hx hb (by omega) dX12_goOff_25 (by decide) (fun c3 => ?_) (fun c3 => ?_)
  · refine lv_iconst (v := nI 0) hx hb dX12_goOff_43 (by decide) ?_
    refine nr_iadd hx hb dX12_goOff_44 ?_
    refine nr_iast (k := 6 + (R (36 + k))) (v := R (6 + R (36 + k)) + 0) hx hb hw hj hA hS (by omega) (va_up_self _ _ _) (by omega) (by omega) dX12_goOff_45 (fun H locs hw hS => ?_)
    rw [bx_uu] at hw
    exact nr_retV hx hb hr hlocks hw hS (by unfold offR; first | rw [if_pos ⟨by omega, by omega⟩] | rw [if_neg (by omega)]) dX12_goOff_46
  · refine lv_aload_n hx hb dX12_goOff_28 rfl (lv_at hl 1 rfl) ?_
    refine lv_bipush (v := nI 6) hx hb dX12_goOff_29 (by decide) ?_
    refine lv_iload_n hx hb dX12_goOff_31 rfl (lv_at hl 0 rfl) ?_
    refine nr_iadd hx hb dX12_goOff_32 ?_
    refine nr_iald (x := (R (6 + R (36 + k)))) hx hb hw (by omega) (va_up_self _ _ _) (by rw [va_up_ne _ _ (by omega)]) (by omega) (by omega) dX12_goOff_33 ?_
    refine lv_bipush (v := nI 99) hx hb dX12_goOff_34 (by decide) ?_
    refine nr_icmp_ge (tgt := 43) hx hb (by omega) (by decide) dX12_goOff_36 (by decide) (fun c4 => ?_) (fun c4 => ?_)
    · refine lv_iconst (v := nI 0) hx hb dX12_goOff_43 (by decide) ?_
      refine nr_iadd hx hb dX12_goOff_44 ?_
      refine nr_iast (k := 6 + (R (36 + k))) (v := R (6 + R (36 + k)) + 0) hx hb hw hj hA hS (by omega) (va_up_self _ _ _) (by omega) (by omega) dX12_goOff_45 (fun H locs hw hS => ?_)
      rw [bx_uu] at hw
      exact nr_retV hx hb hr hlocks hw hS (by unfold offR; first | rw [if_pos ⟨by omega, by omega⟩] | rw [if_neg (by omega)]) dX12_goOff_46
    · refine lv_iconst (v := nI 1) hx hb dX12_goOff_39 (by decide) ?_
      refine lv_goto (tgt := 44) hx hb dX12_goOff_40 (by decide) ?_
      refine nr_iadd hx hb dX12_goOff_44 ?_
      refine nr_iast (k := 6 + (R (36 + k))) (v := R (6 + R (36 + k)) + 1) hx hb hw hj hA hS (by omega) (va_up_self _ _ _) (by omega) (by omega) dX12_goOff_45 (fun H locs hw hS => ?_)
      rw [bx_uu] at hw
      exact nr_retV hx hb hr hlocks hw hS (by unfold offR; first | rw [if_pos ⟨by omega, by omega⟩] | rw [if_neg (by omega)]) dX12_goOff_46
set_option maxHeartbeats 4000000 in
set_option maxRecDepth 100000 in
theorem c_X12_goDay (l : Launch) (Γ : Gam) (n : Nat) (G : Nat → va_E) (ra len : Nat) (R : Nat → Nat) (hC : G ra = na Γ len R) (hra : ra < n) (hlen : 60 ≤ len) (hlen2 : len < 2147483648) (hI : aI R) (hj : winj Γ n) (h21 : R 21 < 1999)  : Met l yX12_goDay wsX12_goDay ({ frames := 1, cells := 0, slots := 0, locals := 21 }) (va_Pc [.ref (ad Γ ra)] (fun U => hw Γ n G U U.heap)) (wQv Γ n (fun G2 => G2 = va_up G ra (na Γ len (dayR R)))) 0 0 (wA Γ n) := by
  refine Met.ofW (cc := cX12_goDay) (maxL := 2) (ret := none) (by decide) rfl ?_
  intro p e s m args below meth c s₁ B hml hv
  obtain ⟨rfl, hw⟩ := hv
  have hx := B.exec
  have hb := B.bytes
  have hr := B.returns
  have hts := atoms_spec (ws := wsX12_goDay) B.pre
  have hown : s.vm.findClass RX12 = some m.cls := findClass_of_methodNamed B.named
  have hlocks := B.notSynchronized
  have hS : va_S (wA Γ n) s.heap s.heap [] := va_S.rf
  have hA : ∀ q, wA Γ n q → wA Γ n q := fun _ h => h
  have hl := lv_entry ([.ref (ad Γ ra)]) (n := 2) (Nat.le_of_ble_eq_true rfl)
  rw [lg_entry_eq]
  generalize (lg_sl ([.ref (ad Γ ra)]) ++ List.replicate (2 - (lg_sl ([.ref (ad Γ ra)])).length) Slot.unset).toArray = ls at hl ⊢
  have hl : lv_has ls 2 [(0, .ref (ad Γ ra))] := hl
  have hB := hI.1
  have hB0 := hI.2.1
  have hB1 := hI.2.2.1
  have hby := hI.2.2.2.1
  have hto := hI.2.2.2.2.1
  have hB20 := hI.2.2.2.2.2
  refine lv_iconst (v := nI 0) hx hb dX12_goDay_0 (by decide) ?_
  refine lv_istore_n (lv' := [(1, .int (nI 0)), (0, .ref (ad Γ ra))]) hx hb dX12_goDay_1 rfl hl (by decide) rfl (fun ls hl => ?_)
  refine nr_lpI (σ := Nat × (Nat → Nat)) 2 (fun x => va_up G ra (na Γ len x.2)) (fun x lv => lv = [(0, .ref (ad Γ ra)), (1, .int (nI x.1))] ∧ (x.1 ≤ R 1) ∧ (x.2 = agesR R x.1)) (fun x => R 1 - x.1) (0, R) (hw_A hC hw) hS (lv_sub hl [1, 0] rfl) ⟨rfl, by (try dsimp only); omega, agesR_0 R⟩ ?_
  intro x lv ls H locs hw hS hl hI ih2
  obtain ⟨k, RL2⟩ := x
  obtain ⟨rfl, hk, hR2⟩ := hI
  try dsimp only at hk hR2 hw hl ih2
  have hL9 := hB (12 + k)
  refine lv_iload_n hx hb dX12_goDay_2 rfl (lv_at hl 1 rfl) ?_
  refine lv_aload_n hx hb dX12_goDay_3 rfl (lv_at hl 0 rfl) ?_
  refine lv_iconst (v := nI 1) hx hb dX12_goDay_4 (by decide) ?_
  refine nr_iald (x := (R 1)) hx hb hw (by omega) (va_up_self _ _ _) (by first | rfl | (rw [hR2]; exact agesR_out (by omega))) (by omega) (by omega) dX12_goDay_5 ?_
  refine nr_icmp_ge (tgt := 51) hx hb (by omega) (by omega) dX12_goDay_6 (by decide) (fun c1 => ?_) (fun c1 => ?_)
  · refine lv_aload_n hx hb dX12_goDay_51 rfl (lv_at hl 0 rfl) ?_
    refine lv_bipush (v := nI 21) hx hb dX12_goDay_52 (by decide) ?_
    refine lv_dup2_11 hx hb dX12_goDay_54 rfl rfl ?_
    refine nr_iald (x := (R 21)) hx hb hw (by omega) (va_up_self _ _ _) (by rw [hR2]; exact agesR_out (by omega)) (by omega) (by omega) dX12_goDay_55 ?_
    refine lv_iconst (v := nI 1) hx hb dX12_goDay_56 (by decide) ?_
    refine nr_iadd hx hb dX12_goDay_57 ?_
    refine nr_iast (k := 21) (v := R 21 + 1) hx hb hw hj hA hS (by omega) (va_up_self _ _ _) (by omega) (by omega) dX12_goDay_58 (fun H locs hw hS => ?_)
    rw [bx_uu] at hw
    exact nr_retV hx hb hr hlocks hw hS (by rw [hR2, show k = R 1 by omega]; rfl) dX12_goDay_59
  · refine lv_aload_n hx hb dX12_goDay_9 rfl (lv_at hl 0 rfl) ?_
    refine lv_bipush (v := nI 12) hx hb dX12_goDay_10 (by decide) ?_
    refine lv_iload_n hx hb dX12_goDay_12 rfl (lv_at hl 1 rfl) ?_
    refine nr_iadd hx hb dX12_goDay_13 ?_
    refine lv_dup2_11 hx hb dX12_goDay_14 rfl rfl ?_
    refine nr_iald (x := (R (12 + k))) hx hb hw (by omega) (va_up_self _ _ _) (by rw [hR2]; exact agesR_out (by omega)) (by omega) (by omega) dX12_goDay_15 ?_
    refine lv_aload_n hx hb dX12_goDay_16 rfl (lv_at hl 0 rfl) ?_
    refine lv_bipush (v := nI 20) hx hb dX12_goDay_17 (by decide) ?_
    refine nr_iald (x := (R 20)) hx hb hw (by omega) (va_up_self _ _ _) (by rw [hR2]; exact agesR_out (by omega)) (by omega) (by omega) dX12_goDay_19 ?_
    refine lv_iload_n hx hb dX12_goDay_20 rfl (lv_at hl 1 rfl) ?_
    refine nr_goB (P := bt (R 20) k) (nr_runS (As := [.int (nI (R 20)), .int (nI k)]) ⟨hx, hb, hml, hown, hts⟩ hw (c_X12_has l Γ n (va_up G ra (na Γ len RL2)) (R 20) k (by omega) (by omega)) (va_cwS 2 hts gX12_goDay_X12_has rfl rfl rfl (by decide +kernel) ⟨Nat.le_of_ble_eq_true rfl, Nat.le_of_ble_eq_true rfl⟩) rfl hl.1 rfl (Nat.le_of_ble_eq_true rfl) dX12_goDay_21 ⟨Nat.zero_le _, Nat.zero_le _⟩) (fun b2 => ?_) (fun b2 => ?_)
    · refine nr_if_ne (tgt := 42) hx hb (by decide) dX12_goDay_24 (by decide) (fun c3 => ?_) (fun c3 => absurd c3 (by decide))
      refine lv_iconst (v := nI 0) hx hb dX12_goDay_42 (by decide) ?_
      refine nr_iadd hx hb dX12_goDay_43 ?_
      refine nr_iast (k := 12 + k) (v := R (12 + k) + 0) hx hb hw hj hA hS (by omega) (va_up_self _ _ _) (by omega) (by omega) dX12_goDay_44 (fun H locs hw hS => ?_)
      rw [bx_uu] at hw
      refine nr_inc (d := 1) (k := 1) (lv' := [(1, .int (nI (k + 1))), (0, .ref (ad Γ ra))]) hx hb dX12_goDay_45 hl rfl (by decide) (by decide) rfl (fun ls hl => ?_)
      refine lv_goto (tgt := 2) hx hb dX12_goDay_48 (by decide) ?_
      exact ih2 (k + 1, va_up RL2 (12 + k) (R (12 + k) + 0)) _ _ _ _ hw hS (lv_sub hl [1, 0] rfl) ⟨rfl, by (try dsimp only); omega, by rw [hR2]; first | exact agesR_y ⟨by assumption, by omega⟩ | exact agesR_n (fun hh => absurd hh.1 (by first | assumption | (intro q; exact q (by assumption)))) | exact agesR_n (fun hh => absurd hh.2 (by omega))⟩ (by (try dsimp only); omega)
    · refine nr_if_ne (tgt := 42) hx hb (by decide) dX12_goDay_24 (by decide) (fun c4 => absurd c4 (by decide)) (fun c4 => ?_)
      refine lv_aload_n hx hb dX12_goDay_27 rfl (lv_at hl 0 rfl) ?_
      refine lv_bipush (v := nI 12) hx hb dX12_goDay_28 (by decide) ?_
      refine lv_iload_n hx hb dX12_goDay_30 rfl (lv_at hl 1 rfl) ?_
      refine nr_iadd hx hb dX12_goDay_31 ?_
      refine nr_iald (x := (R (12 + k))) hx hb hw (by omega) (va_up_self _ _ _) (by rw [hR2]; exact agesR_out (by omega)) (by omega) (by omega) dX12_goDay_32 ?_
      refine lv_bipush (v := nI 99) hx hb dX12_goDay_33 (by decide) ?_
      refine nr_icmp_ge (tgt := 42) hx hb (by omega) (by decide) dX12_goDay_35 (by decide) (fun c5 => ?_) (fun c5 => ?_)
      · refine lv_iconst (v := nI 0) hx hb dX12_goDay_42 (by decide) ?_
        refine nr_iadd hx hb dX12_goDay_43 ?_
        refine nr_iast (k := 12 + k) (v := R (12 + k) + 0) hx hb hw hj hA hS (by omega) (va_up_self _ _ _) (by omega) (by omega) dX12_goDay_44 (fun H locs hw hS => ?_)
        rw [bx_uu] at hw
        refine nr_inc (d := 1) (k := 1) (lv' := [(1, .int (nI (k + 1))), (0, .ref (ad Γ ra))]) hx hb dX12_goDay_45 hl rfl (by decide) (by decide) rfl (fun ls hl => ?_)
        refine lv_goto (tgt := 2) hx hb dX12_goDay_48 (by decide) ?_
        exact ih2 (k + 1, va_up RL2 (12 + k) (R (12 + k) + 0)) _ _ _ _ hw hS (lv_sub hl [1, 0] rfl) ⟨rfl, by (try dsimp only); omega, by rw [hR2]; first | exact agesR_y ⟨by assumption, by omega⟩ | exact agesR_n (fun hh => absurd hh.1 (by first | assumption | (intro q; exact q (by assumption)))) | exact agesR_n (fun hh => absurd hh.2 (by omega))⟩ (by (try dsimp only); omega)
      · refine lv_iconst (v := nI 1) hx hb dX12_goDay_38 (by decide) ?_
        refine lv_goto (tgt := 43) hx hb dX12_goDay_39 (by decide) ?_
        refine nr_iadd hx hb dX12_goDay_43 ?_
        refine nr_iast (k := 12 + k) (v := R (12 + k) + 1) hx hb hw hj hA hS (by omega) (va_up_self _ _ _) (by omega) (by omega) dX12_goDay_44 (fun H locs hw hS => ?_)
        rw [bx_uu] at hw
        refine nr_inc (d := 1) (k := 1) (lv' := [(1, .int (nI (k + 1))), (0, .ref (ad Γ ra))]) hx hb dX12_goDay_45 hl rfl (by decide) (by decide) rfl (fun ls hl => ?_)
        refine lv_goto (tgt := 2) hx hb dX12_goDay_48 (by decide) ?_
        exact ih2 (k + 1, va_up RL2 (12 + k) (R (12 + k) + 1)) _ _ _ _ hw hS (lv_sub hl [1, 0] rfl) ⟨rfl, by (try dsimp only); omega, by rw [hR2]; first | exact agesR_y ⟨by assumption, by omega⟩ | exact agesR_n (fun hh => absurd hh.1 (by first | assumption | (intro q; exact q (by assumption)))) | exact agesR_n (fun hh => absurd hh.2 (by omega))⟩ (by (try dsimp only); omega)
set_option maxHeartbeats 4000000 in
set_option maxRecDepth 100000 in
theorem c_X12_goDays (l : Launch) (Γ : Gam) (n : Nat) (G : Nat → va_E) (ra len : Nat) (R : Nat → Nat) (hC : G ra = na Γ len R) (hra : ra < n) (hlen : 60 ≤ len) (hlen2 : len < 2147483648) (hI : aI R) (hj : winj Γ n) (q : Nat) (hq : q < 2147483648) (h21 : R 21 ≤ 999)  : Met l yX12_goDays wsX12_goDays ({ frames := 2, cells := 0, slots := 0, locals := 42 }) (va_Pc [.ref (ad Γ ra), .int (nI q)] (fun U => hw Γ n G U U.heap)) (wQv Γ n (fun G2 => G2 = va_up G ra (na Γ len (itD R (min q (999 - R 21)))))) 0 0 (wA Γ n) := by
  refine Met.ofW (cc := cX12_goDays) (maxL := 3) (ret := none) (by decide) rfl ?_
  intro p e s m args below meth c s₁ B hml hv
  obtain ⟨rfl, hw⟩ := hv
  have hx := B.exec
  have hb := B.bytes
  have hr := B.returns
  have hts := atoms_spec (ws := wsX12_goDays) B.pre
  have hown : s.vm.findClass RX12 = some m.cls := findClass_of_methodNamed B.named
  have hlocks := B.notSynchronized
  have hS : va_S (wA Γ n) s.heap s.heap [] := va_S.rf
  have hA : ∀ q, wA Γ n q → wA Γ n q := fun _ h => h
  have hl := lv_entry ([.ref (ad Γ ra), .int (nI q)]) (n := 3) (Nat.le_of_ble_eq_true rfl)
  rw [lg_entry_eq]
  generalize (lg_sl ([.ref (ad Γ ra), .int (nI q)]) ++ List.replicate (3 - (lg_sl ([.ref (ad Γ ra), .int (nI q)])).length) Slot.unset).toArray = ls at hl ⊢
  have hl : lv_has ls 3 [(0, .ref (ad Γ ra)), (1, .int (nI q))] := hl
  have hB := hI.1
  have hB0 := hI.2.1
  have hB1 := hI.2.2.1
  have hby := hI.2.2.2.1
  have hto := hI.2.2.2.2.1
  have hB20 := hI.2.2.2.2.2
  refine lv_iconst (v := nI 0) hx hb dX12_goDays_0 (by decide) ?_
  refine lv_istore_n (lv' := [(2, .int (nI 0)), (0, .ref (ad Γ ra)), (1, .int (nI q))]) hx hb dX12_goDays_1 rfl hl (by decide) rfl (fun ls hl => ?_)
  refine nr_lpI (σ := Nat × (Nat → Nat)) 2 (fun x => va_up G ra (na Γ len x.2)) (fun x lv => lv = [(0, .ref (ad Γ ra)), (1, .int (nI q)), (2, .int (nI x.1))] ∧ (x.1 ≤ q) ∧ (R 21 + x.1 ≤ 999) ∧ (x.2 = itD R x.1)) (fun x => q - x.1) (0, R) (hw_A hC hw) hS (lv_sub hl [1, 2, 0] rfl) ⟨rfl, by (try dsimp only); omega, by (try dsimp only); omega, rfl⟩ ?_
  intro x lv ls H locs hw hS hl hI ih2
  obtain ⟨k, RL2⟩ := x
  obtain ⟨rfl, hk, hk2, hR2⟩ := hI
  try dsimp only at hk hk2 hR2 hw hl ih2
  refine lv_iload_n hx hb dX12_goDays_2 rfl (lv_at hl 2 rfl) ?_
  refine lv_iload_n hx hb dX12_goDays_3 rfl (lv_at hl 1 rfl) ?_
  refine nr_icmp_ge (tgt := 27) hx hb (by omega) (by omega) dX12_goDays_4 (by decide) (fun c1 => ?_) (fun c1 => ?_)
  · exact nr_retV hx hb hr hlocks hw hS (by rw [hR2, show k = min q (999 - R 21) by omega]) dX12_goDays_27
  · refine lv_aload_n hx hb dX12_goDays_7 rfl (lv_at hl 0 rfl) ?_
    refine lv_bipush (v := nI 21) hx hb dX12_goDays_8 (by decide) ?_
    refine nr_iald (x := (R 21 + k)) hx hb hw (by omega) (va_up_self _ _ _) (by rw [hR2]; exact itD_21 R k) (by omega) (by omega) dX12_goDays_10 ?_
    refine lv_sipush (v := nI 999) hx hb dX12_goDays_11 (by decide) ?_
    refine nr_icmp_ge (tgt := 27) hx hb (by omega) (by decide) dX12_goDays_14 (by decide) (fun c2 => ?_) (fun c2 => ?_)
    · exact nr_retV hx hb hr hlocks hw hS (by rw [hR2, show k = min q (999 - R 21) by omega]) dX12_goDays_27
    · refine lv_aload_n hx hb dX12_goDays_17 rfl (lv_at hl 0 rfl) ?_
      refine nr_goV (nr_runS (As := [.ref (ad Γ ra)]) ⟨hx, hb, hml, hown, hts⟩ hw (c_X12_goDay l Γ n (va_up G ra (na Γ len RL2)) ra len RL2 (va_up_self _ _ _) hra hlen hlen2 (by rw [hR2]; exact aI_it hI k (by omega)) hj (by rw [hR2, itD_21]; omega)) (va_cwS 1 hts gX12_goDays_X12_goDay rfl rfl rfl (by decide +kernel) ⟨Nat.le_of_ble_eq_true rfl, Nat.le_of_ble_eq_true rfl⟩) rfl hl.1 rfl (Nat.le_of_ble_eq_true rfl) dX12_goDays_18 ⟨Nat.zero_le _, Nat.zero_le _⟩) hw hA hS (fun G3 H locs hp hw hS => ?_)
      subst hp
      rw [bx_uu] at hw
      refine nr_inc (d := 1) (k := 2) (lv' := [(2, .int (nI (k + 1))), (0, .ref (ad Γ ra)), (1, .int (nI q))]) hx hb dX12_goDays_21 hl rfl (by decide) (by decide) rfl (fun ls hl => ?_)
      refine lv_goto (tgt := 2) hx hb dX12_goDays_24 (by decide) ?_
      exact ih2 (k + 1, dayR RL2) _ _ _ _ hw hS (lv_sub hl [1, 2, 0] rfl) ⟨rfl, by (try dsimp only); omega, by (try dsimp only); omega, by rw [hR2]; rfl⟩ (by (try dsimp only); omega)
