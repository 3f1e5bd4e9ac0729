section SY
def rchK (R rc : Nat → Nat) (w k : Nat) : Prop := w = 0 ∨ ∃ j, j < k ∧ bt w j ∧ rc (w &&& (2 ^ j ^^^ 4294967295)) = 1 ∧ bt (canS R (w &&& (2 ^ j ^^^ 4294967295))) j
theorem rchK_imp {R rc rc2 : Nat → Nat} {w k : Nat} (hk : k ≤ 8) (h : ∀ u, u < w → rc u = rc2 u) (h2 : rchK R rc w k) : rchK R rc2 w k := by
  rcases h2 with h2 | ⟨j, j1, j2, j3, j4⟩
  · exact Or.inl h2
  · exact Or.inr ⟨j, j1, j2, by rw [← h _ (clr_lt j2 (by omega))]; exact j3, j4⟩
theorem rchK_up {R rc : Nat → Nat} {w k w2 v : Nat} (hk : k ≤ 8) (hw9 : w ≤ w2) : rchK R rc w k ↔ rchK R (va_up rc w2 v) w k :=
  ⟨rchK_imp hk (fun u hu => (va_up_ne _ _ (by omega)).symm), rchK_imp hk (fun u hu => va_up_ne _ _ (by omega))⟩
theorem rr_up {R rc : Nat → Nat} {w v : Nat} (hk : R 1 ≤ 8) (h : ∀ u, u < w → rc u ≤ 1 ∧ (rc u = 1 ↔ rchK R rc u (R 1))) : ∀ u, u < w → va_up rc w v u ≤ 1 ∧ (va_up rc w v u = 1 ↔ rchK R (va_up rc w v) u (R 1)) := fun u hu => by
  rw [← rchK_up hk (by omega), va_up_ne _ _ (by omega)]
  exact h u hu
theorem tt_up {R rc : Nat → Nat} {w v t : Nat} (h : ∀ i, bt t i ↔ ∃ u, u < w ∧ rc u = 1 ∧ bt (canS R u) i) : ∀ i, bt t i ↔ ∃ u, u < w ∧ va_up rc w v u = 1 ∧ bt (canS R u) i := fun i => by
  rw [h i]
  constructor
  · rintro ⟨u, u1, u2, u3⟩
    exact ⟨u, u1, by rw [va_up_ne _ _ (by omega)]; exact u2, u3⟩
  · rintro ⟨u, u1, u2, u3⟩
    rw [va_up_ne _ _ (by omega)] at u2
    exact ⟨u, u1, u2, u3⟩
theorem rk_0 {R rc : Nat → Nat} {w : Nat} (v : Nat) (hv : v = 1 ↔ w = 0) : va_up rc w v w = 1 ↔ rchK R (va_up rc w v) w 0 := by
  rw [va_up_self, hv]
  constructor
  · exact Or.inl
  · rintro (h | ⟨j, j1, _⟩)
    · exact h
    · omega
theorem rk_y {R rc : Nat → Nat} {w k : Nat} (hk : k < 8) (h : rchK R rc w (k + 1)) : va_up rc w 1 w = 1 ↔ rchK R (va_up rc w 1) w (k + 1) := by
  rw [va_up_self]
  exact ⟨fun _ => (rchK_up (by omega) (Nat.le_refl _)).mp h, fun _ => rfl⟩
theorem rk_n {R rc : Nat → Nat} {w k : Nat} (hk : k < 8) (h : ¬ rchK R rc w (k + 1)) : va_up rc w 0 w = 1 ↔ rchK R (va_up rc w 0) w (k + 1) := by
  rw [va_up_self]
  exact ⟨fun z => by omega, fun z => absurd ((rchK_up (by omega) (Nat.le_refl _)).mpr z) h⟩
theorem rk_s {R rc : Nat → Nat} {w k : Nat} : rchK R rc w (k + 1) ↔ rchK R rc w k ∨ (bt w k ∧ rc (w &&& (2 ^ k ^^^ 4294967295)) = 1 ∧ bt (canS R (w &&& (2 ^ k ^^^ 4294967295))) k) := by
  constructor
  · rintro (h | ⟨j, j1, j2⟩)
    · exact Or.inl (Or.inl h)
    · rcases Nat.lt_or_eq_of_le (Nat.le_of_lt_succ j1) with z | z
      · exact Or.inl (Or.inr ⟨j, z, j2⟩)
      · subst z; exact Or.inr j2
  · rintro ((h | ⟨j, j1, j2⟩) | h)
    · exact Or.inl h
    · exact Or.inr ⟨j, by omega, j2⟩
    · exact Or.inr ⟨k, by omega, h⟩
theorem rr_e {R rc : Nat → Nat} {w k : Nat} (hk : R 1 = k) (h : ∀ u, u < w → rc u ≤ 1 ∧ (rc u = 1 ↔ rchK R rc u (R 1))) (h3 : rc w ≤ 1) (h4 : rc w = 1 ↔ rchK R rc w k) : ∀ u, u < w + 1 → rc u ≤ 1 ∧ (rc u = 1 ↔ rchK R rc u (R 1)) := fun u hu => by
  rcases Nat.lt_or_eq_of_le (Nat.le_of_lt_succ hu) with z | z
  · exact h u z
  · rw [z, hk]; exact ⟨h3, h4⟩
theorem tt_y {R rc : Nat → Nat} {w t : Nat} (h : ∀ i, bt t i ↔ ∃ u, u < w ∧ rc u = 1 ∧ bt (canS R u) i) (h1 : rc w = 1) : ∀ i, bt (t ||| canS R w) i ↔ ∃ u, u < w + 1 ∧ rc u = 1 ∧ bt (canS R u) i := fun i => by
  rw [bt_orr, h i]
  constructor
  · rintro (⟨u, u1, u2⟩ | z)
    · exact ⟨u, by omega, u2⟩
    · exact ⟨w, by omega, h1, z⟩
  · rintro ⟨u, u1, u2, u3⟩
    rcases Nat.lt_or_eq_of_le (Nat.le_of_lt_succ u1) with z | z
    · exact Or.inl ⟨u, z, u2, u3⟩
    · rw [z] at u3; exact Or.inr u3
theorem tt_n {R rc : Nat → Nat} {w t : Nat} (h : ∀ i, bt t i ↔ ∃ u, u < w ∧ rc u = 1 ∧ bt (canS R u) i) (h1 : ¬ rc w = 1) : ∀ i, bt (t ||| 0) i ↔ ∃ u, u < w + 1 ∧ rc u = 1 ∧ bt (canS R u) i := fun i => by
  rw [Nat.or_zero, h i]
  constructor
  · rintro ⟨u, u1, u2⟩
    exact ⟨u, by omega, u2⟩
  · rintro ⟨u, u1, u2, u3⟩
    rcases Nat.lt_or_eq_of_le (Nat.le_of_lt_succ u1) with z | z
    · exact ⟨u, z, u2, u3⟩
    · rw [z] at u2; exact absurd u2 h1
end SY
theorem wl_X12_peal_1 : Cond.fieldLink RX12 30 "BellForgivenModel" "reached" "[Z" ∈ wsX12_peal := List.mem_of_getElem? (i := 1) rfl
theorem wl_X12_peal_2 : Cond.fieldLink RX12 27 "BellForgivenModel" "canAll" "[I" ∈ wsX12_peal := List.mem_of_getElem? (i := 2) rfl
theorem hi_X12_peal_X12 : ∀ w ∈ u_ws RX12 TX12 19, w ∈ wsX12_peal := fun w h => (List.mem_cons_of_mem _ (List.mem_append_right _ h))
set_option maxHeartbeats 4000000 in
set_option maxRecDepth 100000 in
theorem c_X12_peal (l : Launch) (Γ : Gam) (n : Nat) (G : Nat → va_E) (mo : Nat) (R K kp rf ca rc hd fw tl by0 an vl iv : Nat → Nat) (hM : isM Γ G mo R K kp rf ca rc hd fw tl by0 an vl iv) (hmo : mo + 13 ≤ n) (hI : vI R) (hj : winj Γ n)  : Met l yX12_peal wsX12_peal ({ frames := 4, cells := 0, slots := 0, locals := 90 }) (va_Pc [.ref (ad Γ (mo + 0))] (fun U => hw Γ n G U U.heap)) (wQi Γ n (fun z G2 => ((True) ∧ ∃ ca2 : Nat → Nat, ∃ rc2 : Nat → Nat, ((∀ w, w < 2 ^ R 1 → rc2 w ≤ 1 ∧ (rc2 w = 1 ↔ rchK R rc2 w (R 1))) ∧ ∃ y, z = nI y ∧ y < 256 ∧ ∀ j, bt y j ↔ ∃ w, w < 2 ^ R 1 ∧ rc2 w = 1 ∧ bt (canS R w) j) ∧ isM Γ G2 mo R K kp rf ca2 rc2 hd fw tl by0 an vl iv ∧ fr G G2 mo (mo + 13)))) 0 0 (wA Γ n) := by
  refine Met.ofW (cc := cX12_peal) (maxL := 5) (ret := (some .int)) (by decide) rfl ?_
  intro p e s m args below meth c s₁ B hml hv
  obtain ⟨rfl, hw⟩ := hv
  have hx := B.exec
  have hb := B.bytes
  have hr := B.returns
  have hts := atoms_spec (ws := wsX12_peal) B.pre
  have hown : s.vm.findClass RX12 = some m.cls := findClass_of_methodNamed B.named
  have hlocks := B.notSynchronized
  have hS : va_S (wA Γ n) s.heap s.heap [] := va_S.rf
  have hA : ∀ q, wA Γ n q → wA Γ n q := fun _ h => h
  have hl := lv_entry ([.ref (ad Γ (mo + 0))]) (n := 5) (Nat.le_of_ble_eq_true rfl)
  rw [lg_entry_eq]
  generalize (lg_sl ([.ref (ad Γ (mo + 0))]) ++ List.replicate (5 - (lg_sl ([.ref (ad Γ (mo + 0))])).length) Slot.unset).toArray = ls at hl ⊢
  have hl : lv_has ls 5 [(0, .ref (ad Γ (mo + 0)))] := hl
  have hfr := fr_rf G mo (mo + 13)
  have hB := hI.1
  have hB0 := hI.2.1
  have hB1 := hI.2.2.1
  have hB20 := hI.2.2.2.2.2.2.2.2.2
  have hBz2 := hI.2.2.2.1
  have hBz3 := hI.2.2.2.2.1
  have hBz4 := hI.2.2.2.2.2.1
  have hBz5 := hI.2.2.2.2.2.2.1
  have hby := hI.2.2.2.2.2.2.2.1
  have hto := hI.2.2.2.2.2.2.2.2.1
  have h2p := p2_le hB1
  refine lv_iconst (v := nI 0) hx hb dX12_peal_0 (by decide) ?_
  refine lv_istore_n (lv' := [(1, .int (nI 0)), (0, .ref (ad Γ (mo + 0)))]) hx hb dX12_peal_1 rfl hl (by decide) rfl (fun ls hl => ?_)
  refine lv_aload_n hx hb dX12_peal_2 rfl (lv_at hl 1 rfl) ?_
  refine nr_goV (nr_runV (As := []) (C := RX12) (T := TX12) (N := 19) ⟨hx, hb, hml, hown, hts⟩ hw (by omega) (isM_0 hM) rfl (c_X12_layCan l Γ n G mo R K kp rf ca rc hd fw tl by0 an vl iv hM (by omega) hI hj) (cwV 0 hts gX12_peal_X12_layCan rfl rfl rfl (by decide +kernel) ⟨Nat.le_of_ble_eq_true rfl, Nat.le_of_ble_eq_true rfl⟩) rfl hl.1 rfl (Nat.le_of_ble_eq_true rfl) dX12_peal_3 ⟨Nat.zero_le _, Nat.zero_le _⟩) hw hA hS (fun G1 H locs hp hw hS => ?_)
  obtain ⟨ca1, hx1, hM, hfr1⟩ := hp
  have hfr := fr_tr hfr hfr1 (Nat.le_refl _) (Nat.le_refl _)
  have hcc := hx1
  refine lv_iconst (v := nI 0) hx hb dX12_peal_6 (by decide) ?_
  refine lv_istore_n (lv' := [(2, .int (nI 0)), (1, .int (nI 0)), (0, .ref (ad Γ (mo + 0)))]) hx hb dX12_peal_7 rfl hl (by decide) rfl (fun ls hl => ?_)
  refine nr_lpI (σ := (Nat → va_E) × Nat × Nat × (Nat → Nat)) 8 (fun x => x.1) (fun x lv => lv = [(0, .ref (ad Γ (mo + 0))), (1, .int (nI x.2.2.1)), (2, .int (nI x.2.1))] ∧ isM Γ x.1 mo R K kp rf ca1 x.2.2.2 hd fw tl by0 an vl iv ∧ fr G x.1 mo (mo + 13) ∧ (x.2.1 ≤ 2 ^ R 1) ∧ (∀ u, u < x.2.1 → x.2.2.2 u ≤ 1 ∧ (x.2.2.2 u = 1 ↔ rchK R x.2.2.2 u (R 1))) ∧ (x.2.2.1 < 256) ∧ (∀ i, bt x.2.2.1 i ↔ ∃ u, u < x.2.1 ∧ x.2.2.2 u = 1 ∧ bt (canS R u) i)) (fun x => 2 ^ R 1 - x.2.1) (G1, 0, 0, rc) hw hS (lv_sub hl [2, 1, 0] rfl) ⟨rfl, hM, hfr, Nat.zero_le _, by (try dsimp only); exact (fun u hu => absurd hu (Nat.not_lt_zero u)), by (try dsimp only); omega, by (try dsimp only); exact (fun i => ⟨fun hb9 => absurd hb9 (bt_0 i), fun ⟨u, u1, _⟩ => absurd u1 (Nat.not_lt_zero u)⟩)⟩ ?_
  intro x lv ls H locs hw hS hl hI ih8
  obtain ⟨Gl8, w, t, rcL8⟩ := x
  obtain ⟨rfl, hM, hfr, hw1, hrr, ht2, htt⟩ := hI
  try dsimp only at hM hfr hw1 hrr ht2 htt hw hl ih8
  have hcw := canS_lt hB1 w
  refine lv_iload_n hx hb dX12_peal_8 rfl (lv_at hl 2 rfl) ?_
  refine lv_iconst (v := nI 1) hx hb dX12_peal_9 (by decide) ?_
  refine lv_aload_n hx hb dX12_peal_10 rfl (lv_at hl 0 rfl) ?_
  refine nr_goS (nr_runV (As := []) (C := RX12) (T := TX12) (N := 19) ⟨hx, hb, hml, hown, hts⟩ hw (by omega) (isM_0 hM) rfl (c_X12_many l Γ n Gl8 mo R K kp rf ca1 rcL8 hd fw tl by0 an vl iv hM (by omega) hI) (cwV 0 hts gX12_peal_X12_many rfl rfl rfl (by decide +kernel) ⟨Nat.le_of_ble_eq_true rfl, Nat.le_of_ble_eq_true rfl⟩) rfl hl.1 rfl (Nat.le_of_ble_eq_true rfl) dX12_peal_11 ⟨Nat.zero_le _, Nat.zero_le _⟩) (fun r2 hr2 => ?_)
  obtain rfl : r2 = (nI (R 1)) := hr2
  refine nr_ishl1 hx hb (by omega) dX12_peal_14 ?_
  refine nr_icmp_ge (tgt := 138) hx hb (by omega) (by omega) dX12_peal_15 (by decide) (fun c3 => ?_) (fun c3 => ?_)
  · refine lv_iload_n hx hb dX12_peal_138 rfl (lv_at hl 1 rfl) ?_
    exact nr_retI hx hb hr hlocks hw hS (⟨trivial, _, _, ⟨fun w hw9 => hrr w (by omega), t, rfl, ht2, fun j => by rw [show 2 ^ R 1 = w by omega]; exact htt j⟩, hM, hfr⟩) dX12_peal_139
  · refine lv_aload_n hx hb dX12_peal_18 rfl (lv_at hl 0 rfl) ?_
    refine nr_get (own := RX12) (C := RX12) (T := TX12) (N := 19) (v := .ref (ad Γ (mo + 6))) hx hb hts hi_X12_peal_X12 hown hw (by omega) (isM_0 hM) rfl 7 (by decide) wl_X12_peal_1 rfl rfl dX12_peal_19 ?_
    refine lv_iload_n hx hb dX12_peal_22 rfl (lv_at hl 2 rfl) ?_
    refine lv_iload_n hx hb dX12_peal_23 rfl (lv_at hl 2 rfl) ?_
    refine nr_if_ne (tgt := 31) hx hb (by omega) dX12_peal_24 (by decide) (fun c4 => ?_) (fun c4 => ?_)
    · refine lv_iconst (v := nI 0) hx hb dX12_peal_31 (by decide) ?_
      refine nr_zast (k := w) (v := 0) hx hb hw hj hA hS (by omega) (isM_6 hM) (by omega) (by decide) (by decide) dX12_peal_32 (fun H locs hw hS => ?_)
      have hM := isM_s6 hM (va_up rcL8 w 0)
      have hfr := fr_up hfr (i := mo + 6) (by omega) (by omega) (za Γ 256 (va_up rcL8 w 0))
      generalize va_up Gl8 (mo + 6) (za Γ 256 (va_up rcL8 w 0)) = G5 at hw hM hfr
      refine lv_iconst (v := nI 0) hx hb dX12_peal_33 (by decide) ?_
      refine lv_istore_n (lv' := [(3, .int (nI 0)), (0, .ref (ad Γ (mo + 0))), (1, .int (nI t)), (2, .int (nI w))]) hx hb dX12_peal_34 rfl hl (by decide) rfl (fun ls hl => ?_)
      refine nr_lpI (σ := (Nat → va_E) × Nat × (Nat → Nat)) 35 (fun x => x.1) (fun x lv => lv = [(0, .ref (ad Γ (mo + 0))), (1, .int (nI t)), (2, .int (nI w)), (3, .int (nI x.2.1))] ∧ isM Γ x.1 mo R K kp rf ca1 x.2.2 hd fw tl by0 an vl iv ∧ fr G x.1 mo (mo + 13) ∧ (x.2.1 ≤ R 1) ∧ (∀ u, u < w → x.2.2 u ≤ 1 ∧ (x.2.2 u = 1 ↔ rchK R x.2.2 u (R 1))) ∧ (∀ i, bt t i ↔ ∃ u, u < w ∧ x.2.2 u = 1 ∧ bt (canS R u) i) ∧ (x.2.2 w ≤ 1) ∧ (x.2.2 w = 1 ↔ rchK R x.2.2 w x.2.1)) (fun x => R 1 - x.2.1) (G5, 0, va_up rcL8 w 0) hw hS (lv_sub hl [1, 2, 3, 0] rfl) ⟨rfl, hM, hfr, by (try dsimp only); omega, by (try dsimp only); exact (rr_up hB1 hrr), by (try dsimp only); exact (tt_up htt), by (try dsimp only); (try dsimp only); rw [va_up_self]; decide, by (try dsimp only); exact (rk_0 _ (by constructor <;> (intro z; first | omega | contradiction)))⟩ ?_
      intro x lv ls H locs hw hS hl hI ih35
      obtain ⟨Gl35, k, rcL35⟩ := x
      obtain ⟨rfl, hM, hfr, hk, hr2, ht3, hr3, hr4⟩ := hI
      try dsimp only at hM hfr hk hr2 ht3 hr3 hr4 hw hl ih35
      have hal : w &&& (2 ^ k ^^^ 4294967295) ≤ w := Nat.and_le_left
      refine lv_iload_n hx hb dX12_peal_35 rfl (lv_at hl 3 rfl) ?_
      refine lv_aload_n hx hb dX12_peal_36 rfl (lv_at hl 0 rfl) ?_
      refine nr_goS (nr_runV (As := []) (C := RX12) (T := TX12) (N := 19) ⟨hx, hb, hml, hown, hts⟩ hw (by omega) (isM_0 hM) rfl (c_X12_many l Γ n Gl35 mo R K kp rf ca1 rcL35 hd fw tl by0 an vl iv hM (by omega) hI) (cwV 0 hts gX12_peal_X12_many rfl rfl rfl (by decide +kernel) ⟨Nat.le_of_ble_eq_true rfl, Nat.le_of_ble_eq_true rfl⟩) rfl hl.1 rfl (Nat.le_of_ble_eq_true rfl) dX12_peal_37 ⟨Nat.zero_le _, Nat.zero_le _⟩) (fun r6 hr6 => ?_)
      obtain rfl : r6 = (nI (R 1)) := hr6
      refine nr_icmp_ge (tgt := 110) hx hb (by omega) (by omega) dX12_peal_40 (by decide) (fun c7 => ?_) (fun c7 => ?_)
      · refine lv_iload_n hx hb dX12_peal_110 rfl (lv_at hl 1 rfl) ?_
        refine lv_aload_n hx hb dX12_peal_111 rfl (lv_at hl 0 rfl) ?_
        refine nr_get (own := RX12) (C := RX12) (T := TX12) (N := 19) (v := .ref (ad Γ (mo + 6))) hx hb hts hi_X12_peal_X12 hown hw (by omega) (isM_0 hM) rfl 7 (by decide) wl_X12_peal_1 rfl rfl dX12_peal_112 ?_
        refine lv_iload_n hx hb dX12_peal_115 rfl (lv_at hl 2 rfl) ?_
        refine nr_zald (x := (rcL35 w)) hx hb hw (by omega) (isM_6 hM) rfl (by omega) (by decide) dX12_peal_116 ?_
        refine nr_if_eq (tgt := 129) hx hb (by omega) dX12_peal_117 (by decide) (fun c8 => ?_) (fun c8 => ?_)
        · refine lv_iconst (v := nI 0) hx hb dX12_peal_129 (by decide) ?_
          refine nr_ior hx hb dX12_peal_130 ?_
          refine lv_istore_n (lv' := [(1, .int (nI (t ||| 0))), (0, .ref (ad Γ (mo + 0))), (2, .int (nI w)), (3, .int (nI k))]) hx hb dX12_peal_131 rfl hl (by decide) rfl (fun ls hl => ?_)
          refine nr_inc (d := 1) (k := 2) (lv' := [(2, .int (nI (w + 1))), (1, .int (nI (t ||| 0))), (0, .ref (ad Γ (mo + 0))), (3, .int (nI k))]) hx hb dX12_peal_132 hl rfl (by decide) (by decide) rfl (fun ls hl => ?_)
          refine lv_goto (tgt := 8) hx hb dX12_peal_135 (by decide) ?_
          exact ih8 (Gl35, w + 1, t ||| 0, rcL35) _ _ _ _ hw hS (lv_sub hl [2, 1, 0] rfl) ⟨rfl, hM, hfr, by (try dsimp only); omega, by (try dsimp only); exact (rr_e (by omega) hr2 hr3 hr4), by (try dsimp only); first | (rw [Nat.or_zero]; exact ht2) | exact Nat.or_lt_two_pow (n := 8) ht2 hcw, by (try dsimp only); first | exact tt_y ht3 (by omega) | exact tt_n ht3 (by omega)⟩ (by (try dsimp only); omega)
        · refine lv_aload_n hx hb dX12_peal_120 rfl (lv_at hl 0 rfl) ?_
          refine nr_get (own := RX12) (C := RX12) (T := TX12) (N := 19) (v := .ref (ad Γ (mo + 5))) hx hb hts hi_X12_peal_X12 hown hw (by omega) (isM_0 hM) rfl 6 (by decide) wl_X12_peal_2 rfl rfl dX12_peal_121 ?_
          refine lv_iload_n hx hb dX12_peal_124 rfl (lv_at hl 2 rfl) ?_
          refine nr_iald (x := (canS R w)) hx hb hw (by omega) (isM_5 hM) (hcc _ (by omega)) (by omega) (by decide) dX12_peal_125 ?_
          refine lv_goto (tgt := 130) hx hb dX12_peal_126 (by decide) ?_
          refine nr_ior hx hb dX12_peal_130 ?_
          refine lv_istore_n (lv' := [(1, .int (nI (t ||| (canS R w)))), (0, .ref (ad Γ (mo + 0))), (2, .int (nI w)), (3, .int (nI k))]) hx hb dX12_peal_131 rfl hl (by decide) rfl (fun ls hl => ?_)
          refine nr_inc (d := 1) (k := 2) (lv' := [(2, .int (nI (w + 1))), (1, .int (nI (t ||| (canS R w)))), (0, .ref (ad Γ (mo + 0))), (3, .int (nI k))]) hx hb dX12_peal_132 hl rfl (by decide) (by decide) rfl (fun ls hl => ?_)
          refine lv_goto (tgt := 8) hx hb dX12_peal_135 (by decide) ?_
          exact ih8 (Gl35, w + 1, t ||| (canS R w), rcL35) _ _ _ _ hw hS (lv_sub hl [2, 1, 0] rfl) ⟨rfl, hM, hfr, by (try dsimp only); omega, by (try dsimp only); exact (rr_e (by omega) hr2 hr3 hr4), by (try dsimp only); first | (rw [Nat.or_zero]; exact ht2) | exact Nat.or_lt_two_pow (n := 8) ht2 hcw, by (try dsimp only); first | exact tt_y ht3 (by omega) | exact tt_n ht3 (by omega)⟩ (by (try dsimp only); omega)
      · refine lv_iload_n hx hb dX12_peal_43 rfl (lv_at hl 2 rfl) ?_
        refine lv_iconst (v := nI 1) hx hb dX12_peal_44 (by decide) ?_
        refine lv_iload_n hx hb dX12_peal_45 rfl (lv_at hl 3 rfl) ?_
        refine nr_ishl1 hx hb (by omega) dX12_peal_46 ?_
        refine lv_iconst (v := (-1)) hx hb dX12_peal_47 (by decide) ?_
        refine nr_not hx hb dX12_peal_48 ?_
        refine nr_iand hx hb dX12_peal_49 ?_
        refine lv_istore (lv' := [(4, .int (nI (w &&& ((2 ^ k) ^^^ 4294967295)))), (0, .ref (ad Γ (mo + 0))), (1, .int (nI t)), (2, .int (nI w)), (3, .int (nI k))]) hx hb dX12_peal_50 hl (by decide) rfl (fun ls hl => ?_)
        refine lv_aload_n hx hb dX12_peal_52 rfl (lv_at hl 1 rfl) ?_
        refine nr_get (own := RX12) (C := RX12) (T := TX12) (N := 19) (v := .ref (ad Γ (mo + 6))) hx hb hts hi_X12_peal_X12 hown hw (by omega) (isM_0 hM) rfl 7 (by decide) wl_X12_peal_1 rfl rfl dX12_peal_53 ?_
        refine lv_iload_n hx hb dX12_peal_56 rfl (lv_at hl 3 rfl) ?_
        refine lv_aload_n hx hb dX12_peal_57 rfl (lv_at hl 1 rfl) ?_
        refine nr_get (own := RX12) (C := RX12) (T := TX12) (N := 19) (v := .ref (ad Γ (mo + 6))) hx hb hts hi_X12_peal_X12 hown hw (by omega) (isM_0 hM) rfl 7 (by decide) wl_X12_peal_1 rfl rfl dX12_peal_58 ?_
        refine lv_iload_n hx hb dX12_peal_61 rfl (lv_at hl 3 rfl) ?_
        refine nr_zald (x := (rcL35 w)) hx hb hw (by omega) (isM_6 hM) rfl (by omega) (by decide) dX12_peal_62 ?_
        have hr5 := hr3
        refine nr_if_ne (tgt := 98) hx hb (by omega) dX12_peal_63 (by decide) (fun c9 => ?_) (fun c9 => ?_)
        · refine lv_iconst (v := nI 1) hx hb dX12_peal_98 (by decide) ?_
          refine lv_goto (tgt := 103) hx hb dX12_peal_99 (by decide) ?_
          refine nr_zast (k := w) (v := 1) hx hb hw hj hA hS (by omega) (isM_6 hM) (by omega) (by decide) (by decide) dX12_peal_103 (fun H locs hw hS => ?_)
          have hM := isM_s6 hM (va_up rcL35 w 1)
          have hfr := fr_up hfr (i := mo + 6) (by omega) (by omega) (za Γ 256 (va_up rcL35 w 1))
          generalize va_up Gl35 (mo + 6) (za Γ 256 (va_up rcL35 w 1)) = G10 at hw hM hfr
          refine nr_inc (d := 1) (k := 4) (lv' := [(3, .int (nI (k + 1))), (4, .int (nI (w &&& ((2 ^ k) ^^^ 4294967295)))), (0, .ref (ad Γ (mo + 0))), (1, .int (nI t)), (2, .int (nI w))]) hx hb dX12_peal_104 hl rfl (by decide) (by decide) rfl (fun ls hl => ?_)
          refine lv_goto (tgt := 35) hx hb dX12_peal_107 (by decide) ?_
          exact ih35 (G10, k + 1, va_up rcL35 w 1) _ _ _ _ hw hS (lv_sub hl [2, 3, 4, 0] rfl) ⟨rfl, hM, hfr, by (try dsimp only); omega, by (try dsimp only); exact (rr_up hB1 hr2), by (try dsimp only); exact (tt_up ht3), by (try dsimp only); (try dsimp only); rw [va_up_self]; decide, by (try dsimp only); first | exact rk_y (by omega) (rk_s.mpr (Or.inl (hr4.mp (by omega)))) | exact rk_y (by omega) (rk_s.mpr (Or.inr ⟨by assumption, by omega, by assumption⟩)) | exact rk_n (by omega) (fun z => (rk_s.mp z).elim (fun y => absurd (hr4.mpr y) (by omega)) (fun y => by first | exact absurd y.1 (by assumption) | exact absurd y.2.1 (by omega) | exact absurd y.2.2 (by assumption)))⟩ (by (try dsimp only); omega)
        · refine lv_iload_n hx hb dX12_peal_66 rfl (lv_at hl 3 rfl) ?_
          refine lv_iload_n hx hb dX12_peal_67 rfl (lv_at hl 4 rfl) ?_
          refine nr_goB (P := bt w k) (nr_runS (As := [.int (nI w), .int (nI k)]) ⟨hx, hb, hml, hown, hts⟩ hw (c_X12_has l Γ n Gl35 w k (by omega) (by omega)) (va_cwS 2 hts gX12_peal_X12_has rfl rfl rfl (by decide +kernel) ⟨Nat.le_of_ble_eq_true rfl, Nat.le_of_ble_eq_true rfl⟩) rfl hl.1 rfl (Nat.le_of_ble_eq_true rfl) dX12_peal_68 ⟨Nat.zero_le _, Nat.zero_le _⟩) (fun b11 => ?_) (fun b11 => ?_)
          · refine nr_if_eq (tgt := 102) hx hb (by decide) dX12_peal_71 (by decide) (fun c12 => absurd c12 (by decide)) (fun c12 => ?_)
            refine lv_aload_n hx hb dX12_peal_74 rfl (lv_at hl 1 rfl) ?_
            refine nr_get (own := RX12) (C := RX12) (T := TX12) (N := 19) (v := .ref (ad Γ (mo + 6))) hx hb hts hi_X12_peal_X12 hown hw (by omega) (isM_0 hM) rfl 7 (by decide) wl_X12_peal_1 rfl rfl dX12_peal_75 ?_
            refine lv_iload hx hb dX12_peal_78 (lv_at hl 0 rfl) ?_
            refine nr_zald (x := (rcL35 (w &&& ((2 ^ k) ^^^ 4294967295)))) hx hb hw (by omega) (isM_6 hM) rfl (by omega) (by decide) dX12_peal_80 ?_
            have hr6 := hr2 (w &&& (2 ^ k ^^^ 4294967295)) (clr_lt (by assumption) (by omega))
            refine nr_if_eq (tgt := 102) hx hb (by omega) dX12_peal_81 (by decide) (fun c13 => ?_) (fun c13 => ?_)
            · refine lv_iconst (v := nI 0) hx hb dX12_peal_102 (by decide) ?_
              refine nr_zast (k := w) (v := 0) hx hb hw hj hA hS (by omega) (isM_6 hM) (by omega) (by decide) (by decide) dX12_peal_103 (fun H locs hw hS => ?_)
              have hM := isM_s6 hM (va_up rcL35 w 0)
              have hfr := fr_up hfr (i := mo + 6) (by omega) (by omega) (za Γ 256 (va_up rcL35 w 0))
              generalize va_up Gl35 (mo + 6) (za Γ 256 (va_up rcL35 w 0)) = G14 at hw hM hfr
              refine nr_inc (d := 1) (k := 4) (lv' := [(3, .int (nI (k + 1))), (4, .int (nI (w &&& ((2 ^ k) ^^^ 4294967295)))), (0, .ref (ad Γ (mo + 0))), (1, .int (nI t)), (2, .int (nI w))]) hx hb dX12_peal_104 hl rfl (by decide) (by decide) rfl (fun ls hl => ?_)
              refine lv_goto (tgt := 35) hx hb dX12_peal_107 (by decide) ?_
              exact ih35 (G14, k + 1, va_up rcL35 w 0) _ _ _ _ hw hS (lv_sub hl [2, 3, 4, 0] rfl) ⟨rfl, hM, hfr, by (try dsimp only); omega, by (try dsimp only); exact (rr_up hB1 hr2), by (try dsimp only); exact (tt_up ht3), by (try dsimp only); (try dsimp only); rw [va_up_self]; decide, by (try dsimp only); first | exact rk_y (by omega) (rk_s.mpr (Or.inl (hr4.mp (by omega)))) | exact rk_y (by omega) (rk_s.mpr (Or.inr ⟨by assumption, by omega, by assumption⟩)) | exact rk_n (by omega) (fun z => (rk_s.mp z).elim (fun y => absurd (hr4.mpr y) (by omega)) (fun y => by first | exact absurd y.1 (by assumption) | exact absurd y.2.1 (by omega) | exact absurd y.2.2 (by assumption)))⟩ (by (try dsimp only); omega)
            · refine lv_aload_n hx hb dX12_peal_84 rfl (lv_at hl 1 rfl) ?_
              refine nr_get (own := RX12) (C := RX12) (T := TX12) (N := 19) (v := .ref (ad Γ (mo + 5))) hx hb hts hi_X12_peal_X12 hown hw (by omega) (isM_0 hM) rfl 6 (by decide) wl_X12_peal_2 rfl rfl dX12_peal_85 ?_
              refine lv_iload hx hb dX12_peal_88 (lv_at hl 0 rfl) ?_
              refine nr_iald (x := (canS R (w &&& ((2 ^ k) ^^^ 4294967295)))) hx hb hw (by omega) (isM_5 hM) (hcc _ (by omega)) (by omega) (by decide) dX12_peal_90 ?_
              have hca9 := canS_lt hB1 (w &&& (2 ^ k ^^^ 4294967295))
              refine lv_iload_n hx hb dX12_peal_91 rfl (lv_at hl 4 rfl) ?_
              refine nr_goB (P := bt (canS R (w &&& ((2 ^ k) ^^^ 4294967295))) k) (nr_runS (As := [.int (nI (canS R (w &&& ((2 ^ k) ^^^ 4294967295)))), .int (nI k)]) ⟨hx, hb, hml, hown, hts⟩ hw (c_X12_has l Γ n Gl35 (canS R (w &&& ((2 ^ k) ^^^ 4294967295))) k (by omega) (by omega)) (va_cwS 2 hts gX12_peal_X12_has rfl rfl rfl (by decide +kernel) ⟨Nat.le_of_ble_eq_true rfl, Nat.le_of_ble_eq_true rfl⟩) rfl hl.1 rfl (Nat.le_of_ble_eq_true rfl) dX12_peal_92 ⟨Nat.zero_le _, Nat.zero_le _⟩) (fun b15 => ?_) (fun b15 => ?_)
              · refine nr_if_eq (tgt := 102) hx hb (by decide) dX12_peal_95 (by decide) (fun c16 => absurd c16 (by decide)) (fun c16 => ?_)
                refine lv_iconst (v := nI 1) hx hb dX12_peal_98 (by decide) ?_
                refine lv_goto (tgt := 103) hx hb dX12_peal_99 (by decide) ?_
                refine nr_zast (k := w) (v := 1) hx hb hw hj hA hS (by omega) (isM_6 hM) (by omega) (by decide) (by decide) dX12_peal_103 (fun H locs hw hS => ?_)
                have hM := isM_s6 hM (va_up rcL35 w 1)
                have hfr := fr_up hfr (i := mo + 6) (by omega) (by omega) (za Γ 256 (va_up rcL35 w 1))
                generalize va_up Gl35 (mo + 6) (za Γ 256 (va_up rcL35 w 1)) = G17 at hw hM hfr
                refine nr_inc (d := 1) (k := 4) (lv' := [(3, .int (nI (k + 1))), (4, .int (nI (w &&& ((2 ^ k) ^^^ 4294967295)))), (0, .ref (ad Γ (mo + 0))), (1, .int (nI t)), (2, .int (nI w))]) hx hb dX12_peal_104 hl rfl (by decide) (by decide) rfl (fun ls hl => ?_)
                refine lv_goto (tgt := 35) hx hb dX12_peal_107 (by decide) ?_
                exact ih35 (G17, k + 1, va_up rcL35 w 1) _ _ _ _ hw hS (lv_sub hl [2, 3, 4, 0] rfl) ⟨rfl, hM, hfr, by (try dsimp only); omega, by (try dsimp only); exact (rr_up hB1 hr2), by (try dsimp only); exact (tt_up ht3), by (try dsimp only); (try dsimp only); rw [va_up_self]; decide, by (try dsimp only); first | exact rk_y (by omega) (rk_s.mpr (Or.inl (hr4.mp (by omega)))) | exact rk_y (by omega) (rk_s.mpr (Or.inr ⟨by assumption, by omega, by assumption⟩)) | exact rk_n (by omega) (fun z => (rk_s.mp z).elim (fun y => absurd (hr4.mpr y) (by omega)) (fun y => by first | exact absurd y.1 (by assumption) | exact absurd y.2.1 (by omega) | exact absurd y.2.2 (by assumption)))⟩ (by (try dsimp only); omega)
              · refine nr_if_eq (tgt := 102) hx hb (by decide) dX12_peal_95 (by decide) (fun c18 => ?_) (fun c18 => absurd c18 (by decide))
                refine lv_iconst (v := nI 0) hx hb dX12_peal_102 (by decide) ?_
                refine nr_zast (k := w) (v := 0) hx hb hw hj hA hS (by omega) (isM_6 hM) (by omega) (by decide) (by decide) dX12_peal_103 (fun H locs hw hS => ?_)
                have hM := isM_s6 hM (va_up rcL35 w 0)
                have hfr := fr_up hfr (i := mo + 6) (by omega) (by omega) (za Γ 256 (va_up rcL35 w 0))
                generalize va_up Gl35 (mo + 6) (za Γ 256 (va_up rcL35 w 0)) = G19 at hw hM hfr
                refine nr_inc (d := 1) (k := 4) (lv' := [(3, .int (nI (k + 1))), (4, .int (nI (w &&& ((2 ^ k) ^^^ 4294967295)))), (0, .ref (ad Γ (mo + 0))), (1, .int (nI t)), (2, .int (nI w))]) hx hb dX12_peal_104 hl rfl (by decide) (by decide) rfl (fun ls hl => ?_)
                refine lv_goto (tgt := 35) hx hb dX12_peal_107 (by decide) ?_
                exact ih35 (G19, k + 1, va_up rcL35 w 0) _ _ _ _ hw hS (lv_sub hl [2, 3, 4, 0] rfl) ⟨rfl, hM, hfr, by (try dsimp only); omega, by (try dsimp only); exact (rr_up hB1 hr2), by (try dsimp only); exact (tt_up ht3), by (try dsimp only); (try dsimp only); rw [va_up_self]; decide, by (try dsimp only); first | exact rk_y (by omega) (rk_s.mpr (Or.inl (hr4.mp (by omega)))) | exact rk_y (by omega) (rk_s.mpr (Or.inr ⟨by assumption, by omega, by assumption⟩)) | exact rk_n (by omega) (fun z => (rk_s.mp z).elim (fun y => absurd (hr4.mpr y) (by omega)) (fun y => by first | exact absurd y.1 (by assumption) | exact absurd y.2.1 (by omega) | exact absurd y.2.2 (by assumption)))⟩ (by (try dsimp only); omega)
          · refine nr_if_eq (tgt := 102) hx hb (by decide) dX12_peal_71 (by decide) (fun c20 => ?_) (fun c20 => absurd c20 (by decide))
            refine lv_iconst (v := nI 0) hx hb dX12_peal_102 (by decide) ?_
            refine nr_zast (k := w) (v := 0) hx hb hw hj hA hS (by omega) (isM_6 hM) (by omega) (by decide) (by decide) dX12_peal_103 (fun H locs hw hS => ?_)
            have hM := isM_s6 hM (va_up rcL35 w 0)
            have hfr := fr_up hfr (i := mo + 6) (by omega) (by omega) (za Γ 256 (va_up rcL35 w 0))
            generalize va_up Gl35 (mo + 6) (za Γ 256 (va_up rcL35 w 0)) = G21 at hw hM hfr
            refine nr_inc (d := 1) (k := 4) (lv' := [(3, .int (nI (k + 1))), (4, .int (nI (w &&& ((2 ^ k) ^^^ 4294967295)))), (0, .ref (ad Γ (mo + 0))), (1, .int (nI t)), (2, .int (nI w))]) hx hb dX12_peal_104 hl rfl (by decide) (by decide) rfl (fun ls hl => ?_)
            refine lv_goto (tgt := 35) hx hb dX12_peal_107 (by decide) ?_
            exact ih35 (G21, k + 1, va_up rcL35 w 0) _ _ _ _ hw hS (lv_sub hl [2, 3, 4, 0] rfl) ⟨rfl, hM, hfr, by (try dsimp only); omega, by (try dsimp only); exact (rr_up hB1 hr2), by (try dsimp only); exact (tt_up ht3), by (try dsimp only); (try dsimp only); rw [va_up_self]; decide, by (try dsimp only); first | exact rk_y (by omega) (rk_s.mpr (Or.inl (hr4.mp (by omega)))) | exact rk_y (by omega) (rk_s.mpr (Or.inr ⟨by assumption, by omega, by assumption⟩)) | exact rk_n (by omega) (fun z => (rk_s.mp z).elim (fun y => absurd (hr4.mpr y) (by omega)) (fun y => by first | exact absurd y.1 (by assumption) | exact absurd y.2.1 (by omega) | exact absurd y.2.2 (by assumption)))⟩ (by (try dsimp only); omega)
    · refine lv_iconst (v := nI 1) hx hb dX12_peal_27 (by decide) ?_
      refine lv_goto (tgt := 32) hx hb dX12_peal_28 (by decide) ?_
      refine nr_zast (k := w) (v := 1) hx hb hw hj hA hS (by omega) (isM_6 hM) (by omega) (by decide) (by decide) dX12_peal_32 (fun H locs hw hS => ?_)
      have hM := isM_s6 hM (va_up rcL8 w 1)
      have hfr := fr_up hfr (i := mo + 6) (by omega) (by omega) (za Γ 256 (va_up rcL8 w 1))
      generalize va_up Gl8 (mo + 6) (za Γ 256 (va_up rcL8 w 1)) = G22 at hw hM hfr
      refine lv_iconst (v := nI 0) hx hb dX12_peal_33 (by decide) ?_
      refine lv_istore_n (lv' := [(3, .int (nI 0)), (0, .ref (ad Γ (mo + 0))), (1, .int (nI t)), (2, .int (nI w))]) hx hb dX12_peal_34 rfl hl (by decide) rfl (fun ls hl => ?_)
      refine nr_lpI (σ := (Nat → va_E) × Nat × (Nat → Nat)) 35 (fun x => x.1) (fun x lv => lv = [(0, .ref (ad Γ (mo + 0))), (1, .int (nI t)), (2, .int (nI w)), (3, .int (nI x.2.1))] ∧ isM Γ x.1 mo R K kp rf ca1 x.2.2 hd fw tl by0 an vl iv ∧ fr G x.1 mo (mo + 13) ∧ (x.2.1 ≤ R 1) ∧ (∀ u, u < w → x.2.2 u ≤ 1 ∧ (x.2.2 u = 1 ↔ rchK R x.2.2 u (R 1))) ∧ (∀ i, bt t i ↔ ∃ u, u < w ∧ x.2.2 u = 1 ∧ bt (canS R u) i) ∧ (x.2.2 w ≤ 1) ∧ (x.2.2 w = 1 ↔ rchK R x.2.2 w x.2.1)) (fun x => R 1 - x.2.1) (G22, 0, va_up rcL8 w 1) hw hS (lv_sub hl [1, 2, 3, 0] rfl) ⟨rfl, hM, hfr, by (try dsimp only); omega, by (try dsimp only); exact (rr_up hB1 hrr), by (try dsimp only); exact (tt_up htt), by (try dsimp only); (try dsimp only); rw [va_up_self]; decide, by (try dsimp only); exact (rk_0 _ (by constructor <;> (intro z; first | omega | contradiction)))⟩ ?_
      intro x lv ls H locs hw hS hl hI ih35
      obtain ⟨Gl35, k, rcL35⟩ := x
      obtain ⟨rfl, hM, hfr, hk, hr2, ht3, hr3, hr4⟩ := hI
      try dsimp only at hM hfr hk hr2 ht3 hr3 hr4 hw hl ih35
      have hal : w &&& (2 ^ k ^^^ 4294967295) ≤ w := Nat.and_le_left
      refine lv_iload_n hx hb dX12_peal_35 rfl (lv_at hl 3 rfl) ?_
      refine lv_aload_n hx hb dX12_peal_36 rfl (lv_at hl 0 rfl) ?_
      refine nr_goS (nr_runV (As := []) (C := RX12) (T := TX12) (N := 19) ⟨hx, hb, hml, hown, hts⟩ hw (by omega) (isM_0 hM) rfl (c_X12_many l Γ n Gl35 mo R K kp rf ca1 rcL35 hd fw tl by0 an vl iv hM (by omega) hI) (cwV 0 hts gX12_peal_X12_many rfl rfl rfl (by decide +kernel) ⟨Nat.le_of_ble_eq_true rfl, Nat.le_of_ble_eq_true rfl⟩) rfl hl.1 rfl (Nat.le_of_ble_eq_true rfl) dX12_peal_37 ⟨Nat.zero_le _, Nat.zero_le _⟩) (fun r23 hr23 => ?_)
      obtain rfl : r23 = (nI (R 1)) := hr23
      refine nr_icmp_ge (tgt := 110) hx hb (by omega) (by omega) dX12_peal_40 (by decide) (fun c24 => ?_) (fun c24 => ?_)
      · refine lv_iload_n hx hb dX12_peal_110 rfl (lv_at hl 1 rfl) ?_
        refine lv_aload_n hx hb dX12_peal_111 rfl (lv_at hl 0 rfl) ?_
        refine nr_get (own := RX12) (C := RX12) (T := TX12) (N := 19) (v := .ref (ad Γ (mo + 6))) hx hb hts hi_X12_peal_X12 hown hw (by omega) (isM_0 hM) rfl 7 (by decide) wl_X12_peal_1 rfl rfl dX12_peal_112 ?_
        refine lv_iload_n hx hb dX12_peal_115 rfl (lv_at hl 2 rfl) ?_
        refine nr_zald (x := (rcL35 w)) hx hb hw (by omega) (isM_6 hM) rfl (by omega) (by decide) dX12_peal_116 ?_
        refine nr_if_eq (tgt := 129) hx hb (by omega) dX12_peal_117 (by decide) (fun c25 => ?_) (fun c25 => ?_)
        · refine lv_iconst (v := nI 0) hx hb dX12_peal_129 (by decide) ?_
          refine nr_ior hx hb dX12_peal_130 ?_
          refine lv_istore_n (lv' := [(1, .int (nI (t ||| 0))), (0, .ref (ad Γ (mo + 0))), (2, .int (nI w)), (3, .int (nI k))]) hx hb dX12_peal_131 rfl hl (by decide) rfl (fun ls hl => ?_)
          refine nr_inc (d := 1) (k := 2) (lv' := [(2, .int (nI (w + 1))), (1, .int (nI (t ||| 0))), (0, .ref (ad Γ (mo + 0))), (3, .int (nI k))]) hx hb dX12_peal_132 hl rfl (by decide) (by decide) rfl (fun ls hl => ?_)
          refine lv_goto (tgt := 8) hx hb dX12_peal_135 (by decide) ?_
          exact ih8 (Gl35, w + 1, t ||| 0, rcL35) _ _ _ _ hw hS (lv_sub hl [2, 1, 0] rfl) ⟨rfl, hM, hfr, by (try dsimp only); omega, by (try dsimp only); exact (rr_e (by omega) hr2 hr3 hr4), by (try dsimp only); first | (rw [Nat.or_zero]; exact ht2) | exact Nat.or_lt_two_pow (n := 8) ht2 hcw, by (try dsimp only); first | exact tt_y ht3 (by omega) | exact tt_n ht3 (by omega)⟩ (by (try dsimp only); omega)
        · refine lv_aload_n hx hb dX12_peal_120 rfl (lv_at hl 0 rfl) ?_
          refine nr_get (own := RX12) (C := RX12) (T := TX12) (N := 19) (v := .ref (ad Γ (mo + 5))) hx hb hts hi_X12_peal_X12 hown hw (by omega) (isM_0 hM) rfl 6 (by decide) wl_X12_peal_2 rfl rfl dX12_peal_121 ?_
          refine lv_iload_n hx hb dX12_peal_124 rfl (lv_at hl 2 rfl) ?_
          refine nr_iald (x := (canS R w)) hx hb hw (by omega) (isM_5 hM) (hcc _ (by omega)) (by omega) (by decide) dX12_peal_125 ?_
          refine lv_goto (tgt := 130) hx hb dX12_peal_126 (by decide) ?_
          refine nr_ior hx hb dX12_peal_130 ?_
          refine lv_istore_n (lv' := [(1, .int (nI (t ||| (canS R w)))), (0, .ref (ad Γ (mo + 0))), (2, .int (nI w)), (3, .int (nI k))]) hx hb dX12_peal_131 rfl hl (by decide) rfl (fun ls hl => ?_)
          refine nr_inc (d := 1) (k := 2) (lv' := [(2, .int (nI (w + 1))), (1, .int (nI (t ||| (canS R w)))), (0, .ref (ad Γ (mo + 0))), (3, .int (nI k))]) hx hb dX12_peal_132 hl rfl (by decide) (by decide) rfl (fun ls hl => ?_)
          refine lv_goto (tgt := 8) hx hb dX12_peal_135 (by decide) ?_
          exact ih8 (Gl35, w + 1, t ||| (canS R w), rcL35) _ _ _ _ hw hS (lv_sub hl [2, 1, 0] rfl) ⟨rfl, hM, hfr, by (try dsimp only); omega, by (try dsimp only); exact (rr_e (by omega) hr2 hr3 hr4), by (try dsimp only); first | (rw [Nat.or_zero]; exact ht2) | exact Nat.or_lt_two_pow (n := 8) ht2 hcw, by (try dsimp only); first | exact tt_y ht3 (by omega) | exact tt_n ht3 (by omega)⟩ (by (try dsimp only); omega)
      · refine lv_iload_n hx hb dX12_peal_43 rfl (lv_at hl 2 rfl) ?_
        refine lv_iconst (v := nI 1) hx hb dX12_peal_44 (by decide) ?_
        refine lv_iload_n hx hb dX12_peal_45 rfl (lv_at hl 3 rfl) ?_
        refine nr_ishl1 hx hb (by omega) dX12_peal_46 ?_
        refine lv_iconst (v := (-1)) hx hb dX12_peal_47 (by decide) ?_
        refine nr_not hx hb dX12_peal_48 ?_
        refine nr_iand hx hb dX12_peal_49 ?_
        refine lv_istore (lv' := [(4, .int (nI (w &&& ((2 ^ k) ^^^ 4294967295)))), (0, .ref (ad Γ (mo + 0))), (1, .int (nI t)), (2, .int (nI w)), (3, .int (nI k))]) hx hb dX12_peal_50 hl (by decide) rfl (fun ls hl => ?_)
        refine lv_aload_n hx hb dX12_peal_52 rfl (lv_at hl 1 rfl) ?_
        refine nr_get (own := RX12) (C := RX12) (T := TX12) (N := 19) (v := .ref (ad Γ (mo + 6))) hx hb hts hi_X12_peal_X12 hown hw (by omega) (isM_0 hM) rfl 7 (by decide) wl_X12_peal_1 rfl rfl dX12_peal_53 ?_
        refine lv_iload_n hx hb dX12_peal_56 rfl (lv_at hl 3 rfl) ?_
        refine lv_aload_n hx hb dX12_peal_57 rfl (lv_at hl 1 rfl) ?_
        refine nr_get (own := RX12) (C := RX12) (T := TX12) (N := 19) (v := .ref (ad Γ (mo + 6))) hx hb hts hi_X12_peal_X12 hown hw (by omega) (isM_0 hM) rfl 7 (by decide) wl_X12_peal_1 rfl rfl dX12_peal_58 ?_
        refine lv_iload_n hx hb dX12_peal_61 rfl (lv_at hl 3 rfl) ?_
        refine nr_zald (x := (rcL35 w)) hx hb hw (by omega) (isM_6 hM) rfl (by omega) (by decide) dX12_peal_62 ?_
        have hr5 := hr3
        refine nr_if_ne (tgt := 98) hx hb (by omega) dX12_peal_63 (by decide) (fun c26 => ?_) (fun c26 => ?_)
        · refine lv_iconst (v := nI 1) hx hb dX12_peal_98 (by decide) ?_
          refine lv_goto (tgt := 103) hx hb dX12_peal_99 (by decide) ?_
          refine nr_zast (k := w) (v := 1) hx hb hw hj hA hS (by omega) (isM_6 hM) (by omega) (by decide) (by decide) dX12_peal_103 (fun H locs hw hS => ?_)
          have hM := isM_s6 hM (va_up rcL35 w 1)
          have hfr := fr_up hfr (i := mo + 6) (by omega) (by omega) (za Γ 256 (va_up rcL35 w 1))
          generalize va_up Gl35 (mo + 6) (za Γ 256 (va_up rcL35 w 1)) = G27 at hw hM hfr
          refine nr_inc (d := 1) (k := 4) (lv' := [(3, .int (nI (k + 1))), (4, .int (nI (w &&& ((2 ^ k) ^^^ 4294967295)))), (0, .ref (ad Γ (mo + 0))), (1, .int (nI t)), (2, .int (nI w))]) hx hb dX12_peal_104 hl rfl (by decide) (by decide) rfl (fun ls hl => ?_)
          refine lv_goto (tgt := 35) hx hb dX12_peal_107 (by decide) ?_
          exact ih35 (G27, k + 1, va_up rcL35 w 1) _ _ _ _ hw hS (lv_sub hl [2, 3, 4, 0] rfl) ⟨rfl, hM, hfr, by (try dsimp only); omega, by (try dsimp only); exact (rr_up hB1 hr2), by (try dsimp only); exact (tt_up ht3), by (try dsimp only); (try dsimp only); rw [va_up_self]; decide, by (try dsimp only); first | exact rk_y (by omega) (rk_s.mpr (Or.inl (hr4.mp (by omega)))) | exact rk_y (by omega) (rk_s.mpr (Or.inr ⟨by assumption, by omega, by assumption⟩)) | exact rk_n (by omega) (fun z => (rk_s.mp z).elim (fun y => absurd (hr4.mpr y) (by omega)) (fun y => by first | exact absurd y.1 (by assumption) | exact absurd y.2.1 (by omega) | exact absurd y.2.2 (by assumption)))⟩ (by (try dsimp only); omega)
        · refine lv_iload_n hx hb dX12_peal_66 rfl (lv_at hl 3 rfl) ?_
          refine lv_iload_n hx hb dX12_peal_67 rfl (lv_at hl 4 rfl) ?_
          refine nr_goB (P := bt w k) (nr_runS (As := [.int (nI w), .int (nI k)]) ⟨hx, hb, hml, hown, hts⟩ hw (c_X12_has l Γ n Gl35 w k (by omega) (by omega)) (va_cwS 2 hts gX12_peal_X12_has rfl rfl rfl (by decide +kernel) ⟨Nat.le_of_ble_eq_true rfl, Nat.le_of_ble_eq_true rfl⟩) rfl hl.1 rfl (Nat.le_of_ble_eq_true rfl) dX12_peal_68 ⟨Nat.zero_le _, Nat.zero_le _⟩) (fun b28 => ?_) (fun b28 => ?_)
          · refine nr_if_eq (tgt := 102) hx hb (by decide) dX12_peal_71 (by decide) (fun c29 => absurd c29 (by decide)) (fun c29 => ?_)
            refine lv_aload_n hx hb dX12_peal_74 rfl (lv_at hl 1 rfl) ?_
            refine nr_get (own := RX12) (C := RX12) (T := TX12) (N := 19) (v := .ref (ad Γ (mo + 6))) hx hb hts hi_X12_peal_X12 hown hw (by omega) (isM_0 hM) rfl 7 (by decide) wl_X12_peal_1 rfl rfl dX12_peal_75 ?_
            refine lv_iload hx hb dX12_peal_78 (lv_at hl 0 rfl) ?_
            refine nr_zald (x := (rcL35 (w &&& ((2 ^ k) ^^^ 4294967295)))) hx hb hw (by omega) (isM_6 hM) rfl (by omega) (by decide) dX12_peal_80 ?_
            have hr6 := hr2 (w &&& (2 ^ k ^^^ 4294967295)) (clr_lt (by assumption) (by omega))
            refine nr_if_eq (tgt := 102) hx hb (by omega) dX12_peal_81 (by decide) (fun c30 => ?_) (fun c30 => ?_)
            · refine lv_iconst (v := nI 0) hx hb dX12_peal_102 (by decide) ?_
              refine nr_zast (k := w) (v := 0) hx hb hw hj hA hS (by omega) (isM_6 hM) (by omega) (by decide) (by decide) dX12_peal_103 (fun H locs hw hS => ?_)
              have hM := isM_s6 hM (va_up rcL35 w 0)
              have hfr := fr_up hfr (i := mo + 6) (by omega) (by omega) (za Γ 256 (va_up rcL35 w 0))
              generalize va_up Gl35 (mo + 6) (za Γ 256 (va_up rcL35 w 0)) = G31 at hw hM hfr
              refine nr_inc (d := 1) (k := 4) (lv' := [(3, .int (nI (k + 1))), (4, .int (nI (w &&& ((2 ^ k) ^^^ 4294967295)))), (0, .ref (ad Γ (mo + 0))), (1, .int (nI t)), (2, .int (nI w))]) hx hb dX12_peal_104 hl rfl (by decide) (by decide) rfl (fun ls hl => ?_)
              refine lv_goto (tgt := 35) hx hb dX12_peal_107 (by decide) ?_
              exact ih35 (G31, k + 1, va_up rcL35 w 0) _ _ _ _ hw hS (lv_sub hl [2, 3, 4, 0] rfl) ⟨rfl, hM, hfr, by (try dsimp only); omega, by (try dsimp only); exact (rr_up hB1 hr2), by (try dsimp only); exact (tt_up ht3), by (try dsimp only); (try dsimp only); rw [va_up_self]; decide, by (try dsimp only); first | exact rk_y (by omega) (rk_s.mpr (Or.inl (hr4.mp (by omega)))) | exact rk_y (by omega) (rk_s.mpr (Or.inr ⟨by assumption, by omega, by assumption⟩)) | exact rk_n (by omega) (fun z => (rk_s.mp z).elim (fun y => absurd (hr4.mpr y) (by omega)) (fun y => by first | exact absurd y.1 (by assumption) | exact absurd y.2.1 (by omega) | exact absurd y.2.2 (by assumption)))⟩ (by (try dsimp only); omega)
            · refine lv_aload_n hx hb dX12_peal_84 rfl (lv_at hl 1 rfl) ?_
              refine nr_get (own := RX12) (C := RX12) (T := TX12) (N := 19) (v := .ref (ad Γ (mo + 5))) hx hb hts hi_X12_peal_X12 hown hw (by omega) (isM_0 hM) rfl 6 (by decide) wl_X12_peal_2 rfl rfl dX12_peal_85 ?_
              refine lv_iload hx hb dX12_peal_88 (lv_at hl 0 rfl) ?_
              refine nr_iald (x := (canS R (w &&& ((2 ^ k) ^^^ 4294967295)))) hx hb hw (by omega) (isM_5 hM) (hcc _ (by omega)) (by omega) (by decide) dX12_peal_90 ?_
              have hca9 := canS_lt hB1 (w &&& (2 ^ k ^^^ 4294967295))
              refine lv_iload_n hx hb dX12_peal_91 rfl (lv_at hl 4 rfl) ?_
              refine nr_goB (P := bt (canS R (w &&& ((2 ^ k) ^^^ 4294967295))) k) (nr_runS (As := [.int (nI (canS R (w &&& ((2 ^ k) ^^^ 4294967295)))), .int (nI k)]) ⟨hx, hb, hml, hown, hts⟩ hw (c_X12_has l Γ n Gl35 (canS R (w &&& ((2 ^ k) ^^^ 4294967295))) k (by omega) (by omega)) (va_cwS 2 hts gX12_peal_X12_has rfl rfl rfl (by decide +kernel) ⟨Nat.le_of_ble_eq_true rfl, Nat.le_of_ble_eq_true rfl⟩) rfl hl.1 rfl (Nat.le_of_ble_eq_true rfl) dX12_peal_92 ⟨Nat.zero_le _, Nat.zero_le _⟩) (fun b32 => ?_) (fun b32 => ?_)
              · refine nr_if_eq (tgt := 102) hx hb (by decide) dX12_peal_95 (by decide) (fun c33 => absurd c33 (by decide)) (fun c33 => ?_)
                refine lv_iconst (v := nI 1) hx hb dX12_peal_98 (by decide) ?_
                refine lv_goto (tgt := 103) hx hb dX12_peal_99 (by decide) ?_
                refine nr_zast (k := w) (v := 1) hx hb hw hj hA hS (by omega) (isM_6 hM) (by omega) (by decide) (by decide) dX12_peal_103 (fun H locs hw hS => ?_)
                have hM := isM_s6 hM (va_up rcL35 w 1)
                have hfr := fr_up hfr (i := mo + 6) (by omega) (by omega) (za Γ 256 (va_up rcL35 w 1))
                generalize va_up Gl35 (mo + 6) (za Γ 256 (va_up rcL35 w 1)) = G34 at hw hM hfr
                refine nr_inc (d := 1) (k := 4) (lv' := [(3, .int (nI (k + 1))), (4, .int (nI (w &&& ((2 ^ k) ^^^ 4294967295)))), (0, .ref (ad Γ (mo + 0))), (1, .int (nI t)), (2, .int (nI w))]) hx hb dX12_peal_104 hl rfl (by decide) (by decide) rfl (fun ls hl => ?_)
                refine lv_goto (tgt := 35) hx hb dX12_peal_107 (by decide) ?_
                exact ih35 (G34, k + 1, va_up rcL35 w 1) _ _ _ _ hw hS (lv_sub hl [2, 3, 4, 0] rfl) ⟨rfl, hM, hfr, by (try dsimp only); omega, by (try dsimp only); exact (rr_up hB1 hr2), by (try dsimp only); exact (tt_up ht3), by (try dsimp only); (try dsimp only); rw [va_up_self]; decide, by (try dsimp only); first | exact rk_y (by omega) (rk_s.mpr (Or.inl (hr4.mp (by omega)))) | exact rk_y (by omega) (rk_s.mpr (Or.inr ⟨by assumption, by omega, by assumption⟩)) | exact rk_n (by omega) (fun z => (rk_s.mp z).elim (fun y => absurd (hr4.mpr y) (by omega)) (fun y => by first | exact absurd y.1 (by assumption) | exact absurd y.2.1 (by omega) | exact absurd y.2.2 (by assumption)))⟩ (by (try dsimp only); omega)
              · refine nr_if_eq (tgt := 102) hx hb (by decide) dX12_peal_95 (by decide) (fun c35 => ?_) (fun c35 => absurd c35 (by decide))
                refine lv_iconst (v := nI 0) hx hb dX12_peal_102 (by decide) ?_
                refine nr_zast (k := w) (v := 0) hx hb hw hj hA hS (by omega) (isM_6 hM) (by omega) (by decide) (by decide) dX12_peal_103 (fun H locs hw hS => ?_)
                have hM := isM_s6 hM (va_up rcL35 w 0)
                have hfr := fr_up hfr (i := mo + 6) (by omega) (by omega) (za Γ 256 (va_up rcL35 w 0))
                generalize va_up Gl35 (mo + 6) (za Γ 256 (va_up rcL35 w 0)) = G36 at hw hM hfr
                refine nr_inc (d := 1) (k := 4) (lv' := [(3, .int (nI (k + 1))), (4, .int (nI (w &&& ((2 ^ k) ^^^ 4294967295)))), (0, .ref (ad Γ (mo + 0))), (1, .int (nI t)), (2, .int (nI w))]) hx hb dX12_peal_104 hl rfl (by decide) (by decide) rfl (fun ls hl => ?_)
                refine lv_goto (tgt := 35) hx hb dX12_peal_107 (by decide) ?_
                exact ih35 (G36, k + 1, va_up rcL35 w 0) _ _ _ _ hw hS (lv_sub hl [2, 3, 4, 0] rfl) ⟨rfl, hM, hfr, by (try dsimp only); omega, by (try dsimp only); exact (rr_up hB1 hr2), by (try dsimp only); exact (tt_up ht3), by (try dsimp only); (try dsimp only); rw [va_up_self]; decide, by (try dsimp only); first | exact rk_y (by omega) (rk_s.mpr (Or.inl (hr4.mp (by omega)))) | exact rk_y (by omega) (rk_s.mpr (Or.inr ⟨by assumption, by omega, by assumption⟩)) | exact rk_n (by omega) (fun z => (rk_s.mp z).elim (fun y => absurd (hr4.mpr y) (by omega)) (fun y => by first | exact absurd y.1 (by assumption) | exact absurd y.2.1 (by omega) | exact absurd y.2.2 (by assumption)))⟩ (by (try dsimp only); omega)
          · refine nr_if_eq (tgt := 102) hx hb (by decide) dX12_peal_71 (by decide) (fun c37 => ?_) (fun c37 => absurd c37 (by decide))
            refine lv_iconst (v := nI 0) hx hb dX12_peal_102 (by decide) ?_
            refine nr_zast (k := w) (v := 0) hx hb hw hj hA hS (by omega) (isM_6 hM) (by omega) (by decide) (by decide) dX12_peal_103 (fun H locs hw hS => ?_)
            have hM := isM_s6 hM (va_up rcL35 w 0)
            have hfr := fr_up hfr (i := mo + 6) (by omega) (by omega) (za Γ 256 (va_up rcL35 w 0))
            generalize va_up Gl35 (mo + 6) (za Γ 256 (va_up rcL35 w 0)) = G38 at hw hM hfr
            refine nr_inc (d := 1) (k := 4) (lv' := [(3, .int (nI (k + 1))), (4, .int (nI (w &&& ((2 ^ k) ^^^ 4294967295)))), (0, .ref (ad Γ (mo + 0))), (1, .int (nI t)), (2, .int (nI w))]) hx hb dX12_peal_104 hl rfl (by decide) (by decide) rfl (fun ls hl => ?_)
            refine lv_goto (tgt := 35) hx hb dX12_peal_107 (by decide) ?_
            exact ih35 (G38, k + 1, va_up rcL35 w 0) _ _ _ _ hw hS (lv_sub hl [2, 3, 4, 0] rfl) ⟨rfl, hM, hfr, by (try dsimp only); omega, by (try dsimp only); exact (rr_up hB1 hr2), by (try dsimp only); exact (tt_up ht3), by (try dsimp only); (try dsimp only); rw [va_up_self]; decide, by (try dsimp only); first | exact rk_y (by omega) (rk_s.mpr (Or.inl (hr4.mp (by omega)))) | exact rk_y (by omega) (rk_s.mpr (Or.inr ⟨by assumption, by omega, by assumption⟩)) | exact rk_n (by omega) (fun z => (rk_s.mp z).elim (fun y => absurd (hr4.mpr y) (by omega)) (fun y => by first | exact absurd y.1 (by assumption) | exact absurd y.2.1 (by omega) | exact absurd y.2.2 (by assumption)))⟩ (by (try dsimp only); omega)
