section SDD
def pickC (a b c d e f k : Nat) : Nat := if k = 0 then a else if k = 1 then b else if k = 2 then c else if k = 3 then d else if k = 4 then e else f
abbrev splP (T iv : Nat → Nat) (i : Nat) : Prop := iv 3 = 1 ∧ wmP T (iv 1) (iv 1 + iv 2) i
def splX (T iv : Nat → Nat) (sz a b c d e f : Nat) : Prop := iv 3 = 1 ∧ iv 2 = sz ∧ ∀ k, k < sz → T (iv 1 + k) = pickC a b c d e f k
theorem spl_i {T iv : Nat → Nat} {sz a b c d e f i : Nat} (h1 : lenW i = sz) (h2 : ∀ k, k < sz → pickC a b c d e f k = chW i k) : splX T iv sz a b c d e f ↔ splP T iv i := by
  unfold splX
  constructor
  · rintro ⟨g1, g2, g3⟩
    exact ⟨g1, by omega, fun j hj => by rw [g3 j (by omega), h2 j (by omega)]⟩
  · rintro ⟨g1, g2, g3⟩
    exact ⟨g1, by omega, fun j hj => by rw [g3 j (by omega), h2 j (by omega)]⟩
theorem wW_ne : ∀ i, i < 5 → ∀ j, j < 5 → i ≠ j → lenW i ≠ lenW j ∨ chW i 0 ≠ chW j 0 := by decide +kernel
theorem wm_one {T : Nat → Nat} {x e i j : Nat} (hi : i < 5) (hj : j < 5) (h1 : wmP T x e i) (h2 : wmP T x e j) : i = j := by
  by_cases q : i = j
  · exact q
  · have a := lenW_le i hi
    have b := lenW_le j hj
    rcases wW_ne i hi j hj q with z | z
    · exact absurd (h1.1.symm.trans h2.1) z
    · exact absurd ((h1.2 0 (by omega)).symm.trans (h2.2 0 (by omega))) z
theorem wdF_is {T : Nat → Nat} {x e i : Nat} (hi : i < 5) (h : wmP T x e i) : ∀ m, m ≤ 5 → wdF T x e 0 m = if i < m then i + 1 else 0
  | 0, _ => by rw [if_neg (by omega)]; rfl
  | m + 1, hm => by
    have ih := wdF_is hi h m (by omega)
    unfold wdF
    by_cases q : wmP T x e m
    · have := wm_one hi (by omega) h q
      rw [if_pos q, if_pos (by omega), this]
    · rw [if_neg q, ih]
      by_cases z : i < m
      · rw [if_pos z, if_pos (by omega)]
      · rw [if_neg z, if_neg (fun y => q (by rw [show m = i by omega]; exact h))]
theorem wdF_no {T : Nat → Nat} {x e : Nat} : ∀ m, (∀ i, i < m → ¬ wmP T x e i) → wdF T x e 0 m = 0
  | 0, _ => rfl
  | m + 1, h => by
    unfold wdF
    rw [if_neg (h m (by omega))]
    exact wdF_no m (fun i hi => h i (by omega))
theorem spl_vl {T iv : Nat → Nat} {L i : Nat} (hl : lkAt T L iv) (hi : i < 5) (h : splP T iv i) : tokK T L (iv 1) = 1 ∧ vlK T L (iv 1) = i + 1 := by
  obtain ⟨h1, h2, h3, h4, h5⟩ := hl
  have hk : tokK T L (iv 1) = 1 := by rw [← h4]; exact h.1
  have he := tokE_b (T := T) h2
  refine ⟨hk, ?_⟩
  have hx : iv 1 < L ∧ isSm (T (iv 1)) := by
    rcases Nat.lt_or_ge (iv 1) L with q | q
    · by_cases z : isSm (T (iv 1))
      · exact ⟨q, z⟩
      · by_cases y : isFg (T (iv 1))
        · rw [(tk_fig q z y).2.1] at hk; split at hk <;> omega
        · rw [(tk_oth q z y).2.1] at hk; split at hk <;> omega
    · rw [(tk_end q).2.1] at hk; omega
  have e := tk_let hx.1 hx.2
  rw [e.2.2]
  have hw1 : wmP T (iv 1) (runL (smP T) L (iv 1)) i := by
    rw [← e.1, show tokE T L (iv 1) = iv 1 + iv 2 by omega]
    exact h.2
  rw [wdF_is hi hw1 5 (Nat.le_refl _), if_pos hi]
theorem spl_no {T iv : Nat → Nat} {L : Nat} (hl : lkAt T L iv) (h : ∀ i, i < 5 → ¬ splP T iv i) : ¬ (tokK T L (iv 1) = 1 ∧ 1 ≤ vlK T L (iv 1)) := by
  obtain ⟨h1, h2, h3, h4, h5⟩ := hl
  rintro ⟨hk, hv⟩
  have he := tokE_b (T := T) h2
  have hx : iv 1 < L ∧ isSm (T (iv 1)) := by
    rcases Nat.lt_or_ge (iv 1) L with q | q
    · by_cases z : isSm (T (iv 1))
      · exact ⟨q, z⟩
      · by_cases y : isFg (T (iv 1))
        · rw [(tk_fig q z y).2.1] at hk; split at hk <;> omega
        · rw [(tk_oth q z y).2.1] at hk; split at hk <;> omega
    · rw [(tk_end q).2.1] at hk; omega
  have e := tk_let hx.1 hx.2
  rw [e.2.2, wdF_no 5 (fun i hi hw1 => h i hi ⟨by rw [h4]; exact hk, by rw [show iv 1 + iv 2 = runL (smP T) L (iv 1) by rw [← e.1]; omega]; exact hw1⟩)] at hv
  omega
theorem in_m1 {v P lo : Nat} (hv : v < 2147483648) (hP : P < 2147483648) (hl : lo < 2147483648) : (lN lo ≤ lN v ∧ lN v ≤ (nI P - nI 1).toInt64) ↔ lo ≤ v ∧ v < P := by
  rw [← nI_l hv, ← nI_l hl, wide_le, wide_le, nI_leI hl hv]
  rcases Nat.eq_zero_or_pos P with q | q
  · subst q
    constructor
    · rintro ⟨h1, h2⟩
      have := (within_nat (N := 0) (by decide)).mp ⟨nI_le (Nat.zero_le v) hv, h2⟩
      obtain ⟨j, hj, _⟩ := this
      omega
    · rintro ⟨_, h2⟩; omega
  · rw [pk_sub q, nI_leI hv (by omega)]
    omega
/-- the reference's row is good, and its unused people have no strokes -/
def rG (R : Nat → Nat) : Prop := vG R ∧ ∀ i, R 0 ≤ i → i < 6 → R (6 + i) = 0
theorem cntBy_z (V : Nat → Nat) (i m : Nat) : cntBy V i 0 m = 0 := cntBy_0 (fun k _ z => bt_0 k z.1)
theorem sW_r {R : Nat → Nat} (h : vG R) {k : Nat} (hk : k < R 1) : sW R k 0 = rW R k := by
  have := (h.2.2.2.1 k hk).2.2
  unfold sW rW
  rw [Nat.add_zero, Nat.min_eq_right this]
theorem sM_r (R : Nat → Nat) (i : Nat) : sM R i 0 0 = rL R i := by
  unfold sM rL
  rw [cntBy_z, Nat.add_zero, Nat.add_zero]
theorem cn_can {R : Nat → Nat} (h : vG R) {k : Nat} (hk : k < R 1) : cn R k ↔ canP R k := by
  show (¬ bt (R 20 ||| 0) k ∧ sW R k 0 ≤ sM R (R (44 + k)) 0 0) ↔ _
  rw [Nat.or_zero, sW_r h hk, sM_r]
theorem off_stk {R : Nat → Nat} (h : vG R) {k : Nat} (hk : k < R 1) : offR R k 1 = stkV R k := by
  have := vG_r h (h.2.2.2.1 k hk).1
  unfold offR stkV
  rw [if_pos ⟨rfl, by omega⟩]
theorem per_one {R : Nat → Nat} (h : rG R) (h6 : R 0 < 6) (k : Nat) : va_up (va_up R (22 + R 0) k) 0 (R 0 + 1) = perV R k := by
  unfold perV
  funext j
  by_cases q : j = 0
  · rw [q, va_up_self, va_up_self]
  · rw [va_up_ne _ _ q, va_up_ne _ _ q]
    by_cases z : j = 6 + R 0
    · rw [z, va_up_self, va_up_ne _ _ (by omega)]; exact h.2 (R 0) (Nat.le_refl _) h6
    · rw [va_up_ne _ _ z]
theorem day_pas {R : Nat → Nat} (h : ∀ k, k < R 1 → R (12 + k) ≤ 99) : dayR R = pasV R 1 := by
  unfold dayR pasV
  refine congrArg (fun z => va_up z 21 (R 21 + 1)) (funext fun j => ?_)
  unfold agesR agP
  by_cases q : (12 ≤ j ∧ j < 12 + R 1) ∧ ¬ bt (R 20) (j - 12)
  · have := h (j - 12) (by omega)
    rw [show 12 + (j - 12) = j by omega] at this
    rw [if_pos q]
    by_cases z : R j < 99
    · rw [if_pos ⟨q.1, q.2, z⟩]; omega
    · rw [if_neg (fun y => z y.2.2)]; omega
  · rw [if_neg (fun y => q ⟨y.1, y.2.1⟩), if_neg q]
theorem pas_0 {R : Nat → Nat} (h : ∀ k, k < R 1 → R (12 + k) ≤ 99) : pasV R 0 = R := by
  funext j
  unfold pasV
  by_cases q : j = 21
  · rw [q, va_up_self, Nat.add_zero]
  · rw [va_up_ne _ _ q]
    unfold agP
    split
    · rename_i z
      have := h (j - 12) (by omega)
      rw [show 12 + (j - 12) = j by omega] at this
      omega
    · rfl
theorem pas_o {R : Nat → Nat} (h8 : R 1 ≤ 8) (m j : Nat) (a : j < 12 ∨ 20 ≤ j) (b : ¬ j = 21) : pasV R m j = R j := by
  unfold pasV; rw [va_up_ne _ _ b, agP_out (by omega)]
theorem pas_s {R : Nat → Nat} (h8 : R 1 ≤ 8) (m : Nat) : pasV (pasV R m) 1 = pasV R (m + 1) := by
  have e1 := pas_o h8 m 1 (by omega) (by omega)
  have e20 := pas_o h8 m 20 (by omega) (by omega)
  have e21 : pasV R m 21 = R 21 + m := va_up_self _ _ _
  funext j
  by_cases q : j = 21
  · rw [q]
    have x1 : pasV (pasV R m) 1 21 = pasV R m 21 + 1 := va_up_self _ _ _
    have x2 : pasV R (m + 1) 21 = R 21 + (m + 1) := va_up_self _ _ _
    rw [x1, x2, e21]; omega
  · have x1 : pasV (pasV R m) 1 j = agP (pasV R m) 1 (pasV R m 1) j := va_up_ne _ _ q
    have x2 : pasV R (m + 1) j = agP R (m + 1) (R 1) j := va_up_ne _ _ q
    have x3 : pasV R m j = agP R m (R 1) j := va_up_ne _ _ q
    rw [x1, x2, e1]
    unfold agP at x3 ⊢
    rw [e20]
    by_cases z : (12 ≤ j ∧ j < 12 + R 1) ∧ ¬ bt (R 20) (j - 12)
    · rw [if_pos z] at x3
      rw [if_pos z, if_pos z, x3]; omega
    · rw [if_neg z] at x3
      rw [if_neg z, if_neg z]; exact x3
theorem it_pas {R : Nat → Nat} (h : ∀ k, k < R 1 → R (12 + k) ≤ 99) (h8 : R 1 ≤ 8) : ∀ m, itD R m = pasV R m
  | 0 => (pas_0 h).symm
  | m + 1 => by
    show dayR (itD R m) = _
    rw [it_pas h h8 m]
    have e1 : pasV R m 1 = R 1 := by
      unfold pasV; rw [va_up_ne _ _ (by decide), agP_out (by omega)]
    rw [day_pas (fun k hk => by
      rw [e1] at hk
      unfold pasV; rw [va_up_ne _ _ (by omega)]
      have := h k hk
      unfold agP; split <;> omega), pas_s h8]
theorem itV_r {T : Nat → Nat} {L : Nat} {R : Nat → Nat} {x its : Nat} (hG : rG R) (h : itOK T L (R 0) (R 1) (cn R) x its) : rG (itV T L R x) := by
  refine ⟨itV_good hG.1 h, fun i h1 h2 => ?_⟩
  obtain ⟨a1, a2, a3, a4⟩ := h
  have h8 := hG.1.1.2.2.1
  unfold itV at h1 ⊢
  split
  · rename_i e
    rw [if_pos e] at h1
    have e0 : ∀ k, perV R k 0 = R 0 + 1 := fun k => va_up_self _ _ _
    rw [e0] at h1
    unfold perV
    rw [va_up_ne _ _ (by omega), va_up_ne _ _ (by omega), va_up_ne _ _ (by omega)]
    exact hG.2 i (by omega) h2
  · rename_i e
    rw [if_neg e] at h1
    split
    · rename_i e2
      rw [if_pos e2] at h1
      have e0 : ∀ kd a b g, layR R kd a b g 0 = R 0 := fun kd a b g => by simp only [layR, va_up]; (repeat' split) <;> first | rfl | omega
      have e6 : ∀ kd a b g, layR R kd a b g (6 + i) = R (6 + i) := fun kd a b g => by simp only [layR, va_up]; (repeat' split) <;> first | rfl | omega
      rw [e0] at h1
      rw [e6]; exact hG.2 i h1 h2
    · rename_i e2
      rw [if_neg e2] at h1
      split
      · rename_i e3
        rw [if_pos e3] at h1
        have f := (a3 0 (by rw [e3]; decide)).2
        rw [e3] at f
        unfold fitP at f
        rw [if_neg (by decide), if_neg (by decide), if_pos rfl] at f
        have hb := (hG.1.2.2.2.1 _ f.1).1
        have e0 : stkV R (tokV T L (xq T L x 1)) 0 = R 0 := by unfold stkV; rw [va_up_ne _ _ (by omega), va_up_ne _ _ (by omega)]
        rw [e0] at h1
        have e6 : stkV R (tokV T L (xq T L x 1)) (6 + i) = R (6 + i) := by
          unfold stkV
          have hb : R (36 + tokV T L (xq T L x 1)) < R 0 := hb
          rw [va_up_ne _ _ (by omega), va_up_ne _ _ (by omega)]
        rw [e6]; exact hG.2 i h1 h2
      · rename_i e3
        rw [if_neg e3] at h1
        split
        · rename_i e4
          rw [if_pos e4, pas_o h8 _ 0 (by omega) (by omega)] at h1
          rw [pas_o h8 _ (6 + i) (by omega) (by omega)]; exact hG.2 i h1 h2
        · rename_i e4
          rw [if_neg e4] at h1
          exact hG.2 i h1 h2
end SDD
section SDD2
theorem gb_step {T p p2 : Nat → Nat} {L x q a b : Nat} (h : lkN T (p 0) p p2) (h0 : p 0 = L) (h1 : p 1 = xq T L x q) (h5 : p 5 = a) (h6 : p 6 = b) : lkAt T (p2 0) p2 ∧ p2 0 = L ∧ p2 1 = xq T L x (q + 1) ∧ p2 3 = tokK T L (xq T L x (q + 1)) ∧ p2 4 = tokV T L (xq T L x (q + 1)) ∧ p2 5 = a ∧ p2 6 = b := by
  obtain ⟨g1, g2, g3, g4⟩ := h
  have e : nT T (p 0) (p 1) = xq T L x (q + 1) := by rw [h0, h1]; rfl
  have g0 := g1.1
  have gK := g1.2.2.2.1
  have gV := g1.2.2.2.2
  rw [e] at g2
  rw [h0, g2] at gK gV
  refine ⟨by rw [g0]; exact g1, by omega, g2, gK, gV, by omega, by omega⟩
def fitW (P W : Nat) (g1 q v : Nat) : Prop := if q = 0 then v < 6 else if q = 1 then v < P else if q = 2 then v < P ∧ ¬ v = g1 else 1 ≤ v ∧ v ≤ 9
theorem fit_1 {P W g1 q v : Nat} {can : Nat → Prop} : fitP P W can g1 1 q v ↔ v < 6 := by unfold fitP; rw [if_pos rfl]
theorem fit_2 {P W g1 q v : Nat} {can : Nat → Prop} : fitP P W can g1 2 q v ↔ fitW P W g1 q v := by unfold fitP fitW; rw [if_neg (by decide), if_pos rfl]
theorem fit_3 {P W g1 q v : Nat} {can : Nat → Prop} : fitP P W can g1 3 q v ↔ v < W ∧ can v := by unfold fitP; rw [if_neg (by decide), if_neg (by decide), if_pos rfl]
theorem fit_4 {P W g1 q v : Nat} {can : Nat → Prop} : fitP P W can g1 4 q v ↔ 1 ≤ v ∧ v ≤ 99 := by unfold fitP; rw [if_neg (by decide), if_neg (by decide), if_neg (by decide)]
theorem itV_2 {T V : Nat → Nat} {L x : Nat} (h : vlK T L x = 2) : itV T L V x = perV V (tokV T L (xq T L x 1)) := by unfold itV; rw [if_pos h]
theorem itV_3 {T V : Nat → Nat} {L x : Nat} (h : vlK T L x = 3) : itV T L V x = layR V (tokV T L (xq T L x 1)) (tokV T L (xq T L x 2)) (tokV T L (xq T L x 3)) (tokV T L (xq T L x 4)) := by unfold itV; rw [if_neg (by omega), if_pos h]
theorem itV_4 {T V : Nat → Nat} {L x : Nat} (h : vlK T L x = 4) : itV T L V x = stkV V (tokV T L (xq T L x 1)) := by unfold itV; rw [if_neg (by omega), if_neg (by omega), if_pos h]
theorem itV_5 {T V : Nat → Nat} {L x : Nat} (h : vlK T L x = 5) : itV T L V x = pasV V (min (tokV T L (xq T L x 1)) (999 - V 21)) := by unfold itV; rw [if_neg (by omega), if_neg (by omega), if_neg (by omega), if_pos h]
end SDD2
theorem wl_X12_spells_1 : Cond.fieldLink RX12 239 "BellForgivenModel" "token" "I" ∈ wsX12_spells := List.mem_of_getElem? (i := 1) rfl
theorem wl_X12_spells_2 : Cond.fieldLink RX12 236 "BellForgivenModel" "tokenLong" "I" ∈ wsX12_spells := List.mem_of_getElem? (i := 2) rfl
theorem wl_X12_spells_3 : Cond.fieldLink RX12 42 "BellForgivenModel" "bytes" "[I" ∈ wsX12_spells := List.mem_of_getElem? (i := 3) rfl
theorem wl_X12_spells_4 : Cond.fieldLink RX12 233 "BellForgivenModel" "tokenAt" "I" ∈ wsX12_spells := List.mem_of_getElem? (i := 4) rfl
theorem hi_X12_spells_X12 : ∀ w ∈ u_ws RX12 TX12 19, w ∈ wsX12_spells := fun w h => (List.mem_cons_of_mem _ (List.mem_append_right _ h))
set_option maxHeartbeats 4000000 in
set_option maxRecDepth 100000 in
theorem c_X12_spells (l : Launch) (Γ : Gam) (n : Nat) (G : Nat → va_E) (mo : Nat) (R K kp rf ca rc hd fw tl by0 an vl iv : Nat → Nat) (hM : isM Γ G mo R K kp rf ca rc hd fw tl by0 an vl iv) (hmo : mo + 13 ≤ n) (hI : vI R) (sz w1 w2 w3 w4 w5 w6 : Nat) (hL : iv 0 ≤ 150) (hbt : ∀ j, by0 j ≤ 127) (hlk : lkAt by0 (iv 0) iv) (hsz : sz ≤ 6) (hw1 : w1 < 200) (hw2 : w2 < 200) (hw3 : w3 < 200) (hw4 : w4 < 200) (hw5 : w5 < 200) (hw6 : w6 < 200)  : Met l yX12_spells wsX12_spells ({ frames := 0, cells := 0, slots := 0, locals := 0 }) (va_Pc [.ref (ad Γ (mo + 0)), .int (nI sz), .int (nI w1), .int (nI w2), .int (nI w3), .int (nI w4), .int (nI w5), .int (nI w6)] (fun U => hw Γ n G U U.heap)) (vp_Si (bp (splX by0 iv sz w1 w2 w3 w4 w5 w6))) 0 0 (fun _ => False) := by
  refine Met.ofW (cc := cX12_spells) (maxL := 10) (ret := (some .boolean)) (by decide) rfl ?_
  intro p e s m args below meth c s₁ B hml hv
  obtain ⟨rfl, hw⟩ := hv
  have hx := B.exec
  have hb := B.bytes
  have hr := B.returns
  have hts := atoms_spec (ws := wsX12_spells) B.pre
  have hown : s.vm.findClass RX12 = some m.cls := findClass_of_methodNamed B.named
  have hlocks := B.notSynchronized
  have hl := lv_entry ([.ref (ad Γ (mo + 0)), .int (nI sz), .int (nI w1), .int (nI w2), .int (nI w3), .int (nI w4), .int (nI w5), .int (nI w6)]) (n := 10) (Nat.le_of_ble_eq_true rfl)
  rw [lg_entry_eq]
  generalize (lg_sl ([.ref (ad Γ (mo + 0)), .int (nI sz), .int (nI w1), .int (nI w2), .int (nI w3), .int (nI w4), .int (nI w5), .int (nI w6)]) ++ List.replicate (10 - (lg_sl ([.ref (ad Γ (mo + 0)), .int (nI sz), .int (nI w1), .int (nI w2), .int (nI w3), .int (nI w4), .int (nI w5), .int (nI w6)])).length) Slot.unset).toArray = ls at hl ⊢
  have hl : lv_has ls 10 [(0, .ref (ad Γ (mo + 0))), (1, .int (nI sz)), (2, .int (nI w1)), (3, .int (nI w2)), (4, .int (nI w3)), (5, .int (nI w4)), (6, .int (nI w5)), (7, .int (nI w6))] := hl
  have hB := hI.1
  have hB0 := hI.2.1
  have hB1 := hI.2.2.1
  have hB20 := hI.2.2.2.2.2.2.2.2.2
  have hBz2 := hI.2.2.2.1
  have hBz3 := hI.2.2.2.2.1
  have hBz4 := hI.2.2.2.2.2.1
  have hBz5 := hI.2.2.2.2.2.2.1
  have hby := hI.2.2.2.2.2.2.2.1
  have hto := hI.2.2.2.2.2.2.2.2.1
  have hf9 := lk_f hlk
  refine lv_aload_n hx hb dX12_spells_0 rfl (lv_at hl 0 rfl) ?_
  refine nr_get (own := RX12) (C := RX12) (T := TX12) (N := 19) (v := .int (nI (iv 3))) hx hb hts hi_X12_spells_X12 hown hw (by omega) (isM_0 hM) rfl 15 (by decide) wl_X12_spells_1 rfl rfl dX12_spells_1 ?_
  refine lv_iconst (v := nI 1) hx hb dX12_spells_4 (by decide) ?_
  refine nr_icmp_ne (tgt := 20) hx hb (by omega) (by decide) dX12_spells_5 (by decide) (fun c1 => ?_) (fun c1 => ?_)
  · refine lv_iconst (v := nI 0) hx hb dX12_spells_20 (by decide) ?_
    refine lv_istore (lv' := [(8, .int (nI 0)), (0, .ref (ad Γ (mo + 0))), (1, .int (nI sz)), (2, .int (nI w1)), (3, .int (nI w2)), (4, .int (nI w3)), (5, .int (nI w4)), (6, .int (nI w5)), (7, .int (nI w6))]) hx hb dX12_spells_21 hl (by decide) rfl (fun ls hl => ?_)
    refine lv_iconst (v := nI 0) hx hb dX12_spells_23 (by decide) ?_
    refine lv_istore (lv' := [(9, .int (nI 0)), (8, .int (nI 0)), (0, .ref (ad Γ (mo + 0))), (1, .int (nI sz)), (2, .int (nI w1)), (3, .int (nI w2)), (4, .int (nI w3)), (5, .int (nI w4)), (6, .int (nI w5)), (7, .int (nI w6))]) hx hb dX12_spells_24 hl (by decide) rfl (fun ls hl => ?_)
    refine nr_lp (σ := Nat × Nat) (pc := 26) (fun x lv => lv = [(0, .ref (ad Γ (mo + 0))), (1, .int (nI sz)), (2, .int (nI w1)), (3, .int (nI w2)), (4, .int (nI w3)), (5, .int (nI w4)), (6, .int (nI w5)), (7, .int (nI w6)), (8, .int (nI x.2)), (9, .int (nI x.1))] ∧ (x.1 ≤ sz) ∧ ((x.2 = 1 ∧ iv 3 = 1 ∧ iv 2 = sz ∧ ∀ j, j < x.1 → by0 (iv 1 + j) = pickC w1 w2 w3 w4 w5 w6 j) ∨ (x.2 = 0 ∧ ¬ splX by0 iv sz w1 w2 w3 w4 w5 w6)) ∧ (x.2 ≤ 1)) (fun x => sz - x.1) (0, 0) (lv_sub hl [2, 3, 4, 5, 6, 7, 8, 9, 1, 0] rfl) ⟨rfl, Nat.zero_le _, by (try dsimp only); first | exact Or.inl ⟨rfl, by omega, by omega, fun j hj => absurd hj (Nat.not_lt_zero j)⟩ | exact Or.inr ⟨rfl, fun hh => by have a1 := hh.1; have a2 := hh.2.1; omega⟩, by (try dsimp only); omega⟩ ?_
    intro x lv ls hl hI ih26
    obtain ⟨k, t⟩ := x
    obtain ⟨rfl, hk, ht, ht1⟩ := hI
    try dsimp only at hk ht ht1 hl ih26
    have hby9 := hbt (iv 1 + k)
    refine lv_iload hx hb dX12_spells_26 (lv_at hl 9 rfl) ?_
    refine lv_iload_n hx hb dX12_spells_28 rfl (lv_at hl 1 rfl) ?_
    refine nr_icmp_ge (tgt := 119) hx hb (by omega) (by omega) dX12_spells_29 (by decide) (fun c2 => ?_) (fun c2 => ?_)
    · refine lv_iload hx hb dX12_spells_119 (lv_at hl 8 rfl) ?_
      exact nr_retB hx hb hr hlocks (by
      rcases ht with ⟨t1, t2, t3, t4⟩ | ⟨t1, hn⟩
      · exact Or.inl ⟨⟨t2, t3, fun j hj => t4 j (by omega)⟩, by rw [t1]⟩
      · exact Or.inr ⟨hn, by rw [t1]⟩) rfl dX12_spells_121
    · refine lv_iload hx hb dX12_spells_32 (lv_at hl 8 rfl) ?_
      refine nr_if_eq (tgt := 119) hx hb (by omega) dX12_spells_34 (by decide) (fun c3 => ?_) (fun c3 => ?_)
      · refine lv_iload hx hb dX12_spells_119 (lv_at hl 8 rfl) ?_
        exact nr_retB hx hb hr hlocks (by
      rcases ht with ⟨t1, t2, t3, t4⟩ | ⟨t1, hn⟩
      · exact Or.inl ⟨⟨t2, t3, fun j hj => t4 j (by omega)⟩, by rw [t1]⟩
      · exact Or.inr ⟨hn, by rw [t1]⟩) rfl dX12_spells_121
      · obtain ⟨t1, t2, t3, t4⟩ := ht.resolve_right (fun z => absurd z.1 (by assumption))
        refine lv_aload_n hx hb dX12_spells_37 rfl (lv_at hl 0 rfl) ?_
        refine nr_get (own := RX12) (C := RX12) (T := TX12) (N := 19) (v := .ref (ad Γ (mo + 10))) hx hb hts hi_X12_spells_X12 hown hw (by omega) (isM_0 hM) rfl 11 (by decide) wl_X12_spells_3 rfl rfl dX12_spells_38 ?_
        refine lv_aload_n hx hb dX12_spells_41 rfl (lv_at hl 0 rfl) ?_
        refine nr_get (own := RX12) (C := RX12) (T := TX12) (N := 19) (v := .int (nI (iv 1))) hx hb hts hi_X12_spells_X12 hown hw (by omega) (isM_0 hM) rfl 13 (by decide) wl_X12_spells_4 rfl rfl dX12_spells_42 ?_
        refine lv_iload hx hb dX12_spells_45 (lv_at hl 9 rfl) ?_
        refine nr_iadd hx hb dX12_spells_47 ?_
        refine nr_iald (x := (by0 (iv 1 + k))) hx hb hw (by omega) (isM_10 hM) rfl (by omega) (by decide) dX12_spells_48 ?_
        have hL4 := hbt (iv 1 + k)
        refine lv_iload hx hb dX12_spells_49 (lv_at hl 9 rfl) ?_
        refine nr_if_ne (tgt := 58) hx hb (by omega) dX12_spells_51 (by decide) (fun c5 => ?_) (fun c5 => ?_)
        · refine lv_iload hx hb dX12_spells_58 (lv_at hl 9 rfl) ?_
          refine lv_iconst (v := nI 1) hx hb dX12_spells_60 (by decide) ?_
          refine nr_icmp_ne (tgt := 68) hx hb (by omega) (by decide) dX12_spells_61 (by decide) (fun c6 => ?_) (fun c6 => ?_)
          · refine lv_iload hx hb dX12_spells_68 (lv_at hl 9 rfl) ?_
            refine lv_iconst (v := nI 2) hx hb dX12_spells_70 (by decide) ?_
            refine nr_icmp_ne (tgt := 79) hx hb (by omega) (by decide) dX12_spells_71 (by decide) (fun c7 => ?_) (fun c7 => ?_)
            · refine lv_iload hx hb dX12_spells_79 (lv_at hl 9 rfl) ?_
              refine lv_iconst (v := nI 3) hx hb dX12_spells_81 (by decide) ?_
              refine nr_icmp_ne (tgt := 90) hx hb (by omega) (by decide) dX12_spells_82 (by decide) (fun c8 => ?_) (fun c8 => ?_)
              · refine lv_iload hx hb dX12_spells_90 (lv_at hl 9 rfl) ?_
                refine lv_iconst (v := nI 4) hx hb dX12_spells_92 (by decide) ?_
                refine nr_icmp_ne (tgt := 101) hx hb (by omega) (by decide) dX12_spells_93 (by decide) (fun c9 => ?_) (fun c9 => ?_)
                · refine lv_iload hx hb dX12_spells_101 (lv_at hl 7 rfl) ?_
                  refine nr_icmp_ne (tgt := 110) hx hb (by omega) (by omega) dX12_spells_103 (by decide) (fun c10 => ?_) (fun c10 => ?_)
                  · refine lv_iconst (v := nI 0) hx hb dX12_spells_110 (by decide) ?_
                    refine lv_istore (lv' := [(8, .int (nI 0)), (0, .ref (ad Γ (mo + 0))), (1, .int (nI sz)), (2, .int (nI w1)), (3, .int (nI w2)), (4, .int (nI w3)), (5, .int (nI w4)), (6, .int (nI w5)), (7, .int (nI w6)), (9, .int (nI k))]) hx hb dX12_spells_111 hl (by decide) rfl (fun ls hl => ?_)
                    refine nr_inc (d := 1) (k := 9) (lv' := [(9, .int (nI (k + 1))), (8, .int (nI 0)), (0, .ref (ad Γ (mo + 0))), (1, .int (nI sz)), (2, .int (nI w1)), (3, .int (nI w2)), (4, .int (nI w3)), (5, .int (nI w4)), (6, .int (nI w5)), (7, .int (nI w6))]) hx hb dX12_spells_113 hl rfl (by decide) (by decide) rfl (fun ls hl => ?_)
                    refine lv_goto (tgt := 26) hx hb dX12_spells_116 (by decide) ?_
                    exact ih26 (k + 1, 0) _ _ (lv_sub hl [2, 3, 4, 5, 6, 7, 8, 9, 1, 0] rfl) ⟨rfl, by (try dsimp only); omega, by (try dsimp only); first | exact Or.inl ⟨rfl, t2, t3, fun j hj => (Nat.lt_or_eq_of_le (Nat.le_of_lt_succ hj)).elim (fun z => t4 j z) (fun z => by rw [z]; unfold pickC; (repeat' split) <;> omega)⟩ | exact Or.inr ⟨rfl, fun hh => absurd (hh.2.2 k (by omega)) (by unfold pickC; (repeat' split) <;> omega)⟩, by (try dsimp only); omega⟩ (by (try dsimp only); omega)
                  · refine lv_iconst (v := nI 1) hx hb dX12_spells_106 (by decide) ?_
                    refine lv_goto (tgt := 111) hx hb dX12_spells_107 (by decide) ?_
                    refine lv_istore (lv' := [(8, .int (nI 1)), (0, .ref (ad Γ (mo + 0))), (1, .int (nI sz)), (2, .int (nI w1)), (3, .int (nI w2)), (4, .int (nI w3)), (5, .int (nI w4)), (6, .int (nI w5)), (7, .int (nI w6)), (9, .int (nI k))]) hx hb dX12_spells_111 hl (by decide) rfl (fun ls hl => ?_)
                    refine nr_inc (d := 1) (k := 9) (lv' := [(9, .int (nI (k + 1))), (8, .int (nI 1)), (0, .ref (ad Γ (mo + 0))), (1, .int (nI sz)), (2, .int (nI w1)), (3, .int (nI w2)), (4, .int (nI w3)), (5, .int (nI w4)), (6, .int (nI w5)), (7, .int (nI w6))]) hx hb dX12_spells_113 hl rfl (by decide) (by decide) rfl (fun ls hl => ?_)
                    refine lv_goto (tgt := 26) hx hb dX12_spells_116 (by decide) ?_
                    exact ih26 (k + 1, 1) _ _ (lv_sub hl [2, 3, 4, 5, 6, 7, 8, 9, 1, 0] rfl) ⟨rfl, by (try dsimp only); omega, by (try dsimp only); first | exact Or.inl ⟨rfl, t2, t3, fun j hj => (Nat.lt_or_eq_of_le (Nat.le_of_lt_succ hj)).elim (fun z => t4 j z) (fun z => by rw [z]; unfold pickC; (repeat' split) <;> omega)⟩ | exact Or.inr ⟨rfl, fun hh => absurd (hh.2.2 k (by omega)) (by unfold pickC; (repeat' split) <;> omega)⟩, by (try dsimp only); omega⟩ (by (try dsimp only); omega)
                · refine lv_iload hx hb dX12_spells_96 (lv_at hl 6 rfl) ?_
                  refine lv_goto (tgt := 103) hx hb dX12_spells_98 (by decide) ?_
                  refine nr_icmp_ne (tgt := 110) hx hb (by omega) (by omega) dX12_spells_103 (by decide) (fun c11 => ?_) (fun c11 => ?_)
                  · refine lv_iconst (v := nI 0) hx hb dX12_spells_110 (by decide) ?_
                    refine lv_istore (lv' := [(8, .int (nI 0)), (0, .ref (ad Γ (mo + 0))), (1, .int (nI sz)), (2, .int (nI w1)), (3, .int (nI w2)), (4, .int (nI w3)), (5, .int (nI w4)), (6, .int (nI w5)), (7, .int (nI w6)), (9, .int (nI k))]) hx hb dX12_spells_111 hl (by decide) rfl (fun ls hl => ?_)
                    refine nr_inc (d := 1) (k := 9) (lv' := [(9, .int (nI (k + 1))), (8, .int (nI 0)), (0, .ref (ad Γ (mo + 0))), (1, .int (nI sz)), (2, .int (nI w1)), (3, .int (nI w2)), (4, .int (nI w3)), (5, .int (nI w4)), (6, .int (nI w5)), (7, .int (nI w6))]) hx hb dX12_spells_113 hl rfl (by decide) (by decide) rfl (fun ls hl => ?_)
                    refine lv_goto (tgt := 26) hx hb dX12_spells_116 (by decide) ?_
                    exact ih26 (k + 1, 0) _ _ (lv_sub hl [2, 3, 4, 5, 6, 7, 8, 9, 1, 0] rfl) ⟨rfl, by (try dsimp only); omega, by (try dsimp only); first | exact Or.inl ⟨rfl, t2, t3, fun j hj => (Nat.lt_or_eq_of_le (Nat.le_of_lt_succ hj)).elim (fun z => t4 j z) (fun z => by rw [z]; unfold pickC; (repeat' split) <;> omega)⟩ | exact Or.inr ⟨rfl, fun hh => absurd (hh.2.2 k (by omega)) (by unfold pickC; (repeat' split) <;> omega)⟩, by (try dsimp only); omega⟩ (by (try dsimp only); omega)
                  · refine lv_iconst (v := nI 1) hx hb dX12_spells_106 (by decide) ?_
                    refine lv_goto (tgt := 111) hx hb dX12_spells_107 (by decide) ?_
                    refine lv_istore (lv' := [(8, .int (nI 1)), (0, .ref (ad Γ (mo + 0))), (1, .int (nI sz)), (2, .int (nI w1)), (3, .int (nI w2)), (4, .int (nI w3)), (5, .int (nI w4)), (6, .int (nI w5)), (7, .int (nI w6)), (9, .int (nI k))]) hx hb dX12_spells_111 hl (by decide) rfl (fun ls hl => ?_)
                    refine nr_inc (d := 1) (k := 9) (lv' := [(9, .int (nI (k + 1))), (8, .int (nI 1)), (0, .ref (ad Γ (mo + 0))), (1, .int (nI sz)), (2, .int (nI w1)), (3, .int (nI w2)), (4, .int (nI w3)), (5, .int (nI w4)), (6, .int (nI w5)), (7, .int (nI w6))]) hx hb dX12_spells_113 hl rfl (by decide) (by decide) rfl (fun ls hl => ?_)
                    refine lv_goto (tgt := 26) hx hb dX12_spells_116 (by decide) ?_
                    exact ih26 (k + 1, 1) _ _ (lv_sub hl [2, 3, 4, 5, 6, 7, 8, 9, 1, 0] rfl) ⟨rfl, by (try dsimp only); omega, by (try dsimp only); first | exact Or.inl ⟨rfl, t2, t3, fun j hj => (Nat.lt_or_eq_of_le (Nat.le_of_lt_succ hj)).elim (fun z => t4 j z) (fun z => by rw [z]; unfold pickC; (repeat' split) <;> omega)⟩ | exact Or.inr ⟨rfl, fun hh => absurd (hh.2.2 k (by omega)) (by unfold pickC; (repeat' split) <;> omega)⟩, by (try dsimp only); omega⟩ (by (try dsimp only); omega)
              · refine lv_iload hx hb dX12_spells_85 (lv_at hl 5 rfl) ?_
                refine lv_goto (tgt := 103) hx hb dX12_spells_87 (by decide) ?_
                refine nr_icmp_ne (tgt := 110) hx hb (by omega) (by omega) dX12_spells_103 (by decide) (fun c12 => ?_) (fun c12 => ?_)
                · refine lv_iconst (v := nI 0) hx hb dX12_spells_110 (by decide) ?_
                  refine lv_istore (lv' := [(8, .int (nI 0)), (0, .ref (ad Γ (mo + 0))), (1, .int (nI sz)), (2, .int (nI w1)), (3, .int (nI w2)), (4, .int (nI w3)), (5, .int (nI w4)), (6, .int (nI w5)), (7, .int (nI w6)), (9, .int (nI k))]) hx hb dX12_spells_111 hl (by decide) rfl (fun ls hl => ?_)
                  refine nr_inc (d := 1) (k := 9) (lv' := [(9, .int (nI (k + 1))), (8, .int (nI 0)), (0, .ref (ad Γ (mo + 0))), (1, .int (nI sz)), (2, .int (nI w1)), (3, .int (nI w2)), (4, .int (nI w3)), (5, .int (nI w4)), (6, .int (nI w5)), (7, .int (nI w6))]) hx hb dX12_spells_113 hl rfl (by decide) (by decide) rfl (fun ls hl => ?_)
                  refine lv_goto (tgt := 26) hx hb dX12_spells_116 (by decide) ?_
                  exact ih26 (k + 1, 0) _ _ (lv_sub hl [2, 3, 4, 5, 6, 7, 8, 9, 1, 0] rfl) ⟨rfl, by (try dsimp only); omega, by (try dsimp only); first | exact Or.inl ⟨rfl, t2, t3, fun j hj => (Nat.lt_or_eq_of_le (Nat.le_of_lt_succ hj)).elim (fun z => t4 j z) (fun z => by rw [z]; unfold pickC; (repeat' split) <;> omega)⟩ | exact Or.inr ⟨rfl, fun hh => absurd (hh.2.2 k (by omega)) (by unfold pickC; (repeat' split) <;> omega)⟩, by (try dsimp only); omega⟩ (by (try dsimp only); omega)
                · refine lv_iconst (v := nI 1) hx hb dX12_spells_106 (by decide) ?_
                  refine lv_goto (tgt := 111) hx hb dX12_spells_107 (by decide) ?_
                  refine lv_istore (lv' := [(8, .int (nI 1)), (0, .ref (ad Γ (mo + 0))), (1, .int (nI sz)), (2, .int (nI w1)), (3, .int (nI w2)), (4, .int (nI w3)), (5, .int (nI w4)), (6, .int (nI w5)), (7, .int (nI w6)), (9, .int (nI k))]) hx hb dX12_spells_111 hl (by decide) rfl (fun ls hl => ?_)
                  refine nr_inc (d := 1) (k := 9) (lv' := [(9, .int (nI (k + 1))), (8, .int (nI 1)), (0, .ref (ad Γ (mo + 0))), (1, .int (nI sz)), (2, .int (nI w1)), (3, .int (nI w2)), (4, .int (nI w3)), (5, .int (nI w4)), (6, .int (nI w5)), (7, .int (nI w6))]) hx hb dX12_spells_113 hl rfl (by decide) (by decide) rfl (fun ls hl => ?_)
                  refine lv_goto (tgt := 26) hx hb dX12_spells_116 (by decide) ?_
                  exact ih26 (k + 1, 1) _ _ (lv_sub hl [2, 3, 4, 5, 6, 7, 8, 9, 1, 0] rfl) ⟨rfl, by (try dsimp only); omega, by (try dsimp only); first | exact Or.inl ⟨rfl, t2, t3, fun j hj => (Nat.lt_or_eq_of_le (Nat.le_of_lt_succ hj)).elim (fun z => t4 j z) (fun z => by rw [z]; unfold pickC; (repeat' split) <;> omega)⟩ | exact Or.inr ⟨rfl, fun hh => absurd (hh.2.2 k (by omega)) (by unfold pickC; (repeat' split) <;> omega)⟩, by (try dsimp only); omega⟩ (by (try dsimp only); omega)
            · refine lv_iload hx hb dX12_spells_74 (lv_at hl 4 rfl) ?_
              refine lv_goto (tgt := 103) hx hb dX12_spells_76 (by decide) ?_
              refine nr_icmp_ne (tgt := 110) hx hb (by omega) (by omega) dX12_spells_103 (by decide) (fun c13 => ?_) (fun c13 => ?_)
              · refine lv_iconst (v := nI 0) hx hb dX12_spells_110 (by decide) ?_
                refine lv_istore (lv' := [(8, .int (nI 0)), (0, .ref (ad Γ (mo + 0))), (1, .int (nI sz)), (2, .int (nI w1)), (3, .int (nI w2)), (4, .int (nI w3)), (5, .int (nI w4)), (6, .int (nI w5)), (7, .int (nI w6)), (9, .int (nI k))]) hx hb dX12_spells_111 hl (by decide) rfl (fun ls hl => ?_)
                refine nr_inc (d := 1) (k := 9) (lv' := [(9, .int (nI (k + 1))), (8, .int (nI 0)), (0, .ref (ad Γ (mo + 0))), (1, .int (nI sz)), (2, .int (nI w1)), (3, .int (nI w2)), (4, .int (nI w3)), (5, .int (nI w4)), (6, .int (nI w5)), (7, .int (nI w6))]) hx hb dX12_spells_113 hl rfl (by decide) (by decide) rfl (fun ls hl => ?_)
                refine lv_goto (tgt := 26) hx hb dX12_spells_116 (by decide) ?_
                exact ih26 (k + 1, 0) _ _ (lv_sub hl [2, 3, 4, 5, 6, 7, 8, 9, 1, 0] rfl) ⟨rfl, by (try dsimp only); omega, by (try dsimp only); first | exact Or.inl ⟨rfl, t2, t3, fun j hj => (Nat.lt_or_eq_of_le (Nat.le_of_lt_succ hj)).elim (fun z => t4 j z) (fun z => by rw [z]; unfold pickC; (repeat' split) <;> omega)⟩ | exact Or.inr ⟨rfl, fun hh => absurd (hh.2.2 k (by omega)) (by unfold pickC; (repeat' split) <;> omega)⟩, by (try dsimp only); omega⟩ (by (try dsimp only); omega)
              · refine lv_iconst (v := nI 1) hx hb dX12_spells_106 (by decide) ?_
                refine lv_goto (tgt := 111) hx hb dX12_spells_107 (by decide) ?_
                refine lv_istore (lv' := [(8, .int (nI 1)), (0, .ref (ad Γ (mo + 0))), (1, .int (nI sz)), (2, .int (nI w1)), (3, .int (nI w2)), (4, .int (nI w3)), (5, .int (nI w4)), (6, .int (nI w5)), (7, .int (nI w6)), (9, .int (nI k))]) hx hb dX12_spells_111 hl (by decide) rfl (fun ls hl => ?_)
                refine nr_inc (d := 1) (k := 9) (lv' := [(9, .int (nI (k + 1))), (8, .int (nI 1)), (0, .ref (ad Γ (mo + 0))), (1, .int (nI sz)), (2, .int (nI w1)), (3, .int (nI w2)), (4, .int (nI w3)), (5, .int (nI w4)), (6, .int (nI w5)), (7, .int (nI w6))]) hx hb dX12_spells_113 hl rfl (by decide) (by decide) rfl (fun ls hl => ?_)
                refine lv_goto (tgt := 26) hx hb dX12_spells_116 (by decide) ?_
                exact ih26 (k + 1, 1) _ _ (lv_sub hl [2, 3, 4, 5, 6, 7, 8, 9, 1, 0] rfl) ⟨rfl, by (try dsimp only); omega, by (try dsimp only); first | exact Or.inl ⟨rfl, t2, t3, fun j hj => (Nat.lt_or_eq_of_le (Nat.le_of_lt_succ hj)).elim (fun z => t4 j z) (fun z => by rw [z]; unfold pickC; (repeat' split) <;> omega)⟩ | exact Or.inr ⟨rfl, fun hh => absurd (hh.2.2 k (by omega)) (by unfold pickC; (repeat' split) <;> omega)⟩, by (try dsimp only); omega⟩ (by (try dsimp only); omega)
          · refine lv_iload_n hx hb dX12_spells_64 rfl (lv_at hl 3 rfl) ?_
            refine lv_goto (tgt := 103) hx hb dX12_spells_65 (by decide) ?_
            refine nr_icmp_ne (tgt := 110) hx hb (by omega) (by omega) dX12_spells_103 (by decide) (fun c14 => ?_) (fun c14 => ?_)
            · refine lv_iconst (v := nI 0) hx hb dX12_spells_110 (by decide) ?_
              refine lv_istore (lv' := [(8, .int (nI 0)), (0, .ref (ad Γ (mo + 0))), (1, .int (nI sz)), (2, .int (nI w1)), (3, .int (nI w2)), (4, .int (nI w3)), (5, .int (nI w4)), (6, .int (nI w5)), (7, .int (nI w6)), (9, .int (nI k))]) hx hb dX12_spells_111 hl (by decide) rfl (fun ls hl => ?_)
              refine nr_inc (d := 1) (k := 9) (lv' := [(9, .int (nI (k + 1))), (8, .int (nI 0)), (0, .ref (ad Γ (mo + 0))), (1, .int (nI sz)), (2, .int (nI w1)), (3, .int (nI w2)), (4, .int (nI w3)), (5, .int (nI w4)), (6, .int (nI w5)), (7, .int (nI w6))]) hx hb dX12_spells_113 hl rfl (by decide) (by decide) rfl (fun ls hl => ?_)
              refine lv_goto (tgt := 26) hx hb dX12_spells_116 (by decide) ?_
              exact ih26 (k + 1, 0) _ _ (lv_sub hl [2, 3, 4, 5, 6, 7, 8, 9, 1, 0] rfl) ⟨rfl, by (try dsimp only); omega, by (try dsimp only); first | exact Or.inl ⟨rfl, t2, t3, fun j hj => (Nat.lt_or_eq_of_le (Nat.le_of_lt_succ hj)).elim (fun z => t4 j z) (fun z => by rw [z]; unfold pickC; (repeat' split) <;> omega)⟩ | exact Or.inr ⟨rfl, fun hh => absurd (hh.2.2 k (by omega)) (by unfold pickC; (repeat' split) <;> omega)⟩, by (try dsimp only); omega⟩ (by (try dsimp only); omega)
            · refine lv_iconst (v := nI 1) hx hb dX12_spells_106 (by decide) ?_
              refine lv_goto (tgt := 111) hx hb dX12_spells_107 (by decide) ?_
              refine lv_istore (lv' := [(8, .int (nI 1)), (0, .ref (ad Γ (mo + 0))), (1, .int (nI sz)), (2, .int (nI w1)), (3, .int (nI w2)), (4, .int (nI w3)), (5, .int (nI w4)), (6, .int (nI w5)), (7, .int (nI w6)), (9, .int (nI k))]) hx hb dX12_spells_111 hl (by decide) rfl (fun ls hl => ?_)
              refine nr_inc (d := 1) (k := 9) (lv' := [(9, .int (nI (k + 1))), (8, .int (nI 1)), (0, .ref (ad Γ (mo + 0))), (1, .int (nI sz)), (2, .int (nI w1)), (3, .int (nI w2)), (4, .int (nI w3)), (5, .int (nI w4)), (6, .int (nI w5)), (7, .int (nI w6))]) hx hb dX12_spells_113 hl rfl (by decide) (by decide) rfl (fun ls hl => ?_)
              refine lv_goto (tgt := 26) hx hb dX12_spells_116 (by decide) ?_
              exact ih26 (k + 1, 1) _ _ (lv_sub hl [2, 3, 4, 5, 6, 7, 8, 9, 1, 0] rfl) ⟨rfl, by (try dsimp only); omega, by (try dsimp only); first | exact Or.inl ⟨rfl, t2, t3, fun j hj => (Nat.lt_or_eq_of_le (Nat.le_of_lt_succ hj)).elim (fun z => t4 j z) (fun z => by rw [z]; unfold pickC; (repeat' split) <;> omega)⟩ | exact Or.inr ⟨rfl, fun hh => absurd (hh.2.2 k (by omega)) (by unfold pickC; (repeat' split) <;> omega)⟩, by (try dsimp only); omega⟩ (by (try dsimp only); omega)
        · refine lv_iload_n hx hb dX12_spells_54 rfl (lv_at hl 2 rfl) ?_
          refine lv_goto (tgt := 103) hx hb dX12_spells_55 (by decide) ?_
          refine nr_icmp_ne (tgt := 110) hx hb (by omega) (by omega) dX12_spells_103 (by decide) (fun c15 => ?_) (fun c15 => ?_)
          · refine lv_iconst (v := nI 0) hx hb dX12_spells_110 (by decide) ?_
            refine lv_istore (lv' := [(8, .int (nI 0)), (0, .ref (ad Γ (mo + 0))), (1, .int (nI sz)), (2, .int (nI w1)), (3, .int (nI w2)), (4, .int (nI w3)), (5, .int (nI w4)), (6, .int (nI w5)), (7, .int (nI w6)), (9, .int (nI k))]) hx hb dX12_spells_111 hl (by decide) rfl (fun ls hl => ?_)
            refine nr_inc (d := 1) (k := 9) (lv' := [(9, .int (nI (k + 1))), (8, .int (nI 0)), (0, .ref (ad Γ (mo + 0))), (1, .int (nI sz)), (2, .int (nI w1)), (3, .int (nI w2)), (4, .int (nI w3)), (5, .int (nI w4)), (6, .int (nI w5)), (7, .int (nI w6))]) hx hb dX12_spells_113 hl rfl (by decide) (by decide) rfl (fun ls hl => ?_)
            refine lv_goto (tgt := 26) hx hb dX12_spells_116 (by decide) ?_
            exact ih26 (k + 1, 0) _ _ (lv_sub hl [2, 3, 4, 5, 6, 7, 8, 9, 1, 0] rfl) ⟨rfl, by (try dsimp only); omega, by (try dsimp only); first | exact Or.inl ⟨rfl, t2, t3, fun j hj => (Nat.lt_or_eq_of_le (Nat.le_of_lt_succ hj)).elim (fun z => t4 j z) (fun z => by rw [z]; unfold pickC; (repeat' split) <;> omega)⟩ | exact Or.inr ⟨rfl, fun hh => absurd (hh.2.2 k (by omega)) (by unfold pickC; (repeat' split) <;> omega)⟩, by (try dsimp only); omega⟩ (by (try dsimp only); omega)
          · refine lv_iconst (v := nI 1) hx hb dX12_spells_106 (by decide) ?_
            refine lv_goto (tgt := 111) hx hb dX12_spells_107 (by decide) ?_
            refine lv_istore (lv' := [(8, .int (nI 1)), (0, .ref (ad Γ (mo + 0))), (1, .int (nI sz)), (2, .int (nI w1)), (3, .int (nI w2)), (4, .int (nI w3)), (5, .int (nI w4)), (6, .int (nI w5)), (7, .int (nI w6)), (9, .int (nI k))]) hx hb dX12_spells_111 hl (by decide) rfl (fun ls hl => ?_)
            refine nr_inc (d := 1) (k := 9) (lv' := [(9, .int (nI (k + 1))), (8, .int (nI 1)), (0, .ref (ad Γ (mo + 0))), (1, .int (nI sz)), (2, .int (nI w1)), (3, .int (nI w2)), (4, .int (nI w3)), (5, .int (nI w4)), (6, .int (nI w5)), (7, .int (nI w6))]) hx hb dX12_spells_113 hl rfl (by decide) (by decide) rfl (fun ls hl => ?_)
            refine lv_goto (tgt := 26) hx hb dX12_spells_116 (by decide) ?_
            exact ih26 (k + 1, 1) _ _ (lv_sub hl [2, 3, 4, 5, 6, 7, 8, 9, 1, 0] rfl) ⟨rfl, by (try dsimp only); omega, by (try dsimp only); first | exact Or.inl ⟨rfl, t2, t3, fun j hj => (Nat.lt_or_eq_of_le (Nat.le_of_lt_succ hj)).elim (fun z => t4 j z) (fun z => by rw [z]; unfold pickC; (repeat' split) <;> omega)⟩ | exact Or.inr ⟨rfl, fun hh => absurd (hh.2.2 k (by omega)) (by unfold pickC; (repeat' split) <;> omega)⟩, by (try dsimp only); omega⟩ (by (try dsimp only); omega)
  · refine lv_aload_n hx hb dX12_spells_8 rfl (lv_at hl 0 rfl) ?_
    refine nr_get (own := RX12) (C := RX12) (T := TX12) (N := 19) (v := .int (nI (iv 2))) hx hb hts hi_X12_spells_X12 hown hw (by omega) (isM_0 hM) rfl 14 (by decide) wl_X12_spells_2 rfl rfl dX12_spells_9 ?_
    refine lv_iload_n hx hb dX12_spells_12 rfl (lv_at hl 1 rfl) ?_
    refine nr_icmp_ne (tgt := 20) hx hb (by omega) (by omega) dX12_spells_13 (by decide) (fun c16 => ?_) (fun c16 => ?_)
    · refine lv_iconst (v := nI 0) hx hb dX12_spells_20 (by decide) ?_
      refine lv_istore (lv' := [(8, .int (nI 0)), (0, .ref (ad Γ (mo + 0))), (1, .int (nI sz)), (2, .int (nI w1)), (3, .int (nI w2)), (4, .int (nI w3)), (5, .int (nI w4)), (6, .int (nI w5)), (7, .int (nI w6))]) hx hb dX12_spells_21 hl (by decide) rfl (fun ls hl => ?_)
      refine lv_iconst (v := nI 0) hx hb dX12_spells_23 (by decide) ?_
      refine lv_istore (lv' := [(9, .int (nI 0)), (8, .int (nI 0)), (0, .ref (ad Γ (mo + 0))), (1, .int (nI sz)), (2, .int (nI w1)), (3, .int (nI w2)), (4, .int (nI w3)), (5, .int (nI w4)), (6, .int (nI w5)), (7, .int (nI w6))]) hx hb dX12_spells_24 hl (by decide) rfl (fun ls hl => ?_)
      refine nr_lp (σ := Nat × Nat) (pc := 26) (fun x lv => lv = [(0, .ref (ad Γ (mo + 0))), (1, .int (nI sz)), (2, .int (nI w1)), (3, .int (nI w2)), (4, .int (nI w3)), (5, .int (nI w4)), (6, .int (nI w5)), (7, .int (nI w6)), (8, .int (nI x.2)), (9, .int (nI x.1))] ∧ (x.1 ≤ sz) ∧ ((x.2 = 1 ∧ iv 3 = 1 ∧ iv 2 = sz ∧ ∀ j, j < x.1 → by0 (iv 1 + j) = pickC w1 w2 w3 w4 w5 w6 j) ∨ (x.2 = 0 ∧ ¬ splX by0 iv sz w1 w2 w3 w4 w5 w6)) ∧ (x.2 ≤ 1)) (fun x => sz - x.1) (0, 0) (lv_sub hl [2, 3, 4, 5, 6, 7, 8, 9, 1, 0] rfl) ⟨rfl, Nat.zero_le _, by (try dsimp only); first | exact Or.inl ⟨rfl, by omega, by omega, fun j hj => absurd hj (Nat.not_lt_zero j)⟩ | exact Or.inr ⟨rfl, fun hh => by have a1 := hh.1; have a2 := hh.2.1; omega⟩, by (try dsimp only); omega⟩ ?_
      intro x lv ls hl hI ih26
      obtain ⟨k, t⟩ := x
      obtain ⟨rfl, hk, ht, ht1⟩ := hI
      try dsimp only at hk ht ht1 hl ih26
      have hby9 := hbt (iv 1 + k)
      refine lv_iload hx hb dX12_spells_26 (lv_at hl 9 rfl) ?_
      refine lv_iload_n hx hb dX12_spells_28 rfl (lv_at hl 1 rfl) ?_
      refine nr_icmp_ge (tgt := 119) hx hb (by omega) (by omega) dX12_spells_29 (by decide) (fun c17 => ?_) (fun c17 => ?_)
      · refine lv_iload hx hb dX12_spells_119 (lv_at hl 8 rfl) ?_
        exact nr_retB hx hb hr hlocks (by
      rcases ht with ⟨t1, t2, t3, t4⟩ | ⟨t1, hn⟩
      · exact Or.inl ⟨⟨t2, t3, fun j hj => t4 j (by omega)⟩, by rw [t1]⟩
      · exact Or.inr ⟨hn, by rw [t1]⟩) rfl dX12_spells_121
      · refine lv_iload hx hb dX12_spells_32 (lv_at hl 8 rfl) ?_
        refine nr_if_eq (tgt := 119) hx hb (by omega) dX12_spells_34 (by decide) (fun c18 => ?_) (fun c18 => ?_)
        · refine lv_iload hx hb dX12_spells_119 (lv_at hl 8 rfl) ?_
          exact nr_retB hx hb hr hlocks (by
      rcases ht with ⟨t1, t2, t3, t4⟩ | ⟨t1, hn⟩
      · exact Or.inl ⟨⟨t2, t3, fun j hj => t4 j (by omega)⟩, by rw [t1]⟩
      · exact Or.inr ⟨hn, by rw [t1]⟩) rfl dX12_spells_121
        · obtain ⟨t1, t2, t3, t4⟩ := ht.resolve_right (fun z => absurd z.1 (by assumption))
          refine lv_aload_n hx hb dX12_spells_37 rfl (lv_at hl 0 rfl) ?_
          refine nr_get (own := RX12) (C := RX12) (T := TX12) (N := 19) (v := .ref (ad Γ (mo + 10))) hx hb hts hi_X12_spells_X12 hown hw (by omega) (isM_0 hM) rfl 11 (by decide) wl_X12_spells_3 rfl rfl dX12_spells_38 ?_
          refine lv_aload_n hx hb dX12_spells_41 rfl (lv_at hl 0 rfl) ?_
          refine nr_get (own := RX12) (C := RX12) (T := TX12) (N := 19) (v := .int (nI (iv 1))) hx hb hts hi_X12_spells_X12 hown hw (by omega) (isM_0 hM) rfl 13 (by decide) wl_X12_spells_4 rfl rfl dX12_spells_42 ?_
          refine lv_iload hx hb dX12_spells_45 (lv_at hl 9 rfl) ?_
          refine nr_iadd hx hb dX12_spells_47 ?_
          refine nr_iald (x := (by0 (iv 1 + k))) hx hb hw (by omega) (isM_10 hM) rfl (by omega) (by decide) dX12_spells_48 ?_
          have hL19 := hbt (iv 1 + k)
          refine lv_iload hx hb dX12_spells_49 (lv_at hl 9 rfl) ?_
          refine nr_if_ne (tgt := 58) hx hb (by omega) dX12_spells_51 (by decide) (fun c20 => ?_) (fun c20 => ?_)
          · refine lv_iload hx hb dX12_spells_58 (lv_at hl 9 rfl) ?_
            refine lv_iconst (v := nI 1) hx hb dX12_spells_60 (by decide) ?_
            refine nr_icmp_ne (tgt := 68) hx hb (by omega) (by decide) dX12_spells_61 (by decide) (fun c21 => ?_) (fun c21 => ?_)
            · refine lv_iload hx hb dX12_spells_68 (lv_at hl 9 rfl) ?_
              refine lv_iconst (v := nI 2) hx hb dX12_spells_70 (by decide) ?_
              refine nr_icmp_ne (tgt := 79) hx hb (by omega) (by decide) dX12_spells_71 (by decide) (fun c22 => ?_) (fun c22 => ?_)
              · refine lv_iload hx hb dX12_spells_79 (lv_at hl 9 rfl) ?_
                refine lv_iconst (v := nI 3) hx hb dX12_spells_81 (by decide) ?_
                refine nr_icmp_ne (tgt := 90) hx hb (by omega) (by decide) dX12_spells_82 (by decide) (fun c23 => ?_) (fun c23 => ?_)
                · refine lv_iload hx hb dX12_spells_90 (lv_at hl 9 rfl) ?_
                  refine lv_iconst (v := nI 4) hx hb dX12_spells_92 (by decide) ?_
                  refine nr_icmp_ne (tgt := 101) hx hb (by omega) (by decide) dX12_spells_93 (by decide) (fun c24 => ?_) (fun c24 => ?_)
                  · refine lv_iload hx hb dX12_spells_101 (lv_at hl 7 rfl) ?_
                    refine nr_icmp_ne (tgt := 110) hx hb (by omega) (by omega) dX12_spells_103 (by decide) (fun c25 => ?_) (fun c25 => ?_)
                    · refine lv_iconst (v := nI 0) hx hb dX12_spells_110 (by decide) ?_
                      refine lv_istore (lv' := [(8, .int (nI 0)), (0, .ref (ad Γ (mo + 0))), (1, .int (nI sz)), (2, .int (nI w1)), (3, .int (nI w2)), (4, .int (nI w3)), (5, .int (nI w4)), (6, .int (nI w5)), (7, .int (nI w6)), (9, .int (nI k))]) hx hb dX12_spells_111 hl (by decide) rfl (fun ls hl => ?_)
                      refine nr_inc (d := 1) (k := 9) (lv' := [(9, .int (nI (k + 1))), (8, .int (nI 0)), (0, .ref (ad Γ (mo + 0))), (1, .int (nI sz)), (2, .int (nI w1)), (3, .int (nI w2)), (4, .int (nI w3)), (5, .int (nI w4)), (6, .int (nI w5)), (7, .int (nI w6))]) hx hb dX12_spells_113 hl rfl (by decide) (by decide) rfl (fun ls hl => ?_)
                      refine lv_goto (tgt := 26) hx hb dX12_spells_116 (by decide) ?_
                      exact ih26 (k + 1, 0) _ _ (lv_sub hl [2, 3, 4, 5, 6, 7, 8, 9, 1, 0] rfl) ⟨rfl, by (try dsimp only); omega, by (try dsimp only); first | exact Or.inl ⟨rfl, t2, t3, fun j hj => (Nat.lt_or_eq_of_le (Nat.le_of_lt_succ hj)).elim (fun z => t4 j z) (fun z => by rw [z]; unfold pickC; (repeat' split) <;> omega)⟩ | exact Or.inr ⟨rfl, fun hh => absurd (hh.2.2 k (by omega)) (by unfold pickC; (repeat' split) <;> omega)⟩, by (try dsimp only); omega⟩ (by (try dsimp only); omega)
                    · refine lv_iconst (v := nI 1) hx hb dX12_spells_106 (by decide) ?_
                      refine lv_goto (tgt := 111) hx hb dX12_spells_107 (by decide) ?_
                      refine lv_istore (lv' := [(8, .int (nI 1)), (0, .ref (ad Γ (mo + 0))), (1, .int (nI sz)), (2, .int (nI w1)), (3, .int (nI w2)), (4, .int (nI w3)), (5, .int (nI w4)), (6, .int (nI w5)), (7, .int (nI w6)), (9, .int (nI k))]) hx hb dX12_spells_111 hl (by decide) rfl (fun ls hl => ?_)
                      refine nr_inc (d := 1) (k := 9) (lv' := [(9, .int (nI (k + 1))), (8, .int (nI 1)), (0, .ref (ad Γ (mo + 0))), (1, .int (nI sz)), (2, .int (nI w1)), (3, .int (nI w2)), (4, .int (nI w3)), (5, .int (nI w4)), (6, .int (nI w5)), (7, .int (nI w6))]) hx hb dX12_spells_113 hl rfl (by decide) (by decide) rfl (fun ls hl => ?_)
                      refine lv_goto (tgt := 26) hx hb dX12_spells_116 (by decide) ?_
                      exact ih26 (k + 1, 1) _ _ (lv_sub hl [2, 3, 4, 5, 6, 7, 8, 9, 1, 0] rfl) ⟨rfl, by (try dsimp only); omega, by (try dsimp only); first | exact Or.inl ⟨rfl, t2, t3, fun j hj => (Nat.lt_or_eq_of_le (Nat.le_of_lt_succ hj)).elim (fun z => t4 j z) (fun z => by rw [z]; unfold pickC; (repeat' split) <;> omega)⟩ | exact Or.inr ⟨rfl, fun hh => absurd (hh.2.2 k (by omega)) (by unfold pickC; (repeat' split) <;> omega)⟩, by (try dsimp only); omega⟩ (by (try dsimp only); omega)
                  · refine lv_iload hx hb dX12_spells_96 (lv_at hl 6 rfl) ?_
                    refine lv_goto (tgt := 103) hx hb dX12_spells_98 (by decide) ?_
                    refine nr_icmp_ne (tgt := 110) hx hb (by omega) (by omega) dX12_spells_103 (by decide) (fun c26 => ?_) (fun c26 => ?_)
                    · refine lv_iconst (v := nI 0) hx hb dX12_spells_110 (by decide) ?_
                      refine lv_istore (lv' := [(8, .int (nI 0)), (0, .ref (ad Γ (mo + 0))), (1, .int (nI sz)), (2, .int (nI w1)), (3, .int (nI w2)), (4, .int (nI w3)), (5, .int (nI w4)), (6, .int (nI w5)), (7, .int (nI w6)), (9, .int (nI k))]) hx hb dX12_spells_111 hl (by decide) rfl (fun ls hl => ?_)
                      refine nr_inc (d := 1) (k := 9) (lv' := [(9, .int (nI (k + 1))), (8, .int (nI 0)), (0, .ref (ad Γ (mo + 0))), (1, .int (nI sz)), (2, .int (nI w1)), (3, .int (nI w2)), (4, .int (nI w3)), (5, .int (nI w4)), (6, .int (nI w5)), (7, .int (nI w6))]) hx hb dX12_spells_113 hl rfl (by decide) (by decide) rfl (fun ls hl => ?_)
                      refine lv_goto (tgt := 26) hx hb dX12_spells_116 (by decide) ?_
                      exact ih26 (k + 1, 0) _ _ (lv_sub hl [2, 3, 4, 5, 6, 7, 8, 9, 1, 0] rfl) ⟨rfl, by (try dsimp only); omega, by (try dsimp only); first | exact Or.inl ⟨rfl, t2, t3, fun j hj => (Nat.lt_or_eq_of_le (Nat.le_of_lt_succ hj)).elim (fun z => t4 j z) (fun z => by rw [z]; unfold pickC; (repeat' split) <;> omega)⟩ | exact Or.inr ⟨rfl, fun hh => absurd (hh.2.2 k (by omega)) (by unfold pickC; (repeat' split) <;> omega)⟩, by (try dsimp only); omega⟩ (by (try dsimp only); omega)
                    · refine lv_iconst (v := nI 1) hx hb dX12_spells_106 (by decide) ?_
                      refine lv_goto (tgt := 111) hx hb dX12_spells_107 (by decide) ?_
                      refine lv_istore (lv' := [(8, .int (nI 1)), (0, .ref (ad Γ (mo + 0))), (1, .int (nI sz)), (2, .int (nI w1)), (3, .int (nI w2)), (4, .int (nI w3)), (5, .int (nI w4)), (6, .int (nI w5)), (7, .int (nI w6)), (9, .int (nI k))]) hx hb dX12_spells_111 hl (by decide) rfl (fun ls hl => ?_)
                      refine nr_inc (d := 1) (k := 9) (lv' := [(9, .int (nI (k + 1))), (8, .int (nI 1)), (0, .ref (ad Γ (mo + 0))), (1, .int (nI sz)), (2, .int (nI w1)), (3, .int (nI w2)), (4, .int (nI w3)), (5, .int (nI w4)), (6, .int (nI w5)), (7, .int (nI w6))]) hx hb dX12_spells_113 hl rfl (by decide) (by decide) rfl (fun ls hl => ?_)
                      refine lv_goto (tgt := 26) hx hb dX12_spells_116 (by decide) ?_
                      exact ih26 (k + 1, 1) _ _ (lv_sub hl [2, 3, 4, 5, 6, 7, 8, 9, 1, 0] rfl) ⟨rfl, by (try dsimp only); omega, by (try dsimp only); first | exact Or.inl ⟨rfl, t2, t3, fun j hj => (Nat.lt_or_eq_of_le (Nat.le_of_lt_succ hj)).elim (fun z => t4 j z) (fun z => by rw [z]; unfold pickC; (repeat' split) <;> omega)⟩ | exact Or.inr ⟨rfl, fun hh => absurd (hh.2.2 k (by omega)) (by unfold pickC; (repeat' split) <;> omega)⟩, by (try dsimp only); omega⟩ (by (try dsimp only); omega)
                · refine lv_iload hx hb dX12_spells_85 (lv_at hl 5 rfl) ?_
                  refine lv_goto (tgt := 103) hx hb dX12_spells_87 (by decide) ?_
                  refine nr_icmp_ne (tgt := 110) hx hb (by omega) (by omega) dX12_spells_103 (by decide) (fun c27 => ?_) (fun c27 => ?_)
                  · refine lv_iconst (v := nI 0) hx hb dX12_spells_110 (by decide) ?_
                    refine lv_istore (lv' := [(8, .int (nI 0)), (0, .ref (ad Γ (mo + 0))), (1, .int (nI sz)), (2, .int (nI w1)), (3, .int (nI w2)), (4, .int (nI w3)), (5, .int (nI w4)), (6, .int (nI w5)), (7, .int (nI w6)), (9, .int (nI k))]) hx hb dX12_spells_111 hl (by decide) rfl (fun ls hl => ?_)
                    refine nr_inc (d := 1) (k := 9) (lv' := [(9, .int (nI (k + 1))), (8, .int (nI 0)), (0, .ref (ad Γ (mo + 0))), (1, .int (nI sz)), (2, .int (nI w1)), (3, .int (nI w2)), (4, .int (nI w3)), (5, .int (nI w4)), (6, .int (nI w5)), (7, .int (nI w6))]) hx hb dX12_spells_113 hl rfl (by decide) (by decide) rfl (fun ls hl => ?_)
                    refine lv_goto (tgt := 26) hx hb dX12_spells_116 (by decide) ?_
                    exact ih26 (k + 1, 0) _ _ (lv_sub hl [2, 3, 4, 5, 6, 7, 8, 9, 1, 0] rfl) ⟨rfl, by (try dsimp only); omega, by (try dsimp only); first | exact Or.inl ⟨rfl, t2, t3, fun j hj => (Nat.lt_or_eq_of_le (Nat.le_of_lt_succ hj)).elim (fun z => t4 j z) (fun z => by rw [z]; unfold pickC; (repeat' split) <;> omega)⟩ | exact Or.inr ⟨rfl, fun hh => absurd (hh.2.2 k (by omega)) (by unfold pickC; (repeat' split) <;> omega)⟩, by (try dsimp only); omega⟩ (by (try dsimp only); omega)
                  · refine lv_iconst (v := nI 1) hx hb dX12_spells_106 (by decide) ?_
                    refine lv_goto (tgt := 111) hx hb dX12_spells_107 (by decide) ?_
                    refine lv_istore (lv' := [(8, .int (nI 1)), (0, .ref (ad Γ (mo + 0))), (1, .int (nI sz)), (2, .int (nI w1)), (3, .int (nI w2)), (4, .int (nI w3)), (5, .int (nI w4)), (6, .int (nI w5)), (7, .int (nI w6)), (9, .int (nI k))]) hx hb dX12_spells_111 hl (by decide) rfl (fun ls hl => ?_)
                    refine nr_inc (d := 1) (k := 9) (lv' := [(9, .int (nI (k + 1))), (8, .int (nI 1)), (0, .ref (ad Γ (mo + 0))), (1, .int (nI sz)), (2, .int (nI w1)), (3, .int (nI w2)), (4, .int (nI w3)), (5, .int (nI w4)), (6, .int (nI w5)), (7, .int (nI w6))]) hx hb dX12_spells_113 hl rfl (by decide) (by decide) rfl (fun ls hl => ?_)
                    refine lv_goto (tgt := 26) hx hb dX12_spells_116 (by decide) ?_
                    exact ih26 (k + 1, 1) _ _ (lv_sub hl [2, 3, 4, 5, 6, 7, 8, 9, 1, 0] rfl) ⟨rfl, by (try dsimp only); omega, by (try dsimp only); first | exact Or.inl ⟨rfl, t2, t3, fun j hj => (Nat.lt_or_eq_of_le (Nat.le_of_lt_succ hj)).elim (fun z => t4 j z) (fun z => by rw [z]; unfold pickC; (repeat' split) <;> omega)⟩ | exact Or.inr ⟨rfl, fun hh => absurd (hh.2.2 k (by omega)) (by unfold pickC; (repeat' split) <;> omega)⟩, by (try dsimp only); omega⟩ (by (try dsimp only); omega)
              · refine lv_iload hx hb dX12_spells_74 (lv_at hl 4 rfl) ?_
                refine lv_goto (tgt := 103) hx hb dX12_spells_76 (by decide) ?_
                refine nr_icmp_ne (tgt := 110) hx hb (by omega) (by omega) dX12_spells_103 (by decide) (fun c28 => ?_) (fun c28 => ?_)
                · refine lv_iconst (v := nI 0) hx hb dX12_spells_110 (by decide) ?_
                  refine lv_istore (lv' := [(8, .int (nI 0)), (0, .ref (ad Γ (mo + 0))), (1, .int (nI sz)), (2, .int (nI w1)), (3, .int (nI w2)), (4, .int (nI w3)), (5, .int (nI w4)), (6, .int (nI w5)), (7, .int (nI w6)), (9, .int (nI k))]) hx hb dX12_spells_111 hl (by decide) rfl (fun ls hl => ?_)
                  refine nr_inc (d := 1) (k := 9) (lv' := [(9, .int (nI (k + 1))), (8, .int (nI 0)), (0, .ref (ad Γ (mo + 0))), (1, .int (nI sz)), (2, .int (nI w1)), (3, .int (nI w2)), (4, .int (nI w3)), (5, .int (nI w4)), (6, .int (nI w5)), (7, .int (nI w6))]) hx hb dX12_spells_113 hl rfl (by decide) (by decide) rfl (fun ls hl => ?_)
                  refine lv_goto (tgt := 26) hx hb dX12_spells_116 (by decide) ?_
                  exact ih26 (k + 1, 0) _ _ (lv_sub hl [2, 3, 4, 5, 6, 7, 8, 9, 1, 0] rfl) ⟨rfl, by (try dsimp only); omega, by (try dsimp only); first | exact Or.inl ⟨rfl, t2, t3, fun j hj => (Nat.lt_or_eq_of_le (Nat.le_of_lt_succ hj)).elim (fun z => t4 j z) (fun z => by rw [z]; unfold pickC; (repeat' split) <;> omega)⟩ | exact Or.inr ⟨rfl, fun hh => absurd (hh.2.2 k (by omega)) (by unfold pickC; (repeat' split) <;> omega)⟩, by (try dsimp only); omega⟩ (by (try dsimp only); omega)
                · refine lv_iconst (v := nI 1) hx hb dX12_spells_106 (by decide) ?_
                  refine lv_goto (tgt := 111) hx hb dX12_spells_107 (by decide) ?_
                  refine lv_istore (lv' := [(8, .int (nI 1)), (0, .ref (ad Γ (mo + 0))), (1, .int (nI sz)), (2, .int (nI w1)), (3, .int (nI w2)), (4, .int (nI w3)), (5, .int (nI w4)), (6, .int (nI w5)), (7, .int (nI w6)), (9, .int (nI k))]) hx hb dX12_spells_111 hl (by decide) rfl (fun ls hl => ?_)
                  refine nr_inc (d := 1) (k := 9) (lv' := [(9, .int (nI (k + 1))), (8, .int (nI 1)), (0, .ref (ad Γ (mo + 0))), (1, .int (nI sz)), (2, .int (nI w1)), (3, .int (nI w2)), (4, .int (nI w3)), (5, .int (nI w4)), (6, .int (nI w5)), (7, .int (nI w6))]) hx hb dX12_spells_113 hl rfl (by decide) (by decide) rfl (fun ls hl => ?_)
                  refine lv_goto (tgt := 26) hx hb dX12_spells_116 (by decide) ?_
                  exact ih26 (k + 1, 1) _ _ (lv_sub hl [2, 3, 4, 5, 6, 7, 8, 9, 1, 0] rfl) ⟨rfl, by (try dsimp only); omega, by (try dsimp only); first | exact Or.inl ⟨rfl, t2, t3, fun j hj => (Nat.lt_or_eq_of_le (Nat.le_of_lt_succ hj)).elim (fun z => t4 j z) (fun z => by rw [z]; unfold pickC; (repeat' split) <;> omega)⟩ | exact Or.inr ⟨rfl, fun hh => absurd (hh.2.2 k (by omega)) (by unfold pickC; (repeat' split) <;> omega)⟩, by (try dsimp only); omega⟩ (by (try dsimp only); omega)
            · refine lv_iload_n hx hb dX12_spells_64 rfl (lv_at hl 3 rfl) ?_
              refine lv_goto (tgt := 103) hx hb dX12_spells_65 (by decide) ?_
              refine nr_icmp_ne (tgt := 110) hx hb (by omega) (by omega) dX12_spells_103 (by decide) (fun c29 => ?_) (fun c29 => ?_)
              · refine lv_iconst (v := nI 0) hx hb dX12_spells_110 (by decide) ?_
                refine lv_istore (lv' := [(8, .int (nI 0)), (0, .ref (ad Γ (mo + 0))), (1, .int (nI sz)), (2, .int (nI w1)), (3, .int (nI w2)), (4, .int (nI w3)), (5, .int (nI w4)), (6, .int (nI w5)), (7, .int (nI w6)), (9, .int (nI k))]) hx hb dX12_spells_111 hl (by decide) rfl (fun ls hl => ?_)
                refine nr_inc (d := 1) (k := 9) (lv' := [(9, .int (nI (k + 1))), (8, .int (nI 0)), (0, .ref (ad Γ (mo + 0))), (1, .int (nI sz)), (2, .int (nI w1)), (3, .int (nI w2)), (4, .int (nI w3)), (5, .int (nI w4)), (6, .int (nI w5)), (7, .int (nI w6))]) hx hb dX12_spells_113 hl rfl (by decide) (by decide) rfl (fun ls hl => ?_)
                refine lv_goto (tgt := 26) hx hb dX12_spells_116 (by decide) ?_
                exact ih26 (k + 1, 0) _ _ (lv_sub hl [2, 3, 4, 5, 6, 7, 8, 9, 1, 0] rfl) ⟨rfl, by (try dsimp only); omega, by (try dsimp only); first | exact Or.inl ⟨rfl, t2, t3, fun j hj => (Nat.lt_or_eq_of_le (Nat.le_of_lt_succ hj)).elim (fun z => t4 j z) (fun z => by rw [z]; unfold pickC; (repeat' split) <;> omega)⟩ | exact Or.inr ⟨rfl, fun hh => absurd (hh.2.2 k (by omega)) (by unfold pickC; (repeat' split) <;> omega)⟩, by (try dsimp only); omega⟩ (by (try dsimp only); omega)
              · refine lv_iconst (v := nI 1) hx hb dX12_spells_106 (by decide) ?_
                refine lv_goto (tgt := 111) hx hb dX12_spells_107 (by decide) ?_
                refine lv_istore (lv' := [(8, .int (nI 1)), (0, .ref (ad Γ (mo + 0))), (1, .int (nI sz)), (2, .int (nI w1)), (3, .int (nI w2)), (4, .int (nI w3)), (5, .int (nI w4)), (6, .int (nI w5)), (7, .int (nI w6)), (9, .int (nI k))]) hx hb dX12_spells_111 hl (by decide) rfl (fun ls hl => ?_)
                refine nr_inc (d := 1) (k := 9) (lv' := [(9, .int (nI (k + 1))), (8, .int (nI 1)), (0, .ref (ad Γ (mo + 0))), (1, .int (nI sz)), (2, .int (nI w1)), (3, .int (nI w2)), (4, .int (nI w3)), (5, .int (nI w4)), (6, .int (nI w5)), (7, .int (nI w6))]) hx hb dX12_spells_113 hl rfl (by decide) (by decide) rfl (fun ls hl => ?_)
                refine lv_goto (tgt := 26) hx hb dX12_spells_116 (by decide) ?_
                exact ih26 (k + 1, 1) _ _ (lv_sub hl [2, 3, 4, 5, 6, 7, 8, 9, 1, 0] rfl) ⟨rfl, by (try dsimp only); omega, by (try dsimp only); first | exact Or.inl ⟨rfl, t2, t3, fun j hj => (Nat.lt_or_eq_of_le (Nat.le_of_lt_succ hj)).elim (fun z => t4 j z) (fun z => by rw [z]; unfold pickC; (repeat' split) <;> omega)⟩ | exact Or.inr ⟨rfl, fun hh => absurd (hh.2.2 k (by omega)) (by unfold pickC; (repeat' split) <;> omega)⟩, by (try dsimp only); omega⟩ (by (try dsimp only); omega)
          · refine lv_iload_n hx hb dX12_spells_54 rfl (lv_at hl 2 rfl) ?_
            refine lv_goto (tgt := 103) hx hb dX12_spells_55 (by decide) ?_
            refine nr_icmp_ne (tgt := 110) hx hb (by omega) (by omega) dX12_spells_103 (by decide) (fun c30 => ?_) (fun c30 => ?_)
            · refine lv_iconst (v := nI 0) hx hb dX12_spells_110 (by decide) ?_
              refine lv_istore (lv' := [(8, .int (nI 0)), (0, .ref (ad Γ (mo + 0))), (1, .int (nI sz)), (2, .int (nI w1)), (3, .int (nI w2)), (4, .int (nI w3)), (5, .int (nI w4)), (6, .int (nI w5)), (7, .int (nI w6)), (9, .int (nI k))]) hx hb dX12_spells_111 hl (by decide) rfl (fun ls hl => ?_)
              refine nr_inc (d := 1) (k := 9) (lv' := [(9, .int (nI (k + 1))), (8, .int (nI 0)), (0, .ref (ad Γ (mo + 0))), (1, .int (nI sz)), (2, .int (nI w1)), (3, .int (nI w2)), (4, .int (nI w3)), (5, .int (nI w4)), (6, .int (nI w5)), (7, .int (nI w6))]) hx hb dX12_spells_113 hl rfl (by decide) (by decide) rfl (fun ls hl => ?_)
              refine lv_goto (tgt := 26) hx hb dX12_spells_116 (by decide) ?_
              exact ih26 (k + 1, 0) _ _ (lv_sub hl [2, 3, 4, 5, 6, 7, 8, 9, 1, 0] rfl) ⟨rfl, by (try dsimp only); omega, by (try dsimp only); first | exact Or.inl ⟨rfl, t2, t3, fun j hj => (Nat.lt_or_eq_of_le (Nat.le_of_lt_succ hj)).elim (fun z => t4 j z) (fun z => by rw [z]; unfold pickC; (repeat' split) <;> omega)⟩ | exact Or.inr ⟨rfl, fun hh => absurd (hh.2.2 k (by omega)) (by unfold pickC; (repeat' split) <;> omega)⟩, by (try dsimp only); omega⟩ (by (try dsimp only); omega)
            · refine lv_iconst (v := nI 1) hx hb dX12_spells_106 (by decide) ?_
              refine lv_goto (tgt := 111) hx hb dX12_spells_107 (by decide) ?_
              refine lv_istore (lv' := [(8, .int (nI 1)), (0, .ref (ad Γ (mo + 0))), (1, .int (nI sz)), (2, .int (nI w1)), (3, .int (nI w2)), (4, .int (nI w3)), (5, .int (nI w4)), (6, .int (nI w5)), (7, .int (nI w6)), (9, .int (nI k))]) hx hb dX12_spells_111 hl (by decide) rfl (fun ls hl => ?_)
              refine nr_inc (d := 1) (k := 9) (lv' := [(9, .int (nI (k + 1))), (8, .int (nI 1)), (0, .ref (ad Γ (mo + 0))), (1, .int (nI sz)), (2, .int (nI w1)), (3, .int (nI w2)), (4, .int (nI w3)), (5, .int (nI w4)), (6, .int (nI w5)), (7, .int (nI w6))]) hx hb dX12_spells_113 hl rfl (by decide) (by decide) rfl (fun ls hl => ?_)
              refine lv_goto (tgt := 26) hx hb dX12_spells_116 (by decide) ?_
              exact ih26 (k + 1, 1) _ _ (lv_sub hl [2, 3, 4, 5, 6, 7, 8, 9, 1, 0] rfl) ⟨rfl, by (try dsimp only); omega, by (try dsimp only); first | exact Or.inl ⟨rfl, t2, t3, fun j hj => (Nat.lt_or_eq_of_le (Nat.le_of_lt_succ hj)).elim (fun z => t4 j z) (fun z => by rw [z]; unfold pickC; (repeat' split) <;> omega)⟩ | exact Or.inr ⟨rfl, fun hh => absurd (hh.2.2 k (by omega)) (by unfold pickC; (repeat' split) <;> omega)⟩, by (try dsimp only); omega⟩ (by (try dsimp only); omega)
    · refine lv_iconst (v := nI 1) hx hb dX12_spells_16 (by decide) ?_
      refine lv_goto (tgt := 21) hx hb dX12_spells_17 (by decide) ?_
      refine lv_istore (lv' := [(8, .int (nI 1)), (0, .ref (ad Γ (mo + 0))), (1, .int (nI sz)), (2, .int (nI w1)), (3, .int (nI w2)), (4, .int (nI w3)), (5, .int (nI w4)), (6, .int (nI w5)), (7, .int (nI w6))]) hx hb dX12_spells_21 hl (by decide) rfl (fun ls hl => ?_)
      refine lv_iconst (v := nI 0) hx hb dX12_spells_23 (by decide) ?_
      refine lv_istore (lv' := [(9, .int (nI 0)), (8, .int (nI 1)), (0, .ref (ad Γ (mo + 0))), (1, .int (nI sz)), (2, .int (nI w1)), (3, .int (nI w2)), (4, .int (nI w3)), (5, .int (nI w4)), (6, .int (nI w5)), (7, .int (nI w6))]) hx hb dX12_spells_24 hl (by decide) rfl (fun ls hl => ?_)
      refine nr_lp (σ := Nat × Nat) (pc := 26) (fun x lv => lv = [(0, .ref (ad Γ (mo + 0))), (1, .int (nI sz)), (2, .int (nI w1)), (3, .int (nI w2)), (4, .int (nI w3)), (5, .int (nI w4)), (6, .int (nI w5)), (7, .int (nI w6)), (8, .int (nI x.2)), (9, .int (nI x.1))] ∧ (x.1 ≤ sz) ∧ ((x.2 = 1 ∧ iv 3 = 1 ∧ iv 2 = sz ∧ ∀ j, j < x.1 → by0 (iv 1 + j) = pickC w1 w2 w3 w4 w5 w6 j) ∨ (x.2 = 0 ∧ ¬ splX by0 iv sz w1 w2 w3 w4 w5 w6)) ∧ (x.2 ≤ 1)) (fun x => sz - x.1) (0, 1) (lv_sub hl [2, 3, 4, 5, 6, 7, 8, 9, 1, 0] rfl) ⟨rfl, Nat.zero_le _, by (try dsimp only); first | exact Or.inl ⟨rfl, by omega, by omega, fun j hj => absurd hj (Nat.not_lt_zero j)⟩ | exact Or.inr ⟨rfl, fun hh => by have a1 := hh.1; have a2 := hh.2.1; omega⟩, by (try dsimp only); omega⟩ ?_
      intro x lv ls hl hI ih26
      obtain ⟨k, t⟩ := x
      obtain ⟨rfl, hk, ht, ht1⟩ := hI
      try dsimp only at hk ht ht1 hl ih26
      have hby9 := hbt (iv 1 + k)
      refine lv_iload hx hb dX12_spells_26 (lv_at hl 9 rfl) ?_
      refine lv_iload_n hx hb dX12_spells_28 rfl (lv_at hl 1 rfl) ?_
      refine nr_icmp_ge (tgt := 119) hx hb (by omega) (by omega) dX12_spells_29 (by decide) (fun c31 => ?_) (fun c31 => ?_)
      · refine lv_iload hx hb dX12_spells_119 (lv_at hl 8 rfl) ?_
        exact nr_retB hx hb hr hlocks (by
      rcases ht with ⟨t1, t2, t3, t4⟩ | ⟨t1, hn⟩
      · exact Or.inl ⟨⟨t2, t3, fun j hj => t4 j (by omega)⟩, by rw [t1]⟩
      · exact Or.inr ⟨hn, by rw [t1]⟩) rfl dX12_spells_121
      · refine lv_iload hx hb dX12_spells_32 (lv_at hl 8 rfl) ?_
        refine nr_if_eq (tgt := 119) hx hb (by omega) dX12_spells_34 (by decide) (fun c32 => ?_) (fun c32 => ?_)
        · refine lv_iload hx hb dX12_spells_119 (lv_at hl 8 rfl) ?_
          exact nr_retB hx hb hr hlocks (by
      rcases ht with ⟨t1, t2, t3, t4⟩ | ⟨t1, hn⟩
      · exact Or.inl ⟨⟨t2, t3, fun j hj => t4 j (by omega)⟩, by rw [t1]⟩
      · exact Or.inr ⟨hn, by rw [t1]⟩) rfl dX12_spells_121
        · obtain ⟨t1, t2, t3, t4⟩ := ht.resolve_right (fun z => absurd z.1 (by assumption))
          refine lv_aload_n hx hb dX12_spells_37 rfl (lv_at hl 0 rfl) ?_
          refine nr_get (own := RX12) (C := RX12) (T := TX12) (N := 19) (v := .ref (ad Γ (mo + 10))) hx hb hts hi_X12_spells_X12 hown hw (by omega) (isM_0 hM) rfl 11 (by decide) wl_X12_spells_3 rfl rfl dX12_spells_38 ?_
          refine lv_aload_n hx hb dX12_spells_41 rfl (lv_at hl 0 rfl) ?_
          refine nr_get (own := RX12) (C := RX12) (T := TX12) (N := 19) (v := .int (nI (iv 1))) hx hb hts hi_X12_spells_X12 hown hw (by omega) (isM_0 hM) rfl 13 (by decide) wl_X12_spells_4 rfl rfl dX12_spells_42 ?_
          refine lv_iload hx hb dX12_spells_45 (lv_at hl 9 rfl) ?_
          refine nr_iadd hx hb dX12_spells_47 ?_
          refine nr_iald (x := (by0 (iv 1 + k))) hx hb hw (by omega) (isM_10 hM) rfl (by omega) (by decide) dX12_spells_48 ?_
          have hL33 := hbt (iv 1 + k)
          refine lv_iload hx hb dX12_spells_49 (lv_at hl 9 rfl) ?_
          refine nr_if_ne (tgt := 58) hx hb (by omega) dX12_spells_51 (by decide) (fun c34 => ?_) (fun c34 => ?_)
          · refine lv_iload hx hb dX12_spells_58 (lv_at hl 9 rfl) ?_
            refine lv_iconst (v := nI 1) hx hb dX12_spells_60 (by decide) ?_
            refine nr_icmp_ne (tgt := 68) hx hb (by omega) (by decide) dX12_spells_61 (by decide) (fun c35 => ?_) (fun c35 => ?_)
            · refine lv_iload hx hb dX12_spells_68 (lv_at hl 9 rfl) ?_
              refine lv_iconst (v := nI 2) hx hb dX12_spells_70 (by decide) ?_
              refine nr_icmp_ne (tgt := 79) hx hb (by omega) (by decide) dX12_spells_71 (by decide) (fun c36 => ?_) (fun c36 => ?_)
              · refine lv_iload hx hb dX12_spells_79 (lv_at hl 9 rfl) ?_
                refine lv_iconst (v := nI 3) hx hb dX12_spells_81 (by decide) ?_
                refine nr_icmp_ne (tgt := 90) hx hb (by omega) (by decide) dX12_spells_82 (by decide) (fun c37 => ?_) (fun c37 => ?_)
                · refine lv_iload hx hb dX12_spells_90 (lv_at hl 9 rfl) ?_
                  refine lv_iconst (v := nI 4) hx hb dX12_spells_92 (by decide) ?_
                  refine nr_icmp_ne (tgt := 101) hx hb (by omega) (by decide) dX12_spells_93 (by decide) (fun c38 => ?_) (fun c38 => ?_)
                  · refine lv_iload hx hb dX12_spells_101 (lv_at hl 7 rfl) ?_
                    refine nr_icmp_ne (tgt := 110) hx hb (by omega) (by omega) dX12_spells_103 (by decide) (fun c39 => ?_) (fun c39 => ?_)
                    · refine lv_iconst (v := nI 0) hx hb dX12_spells_110 (by decide) ?_
                      refine lv_istore (lv' := [(8, .int (nI 0)), (0, .ref (ad Γ (mo + 0))), (1, .int (nI sz)), (2, .int (nI w1)), (3, .int (nI w2)), (4, .int (nI w3)), (5, .int (nI w4)), (6, .int (nI w5)), (7, .int (nI w6)), (9, .int (nI k))]) hx hb dX12_spells_111 hl (by decide) rfl (fun ls hl => ?_)
                      refine nr_inc (d := 1) (k := 9) (lv' := [(9, .int (nI (k + 1))), (8, .int (nI 0)), (0, .ref (ad Γ (mo + 0))), (1, .int (nI sz)), (2, .int (nI w1)), (3, .int (nI w2)), (4, .int (nI w3)), (5, .int (nI w4)), (6, .int (nI w5)), (7, .int (nI w6))]) hx hb dX12_spells_113 hl rfl (by decide) (by decide) rfl (fun ls hl => ?_)
                      refine lv_goto (tgt := 26) hx hb dX12_spells_116 (by decide) ?_
                      exact ih26 (k + 1, 0) _ _ (lv_sub hl [2, 3, 4, 5, 6, 7, 8, 9, 1, 0] rfl) ⟨rfl, by (try dsimp only); omega, by (try dsimp only); first | exact Or.inl ⟨rfl, t2, t3, fun j hj => (Nat.lt_or_eq_of_le (Nat.le_of_lt_succ hj)).elim (fun z => t4 j z) (fun z => by rw [z]; unfold pickC; (repeat' split) <;> omega)⟩ | exact Or.inr ⟨rfl, fun hh => absurd (hh.2.2 k (by omega)) (by unfold pickC; (repeat' split) <;> omega)⟩, by (try dsimp only); omega⟩ (by (try dsimp only); omega)
                    · refine lv_iconst (v := nI 1) hx hb dX12_spells_106 (by decide) ?_
                      refine lv_goto (tgt := 111) hx hb dX12_spells_107 (by decide) ?_
                      refine lv_istore (lv' := [(8, .int (nI 1)), (0, .ref (ad Γ (mo + 0))), (1, .int (nI sz)), (2, .int (nI w1)), (3, .int (nI w2)), (4, .int (nI w3)), (5, .int (nI w4)), (6, .int (nI w5)), (7, .int (nI w6)), (9, .int (nI k))]) hx hb dX12_spells_111 hl (by decide) rfl (fun ls hl => ?_)
                      refine nr_inc (d := 1) (k := 9) (lv' := [(9, .int (nI (k + 1))), (8, .int (nI 1)), (0, .ref (ad Γ (mo + 0))), (1, .int (nI sz)), (2, .int (nI w1)), (3, .int (nI w2)), (4, .int (nI w3)), (5, .int (nI w4)), (6, .int (nI w5)), (7, .int (nI w6))]) hx hb dX12_spells_113 hl rfl (by decide) (by decide) rfl (fun ls hl => ?_)
                      refine lv_goto (tgt := 26) hx hb dX12_spells_116 (by decide) ?_
                      exact ih26 (k + 1, 1) _ _ (lv_sub hl [2, 3, 4, 5, 6, 7, 8, 9, 1, 0] rfl) ⟨rfl, by (try dsimp only); omega, by (try dsimp only); first | exact Or.inl ⟨rfl, t2, t3, fun j hj => (Nat.lt_or_eq_of_le (Nat.le_of_lt_succ hj)).elim (fun z => t4 j z) (fun z => by rw [z]; unfold pickC; (repeat' split) <;> omega)⟩ | exact Or.inr ⟨rfl, fun hh => absurd (hh.2.2 k (by omega)) (by unfold pickC; (repeat' split) <;> omega)⟩, by (try dsimp only); omega⟩ (by (try dsimp only); omega)
                  · refine lv_iload hx hb dX12_spells_96 (lv_at hl 6 rfl) ?_
                    refine lv_goto (tgt := 103) hx hb dX12_spells_98 (by decide) ?_
                    refine nr_icmp_ne (tgt := 110) hx hb (by omega) (by omega) dX12_spells_103 (by decide) (fun c40 => ?_) (fun c40 => ?_)
                    · refine lv_iconst (v := nI 0) hx hb dX12_spells_110 (by decide) ?_
                      refine lv_istore (lv' := [(8, .int (nI 0)), (0, .ref (ad Γ (mo + 0))), (1, .int (nI sz)), (2, .int (nI w1)), (3, .int (nI w2)), (4, .int (nI w3)), (5, .int (nI w4)), (6, .int (nI w5)), (7, .int (nI w6)), (9, .int (nI k))]) hx hb dX12_spells_111 hl (by decide) rfl (fun ls hl => ?_)
                      refine nr_inc (d := 1) (k := 9) (lv' := [(9, .int (nI (k + 1))), (8, .int (nI 0)), (0, .ref (ad Γ (mo + 0))), (1, .int (nI sz)), (2, .int (nI w1)), (3, .int (nI w2)), (4, .int (nI w3)), (5, .int (nI w4)), (6, .int (nI w5)), (7, .int (nI w6))]) hx hb dX12_spells_113 hl rfl (by decide) (by decide) rfl (fun ls hl => ?_)
                      refine lv_goto (tgt := 26) hx hb dX12_spells_116 (by decide) ?_
                      exact ih26 (k + 1, 0) _ _ (lv_sub hl [2, 3, 4, 5, 6, 7, 8, 9, 1, 0] rfl) ⟨rfl, by (try dsimp only); omega, by (try dsimp only); first | exact Or.inl ⟨rfl, t2, t3, fun j hj => (Nat.lt_or_eq_of_le (Nat.le_of_lt_succ hj)).elim (fun z => t4 j z) (fun z => by rw [z]; unfold pickC; (repeat' split) <;> omega)⟩ | exact Or.inr ⟨rfl, fun hh => absurd (hh.2.2 k (by omega)) (by unfold pickC; (repeat' split) <;> omega)⟩, by (try dsimp only); omega⟩ (by (try dsimp only); omega)
                    · refine lv_iconst (v := nI 1) hx hb dX12_spells_106 (by decide) ?_
                      refine lv_goto (tgt := 111) hx hb dX12_spells_107 (by decide) ?_
                      refine lv_istore (lv' := [(8, .int (nI 1)), (0, .ref (ad Γ (mo + 0))), (1, .int (nI sz)), (2, .int (nI w1)), (3, .int (nI w2)), (4, .int (nI w3)), (5, .int (nI w4)), (6, .int (nI w5)), (7, .int (nI w6)), (9, .int (nI k))]) hx hb dX12_spells_111 hl (by decide) rfl (fun ls hl => ?_)
                      refine nr_inc (d := 1) (k := 9) (lv' := [(9, .int (nI (k + 1))), (8, .int (nI 1)), (0, .ref (ad Γ (mo + 0))), (1, .int (nI sz)), (2, .int (nI w1)), (3, .int (nI w2)), (4, .int (nI w3)), (5, .int (nI w4)), (6, .int (nI w5)), (7, .int (nI w6))]) hx hb dX12_spells_113 hl rfl (by decide) (by decide) rfl (fun ls hl => ?_)
                      refine lv_goto (tgt := 26) hx hb dX12_spells_116 (by decide) ?_
                      exact ih26 (k + 1, 1) _ _ (lv_sub hl [2, 3, 4, 5, 6, 7, 8, 9, 1, 0] rfl) ⟨rfl, by (try dsimp only); omega, by (try dsimp only); first | exact Or.inl ⟨rfl, t2, t3, fun j hj => (Nat.lt_or_eq_of_le (Nat.le_of_lt_succ hj)).elim (fun z => t4 j z) (fun z => by rw [z]; unfold pickC; (repeat' split) <;> omega)⟩ | exact Or.inr ⟨rfl, fun hh => absurd (hh.2.2 k (by omega)) (by unfold pickC; (repeat' split) <;> omega)⟩, by (try dsimp only); omega⟩ (by (try dsimp only); omega)
                · refine lv_iload hx hb dX12_spells_85 (lv_at hl 5 rfl) ?_
                  refine lv_goto (tgt := 103) hx hb dX12_spells_87 (by decide) ?_
                  refine nr_icmp_ne (tgt := 110) hx hb (by omega) (by omega) dX12_spells_103 (by decide) (fun c41 => ?_) (fun c41 => ?_)
                  · refine lv_iconst (v := nI 0) hx hb dX12_spells_110 (by decide) ?_
                    refine lv_istore (lv' := [(8, .int (nI 0)), (0, .ref (ad Γ (mo + 0))), (1, .int (nI sz)), (2, .int (nI w1)), (3, .int (nI w2)), (4, .int (nI w3)), (5, .int (nI w4)), (6, .int (nI w5)), (7, .int (nI w6)), (9, .int (nI k))]) hx hb dX12_spells_111 hl (by decide) rfl (fun ls hl => ?_)
                    refine nr_inc (d := 1) (k := 9) (lv' := [(9, .int (nI (k + 1))), (8, .int (nI 0)), (0, .ref (ad Γ (mo + 0))), (1, .int (nI sz)), (2, .int (nI w1)), (3, .int (nI w2)), (4, .int (nI w3)), (5, .int (nI w4)), (6, .int (nI w5)), (7, .int (nI w6))]) hx hb dX12_spells_113 hl rfl (by decide) (by decide) rfl (fun ls hl => ?_)
                    refine lv_goto (tgt := 26) hx hb dX12_spells_116 (by decide) ?_
                    exact ih26 (k + 1, 0) _ _ (lv_sub hl [2, 3, 4, 5, 6, 7, 8, 9, 1, 0] rfl) ⟨rfl, by (try dsimp only); omega, by (try dsimp only); first | exact Or.inl ⟨rfl, t2, t3, fun j hj => (Nat.lt_or_eq_of_le (Nat.le_of_lt_succ hj)).elim (fun z => t4 j z) (fun z => by rw [z]; unfold pickC; (repeat' split) <;> omega)⟩ | exact Or.inr ⟨rfl, fun hh => absurd (hh.2.2 k (by omega)) (by unfold pickC; (repeat' split) <;> omega)⟩, by (try dsimp only); omega⟩ (by (try dsimp only); omega)
                  · refine lv_iconst (v := nI 1) hx hb dX12_spells_106 (by decide) ?_
                    refine lv_goto (tgt := 111) hx hb dX12_spells_107 (by decide) ?_
                    refine lv_istore (lv' := [(8, .int (nI 1)), (0, .ref (ad Γ (mo + 0))), (1, .int (nI sz)), (2, .int (nI w1)), (3, .int (nI w2)), (4, .int (nI w3)), (5, .int (nI w4)), (6, .int (nI w5)), (7, .int (nI w6)), (9, .int (nI k))]) hx hb dX12_spells_111 hl (by decide) rfl (fun ls hl => ?_)
                    refine nr_inc (d := 1) (k := 9) (lv' := [(9, .int (nI (k + 1))), (8, .int (nI 1)), (0, .ref (ad Γ (mo + 0))), (1, .int (nI sz)), (2, .int (nI w1)), (3, .int (nI w2)), (4, .int (nI w3)), (5, .int (nI w4)), (6, .int (nI w5)), (7, .int (nI w6))]) hx hb dX12_spells_113 hl rfl (by decide) (by decide) rfl (fun ls hl => ?_)
                    refine lv_goto (tgt := 26) hx hb dX12_spells_116 (by decide) ?_
                    exact ih26 (k + 1, 1) _ _ (lv_sub hl [2, 3, 4, 5, 6, 7, 8, 9, 1, 0] rfl) ⟨rfl, by (try dsimp only); omega, by (try dsimp only); first | exact Or.inl ⟨rfl, t2, t3, fun j hj => (Nat.lt_or_eq_of_le (Nat.le_of_lt_succ hj)).elim (fun z => t4 j z) (fun z => by rw [z]; unfold pickC; (repeat' split) <;> omega)⟩ | exact Or.inr ⟨rfl, fun hh => absurd (hh.2.2 k (by omega)) (by unfold pickC; (repeat' split) <;> omega)⟩, by (try dsimp only); omega⟩ (by (try dsimp only); omega)
              · refine lv_iload hx hb dX12_spells_74 (lv_at hl 4 rfl) ?_
                refine lv_goto (tgt := 103) hx hb dX12_spells_76 (by decide) ?_
                refine nr_icmp_ne (tgt := 110) hx hb (by omega) (by omega) dX12_spells_103 (by decide) (fun c42 => ?_) (fun c42 => ?_)
                · refine lv_iconst (v := nI 0) hx hb dX12_spells_110 (by decide) ?_
                  refine lv_istore (lv' := [(8, .int (nI 0)), (0, .ref (ad Γ (mo + 0))), (1, .int (nI sz)), (2, .int (nI w1)), (3, .int (nI w2)), (4, .int (nI w3)), (5, .int (nI w4)), (6, .int (nI w5)), (7, .int (nI w6)), (9, .int (nI k))]) hx hb dX12_spells_111 hl (by decide) rfl (fun ls hl => ?_)
                  refine nr_inc (d := 1) (k := 9) (lv' := [(9, .int (nI (k + 1))), (8, .int (nI 0)), (0, .ref (ad Γ (mo + 0))), (1, .int (nI sz)), (2, .int (nI w1)), (3, .int (nI w2)), (4, .int (nI w3)), (5, .int (nI w4)), (6, .int (nI w5)), (7, .int (nI w6))]) hx hb dX12_spells_113 hl rfl (by decide) (by decide) rfl (fun ls hl => ?_)
                  refine lv_goto (tgt := 26) hx hb dX12_spells_116 (by decide) ?_
                  exact ih26 (k + 1, 0) _ _ (lv_sub hl [2, 3, 4, 5, 6, 7, 8, 9, 1, 0] rfl) ⟨rfl, by (try dsimp only); omega, by (try dsimp only); first | exact Or.inl ⟨rfl, t2, t3, fun j hj => (Nat.lt_or_eq_of_le (Nat.le_of_lt_succ hj)).elim (fun z => t4 j z) (fun z => by rw [z]; unfold pickC; (repeat' split) <;> omega)⟩ | exact Or.inr ⟨rfl, fun hh => absurd (hh.2.2 k (by omega)) (by unfold pickC; (repeat' split) <;> omega)⟩, by (try dsimp only); omega⟩ (by (try dsimp only); omega)
                · refine lv_iconst (v := nI 1) hx hb dX12_spells_106 (by decide) ?_
                  refine lv_goto (tgt := 111) hx hb dX12_spells_107 (by decide) ?_
                  refine lv_istore (lv' := [(8, .int (nI 1)), (0, .ref (ad Γ (mo + 0))), (1, .int (nI sz)), (2, .int (nI w1)), (3, .int (nI w2)), (4, .int (nI w3)), (5, .int (nI w4)), (6, .int (nI w5)), (7, .int (nI w6)), (9, .int (nI k))]) hx hb dX12_spells_111 hl (by decide) rfl (fun ls hl => ?_)
                  refine nr_inc (d := 1) (k := 9) (lv' := [(9, .int (nI (k + 1))), (8, .int (nI 1)), (0, .ref (ad Γ (mo + 0))), (1, .int (nI sz)), (2, .int (nI w1)), (3, .int (nI w2)), (4, .int (nI w3)), (5, .int (nI w4)), (6, .int (nI w5)), (7, .int (nI w6))]) hx hb dX12_spells_113 hl rfl (by decide) (by decide) rfl (fun ls hl => ?_)
                  refine lv_goto (tgt := 26) hx hb dX12_spells_116 (by decide) ?_
                  exact ih26 (k + 1, 1) _ _ (lv_sub hl [2, 3, 4, 5, 6, 7, 8, 9, 1, 0] rfl) ⟨rfl, by (try dsimp only); omega, by (try dsimp only); first | exact Or.inl ⟨rfl, t2, t3, fun j hj => (Nat.lt_or_eq_of_le (Nat.le_of_lt_succ hj)).elim (fun z => t4 j z) (fun z => by rw [z]; unfold pickC; (repeat' split) <;> omega)⟩ | exact Or.inr ⟨rfl, fun hh => absurd (hh.2.2 k (by omega)) (by unfold pickC; (repeat' split) <;> omega)⟩, by (try dsimp only); omega⟩ (by (try dsimp only); omega)
            · refine lv_iload_n hx hb dX12_spells_64 rfl (lv_at hl 3 rfl) ?_
              refine lv_goto (tgt := 103) hx hb dX12_spells_65 (by decide) ?_
              refine nr_icmp_ne (tgt := 110) hx hb (by omega) (by omega) dX12_spells_103 (by decide) (fun c43 => ?_) (fun c43 => ?_)
              · refine lv_iconst (v := nI 0) hx hb dX12_spells_110 (by decide) ?_
                refine lv_istore (lv' := [(8, .int (nI 0)), (0, .ref (ad Γ (mo + 0))), (1, .int (nI sz)), (2, .int (nI w1)), (3, .int (nI w2)), (4, .int (nI w3)), (5, .int (nI w4)), (6, .int (nI w5)), (7, .int (nI w6)), (9, .int (nI k))]) hx hb dX12_spells_111 hl (by decide) rfl (fun ls hl => ?_)
                refine nr_inc (d := 1) (k := 9) (lv' := [(9, .int (nI (k + 1))), (8, .int (nI 0)), (0, .ref (ad Γ (mo + 0))), (1, .int (nI sz)), (2, .int (nI w1)), (3, .int (nI w2)), (4, .int (nI w3)), (5, .int (nI w4)), (6, .int (nI w5)), (7, .int (nI w6))]) hx hb dX12_spells_113 hl rfl (by decide) (by decide) rfl (fun ls hl => ?_)
                refine lv_goto (tgt := 26) hx hb dX12_spells_116 (by decide) ?_
                exact ih26 (k + 1, 0) _ _ (lv_sub hl [2, 3, 4, 5, 6, 7, 8, 9, 1, 0] rfl) ⟨rfl, by (try dsimp only); omega, by (try dsimp only); first | exact Or.inl ⟨rfl, t2, t3, fun j hj => (Nat.lt_or_eq_of_le (Nat.le_of_lt_succ hj)).elim (fun z => t4 j z) (fun z => by rw [z]; unfold pickC; (repeat' split) <;> omega)⟩ | exact Or.inr ⟨rfl, fun hh => absurd (hh.2.2 k (by omega)) (by unfold pickC; (repeat' split) <;> omega)⟩, by (try dsimp only); omega⟩ (by (try dsimp only); omega)
              · refine lv_iconst (v := nI 1) hx hb dX12_spells_106 (by decide) ?_
                refine lv_goto (tgt := 111) hx hb dX12_spells_107 (by decide) ?_
                refine lv_istore (lv' := [(8, .int (nI 1)), (0, .ref (ad Γ (mo + 0))), (1, .int (nI sz)), (2, .int (nI w1)), (3, .int (nI w2)), (4, .int (nI w3)), (5, .int (nI w4)), (6, .int (nI w5)), (7, .int (nI w6)), (9, .int (nI k))]) hx hb dX12_spells_111 hl (by decide) rfl (fun ls hl => ?_)
                refine nr_inc (d := 1) (k := 9) (lv' := [(9, .int (nI (k + 1))), (8, .int (nI 1)), (0, .ref (ad Γ (mo + 0))), (1, .int (nI sz)), (2, .int (nI w1)), (3, .int (nI w2)), (4, .int (nI w3)), (5, .int (nI w4)), (6, .int (nI w5)), (7, .int (nI w6))]) hx hb dX12_spells_113 hl rfl (by decide) (by decide) rfl (fun ls hl => ?_)
                refine lv_goto (tgt := 26) hx hb dX12_spells_116 (by decide) ?_
                exact ih26 (k + 1, 1) _ _ (lv_sub hl [2, 3, 4, 5, 6, 7, 8, 9, 1, 0] rfl) ⟨rfl, by (try dsimp only); omega, by (try dsimp only); first | exact Or.inl ⟨rfl, t2, t3, fun j hj => (Nat.lt_or_eq_of_le (Nat.le_of_lt_succ hj)).elim (fun z => t4 j z) (fun z => by rw [z]; unfold pickC; (repeat' split) <;> omega)⟩ | exact Or.inr ⟨rfl, fun hh => absurd (hh.2.2 k (by omega)) (by unfold pickC; (repeat' split) <;> omega)⟩, by (try dsimp only); omega⟩ (by (try dsimp only); omega)
          · refine lv_iload_n hx hb dX12_spells_54 rfl (lv_at hl 2 rfl) ?_
            refine lv_goto (tgt := 103) hx hb dX12_spells_55 (by decide) ?_
            refine nr_icmp_ne (tgt := 110) hx hb (by omega) (by omega) dX12_spells_103 (by decide) (fun c44 => ?_) (fun c44 => ?_)
            · refine lv_iconst (v := nI 0) hx hb dX12_spells_110 (by decide) ?_
              refine lv_istore (lv' := [(8, .int (nI 0)), (0, .ref (ad Γ (mo + 0))), (1, .int (nI sz)), (2, .int (nI w1)), (3, .int (nI w2)), (4, .int (nI w3)), (5, .int (nI w4)), (6, .int (nI w5)), (7, .int (nI w6)), (9, .int (nI k))]) hx hb dX12_spells_111 hl (by decide) rfl (fun ls hl => ?_)
              refine nr_inc (d := 1) (k := 9) (lv' := [(9, .int (nI (k + 1))), (8, .int (nI 0)), (0, .ref (ad Γ (mo + 0))), (1, .int (nI sz)), (2, .int (nI w1)), (3, .int (nI w2)), (4, .int (nI w3)), (5, .int (nI w4)), (6, .int (nI w5)), (7, .int (nI w6))]) hx hb dX12_spells_113 hl rfl (by decide) (by decide) rfl (fun ls hl => ?_)
              refine lv_goto (tgt := 26) hx hb dX12_spells_116 (by decide) ?_
              exact ih26 (k + 1, 0) _ _ (lv_sub hl [2, 3, 4, 5, 6, 7, 8, 9, 1, 0] rfl) ⟨rfl, by (try dsimp only); omega, by (try dsimp only); first | exact Or.inl ⟨rfl, t2, t3, fun j hj => (Nat.lt_or_eq_of_le (Nat.le_of_lt_succ hj)).elim (fun z => t4 j z) (fun z => by rw [z]; unfold pickC; (repeat' split) <;> omega)⟩ | exact Or.inr ⟨rfl, fun hh => absurd (hh.2.2 k (by omega)) (by unfold pickC; (repeat' split) <;> omega)⟩, by (try dsimp only); omega⟩ (by (try dsimp only); omega)
            · refine lv_iconst (v := nI 1) hx hb dX12_spells_106 (by decide) ?_
              refine lv_goto (tgt := 111) hx hb dX12_spells_107 (by decide) ?_
              refine lv_istore (lv' := [(8, .int (nI 1)), (0, .ref (ad Γ (mo + 0))), (1, .int (nI sz)), (2, .int (nI w1)), (3, .int (nI w2)), (4, .int (nI w3)), (5, .int (nI w4)), (6, .int (nI w5)), (7, .int (nI w6)), (9, .int (nI k))]) hx hb dX12_spells_111 hl (by decide) rfl (fun ls hl => ?_)
              refine nr_inc (d := 1) (k := 9) (lv' := [(9, .int (nI (k + 1))), (8, .int (nI 1)), (0, .ref (ad Γ (mo + 0))), (1, .int (nI sz)), (2, .int (nI w1)), (3, .int (nI w2)), (4, .int (nI w3)), (5, .int (nI w4)), (6, .int (nI w5)), (7, .int (nI w6))]) hx hb dX12_spells_113 hl rfl (by decide) (by decide) rfl (fun ls hl => ?_)
              refine lv_goto (tgt := 26) hx hb dX12_spells_116 (by decide) ?_
              exact ih26 (k + 1, 1) _ _ (lv_sub hl [2, 3, 4, 5, 6, 7, 8, 9, 1, 0] rfl) ⟨rfl, by (try dsimp only); omega, by (try dsimp only); first | exact Or.inl ⟨rfl, t2, t3, fun j hj => (Nat.lt_or_eq_of_le (Nat.le_of_lt_succ hj)).elim (fun z => t4 j z) (fun z => by rw [z]; unfold pickC; (repeat' split) <;> omega)⟩ | exact Or.inr ⟨rfl, fun hh => absurd (hh.2.2 k (by omega)) (by unfold pickC; (repeat' split) <;> omega)⟩, by (try dsimp only); omega⟩ (by (try dsimp only); omega)
theorem wl_X12_gives_1 : Cond.fieldLink RX12 239 "BellForgivenModel" "token" "I" ∈ wsX12_gives := List.mem_of_getElem? (i := 1) rfl
theorem wl_X12_gives_2 : Cond.fieldLink RX12 242 "BellForgivenModel" "value" "I" ∈ wsX12_gives := List.mem_of_getElem? (i := 2) rfl
theorem wl_X12_gives_3 : Cond.fieldLink RX12 48 "BellForgivenModel" "values" "[I" ∈ wsX12_gives := List.mem_of_getElem? (i := 3) rfl
theorem hi_X12_gives_X12 : ∀ w ∈ u_ws RX12 TX12 19, w ∈ wsX12_gives := fun w h => (List.mem_cons_of_mem _ (List.mem_append_right _ h))
set_option maxHeartbeats 4000000 in
set_option maxRecDepth 100000 in
theorem c_X12_gives (l : Launch) (Γ : Gam) (n : Nat) (G : Nat → va_E) (mo : Nat) (R K kp rf ca rc hd fw tl by0 an vl iv : Nat → Nat) (hM : isM Γ G mo R K kp rf ca rc hd fw tl by0 an vl iv) (hmo : mo + 13 ≤ n) (hI : vI R) (hj : winj Γ n) (k lo : Nat) (pp : Nat) (hk : k < 4) (hlo : lo < 100) (hpp : pp ≤ 100) (hL : iv 0 ≤ 150) (hbt : ∀ j, by0 j ≤ 127) (hlk : lkAt by0 (iv 0) iv)  : Met l yX12_gives wsX12_gives ({ frames := 4, cells := 0, slots := 0, locals := 89 }) (va_Pc [.ref (ad Γ (mo + 0)), .int (nI k), .int (nI lo), .int (nI pp - nI 1)] (fun U => hw Γ n G U U.heap)) (wQi Γ n (fun z G2 => ((iv 3 = 2) ∧ (lo ≤ iv 4) ∧ (iv 4 < pp) ∧ (z = nI 1) ∧ ∃ iv2 : Nat → Nat, (lkN by0 (iv 0) iv iv2) ∧ isM Γ G2 mo R K kp rf ca rc hd fw tl by0 an (va_up vl k (iv 4)) iv2 ∧ fr G G2 mo (mo + 13)) ∨ ((¬ (iv 3 = 2 ∧ lo ≤ iv 4 ∧ iv 4 < pp)) ∧ (z = nI 0) ∧ isM Γ G2 mo R K kp rf ca rc hd fw tl by0 an vl iv ∧ fr G G2 mo (mo + 13)))) 0 0 (wA Γ n) := by
  refine Met.ofW (cc := cX12_gives) (maxL := 4) (ret := (some .boolean)) (by decide) rfl ?_
  intro p e s m args below meth c s₁ B hml hv
  obtain ⟨rfl, hw⟩ := hv
  have hx := B.exec
  have hb := B.bytes
  have hr := B.returns
  have hts := atoms_spec (ws := wsX12_gives) B.pre
  have hown : s.vm.findClass RX12 = some m.cls := findClass_of_methodNamed B.named
  have hlocks := B.notSynchronized
  have hS : va_S (wA Γ n) s.heap s.heap [] := va_S.rf
  have hA : ∀ q, wA Γ n q → wA Γ n q := fun _ h => h
  have hl := lv_entry ([.ref (ad Γ (mo + 0)), .int (nI k), .int (nI lo), .int (nI pp - nI 1)]) (n := 4) (Nat.le_of_ble_eq_true rfl)
  rw [lg_entry_eq]
  generalize (lg_sl ([.ref (ad Γ (mo + 0)), .int (nI k), .int (nI lo), .int (nI pp - nI 1)]) ++ List.replicate (4 - (lg_sl ([.ref (ad Γ (mo + 0)), .int (nI k), .int (nI lo), .int (nI pp - nI 1)])).length) Slot.unset).toArray = ls at hl ⊢
  have hl : lv_has ls 4 [(0, .ref (ad Γ (mo + 0))), (1, .int (nI k)), (2, .int (nI lo)), (3, .int (nI pp - nI 1))] := hl
  have hfr := fr_rf G mo (mo + 13)
  have hB := hI.1
  have hB0 := hI.2.1
  have hB1 := hI.2.2.1
  have hB20 := hI.2.2.2.2.2.2.2.2.2
  have hBz2 := hI.2.2.2.1
  have hBz3 := hI.2.2.2.2.1
  have hBz4 := hI.2.2.2.2.2.1
  have hBz5 := hI.2.2.2.2.2.2.1
  have hby := hI.2.2.2.2.2.2.2.1
  have hto := hI.2.2.2.2.2.2.2.2.1
  have hf9 := lk_f hlk
  refine lv_aload_n hx hb dX12_gives_0 rfl (lv_at hl 0 rfl) ?_
  refine nr_get (own := RX12) (C := RX12) (T := TX12) (N := 19) (v := .int (nI (iv 3))) hx hb hts hi_X12_gives_X12 hown hw (by omega) (isM_0 hM) rfl 15 (by decide) wl_X12_gives_1 rfl rfl dX12_gives_1 ?_
  refine lv_iconst (v := nI 2) hx hb dX12_gives_4 (by decide) ?_
  refine nr_icmp_ne (tgt := 23) hx hb (by omega) (by decide) dX12_gives_5 (by decide) (fun c1 => ?_) (fun c1 => ?_)
  · refine lv_iconst (v := nI 0) hx hb dX12_gives_23 (by decide) ?_
    exact nr_retIB hx hb hr hlocks (by decide) hw hS (Or.inr (⟨by first | exact fun z => absurd z.1 (by assumption) | exact fun z => hnn9 z.2, rfl, hM, hfr⟩)) dX12_gives_24
  · refine lv_aload_n hx hb dX12_gives_8 rfl (lv_at hl 0 rfl) ?_
    refine nr_get (own := RX12) (C := RX12) (T := TX12) (N := 19) (v := .int (nI (iv 4))) hx hb hts hi_X12_gives_X12 hown hw (by omega) (isM_0 hM) rfl 16 (by decide) wl_X12_gives_2 rfl rfl dX12_gives_9 ?_
    refine lv_i2l (v := lN (iv 4)) hx hb dX12_gives_12 (nI_l (by omega)) ?_
    refine lv_iload_n hx hb dX12_gives_13 rfl (lv_at hl 2 rfl) ?_
    refine lv_i2l (v := lN lo) hx hb dX12_gives_14 (nI_l (by omega)) ?_
    refine lv_iload_n hx hb dX12_gives_15 rfl (lv_at hl 3 rfl) ?_
    refine lv_i2l (v := (nI pp - nI 1).toInt64) hx hb dX12_gives_16 rfl ?_
    refine nr_goB (P := (lN lo) ≤ (lN (iv 4)) ∧ (lN (iv 4)) ≤ ((nI pp - nI 1).toInt64)) (nr_runS (As := [.long (lN (iv 4)), .long (lN lo), .long ((nI pp - nI 1).toInt64)]) ⟨hx, hb, hml, hown, hts⟩ hw (c_X12_in l Γ n G (lN (iv 4)) (lN lo) ((nI pp - nI 1).toInt64)) (va_cwS 3 hts gX12_gives_X12_in rfl rfl rfl (by decide +kernel) ⟨Nat.le_of_ble_eq_true rfl, Nat.le_of_ble_eq_true rfl⟩) rfl hl.1 rfl (Nat.le_of_ble_eq_true rfl) dX12_gives_17 ⟨Nat.zero_le _, Nat.zero_le _⟩) (fun b2 => ?_) (fun b2 => ?_)
    · have hin9 := (in_m1 (by omega) (by omega) (by omega)).mp b2
      refine nr_if_ne (tgt := 25) hx hb (by decide) dX12_gives_20 (by decide) (fun c3 => ?_) (fun c3 => absurd c3 (by decide))
      refine lv_aload_n hx hb dX12_gives_25 rfl (lv_at hl 0 rfl) ?_
      refine nr_get (own := RX12) (C := RX12) (T := TX12) (N := 19) (v := .ref (ad Γ (mo + 12))) hx hb hts hi_X12_gives_X12 hown hw (by omega) (isM_0 hM) rfl 18 (by decide) wl_X12_gives_3 rfl rfl dX12_gives_26 ?_
      refine lv_iload_n hx hb dX12_gives_29 rfl (lv_at hl 1 rfl) ?_
      refine lv_aload_n hx hb dX12_gives_30 rfl (lv_at hl 0 rfl) ?_
      refine nr_get (own := RX12) (C := RX12) (T := TX12) (N := 19) (v := .int (nI (iv 4))) hx hb hts hi_X12_gives_X12 hown hw (by omega) (isM_0 hM) rfl 16 (by decide) wl_X12_gives_2 rfl rfl dX12_gives_31 ?_
      refine nr_iast (k := k) (v := iv 4) hx hb hw hj hA hS (by omega) (isM_12 hM) (by omega) (by decide) dX12_gives_34 (fun H locs hw hS => ?_)
      have hM := isM_s12 hM (va_up vl k (iv 4))
      have hfr := fr_up hfr (i := mo + 12) (by omega) (by omega) (na Γ 4 (va_up vl k (iv 4)))
      generalize va_up G (mo + 12) (na Γ 4 (va_up vl k (iv 4))) = G4 at hw hM hfr
      refine lv_aload_n hx hb dX12_gives_35 rfl (lv_at hl 0 rfl) ?_
      refine nr_goV (nr_runV (As := []) (C := RX12) (T := TX12) (N := 19) ⟨hx, hb, hml, hown, hts⟩ hw (by omega) (isM_0 hM) rfl (c_X12_goBehind l Γ n G4 mo R K kp rf ca rc hd fw tl by0 an (va_up vl k (iv 4)) iv hM (by omega) hI hj hL hbt hlk) (cwV 0 hts gX12_gives_X12_goBehind rfl rfl rfl (by decide +kernel) ⟨Nat.le_of_ble_eq_true rfl, Nat.le_of_ble_eq_true rfl⟩) rfl hl.1 rfl (Nat.le_of_ble_eq_true rfl) dX12_gives_36 ⟨Nat.zero_le _, Nat.zero_le _⟩) hw hA hS (fun G5 H locs hp hw hS => ?_)
      obtain ⟨iv5, hx5, hM, hfr5⟩ := hp
      have hfr := fr_tr hfr hfr5 (Nat.le_refl _) (Nat.le_refl _)
      have hxg := hx5
      refine lv_iconst (v := nI 1) hx hb dX12_gives_39 (by decide) ?_
      exact nr_retIB hx hb hr hlocks (by decide) hw hS (Or.inl ⟨by assumption, hin9.1, hin9.2, rfl, _, hxg, hM, hfr⟩) dX12_gives_40
    · have hnn9 := fun z => b2 ((in_m1 (v := iv 4) (P := pp) (lo := lo) (by omega) (by omega) (by omega)).mpr z)
      refine nr_if_ne (tgt := 25) hx hb (by decide) dX12_gives_20 (by decide) (fun c6 => absurd c6 (by decide)) (fun c6 => ?_)
      refine lv_iconst (v := nI 0) hx hb dX12_gives_23 (by decide) ?_
      exact nr_retIB hx hb hr hlocks (by decide) hw hS (Or.inr (⟨by first | exact fun z => absurd z.1 (by assumption) | exact fun z => hnn9 z.2, rfl, hM, hfr⟩)) dX12_gives_24
theorem wl_X12_givesOne_1 : Cond.fieldLink RX12 45 "BellForgivenModel" "anew" "[I" ∈ wsX12_givesOne := List.mem_of_getElem? (i := 1) rfl
theorem wl_X12_givesOne_2 : Cond.fieldLink RX12 48 "BellForgivenModel" "values" "[I" ∈ wsX12_givesOne := List.mem_of_getElem? (i := 2) rfl
theorem hi_X12_givesOne_X12 : ∀ w ∈ u_ws RX12 TX12 19, w ∈ wsX12_givesOne := fun w h => (List.mem_cons_of_mem _ (List.mem_append_right _ h))
set_option maxHeartbeats 4000000 in
set_option maxRecDepth 100000 in
theorem c_X12_givesOne (l : Launch) (Γ : Gam) (n : Nat) (G : Nat → va_E) (mo : Nat) (R K kp rf ca rc hd fw tl by0 an vl iv : Nat → Nat) (hM : isM Γ G mo R K kp rf ca rc hd fw tl by0 an vl iv) (hmo : mo + 13 ≤ n) (hI : vI R) (hj : winj Γ n) (hL : iv 0 ≤ 150) (hbt : ∀ j, by0 j ≤ 127) (hlk : lkAt by0 (iv 0) iv) (hAn : rG an) (hvl : ∀ j, vl j < 2000) (hw9 : vlK by0 (iv 0) (iv 1) = 2)  : Met l yX12_givesOne wsX12_givesOne ({ frames := 5, cells := 0, slots := 0, locals := 112 }) (va_Pc [.ref (ad Γ (mo + 0))] (fun U => hw Γ n G U U.heap)) (wQi Γ n (fun z G2 => ((an 0 < 6) ∧ (∀ q, q < 1 → okQ by0 (iv 0) (an 0) (an 1) (cn an) 1 (iv 1) q) ∧ (z = nI 1) ∧ ∃ iv2 : Nat → Nat, ∃ vl2 : Nat → Nat, (lkAt by0 (iv 0) iv2 ∧ iv2 1 = xq by0 (iv 0) (iv 1) 2 ∧ iv2 5 = iv 5 ∧ iv2 6 = iv 6 ∧ ∀ j, vl2 j < 2000) ∧ isM Γ G2 mo R K kp rf ca rc hd fw tl by0 (itV by0 (iv 0) an (iv 1)) vl2 iv2 ∧ fr G G2 mo (mo + 13)) ∨ ((z = nI 0) ∧ ∃ iv2 : Nat → Nat, ∃ vl2 : Nat → Nat, (lkAt by0 (iv 0) iv2 ∧ ((¬ an 0 < 6 ∧ iv2 1 = iv 1) ∨ (an 0 < 6 ∧ ∃ q, q < 1 ∧ (∀ u, u < q → okQ by0 (iv 0) (an 0) (an 1) (cn an) 1 (iv 1) u) ∧ ¬ okQ by0 (iv 0) (an 0) (an 1) (cn an) 1 (iv 1) q ∧ iv2 1 = xq by0 (iv 0) (iv 1) (q + 1))) ∧ iv2 5 = iv 5 ∧ iv2 6 = iv 6 ∧ ∀ j, vl2 j < 2000) ∧ isM Γ G2 mo R K kp rf ca rc hd fw tl by0 an vl2 iv2 ∧ fr G G2 mo (mo + 13)))) 0 0 (wA Γ n) := by
  refine Met.ofW (cc := cX12_givesOne) (maxL := 1) (ret := (some .boolean)) (by decide) rfl ?_
  intro p e s m args below meth c s₁ B hml hv
  obtain ⟨rfl, hw⟩ := hv
  have hx := B.exec
  have hb := B.bytes
  have hr := B.returns
  have hts := atoms_spec (ws := wsX12_givesOne) B.pre
  have hown : s.vm.findClass RX12 = some m.cls := findClass_of_methodNamed B.named
  have hlocks := B.notSynchronized
  have hS : va_S (wA Γ n) s.heap s.heap [] := va_S.rf
  have hA : ∀ q, wA Γ n q → wA Γ n q := fun _ h => h
  have hl := lv_entry ([.ref (ad Γ (mo + 0))]) (n := 1) (Nat.le_of_ble_eq_true rfl)
  rw [lg_entry_eq]
  generalize (lg_sl ([.ref (ad Γ (mo + 0))]) ++ List.replicate (1 - (lg_sl ([.ref (ad Γ (mo + 0))])).length) Slot.unset).toArray = ls at hl ⊢
  have hl : lv_has ls 1 [(0, .ref (ad Γ (mo + 0)))] := hl
  have hfr := fr_rf G mo (mo + 13)
  have hB := hI.1
  have hB0 := hI.2.1
  have hB1 := hI.2.2.1
  have hB20 := hI.2.2.2.2.2.2.2.2.2
  have hBz2 := hI.2.2.2.1
  have hBz3 := hI.2.2.2.2.1
  have hBz4 := hI.2.2.2.2.2.1
  have hBz5 := hI.2.2.2.2.2.2.1
  have hby := hI.2.2.2.2.2.2.2.1
  have hto := hI.2.2.2.2.2.2.2.2.1
  have hAB := hAn.1.1.1
  have hA0 := hAn.1.1.2.1
  have hA1 := hAn.1.1.2.2.1
  have hAI := vI_a hAn.1.1
  have hf9 := lk_f hlk
  have hvl9 := hvl
  have hob : ∀ u, u < 0 → okQ by0 (iv 0) (an 0) (an 1) (cn an) 1 (iv 1) u := fun u hu => absurd hu (Nat.not_lt_zero u)
  refine lv_aload_n hx hb dX12_givesOne_0 rfl (lv_at hl 0 rfl) ?_
  refine nr_get (own := RX12) (C := RX12) (T := TX12) (N := 19) (v := .ref (ad Γ (mo + 11))) hx hb hts hi_X12_givesOne_X12 hown hw (by omega) (isM_0 hM) rfl 17 (by decide) wl_X12_givesOne_1 rfl rfl dX12_givesOne_1 ?_
  refine lv_iconst (v := nI 0) hx hb dX12_givesOne_4 (by decide) ?_
  refine nr_iald (x := (an 0)) hx hb hw (by omega) (isM_11 hM) rfl (by omega) (by decide) dX12_givesOne_5 ?_
  have hL1 := hAB (0)
  refine lv_bipush (v := nI 6) hx hb dX12_givesOne_6 (by decide) ?_
  refine nr_icmp_ne (tgt := 13) hx hb (by omega) (by decide) dX12_givesOne_8 (by decide) (fun c2 => ?_) (fun c2 => ?_)
  · refine lv_aload_n hx hb dX12_givesOne_13 rfl (lv_at hl 0 rfl) ?_
    refine nr_goV (nr_runV (As := []) (C := RX12) (T := TX12) (N := 19) ⟨hx, hb, hml, hown, hts⟩ hw (by omega) (isM_0 hM) rfl (c_X12_goBehind l Γ n G mo R K kp rf ca rc hd fw tl by0 an vl iv hM (by omega) hI hj hL hbt hlk) (cwV 0 hts gX12_givesOne_X12_goBehind rfl rfl rfl (by decide +kernel) ⟨Nat.le_of_ble_eq_true rfl, Nat.le_of_ble_eq_true rfl⟩) rfl hl.1 rfl (Nat.le_of_ble_eq_true rfl) dX12_givesOne_14 ⟨Nat.zero_le _, Nat.zero_le _⟩) hw hA hS (fun G3 H locs hp hw hS => ?_)
    obtain ⟨iv3, hx3, hM, hfr3⟩ := hp
    have hfr := fr_tr hfr hfr3 (Nat.le_refl _) (Nat.le_refl _)
    obtain ⟨k1_l, k1_0, k1_1, k1_3, k1_4, k1_5, k1_6⟩ := gb_step (x := iv 1) (q := 0) hx3 rfl rfl rfl rfl
    have k1_b := tokV_le by0 (iv 0) (xq by0 (iv 0) (iv 1) 1)
    have k1_n := tokK_le by0 (iv 0) (xq by0 (iv 0) (iv 1) 1)
    have k1_f := lk_f k1_l
    refine lv_aload_n hx hb dX12_givesOne_17 rfl (lv_at hl 0 rfl) ?_
    refine lv_iconst (v := nI 0) hx hb dX12_givesOne_18 (by decide) ?_
    refine lv_iconst (v := nI 0) hx hb dX12_givesOne_19 (by decide) ?_
    refine lv_iconst (v := nI 5) hx hb dX12_givesOne_20 (by decide) ?_
    refine nr_top (show nI 5 = nI 6 - nI 1 from by decide) ?_
    refine nr_goI (nr_runV (As := [.int (nI 0), .int (nI 0), .int (nI 6 - nI 1)]) (C := RX12) (T := TX12) (N := 19) ⟨hx, hb, hml, hown, hts⟩ hw (by omega) (isM_0 hM) rfl (c_X12_gives l Γ n G3 mo R K kp rf ca rc hd fw tl by0 an vl iv3 hM (by omega) hI hj 0 0 6 (by decide) (by decide) (by omega) (by omega) hbt k1_l) (cwV 3 hts gX12_givesOne_X12_gives rfl rfl rfl (by decide +kernel) ⟨Nat.le_of_ble_eq_true rfl, Nat.le_of_ble_eq_true rfl⟩) rfl hl.1 rfl (Nat.le_of_ble_eq_true rfl) dX12_givesOne_21 ⟨Nat.zero_le _, Nat.zero_le _⟩) hw hA hS (fun z4 G4 H locs hp hw hS => ?_)
    rcases hp with ⟨hc4_0, hc4_1, hc4_2, ha4, iv4, hx4, hM, hf4⟩ | ⟨hc4_0, ha4, hM, hf4⟩
    · have hfr := fr_tr hfr hf4 (Nat.le_refl _) (Nat.le_refl _)
      subst ha4
      obtain ⟨k2_l, k2_0, k2_1, k2_3, k2_4, k2_5, k2_6⟩ := gb_step (x := iv 1) (q := 1) hx4 k1_0 k1_1 k1_5 k1_6
      have k2_b := tokV_le by0 (iv 0) (xq by0 (iv 0) (iv 1) 2)
      have k2_n := tokK_le by0 (iv 0) (xq by0 (iv 0) (iv 1) 2)
      have k2_f := lk_f k2_l
      have hvl9 : ∀ j, (va_up vl 0 (iv3 4)) j < 2000 := up_le2 hvl9 (by omega)
      have hok0 : okQ by0 (iv 0) (an 0) (an 1) (cn an) 1 (iv 1) 0 := ⟨by omega, fit_1.mpr (by omega)⟩
      have hoks : ∀ q, q < 1 → okQ by0 (iv 0) (an 0) (an 1) (cn an) 1 (iv 1) q := fun q hq => by rw [show q = 0 by omega]; exact hok0
      refine nr_if_ne (tgt := 29) hx hb (by decide) dX12_givesOne_24 (by decide) (fun c5 => ?_) (fun c5 => absurd c5 (by decide))
      refine lv_aload_n hx hb dX12_givesOne_29 rfl (lv_at hl 0 rfl) ?_
      refine nr_get (own := RX12) (C := RX12) (T := TX12) (N := 19) (v := .ref (ad Γ (mo + 11))) hx hb hts hi_X12_givesOne_X12 hown hw (by omega) (isM_0 hM) rfl 17 (by decide) wl_X12_givesOne_1 rfl rfl dX12_givesOne_30 ?_
      refine lv_bipush (v := nI 22) hx hb dX12_givesOne_33 (by decide) ?_
      refine lv_aload_n hx hb dX12_givesOne_35 rfl (lv_at hl 0 rfl) ?_
      refine nr_get (own := RX12) (C := RX12) (T := TX12) (N := 19) (v := .ref (ad Γ (mo + 11))) hx hb hts hi_X12_givesOne_X12 hown hw (by omega) (isM_0 hM) rfl 17 (by decide) wl_X12_givesOne_1 rfl rfl dX12_givesOne_36 ?_
      refine lv_iconst (v := nI 0) hx hb dX12_givesOne_39 (by decide) ?_
      refine nr_iald (x := (an 0)) hx hb hw (by omega) (isM_11 hM) rfl (by omega) (by decide) dX12_givesOne_40 ?_
      have hL6 := hAB (0)
      refine nr_iadd hx hb dX12_givesOne_41 ?_
      refine lv_aload_n hx hb dX12_givesOne_42 rfl (lv_at hl 0 rfl) ?_
      refine nr_get (own := RX12) (C := RX12) (T := TX12) (N := 19) (v := .ref (ad Γ (mo + 12))) hx hb hts hi_X12_givesOne_X12 hown hw (by omega) (isM_0 hM) rfl 18 (by decide) wl_X12_givesOne_2 rfl rfl dX12_givesOne_43 ?_
      refine lv_iconst (v := nI 0) hx hb dX12_givesOne_46 (by decide) ?_
      refine nr_iald (x := (tokV by0 (iv 0) (xq by0 (iv 0) (iv 1) 1))) hx hb hw (by omega) (isM_12 hM) (by rw [va_up_self]; exact k1_4) (by omega) (by decide) dX12_givesOne_47 ?_
      refine nr_iast (k := 22 + (an 0)) (v := tokV by0 (iv 0) (xq by0 (iv 0) (iv 1) 1)) hx hb hw hj hA hS (by omega) (isM_11 hM) (by omega) (by decide) dX12_givesOne_48 (fun H locs hw hS => ?_)
      have hM := isM_s11 hM (va_up an (22 + (an 0)) (tokV by0 (iv 0) (xq by0 (iv 0) (iv 1) 1)))
      have hfr := fr_up hfr (i := mo + 11) (by omega) (by omega) (na Γ 128 (va_up an (22 + (an 0)) (tokV by0 (iv 0) (xq by0 (iv 0) (iv 1) 1))))
      generalize va_up G4 (mo + 11) (na Γ 128 (va_up an (22 + (an 0)) (tokV by0 (iv 0) (xq by0 (iv 0) (iv 1) 1)))) = G7 at hw hM hfr
      refine lv_aload_n hx hb dX12_givesOne_49 rfl (lv_at hl 0 rfl) ?_
      refine nr_get (own := RX12) (C := RX12) (T := TX12) (N := 19) (v := .ref (ad Γ (mo + 11))) hx hb hts hi_X12_givesOne_X12 hown hw (by omega) (isM_0 hM) rfl 17 (by decide) wl_X12_givesOne_1 rfl rfl dX12_givesOne_50 ?_
      refine lv_iconst (v := nI 0) hx hb dX12_givesOne_53 (by decide) ?_
      refine lv_dup2_11 hx hb dX12_givesOne_54 rfl rfl ?_
      refine nr_iald (x := (an 0)) hx hb hw (by omega) (isM_11 hM) (by first | rfl | (simp only [va_up, fourR, layR]; (repeat' split) <;> first | omega | simp_all)) (by omega) (by decide) dX12_givesOne_55 ?_
      refine lv_iconst (v := nI 1) hx hb dX12_givesOne_56 (by decide) ?_
      refine nr_iadd hx hb dX12_givesOne_57 ?_
      refine nr_iast (k := 0) (v := an 0 + 1) hx hb hw hj hA hS (by omega) (isM_11 hM) (by omega) (by decide) dX12_givesOne_58 (fun H locs hw hS => ?_)
      have hM := isM_s11 hM (va_up (va_up an (22 + (an 0)) (tokV by0 (iv 0) (xq by0 (iv 0) (iv 1) 1))) 0 (an 0 + 1))
      have hfr := fr_up hfr (i := mo + 11) (by omega) (by omega) (na Γ 128 (va_up (va_up an (22 + (an 0)) (tokV by0 (iv 0) (xq by0 (iv 0) (iv 1) 1))) 0 (an 0 + 1)))
      generalize va_up G7 (mo + 11) (na Γ 128 (va_up (va_up an (22 + (an 0)) (tokV by0 (iv 0) (xq by0 (iv 0) (iv 1) 1))) 0 (an 0 + 1))) = G8 at hw hM hfr
      refine lv_iconst (v := nI 1) hx hb dX12_givesOne_59 (by decide) ?_
      exact nr_retIB hx hb hr hlocks (by decide) hw hS (Or.inl ⟨by omega, hoks, rfl, _, _, ⟨by rw [← k2_0]; exact k2_l, k2_1, k2_5, k2_6, hvl9⟩, by rw [show itV by0 (iv 0) an (iv 1) = va_up (va_up an (22 + (an 0)) (tokV by0 (iv 0) (xq by0 (iv 0) (iv 1) 1))) 0 (an 0 + 1) from (by rw [itV_2 hw9, ← per_one hAn (by omega)])]; exact hM, hfr⟩) dX12_givesOne_60
    · have hfr := fr_tr hfr hf4 (Nat.le_refl _) (Nat.le_refl _)
      subst ha4
      have hnb : ¬ okQ by0 (iv 0) (an 0) (an 1) (cn an) 1 (iv 1) 0 := fun z => hc4_0 ⟨by have := z.1; omega, Nat.zero_le _, by have := fit_1.mp z.2; omega⟩
      refine nr_if_ne (tgt := 29) hx hb (by decide) dX12_givesOne_24 (by decide) (fun c9 => absurd c9 (by decide)) (fun c9 => ?_)
      refine lv_iconst (v := nI 0) hx hb dX12_givesOne_27 (by decide) ?_
      exact nr_retIB hx hb hr hlocks (by decide) hw hS (Or.inr (⟨rfl, _, _, ⟨by rw [← k1_0]; exact k1_l, Or.inr ⟨by omega, ⟨0, by omega, hob, hnb, k1_1⟩⟩, k1_5, k1_6, hvl9⟩, hM, hfr⟩)) dX12_givesOne_28
  · refine lv_iconst (v := nI 0) hx hb dX12_givesOne_11 (by decide) ?_
    exact nr_retIB hx hb hr hlocks (by decide) hw hS (Or.inr (⟨rfl, _, _, ⟨hlk, Or.inl ⟨by omega, rfl⟩, rfl, rfl, hvl9⟩, hM, hfr⟩)) dX12_givesOne_12
theorem wl_X12_givesDays_1 : Cond.fieldLink RX12 45 "BellForgivenModel" "anew" "[I" ∈ wsX12_givesDays := List.mem_of_getElem? (i := 1) rfl
theorem wl_X12_givesDays_2 : Cond.fieldLink RX12 48 "BellForgivenModel" "values" "[I" ∈ wsX12_givesDays := List.mem_of_getElem? (i := 2) rfl
theorem hi_X12_givesDays_X12 : ∀ w ∈ u_ws RX12 TX12 19, w ∈ wsX12_givesDays := fun w h => (List.mem_cons_of_mem _ (List.mem_append_right _ h))
set_option maxHeartbeats 4000000 in
set_option maxRecDepth 100000 in
theorem c_X12_givesDays (l : Launch) (Γ : Gam) (n : Nat) (G : Nat → va_E) (mo : Nat) (R K kp rf ca rc hd fw tl by0 an vl iv : Nat → Nat) (hM : isM Γ G mo R K kp rf ca rc hd fw tl by0 an vl iv) (hmo : mo + 13 ≤ n) (hI : vI R) (hj : winj Γ n) (hL : iv 0 ≤ 150) (hbt : ∀ j, by0 j ≤ 127) (hlk : lkAt by0 (iv 0) iv) (hAn : rG an) (hvl : ∀ j, vl j < 2000) (hw9 : vlK by0 (iv 0) (iv 1) = 5)  : Met l yX12_givesDays wsX12_givesDays ({ frames := 5, cells := 0, slots := 0, locals := 112 }) (va_Pc [.ref (ad Γ (mo + 0))] (fun U => hw Γ n G U U.heap)) (wQi Γ n (fun z G2 => ((∀ q, q < 1 → okQ by0 (iv 0) (an 0) (an 1) (cn an) 4 (iv 1) q) ∧ (z = nI 1) ∧ ∃ iv2 : Nat → Nat, ∃ vl2 : Nat → Nat, (lkAt by0 (iv 0) iv2 ∧ iv2 1 = xq by0 (iv 0) (iv 1) 2 ∧ iv2 5 = iv 5 ∧ iv2 6 = iv 6 ∧ ∀ j, vl2 j < 2000) ∧ isM Γ G2 mo R K kp rf ca rc hd fw tl by0 (itV by0 (iv 0) an (iv 1)) vl2 iv2 ∧ fr G G2 mo (mo + 13)) ∨ ((z = nI 0) ∧ ∃ iv2 : Nat → Nat, ∃ vl2 : Nat → Nat, (lkAt by0 (iv 0) iv2 ∧ (∃ q, q < 1 ∧ (∀ u, u < q → okQ by0 (iv 0) (an 0) (an 1) (cn an) 4 (iv 1) u) ∧ ¬ okQ by0 (iv 0) (an 0) (an 1) (cn an) 4 (iv 1) q ∧ iv2 1 = xq by0 (iv 0) (iv 1) (q + 1)) ∧ iv2 5 = iv 5 ∧ iv2 6 = iv 6 ∧ ∀ j, vl2 j < 2000) ∧ isM Γ G2 mo R K kp rf ca rc hd fw tl by0 an vl2 iv2 ∧ fr G G2 mo (mo + 13)))) 0 0 (wA Γ n) := by
  refine Met.ofW (cc := cX12_givesDays) (maxL := 1) (ret := (some .boolean)) (by decide) rfl ?_
  intro p e s m args below meth c s₁ B hml hv
  obtain ⟨rfl, hw⟩ := hv
  have hx := B.exec
  have hb := B.bytes
  have hr := B.returns
  have hts := atoms_spec (ws := wsX12_givesDays) B.pre
  have hown : s.vm.findClass RX12 = some m.cls := findClass_of_methodNamed B.named
  have hlocks := B.notSynchronized
  have hS : va_S (wA Γ n) s.heap s.heap [] := va_S.rf
  have hA : ∀ q, wA Γ n q → wA Γ n q := fun _ h => h
  have hl := lv_entry ([.ref (ad Γ (mo + 0))]) (n := 1) (Nat.le_of_ble_eq_true rfl)
  rw [lg_entry_eq]
  generalize (lg_sl ([.ref (ad Γ (mo + 0))]) ++ List.replicate (1 - (lg_sl ([.ref (ad Γ (mo + 0))])).length) Slot.unset).toArray = ls at hl ⊢
  have hl : lv_has ls 1 [(0, .ref (ad Γ (mo + 0)))] := hl
  have hfr := fr_rf G mo (mo + 13)
  have hB := hI.1
  have hB0 := hI.2.1
  have hB1 := hI.2.2.1
  have hB20 := hI.2.2.2.2.2.2.2.2.2
  have hBz2 := hI.2.2.2.1
  have hBz3 := hI.2.2.2.2.1
  have hBz4 := hI.2.2.2.2.2.1
  have hBz5 := hI.2.2.2.2.2.2.1
  have hby := hI.2.2.2.2.2.2.2.1
  have hto := hI.2.2.2.2.2.2.2.2.1
  have hAB := hAn.1.1.1
  have hA0 := hAn.1.1.2.1
  have hA1 := hAn.1.1.2.2.1
  have hAI := vI_a hAn.1.1
  have hf9 := lk_f hlk
  have hvl9 := hvl
  have hob : ∀ u, u < 0 → okQ by0 (iv 0) (an 0) (an 1) (cn an) 4 (iv 1) u := fun u hu => absurd hu (Nat.not_lt_zero u)
  have h21 := hAn.1.2.1
  refine lv_aload_n hx hb dX12_givesDays_0 rfl (lv_at hl 0 rfl) ?_
  refine nr_goV (nr_runV (As := []) (C := RX12) (T := TX12) (N := 19) ⟨hx, hb, hml, hown, hts⟩ hw (by omega) (isM_0 hM) rfl (c_X12_goBehind l Γ n G mo R K kp rf ca rc hd fw tl by0 an vl iv hM (by omega) hI hj hL hbt hlk) (cwV 0 hts gX12_givesDays_X12_goBehind rfl rfl rfl (by decide +kernel) ⟨Nat.le_of_ble_eq_true rfl, Nat.le_of_ble_eq_true rfl⟩) rfl hl.1 rfl (Nat.le_of_ble_eq_true rfl) dX12_givesDays_1 ⟨Nat.zero_le _, Nat.zero_le _⟩) hw hA hS (fun G1 H locs hp hw hS => ?_)
  obtain ⟨iv1, hx1, hM, hfr1⟩ := hp
  have hfr := fr_tr hfr hfr1 (Nat.le_refl _) (Nat.le_refl _)
  obtain ⟨k1_l, k1_0, k1_1, k1_3, k1_4, k1_5, k1_6⟩ := gb_step (x := iv 1) (q := 0) hx1 rfl rfl rfl rfl
  have k1_b := tokV_le by0 (iv 0) (xq by0 (iv 0) (iv 1) 1)
  have k1_n := tokK_le by0 (iv 0) (xq by0 (iv 0) (iv 1) 1)
  have k1_f := lk_f k1_l
  refine lv_aload_n hx hb dX12_givesDays_4 rfl (lv_at hl 0 rfl) ?_
  refine lv_iconst (v := nI 0) hx hb dX12_givesDays_5 (by decide) ?_
  refine lv_iconst (v := nI 1) hx hb dX12_givesDays_6 (by decide) ?_
  refine lv_bipush (v := nI 99) hx hb dX12_givesDays_7 (by decide) ?_
  refine nr_top (show nI 99 = nI 100 - nI 1 from by decide) ?_
  refine nr_goI (nr_runV (As := [.int (nI 0), .int (nI 1), .int (nI 100 - nI 1)]) (C := RX12) (T := TX12) (N := 19) ⟨hx, hb, hml, hown, hts⟩ hw (by omega) (isM_0 hM) rfl (c_X12_gives l Γ n G1 mo R K kp rf ca rc hd fw tl by0 an vl iv1 hM (by omega) hI hj 0 1 100 (by decide) (by decide) (by omega) (by omega) hbt k1_l) (cwV 3 hts gX12_givesDays_X12_gives rfl rfl rfl (by decide +kernel) ⟨Nat.le_of_ble_eq_true rfl, Nat.le_of_ble_eq_true rfl⟩) rfl hl.1 rfl (Nat.le_of_ble_eq_true rfl) dX12_givesDays_9 ⟨Nat.zero_le _, Nat.zero_le _⟩) hw hA hS (fun z2 G2 H locs hp hw hS => ?_)
  rcases hp with ⟨hc2_0, hc2_1, hc2_2, ha2, iv2, hx2, hM, hf2⟩ | ⟨hc2_0, ha2, hM, hf2⟩
  · have hfr := fr_tr hfr hf2 (Nat.le_refl _) (Nat.le_refl _)
    subst ha2
    obtain ⟨k2_l, k2_0, k2_1, k2_3, k2_4, k2_5, k2_6⟩ := gb_step (x := iv 1) (q := 1) hx2 k1_0 k1_1 k1_5 k1_6
    have k2_b := tokV_le by0 (iv 0) (xq by0 (iv 0) (iv 1) 2)
    have k2_n := tokK_le by0 (iv 0) (xq by0 (iv 0) (iv 1) 2)
    have k2_f := lk_f k2_l
    have hvl9 : ∀ j, (va_up vl 0 (iv1 4)) j < 2000 := up_le2 hvl9 (by omega)
    have hok0 : okQ by0 (iv 0) (an 0) (an 1) (cn an) 4 (iv 1) 0 := ⟨by omega, fit_4.mpr ⟨by omega, by omega⟩⟩
    have hoks : ∀ q, q < 1 → okQ by0 (iv 0) (an 0) (an 1) (cn an) 4 (iv 1) q := fun q hq => by rw [show q = 0 by omega]; exact hok0
    refine nr_if_ne (tgt := 17) hx hb (by decide) dX12_givesDays_12 (by decide) (fun c3 => ?_) (fun c3 => absurd c3 (by decide))
    refine lv_aload_n hx hb dX12_givesDays_17 rfl (lv_at hl 0 rfl) ?_
    refine nr_get (own := RX12) (C := RX12) (T := TX12) (N := 19) (v := .ref (ad Γ (mo + 11))) hx hb hts hi_X12_givesDays_X12 hown hw (by omega) (isM_0 hM) rfl 17 (by decide) wl_X12_givesDays_1 rfl rfl dX12_givesDays_18 ?_
    refine lv_aload_n hx hb dX12_givesDays_21 rfl (lv_at hl 0 rfl) ?_
    refine nr_get (own := RX12) (C := RX12) (T := TX12) (N := 19) (v := .ref (ad Γ (mo + 12))) hx hb hts hi_X12_givesDays_X12 hown hw (by omega) (isM_0 hM) rfl 18 (by decide) wl_X12_givesDays_2 rfl rfl dX12_givesDays_22 ?_
    refine lv_iconst (v := nI 0) hx hb dX12_givesDays_25 (by decide) ?_
    refine nr_iald (x := (tokV by0 (iv 0) (xq by0 (iv 0) (iv 1) 1))) hx hb hw (by omega) (isM_12 hM) (by rw [va_up_self]; exact k1_4) (by omega) (by decide) dX12_givesDays_26 ?_
    refine nr_goV (nr_runS (As := [.ref (ad Γ (mo + 11)), .int (nI (tokV by0 (iv 0) (xq by0 (iv 0) (iv 1) 1)))]) ⟨hx, hb, hml, hown, hts⟩ hw (c_X12_goDays l Γ n G2 (mo + 11) 128 an (isM_11 hM) (by omega) (by omega) (by omega) hAI hj (tokV by0 (iv 0) (xq by0 (iv 0) (iv 1) 1)) (by omega) h21) (va_cwS 2 hts gX12_givesDays_X12_goDays rfl rfl rfl (by decide +kernel) ⟨Nat.le_of_ble_eq_true rfl, Nat.le_of_ble_eq_true rfl⟩) rfl hl.1 rfl (Nat.le_of_ble_eq_true rfl) dX12_givesDays_27 ⟨Nat.zero_le _, Nat.zero_le _⟩) hw hA hS (fun G4 H locs hp hw hS => ?_)
    subst hp
    have hM := isM_s11 hM (itD an (min (tokV by0 (iv 0) (xq by0 (iv 0) (iv 1) 1)) (999 - an 21)))
    have hfr := fr_up hfr (i := mo + 11) (by omega) (by omega) (na Γ 128 (itD an (min (tokV by0 (iv 0) (xq by0 (iv 0) (iv 1) 1)) (999 - an 21))))
    generalize va_up G2 (mo + 11) (na Γ 128 (itD an (min (tokV by0 (iv 0) (xq by0 (iv 0) (iv 1) 1)) (999 - an 21)))) = G5 at hw hM hfr
    refine lv_iconst (v := nI 1) hx hb dX12_givesDays_30 (by decide) ?_
    exact nr_retIB hx hb hr hlocks (by decide) hw hS (Or.inl ⟨hoks, rfl, _, _, ⟨by rw [← k2_0]; exact k2_l, k2_1, k2_5, k2_6, hvl9⟩, by rw [show itV by0 (iv 0) an (iv 1) = itD an (min (tokV by0 (iv 0) (xq by0 (iv 0) (iv 1) 1)) (999 - an 21)) from (by rw [itV_5 hw9, it_pas (fun k hk => (hAn.1.2.2.2.1 k hk).2.2) hA1])]; exact hM, hfr⟩) dX12_givesDays_31
  · have hfr := fr_tr hfr hf2 (Nat.le_refl _) (Nat.le_refl _)
    subst ha2
    have hnb : ¬ okQ by0 (iv 0) (an 0) (an 1) (cn an) 4 (iv 1) 0 := fun z => hc2_0 ⟨by have := z.1; omega, by have := fit_4.mp z.2; omega, by have := fit_4.mp z.2; omega⟩
    refine nr_if_ne (tgt := 17) hx hb (by decide) dX12_givesDays_12 (by decide) (fun c6 => absurd c6 (by decide)) (fun c6 => ?_)
    refine lv_iconst (v := nI 0) hx hb dX12_givesDays_15 (by decide) ?_
    exact nr_retIB hx hb hr hlocks (by decide) hw hS (Or.inr (⟨rfl, _, _, ⟨by rw [← k1_0]; exact k1_l, ⟨0, by omega, hob, hnb, k1_1⟩, k1_5, k1_6, hvl9⟩, hM, hfr⟩)) dX12_givesDays_16
theorem wl_X12_givesRing_1 : Cond.fieldLink RX12 239 "BellForgivenModel" "token" "I" ∈ wsX12_givesRing := List.mem_of_getElem? (i := 1) rfl
theorem wl_X12_givesRing_2 : Cond.fieldLink RX12 242 "BellForgivenModel" "value" "I" ∈ wsX12_givesRing := List.mem_of_getElem? (i := 2) rfl
theorem wl_X12_givesRing_3 : Cond.fieldLink RX12 45 "BellForgivenModel" "anew" "[I" ∈ wsX12_givesRing := List.mem_of_getElem? (i := 3) rfl
theorem hi_X12_givesRing_X12 : ∀ w ∈ u_ws RX12 TX12 19, w ∈ wsX12_givesRing := fun w h => (List.mem_cons_of_mem _ (List.mem_append_right _ h))
set_option maxHeartbeats 4000000 in
set_option maxRecDepth 100000 in
theorem c_X12_givesRing (l : Launch) (Γ : Gam) (n : Nat) (G : Nat → va_E) (mo : Nat) (R K kp rf ca rc hd fw tl by0 an vl iv : Nat → Nat) (hM : isM Γ G mo R K kp rf ca rc hd fw tl by0 an vl iv) (hmo : mo + 13 ≤ n) (hI : vI R) (hj : winj Γ n) (hL : iv 0 ≤ 150) (hbt : ∀ j, by0 j ≤ 127) (hlk : lkAt by0 (iv 0) iv) (hAn : rG an) (hvl : ∀ j, vl j < 2000) (hw9 : vlK by0 (iv 0) (iv 1) = 4)  : Met l yX12_givesRing wsX12_givesRing ({ frames := 4, cells := 0, slots := 0, locals := 89 }) (va_Pc [.ref (ad Γ (mo + 0))] (fun U => hw Γ n G U U.heap)) (wQi Γ n (fun z G2 => ((∀ q, q < 1 → okQ by0 (iv 0) (an 0) (an 1) (cn an) 3 (iv 1) q) ∧ (z = nI 1) ∧ ∃ iv2 : Nat → Nat, ∃ vl2 : Nat → Nat, (lkAt by0 (iv 0) iv2 ∧ iv2 1 = xq by0 (iv 0) (iv 1) 2 ∧ iv2 5 = iv 5 ∧ iv2 6 = iv 6 ∧ ∀ j, vl2 j < 2000) ∧ isM Γ G2 mo R K kp rf ca rc hd fw tl by0 (itV by0 (iv 0) an (iv 1)) vl2 iv2 ∧ fr G G2 mo (mo + 13)) ∨ ((z = nI 0) ∧ ∃ iv2 : Nat → Nat, ∃ vl2 : Nat → Nat, (lkAt by0 (iv 0) iv2 ∧ (∃ q, q < 1 ∧ (∀ u, u < q → okQ by0 (iv 0) (an 0) (an 1) (cn an) 3 (iv 1) u) ∧ ¬ okQ by0 (iv 0) (an 0) (an 1) (cn an) 3 (iv 1) q ∧ iv2 1 = xq by0 (iv 0) (iv 1) (q + 1)) ∧ iv2 5 = iv 5 ∧ iv2 6 = iv 6 ∧ ∀ j, vl2 j < 2000) ∧ isM Γ G2 mo R K kp rf ca rc hd fw tl by0 an vl2 iv2 ∧ fr G G2 mo (mo + 13)))) 0 0 (wA Γ n) := by
  refine Met.ofW (cc := cX12_givesRing) (maxL := 1) (ret := (some .boolean)) (by decide) rfl ?_
  intro p e s m args below meth c s₁ B hml hv
  obtain ⟨rfl, hw⟩ := hv
  have hx := B.exec
  have hb := B.bytes
  have hr := B.returns
  have hts := atoms_spec (ws := wsX12_givesRing) B.pre
  have hown : s.vm.findClass RX12 = some m.cls := findClass_of_methodNamed B.named
  have hlocks := B.notSynchronized
  have hS : va_S (wA Γ n) s.heap s.heap [] := va_S.rf
  have hA : ∀ q, wA Γ n q → wA Γ n q := fun _ h => h
  have hl := lv_entry ([.ref (ad Γ (mo + 0))]) (n := 1) (Nat.le_of_ble_eq_true rfl)
  rw [lg_entry_eq]
  generalize (lg_sl ([.ref (ad Γ (mo + 0))]) ++ List.replicate (1 - (lg_sl ([.ref (ad Γ (mo + 0))])).length) Slot.unset).toArray = ls at hl ⊢
  have hl : lv_has ls 1 [(0, .ref (ad Γ (mo + 0)))] := hl
  have hfr := fr_rf G mo (mo + 13)
  have hB := hI.1
  have hB0 := hI.2.1
  have hB1 := hI.2.2.1
  have hB20 := hI.2.2.2.2.2.2.2.2.2
  have hBz2 := hI.2.2.2.1
  have hBz3 := hI.2.2.2.2.1
  have hBz4 := hI.2.2.2.2.2.1
  have hBz5 := hI.2.2.2.2.2.2.1
  have hby := hI.2.2.2.2.2.2.2.1
  have hto := hI.2.2.2.2.2.2.2.2.1
  have hAB := hAn.1.1.1
  have hA0 := hAn.1.1.2.1
  have hA1 := hAn.1.1.2.2.1
  have hAI := vI_a hAn.1.1
  have hf9 := lk_f hlk
  have hvl9 := hvl
  have hob : ∀ u, u < 0 → okQ by0 (iv 0) (an 0) (an 1) (cn an) 3 (iv 1) u := fun u hu => absurd hu (Nat.not_lt_zero u)
  refine lv_aload_n hx hb dX12_givesRing_0 rfl (lv_at hl 0 rfl) ?_
  refine nr_goV (nr_runV (As := []) (C := RX12) (T := TX12) (N := 19) ⟨hx, hb, hml, hown, hts⟩ hw (by omega) (isM_0 hM) rfl (c_X12_goBehind l Γ n G mo R K kp rf ca rc hd fw tl by0 an vl iv hM (by omega) hI hj hL hbt hlk) (cwV 0 hts gX12_givesRing_X12_goBehind rfl rfl rfl (by decide +kernel) ⟨Nat.le_of_ble_eq_true rfl, Nat.le_of_ble_eq_true rfl⟩) rfl hl.1 rfl (Nat.le_of_ble_eq_true rfl) dX12_givesRing_1 ⟨Nat.zero_le _, Nat.zero_le _⟩) hw hA hS (fun G1 H locs hp hw hS => ?_)
  obtain ⟨iv1, hx1, hM, hfr1⟩ := hp
  have hfr := fr_tr hfr hfr1 (Nat.le_refl _) (Nat.le_refl _)
  obtain ⟨k1_l, k1_0, k1_1, k1_3, k1_4, k1_5, k1_6⟩ := gb_step (x := iv 1) (q := 0) hx1 rfl rfl rfl rfl
  have k1_b := tokV_le by0 (iv 0) (xq by0 (iv 0) (iv 1) 1)
  have k1_n := tokK_le by0 (iv 0) (xq by0 (iv 0) (iv 1) 1)
  have k1_f := lk_f k1_l
  refine lv_aload_n hx hb dX12_givesRing_4 rfl (lv_at hl 0 rfl) ?_
  refine nr_get (own := RX12) (C := RX12) (T := TX12) (N := 19) (v := .int (nI (iv1 3))) hx hb hts hi_X12_givesRing_X12 hown hw (by omega) (isM_0 hM) rfl 15 (by decide) wl_X12_givesRing_1 rfl rfl dX12_givesRing_5 ?_
  refine lv_iconst (v := nI 2) hx hb dX12_givesRing_8 (by decide) ?_
  refine nr_icmp_ne (tgt := 47) hx hb (by omega) (by decide) dX12_givesRing_9 (by decide) (fun c2 => ?_) (fun c2 => ?_)
  · have hnb : ¬ okQ by0 (iv 0) (an 0) (an 1) (cn an) 3 (iv 1) 0 := by first | exact hnb | exact fun z => absurd z.1 (by omega)
    refine lv_iconst (v := nI 0) hx hb dX12_givesRing_47 (by decide) ?_
    exact nr_retIB hx hb hr hlocks (by decide) hw hS (Or.inr (⟨rfl, _, _, ⟨by rw [← k1_0]; exact k1_l, ⟨0, by omega, hob, hnb, k1_1⟩, k1_5, k1_6, hvl9⟩, hM, hfr⟩)) dX12_givesRing_48
  · refine lv_aload_n hx hb dX12_givesRing_12 rfl (lv_at hl 0 rfl) ?_
    refine nr_get (own := RX12) (C := RX12) (T := TX12) (N := 19) (v := .int (nI (iv1 4))) hx hb hts hi_X12_givesRing_X12 hown hw (by omega) (isM_0 hM) rfl 16 (by decide) wl_X12_givesRing_2 rfl rfl dX12_givesRing_13 ?_
    refine lv_i2l (v := lN (iv1 4)) hx hb dX12_givesRing_16 (nI_l (by omega)) ?_
    refine lv_lconst (v := lN 0) hx hb dX12_givesRing_17 rfl ?_
    refine lv_aload_n hx hb dX12_givesRing_18 rfl (lv_at hl 0 rfl) ?_
    refine nr_get (own := RX12) (C := RX12) (T := TX12) (N := 19) (v := .ref (ad Γ (mo + 11))) hx hb hts hi_X12_givesRing_X12 hown hw (by omega) (isM_0 hM) rfl 17 (by decide) wl_X12_givesRing_3 rfl rfl dX12_givesRing_19 ?_
    refine lv_iconst (v := nI 1) hx hb dX12_givesRing_22 (by decide) ?_
    refine nr_iald (x := (an 1)) hx hb hw (by omega) (isM_11 hM) rfl (by omega) (by decide) dX12_givesRing_23 ?_
    have hL3 := hAB (1)
    refine lv_iconst (v := nI 1) hx hb dX12_givesRing_24 (by decide) ?_
    refine lv_isub hx hb dX12_givesRing_25 ?_
    refine lv_i2l (v := ((nI (an 1)) - (nI 1)).toInt64) hx hb dX12_givesRing_26 rfl ?_
    refine nr_goB (P := (lN 0) ≤ (lN (iv1 4)) ∧ (lN (iv1 4)) ≤ (((nI (an 1)) - (nI 1)).toInt64)) (nr_runS (As := [.long (lN (iv1 4)), .long (lN 0), .long (((nI (an 1)) - (nI 1)).toInt64)]) ⟨hx, hb, hml, hown, hts⟩ hw (c_X12_in l Γ n G1 (lN (iv1 4)) (lN 0) (((nI (an 1)) - (nI 1)).toInt64)) (va_cwS 3 hts gX12_givesRing_X12_in rfl rfl rfl (by decide +kernel) ⟨Nat.le_of_ble_eq_true rfl, Nat.le_of_ble_eq_true rfl⟩) rfl hl.1 rfl (Nat.le_of_ble_eq_true rfl) dX12_givesRing_27 ⟨Nat.zero_le _, Nat.zero_le _⟩) (fun b4 => ?_) (fun b4 => ?_)
    · have hin9 := (in_m1 (v := iv1 4) (P := an 1) (lo := 0) (by omega) (by omega) (by decide)).mp b4
      refine nr_if_eq (tgt := 47) hx hb (by decide) dX12_givesRing_30 (by decide) (fun c5 => absurd c5 (by decide)) (fun c5 => ?_)
      refine lv_aload_n hx hb dX12_givesRing_33 rfl (lv_at hl 0 rfl) ?_
      refine nr_get (own := RX12) (C := RX12) (T := TX12) (N := 19) (v := .ref (ad Γ (mo + 11))) hx hb hts hi_X12_givesRing_X12 hown hw (by omega) (isM_0 hM) rfl 17 (by decide) wl_X12_givesRing_3 rfl rfl dX12_givesRing_34 ?_
      refine lv_aload_n hx hb dX12_givesRing_37 rfl (lv_at hl 0 rfl) ?_
      refine nr_get (own := RX12) (C := RX12) (T := TX12) (N := 19) (v := .int (nI (iv1 4))) hx hb hts hi_X12_givesRing_X12 hown hw (by omega) (isM_0 hM) rfl 16 (by decide) wl_X12_givesRing_2 rfl rfl dX12_givesRing_38 ?_
      refine nr_goB (P := canP an (iv1 4)) (nr_runS (As := [.ref (ad Γ (mo + 11)), .int (nI (iv1 4))]) ⟨hx, hb, hml, hown, hts⟩ hw (c_X12_canOff l Γ n G1 (mo + 11) 128 an (isM_11 hM) (by omega) (by omega) (by omega) hAI (iv1 4) (by omega)) (va_cwS 2 hts gX12_givesRing_X12_canOff rfl rfl rfl (by decide +kernel) ⟨Nat.le_of_ble_eq_true rfl, Nat.le_of_ble_eq_true rfl⟩) rfl hl.1 rfl (Nat.le_of_ble_eq_true rfl) dX12_givesRing_41 ⟨Nat.zero_le _, Nat.zero_le _⟩) (fun b6 => ?_) (fun b6 => ?_)
      · have hcn := b6
        have hok0 : okQ by0 (iv 0) (an 0) (an 1) (cn an) 3 (iv 1) 0 := ⟨by omega, fit_3.mpr ⟨by omega, by rw [← k1_4]; exact (cn_can hAn.1 (by omega)).mpr hcn⟩⟩
        have hoks : ∀ q, q < 1 → okQ by0 (iv 0) (an 0) (an 1) (cn an) 3 (iv 1) q := fun q hq => by rw [show q = 0 by omega]; exact hok0
        refine nr_if_ne (tgt := 49) hx hb (by decide) dX12_givesRing_44 (by decide) (fun c7 => ?_) (fun c7 => absurd c7 (by decide))
        refine lv_aload_n hx hb dX12_givesRing_49 rfl (lv_at hl 0 rfl) ?_
        refine nr_get (own := RX12) (C := RX12) (T := TX12) (N := 19) (v := .ref (ad Γ (mo + 11))) hx hb hts hi_X12_givesRing_X12 hown hw (by omega) (isM_0 hM) rfl 17 (by decide) wl_X12_givesRing_3 rfl rfl dX12_givesRing_50 ?_
        refine lv_aload_n hx hb dX12_givesRing_53 rfl (lv_at hl 0 rfl) ?_
        refine nr_get (own := RX12) (C := RX12) (T := TX12) (N := 19) (v := .int (nI (iv1 4))) hx hb hts hi_X12_givesRing_X12 hown hw (by omega) (isM_0 hM) rfl 16 (by decide) wl_X12_givesRing_2 rfl rfl dX12_givesRing_54 ?_
        refine lv_iconst (v := nI 1) hx hb dX12_givesRing_57 (by decide) ?_
        refine nr_goV (nr_runS (As := [.ref (ad Γ (mo + 11)), .int (nI (iv1 4)), .int (nI 1)]) ⟨hx, hb, hml, hown, hts⟩ hw (c_X12_goOff l Γ n G1 (mo + 11) 128 an (isM_11 hM) (by omega) (by omega) (by omega) hAI hj (iv1 4) 1 (by omega) (by omega)) (va_cwS 3 hts gX12_givesRing_X12_goOff rfl rfl rfl (by decide +kernel) ⟨Nat.le_of_ble_eq_true rfl, Nat.le_of_ble_eq_true rfl⟩) rfl hl.1 rfl (Nat.le_of_ble_eq_true rfl) dX12_givesRing_58 ⟨Nat.zero_le _, Nat.zero_le _⟩) hw hA hS (fun G8 H locs hp hw hS => ?_)
        subst hp
        have hM := isM_s11 hM (offR an (iv1 4) 1)
        have hfr := fr_up hfr (i := mo + 11) (by omega) (by omega) (na Γ 128 (offR an (iv1 4) 1))
        generalize va_up G1 (mo + 11) (na Γ 128 (offR an (iv1 4) 1)) = G9 at hw hM hfr
        refine lv_aload_n hx hb dX12_givesRing_61 rfl (lv_at hl 0 rfl) ?_
        refine nr_goV (nr_runV (As := []) (C := RX12) (T := TX12) (N := 19) ⟨hx, hb, hml, hown, hts⟩ hw (by omega) (isM_0 hM) rfl (c_X12_goBehind l Γ n G9 mo R K kp rf ca rc hd fw tl by0 (offR an (iv1 4) 1) vl iv1 hM (by omega) hI hj (by omega) hbt k1_l) (cwV 0 hts gX12_givesRing_X12_goBehind rfl rfl rfl (by decide +kernel) ⟨Nat.le_of_ble_eq_true rfl, Nat.le_of_ble_eq_true rfl⟩) rfl hl.1 rfl (Nat.le_of_ble_eq_true rfl) dX12_givesRing_62 ⟨Nat.zero_le _, Nat.zero_le _⟩) hw hA hS (fun G10 H locs hp hw hS => ?_)
        obtain ⟨iv10, hx10, hM, hfr10⟩ := hp
        have hfr := fr_tr hfr hfr10 (Nat.le_refl _) (Nat.le_refl _)
        obtain ⟨k2_l, k2_0, k2_1, k2_3, k2_4, k2_5, k2_6⟩ := gb_step (x := iv 1) (q := 1) hx10 k1_0 k1_1 k1_5 k1_6
        have k2_b := tokV_le by0 (iv 0) (xq by0 (iv 0) (iv 1) 2)
        have k2_n := tokK_le by0 (iv 0) (xq by0 (iv 0) (iv 1) 2)
        have k2_f := lk_f k2_l
        refine lv_iconst (v := nI 1) hx hb dX12_givesRing_65 (by decide) ?_
        exact nr_retIB hx hb hr hlocks (by decide) hw hS (Or.inl ⟨hoks, rfl, _, _, ⟨by rw [← k2_0]; exact k2_l, k2_1, k2_5, k2_6, hvl9⟩, by rw [show itV by0 (iv 0) an (iv 1) = offR an (iv1 4) 1 from (by rw [itV_4 hw9, ← k1_4]; exact (off_stk hAn.1 (by omega)).symm)]; exact hM, hfr⟩) dX12_givesRing_66
      · have hnb : ¬ okQ by0 (iv 0) (an 0) (an 1) (cn an) 3 (iv 1) 0 := fun z => b6 ((cn_can hAn.1 (by omega)).mp (by rw [k1_4]; exact (fit_3.mp z.2).2))
        refine nr_if_ne (tgt := 49) hx hb (by decide) dX12_givesRing_44 (by decide) (fun c11 => absurd c11 (by decide)) (fun c11 => ?_)
        have hnb : ¬ okQ by0 (iv 0) (an 0) (an 1) (cn an) 3 (iv 1) 0 := by first | exact hnb | exact fun z => absurd z.1 (by omega)
        refine lv_iconst (v := nI 0) hx hb dX12_givesRing_47 (by decide) ?_
        exact nr_retIB hx hb hr hlocks (by decide) hw hS (Or.inr (⟨rfl, _, _, ⟨by rw [← k1_0]; exact k1_l, ⟨0, by omega, hob, hnb, k1_1⟩, k1_5, k1_6, hvl9⟩, hM, hfr⟩)) dX12_givesRing_48
    · have hnb : ¬ okQ by0 (iv 0) (an 0) (an 1) (cn an) 3 (iv 1) 0 := fun z => b4 ((in_m1 (v := iv1 4) (P := an 1) (lo := 0) (by omega) (by omega) (by decide)).mpr ⟨Nat.zero_le _, by rw [k1_4]; exact (fit_3.mp z.2).1⟩)
      refine nr_if_eq (tgt := 47) hx hb (by decide) dX12_givesRing_30 (by decide) (fun c12 => ?_) (fun c12 => absurd c12 (by decide))
      have hnb : ¬ okQ by0 (iv 0) (an 0) (an 1) (cn an) 3 (iv 1) 0 := by first | exact hnb | exact fun z => absurd z.1 (by omega)
      refine lv_iconst (v := nI 0) hx hb dX12_givesRing_47 (by decide) ?_
      exact nr_retIB hx hb hr hlocks (by decide) hw hS (Or.inr (⟨rfl, _, _, ⟨by rw [← k1_0]; exact k1_l, ⟨0, by omega, hob, hnb, k1_1⟩, k1_5, k1_6, hvl9⟩, hM, hfr⟩)) dX12_givesRing_48
theorem wl_X12_givesWrong_1 : Cond.fieldLink RX12 45 "BellForgivenModel" "anew" "[I" ∈ wsX12_givesWrong := List.mem_of_getElem? (i := 1) rfl
theorem wl_X12_givesWrong_2 : Cond.fieldLink RX12 239 "BellForgivenModel" "token" "I" ∈ wsX12_givesWrong := List.mem_of_getElem? (i := 2) rfl
theorem wl_X12_givesWrong_3 : Cond.fieldLink RX12 242 "BellForgivenModel" "value" "I" ∈ wsX12_givesWrong := List.mem_of_getElem? (i := 3) rfl
theorem wl_X12_givesWrong_4 : Cond.fieldLink RX12 48 "BellForgivenModel" "values" "[I" ∈ wsX12_givesWrong := List.mem_of_getElem? (i := 4) rfl
theorem hi_X12_givesWrong_X12 : ∀ w ∈ u_ws RX12 TX12 19, w ∈ wsX12_givesWrong := fun w h => (List.mem_cons_of_mem _ (List.mem_append_right _ h))
set_option maxHeartbeats 4000000 in
set_option maxRecDepth 100000 in
theorem c_X12_givesWrong (l : Launch) (Γ : Gam) (n : Nat) (G : Nat → va_E) (mo : Nat) (R K kp rf ca rc hd fw tl by0 an vl iv : Nat → Nat) (hM : isM Γ G mo R K kp rf ca rc hd fw tl by0 an vl iv) (hmo : mo + 13 ≤ n) (hI : vI R) (hj : winj Γ n) (hL : iv 0 ≤ 150) (hbt : ∀ j, by0 j ≤ 127) (hlk : lkAt by0 (iv 0) iv) (hAn : rG an) (hvl : ∀ j, vl j < 2000) (hw9 : vlK by0 (iv 0) (iv 1) = 3)  : Met l yX12_givesWrong wsX12_givesWrong ({ frames := 5, cells := 0, slots := 0, locals := 112 }) (va_Pc [.ref (ad Γ (mo + 0))] (fun U => hw Γ n G U U.heap)) (wQi Γ n (fun z G2 => ((an 1 < 8) ∧ (∀ q, q < 4 → okQ by0 (iv 0) (an 0) (an 1) (cn an) 2 (iv 1) q) ∧ (z = nI 1) ∧ ∃ iv2 : Nat → Nat, ∃ vl2 : Nat → Nat, (lkAt by0 (iv 0) iv2 ∧ iv2 1 = xq by0 (iv 0) (iv 1) 5 ∧ iv2 5 = iv 5 ∧ iv2 6 = iv 6 ∧ ∀ j, vl2 j < 2000) ∧ isM Γ G2 mo R K kp rf ca rc hd fw tl by0 (itV by0 (iv 0) an (iv 1)) vl2 iv2 ∧ fr G G2 mo (mo + 13)) ∨ ((z = nI 0) ∧ ∃ iv2 : Nat → Nat, ∃ vl2 : Nat → Nat, (lkAt by0 (iv 0) iv2 ∧ ((¬ an 1 < 8 ∧ iv2 1 = iv 1) ∨ (an 1 < 8 ∧ ∃ q, q < 4 ∧ (∀ u, u < q → okQ by0 (iv 0) (an 0) (an 1) (cn an) 2 (iv 1) u) ∧ ¬ okQ by0 (iv 0) (an 0) (an 1) (cn an) 2 (iv 1) q ∧ iv2 1 = xq by0 (iv 0) (iv 1) (q + 1))) ∧ iv2 5 = iv 5 ∧ iv2 6 = iv 6 ∧ ∀ j, vl2 j < 2000) ∧ isM Γ G2 mo R K kp rf ca rc hd fw tl by0 an vl2 iv2 ∧ fr G G2 mo (mo + 13)))) 0 0 (wA Γ n) := by
  refine Met.ofW (cc := cX12_givesWrong) (maxL := 1) (ret := (some .boolean)) (by decide) rfl ?_
  intro p e s m args below meth c s₁ B hml hv
  obtain ⟨rfl, hw⟩ := hv
  have hx := B.exec
  have hb := B.bytes
  have hr := B.returns
  have hts := atoms_spec (ws := wsX12_givesWrong) B.pre
  have hown : s.vm.findClass RX12 = some m.cls := findClass_of_methodNamed B.named
  have hlocks := B.notSynchronized
  have hS : va_S (wA Γ n) s.heap s.heap [] := va_S.rf
  have hA : ∀ q, wA Γ n q → wA Γ n q := fun _ h => h
  have hl := lv_entry ([.ref (ad Γ (mo + 0))]) (n := 1) (Nat.le_of_ble_eq_true rfl)
  rw [lg_entry_eq]
  generalize (lg_sl ([.ref (ad Γ (mo + 0))]) ++ List.replicate (1 - (lg_sl ([.ref (ad Γ (mo + 0))])).length) Slot.unset).toArray = ls at hl ⊢
  have hl : lv_has ls 1 [(0, .ref (ad Γ (mo + 0)))] := hl
  have hfr := fr_rf G mo (mo + 13)
  have hB := hI.1
  have hB0 := hI.2.1
  have hB1 := hI.2.2.1
  have hB20 := hI.2.2.2.2.2.2.2.2.2
  have hBz2 := hI.2.2.2.1
  have hBz3 := hI.2.2.2.2.1
  have hBz4 := hI.2.2.2.2.2.1
  have hBz5 := hI.2.2.2.2.2.2.1
  have hby := hI.2.2.2.2.2.2.2.1
  have hto := hI.2.2.2.2.2.2.2.2.1
  have hAB := hAn.1.1.1
  have hA0 := hAn.1.1.2.1
  have hA1 := hAn.1.1.2.2.1
  have hAI := vI_a hAn.1.1
  have hf9 := lk_f hlk
  have hvl9 := hvl
  refine lv_aload_n hx hb dX12_givesWrong_0 rfl (lv_at hl 0 rfl) ?_
  refine nr_get (own := RX12) (C := RX12) (T := TX12) (N := 19) (v := .ref (ad Γ (mo + 11))) hx hb hts hi_X12_givesWrong_X12 hown hw (by omega) (isM_0 hM) rfl 17 (by decide) wl_X12_givesWrong_1 rfl rfl dX12_givesWrong_1 ?_
  refine lv_iconst (v := nI 1) hx hb dX12_givesWrong_4 (by decide) ?_
  refine nr_iald (x := (an 1)) hx hb hw (by omega) (isM_11 hM) rfl (by omega) (by decide) dX12_givesWrong_5 ?_
  have hL1 := hAB (1)
  refine lv_bipush (v := nI 8) hx hb dX12_givesWrong_6 (by decide) ?_
  refine nr_icmp_ne (tgt := 13) hx hb (by omega) (by decide) dX12_givesWrong_8 (by decide) (fun c2 => ?_) (fun c2 => ?_)
  · refine lv_aload_n hx hb dX12_givesWrong_13 rfl (lv_at hl 0 rfl) ?_
    refine nr_goV (nr_runV (As := []) (C := RX12) (T := TX12) (N := 19) ⟨hx, hb, hml, hown, hts⟩ hw (by omega) (isM_0 hM) rfl (c_X12_goBehind l Γ n G mo R K kp rf ca rc hd fw tl by0 an vl iv hM (by omega) hI hj hL hbt hlk) (cwV 0 hts gX12_givesWrong_X12_goBehind rfl rfl rfl (by decide +kernel) ⟨Nat.le_of_ble_eq_true rfl, Nat.le_of_ble_eq_true rfl⟩) rfl hl.1 rfl (Nat.le_of_ble_eq_true rfl) dX12_givesWrong_14 ⟨Nat.zero_le _, Nat.zero_le _⟩) hw hA hS (fun G3 H locs hp hw hS => ?_)
    obtain ⟨iv3, hx3, hM, hfr3⟩ := hp
    have hfr := fr_tr hfr hfr3 (Nat.le_refl _) (Nat.le_refl _)
    obtain ⟨k1_l, k1_0, k1_1, k1_3, k1_4, k1_5, k1_6⟩ := gb_step (x := iv 1) (q := 0) hx3 rfl rfl rfl rfl
    have k1_b := tokV_le by0 (iv 0) (xq by0 (iv 0) (iv 1) 1)
    have k1_n := tokK_le by0 (iv 0) (xq by0 (iv 0) (iv 1) 1)
    have k1_f := lk_f k1_l
    refine lv_aload_n hx hb dX12_givesWrong_17 rfl (lv_at hl 0 rfl) ?_
    refine lv_iconst (v := nI 0) hx hb dX12_givesWrong_18 (by decide) ?_
    refine lv_iconst (v := nI 0) hx hb dX12_givesWrong_19 (by decide) ?_
    refine lv_iconst (v := nI 5) hx hb dX12_givesWrong_20 (by decide) ?_
    refine nr_top (show nI 5 = nI 6 - nI 1 from by decide) ?_
    refine nr_goI (nr_runV (As := [.int (nI 0), .int (nI 0), .int (nI 6 - nI 1)]) (C := RX12) (T := TX12) (N := 19) ⟨hx, hb, hml, hown, hts⟩ hw (by omega) (isM_0 hM) rfl (c_X12_gives l Γ n G3 mo R K kp rf ca rc hd fw tl by0 an vl iv3 hM (by omega) hI hj 0 0 6 (by decide) (by decide) (by omega) (by omega) hbt k1_l) (cwV 3 hts gX12_givesWrong_X12_gives rfl rfl rfl (by decide +kernel) ⟨Nat.le_of_ble_eq_true rfl, Nat.le_of_ble_eq_true rfl⟩) rfl hl.1 rfl (Nat.le_of_ble_eq_true rfl) dX12_givesWrong_21 ⟨Nat.zero_le _, Nat.zero_le _⟩) hw hA hS (fun z4 G4 H locs hp hw hS => ?_)
    rcases hp with ⟨hc4_0, hc4_1, hc4_2, ha4, iv4, hx4, hM, hf4⟩ | ⟨hc4_0, ha4, hM, hf4⟩
    · have hfr := fr_tr hfr hf4 (Nat.le_refl _) (Nat.le_refl _)
      subst ha4
      obtain ⟨k2_l, k2_0, k2_1, k2_3, k2_4, k2_5, k2_6⟩ := gb_step (x := iv 1) (q := 1) hx4 k1_0 k1_1 k1_5 k1_6
      have k2_b := tokV_le by0 (iv 0) (xq by0 (iv 0) (iv 1) 2)
      have k2_n := tokK_le by0 (iv 0) (xq by0 (iv 0) (iv 1) 2)
      have k2_f := lk_f k2_l
      have hvl9 : ∀ j, (va_up vl 0 (iv3 4)) j < 2000 := up_le2 hvl9 (by omega)
      have hok0 : okQ by0 (iv 0) (an 0) (an 1) (cn an) 2 (iv 1) 0 := ⟨by omega, fit_2.mpr (by unfold fitW; rw [if_pos rfl]; omega)⟩
      refine nr_if_eq (tgt := 93) hx hb (by decide) dX12_givesWrong_24 (by decide) (fun c5 => absurd c5 (by decide)) (fun c5 => ?_)
      refine lv_aload_n hx hb dX12_givesWrong_27 rfl (lv_at hl 0 rfl) ?_
      refine lv_iconst (v := nI 1) hx hb dX12_givesWrong_28 (by decide) ?_
      refine lv_iconst (v := nI 0) hx hb dX12_givesWrong_29 (by decide) ?_
      refine lv_aload_n hx hb dX12_givesWrong_30 rfl (lv_at hl 0 rfl) ?_
      refine nr_get (own := RX12) (C := RX12) (T := TX12) (N := 19) (v := .ref (ad Γ (mo + 11))) hx hb hts hi_X12_givesWrong_X12 hown hw (by omega) (isM_0 hM) rfl 17 (by decide) wl_X12_givesWrong_1 rfl rfl dX12_givesWrong_31 ?_
      refine lv_iconst (v := nI 0) hx hb dX12_givesWrong_34 (by decide) ?_
      refine nr_iald (x := (an 0)) hx hb hw (by omega) (isM_11 hM) rfl (by omega) (by decide) dX12_givesWrong_35 ?_
      have hL6 := hAB (0)
      refine lv_iconst (v := nI 1) hx hb dX12_givesWrong_36 (by decide) ?_
      refine lv_isub hx hb dX12_givesWrong_37 ?_
      refine nr_goI (nr_runV (As := [.int (nI 1), .int (nI 0), .int ((nI (an 0)) - (nI 1))]) (C := RX12) (T := TX12) (N := 19) ⟨hx, hb, hml, hown, hts⟩ hw (by omega) (isM_0 hM) rfl (c_X12_gives l Γ n G4 mo R K kp rf ca rc hd fw tl by0 an (va_up vl 0 (iv3 4)) iv4 hM (by omega) hI hj 1 0 (an 0) (by decide) (by decide) (by omega) (by omega) hbt k2_l) (cwV 3 hts gX12_givesWrong_X12_gives rfl rfl rfl (by decide +kernel) ⟨Nat.le_of_ble_eq_true rfl, Nat.le_of_ble_eq_true rfl⟩) rfl hl.1 rfl (Nat.le_of_ble_eq_true rfl) dX12_givesWrong_38 ⟨Nat.zero_le _, Nat.zero_le _⟩) hw hA hS (fun z7 G7 H locs hp hw hS => ?_)
      rcases hp with ⟨hc7_0, hc7_1, hc7_2, ha7, iv7, hx7, hM, hf7⟩ | ⟨hc7_0, ha7, hM, hf7⟩
      · have hfr := fr_tr hfr hf7 (Nat.le_refl _) (Nat.le_refl _)
        subst ha7
        obtain ⟨k3_l, k3_0, k3_1, k3_3, k3_4, k3_5, k3_6⟩ := gb_step (x := iv 1) (q := 2) hx7 k2_0 k2_1 k2_5 k2_6
        have k3_b := tokV_le by0 (iv 0) (xq by0 (iv 0) (iv 1) 3)
        have k3_n := tokK_le by0 (iv 0) (xq by0 (iv 0) (iv 1) 3)
        have k3_f := lk_f k3_l
        have hvl9 : ∀ j, (va_up (va_up vl 0 (iv3 4)) 1 (iv4 4)) j < 2000 := up_le2 hvl9 (by omega)
        have hok1 : okQ by0 (iv 0) (an 0) (an 1) (cn an) 2 (iv 1) 1 := ⟨by omega, fit_2.mpr (by unfold fitW; rw [if_neg (by decide), if_pos rfl]; omega)⟩
        refine nr_if_eq (tgt := 93) hx hb (by decide) dX12_givesWrong_41 (by decide) (fun c8 => absurd c8 (by decide)) (fun c8 => ?_)
        refine lv_aload_n hx hb dX12_givesWrong_44 rfl (lv_at hl 0 rfl) ?_
        refine nr_get (own := RX12) (C := RX12) (T := TX12) (N := 19) (v := .int (nI (iv7 3))) hx hb hts hi_X12_givesWrong_X12 hown hw (by omega) (isM_0 hM) rfl 15 (by decide) wl_X12_givesWrong_2 rfl rfl dX12_givesWrong_45 ?_
        refine lv_iconst (v := nI 2) hx hb dX12_givesWrong_48 (by decide) ?_
        refine nr_icmp_ne (tgt := 93) hx hb (by omega) (by decide) dX12_givesWrong_49 (by decide) (fun c9 => ?_) (fun c9 => ?_)
        · have hob : ∀ u, u < 2 → okQ by0 (iv 0) (an 0) (an 1) (cn an) 2 (iv 1) u := fun u hu => by rcases (show u = 0 ∨ u = 1 by omega) with rfl | rfl; exact hok0; exact hok1
          have hnb : ¬ okQ by0 (iv 0) (an 0) (an 1) (cn an) 2 (iv 1) 2 := by first | exact hnb | (intro z; have zf := fit_2.mp z.2; have zk := z.1; unfold fitW at zf; rw [if_neg (by decide), if_neg (by decide), if_pos rfl] at zf; omega)
          refine lv_iconst (v := nI 0) hx hb dX12_givesWrong_93 (by decide) ?_
          exact nr_retIB hx hb hr hlocks (by decide) hw hS (Or.inr (⟨rfl, _, _, ⟨by rw [← k3_0]; exact k3_l, Or.inr ⟨by omega, ⟨2, by omega, hob, hnb, k3_1⟩⟩, k3_5, k3_6, hvl9⟩, hM, hfr⟩)) dX12_givesWrong_94
        · refine lv_aload_n hx hb dX12_givesWrong_52 rfl (lv_at hl 0 rfl) ?_
          refine nr_get (own := RX12) (C := RX12) (T := TX12) (N := 19) (v := .int (nI (iv7 4))) hx hb hts hi_X12_givesWrong_X12 hown hw (by omega) (isM_0 hM) rfl 16 (by decide) wl_X12_givesWrong_3 rfl rfl dX12_givesWrong_53 ?_
          refine lv_aload_n hx hb dX12_givesWrong_56 rfl (lv_at hl 0 rfl) ?_
          refine nr_get (own := RX12) (C := RX12) (T := TX12) (N := 19) (v := .ref (ad Γ (mo + 12))) hx hb hts hi_X12_givesWrong_X12 hown hw (by omega) (isM_0 hM) rfl 18 (by decide) wl_X12_givesWrong_4 rfl rfl dX12_givesWrong_57 ?_
          refine lv_iconst (v := nI 1) hx hb dX12_givesWrong_60 (by decide) ?_
          refine nr_iald (x := (tokV by0 (iv 0) (xq by0 (iv 0) (iv 1) 2))) hx hb hw (by omega) (isM_12 hM) (by rw [va_up_self]; exact k2_4) (by omega) (by decide) dX12_givesWrong_61 ?_
          refine nr_icmp_eq (tgt := 93) hx hb (by omega) (by omega) dX12_givesWrong_62 (by decide) (fun c10 => ?_) (fun c10 => ?_)
          · have hob : ∀ u, u < 2 → okQ by0 (iv 0) (an 0) (an 1) (cn an) 2 (iv 1) u := fun u hu => by rcases (show u = 0 ∨ u = 1 by omega) with rfl | rfl; exact hok0; exact hok1
            have hnb : ¬ okQ by0 (iv 0) (an 0) (an 1) (cn an) 2 (iv 1) 2 := by first | exact hnb | (intro z; have zf := fit_2.mp z.2; have zk := z.1; unfold fitW at zf; rw [if_neg (by decide), if_neg (by decide), if_pos rfl] at zf; omega)
            refine lv_iconst (v := nI 0) hx hb dX12_givesWrong_93 (by decide) ?_
            exact nr_retIB hx hb hr hlocks (by decide) hw hS (Or.inr (⟨rfl, _, _, ⟨by rw [← k3_0]; exact k3_l, Or.inr ⟨by omega, ⟨2, by omega, hob, hnb, k3_1⟩⟩, k3_5, k3_6, hvl9⟩, hM, hfr⟩)) dX12_givesWrong_94
          · refine lv_aload_n hx hb dX12_givesWrong_65 rfl (lv_at hl 0 rfl) ?_
            refine lv_iconst (v := nI 2) hx hb dX12_givesWrong_66 (by decide) ?_
            refine lv_iconst (v := nI 0) hx hb dX12_givesWrong_67 (by decide) ?_
            refine lv_aload_n hx hb dX12_givesWrong_68 rfl (lv_at hl 0 rfl) ?_
            refine nr_get (own := RX12) (C := RX12) (T := TX12) (N := 19) (v := .ref (ad Γ (mo + 11))) hx hb hts hi_X12_givesWrong_X12 hown hw (by omega) (isM_0 hM) rfl 17 (by decide) wl_X12_givesWrong_1 rfl rfl dX12_givesWrong_69 ?_
            refine lv_iconst (v := nI 0) hx hb dX12_givesWrong_72 (by decide) ?_
            refine nr_iald (x := (an 0)) hx hb hw (by omega) (isM_11 hM) rfl (by omega) (by decide) dX12_givesWrong_73 ?_
            have hL11 := hAB (0)
            refine lv_iconst (v := nI 1) hx hb dX12_givesWrong_74 (by decide) ?_
            refine lv_isub hx hb dX12_givesWrong_75 ?_
            refine nr_goI (nr_runV (As := [.int (nI 2), .int (nI 0), .int ((nI (an 0)) - (nI 1))]) (C := RX12) (T := TX12) (N := 19) ⟨hx, hb, hml, hown, hts⟩ hw (by omega) (isM_0 hM) rfl (c_X12_gives l Γ n G7 mo R K kp rf ca rc hd fw tl by0 an (va_up (va_up vl 0 (iv3 4)) 1 (iv4 4)) iv7 hM (by omega) hI hj 2 0 (an 0) (by decide) (by decide) (by omega) (by omega) hbt k3_l) (cwV 3 hts gX12_givesWrong_X12_gives rfl rfl rfl (by decide +kernel) ⟨Nat.le_of_ble_eq_true rfl, Nat.le_of_ble_eq_true rfl⟩) rfl hl.1 rfl (Nat.le_of_ble_eq_true rfl) dX12_givesWrong_76 ⟨Nat.zero_le _, Nat.zero_le _⟩) hw hA hS (fun z12 G12 H locs hp hw hS => ?_)
            rcases hp with ⟨hc12_0, hc12_1, hc12_2, ha12, iv12, hx12, hM, hf12⟩ | ⟨hc12_0, ha12, hM, hf12⟩
            · have hfr := fr_tr hfr hf12 (Nat.le_refl _) (Nat.le_refl _)
              subst ha12
              obtain ⟨k4_l, k4_0, k4_1, k4_3, k4_4, k4_5, k4_6⟩ := gb_step (x := iv 1) (q := 3) hx12 k3_0 k3_1 k3_5 k3_6
              have k4_b := tokV_le by0 (iv 0) (xq by0 (iv 0) (iv 1) 4)
              have k4_n := tokK_le by0 (iv 0) (xq by0 (iv 0) (iv 1) 4)
              have k4_f := lk_f k4_l
              have hvl9 : ∀ j, (va_up (va_up (va_up vl 0 (iv3 4)) 1 (iv4 4)) 2 (iv7 4)) j < 2000 := up_le2 hvl9 (by omega)
              have hok2 : okQ by0 (iv 0) (an 0) (an 1) (cn an) 2 (iv 1) 2 := ⟨by omega, fit_2.mpr (by unfold fitW; rw [if_neg (by decide), if_neg (by decide), if_pos rfl]; omega)⟩
              refine nr_if_eq (tgt := 93) hx hb (by decide) dX12_givesWrong_79 (by decide) (fun c13 => absurd c13 (by decide)) (fun c13 => ?_)
              refine lv_aload_n hx hb dX12_givesWrong_82 rfl (lv_at hl 0 rfl) ?_
              refine lv_iconst (v := nI 3) hx hb dX12_givesWrong_83 (by decide) ?_
              refine lv_iconst (v := nI 1) hx hb dX12_givesWrong_84 (by decide) ?_
              refine lv_bipush (v := nI 9) hx hb dX12_givesWrong_85 (by decide) ?_
              refine nr_top (show nI 9 = nI 10 - nI 1 from by decide) ?_
              refine nr_goI (nr_runV (As := [.int (nI 3), .int (nI 1), .int (nI 10 - nI 1)]) (C := RX12) (T := TX12) (N := 19) ⟨hx, hb, hml, hown, hts⟩ hw (by omega) (isM_0 hM) rfl (c_X12_gives l Γ n G12 mo R K kp rf ca rc hd fw tl by0 an (va_up (va_up (va_up vl 0 (iv3 4)) 1 (iv4 4)) 2 (iv7 4)) iv12 hM (by omega) hI hj 3 1 10 (by decide) (by decide) (by omega) (by omega) hbt k4_l) (cwV 3 hts gX12_givesWrong_X12_gives rfl rfl rfl (by decide +kernel) ⟨Nat.le_of_ble_eq_true rfl, Nat.le_of_ble_eq_true rfl⟩) rfl hl.1 rfl (Nat.le_of_ble_eq_true rfl) dX12_givesWrong_87 ⟨Nat.zero_le _, Nat.zero_le _⟩) hw hA hS (fun z14 G14 H locs hp hw hS => ?_)
              rcases hp with ⟨hc14_0, hc14_1, hc14_2, ha14, iv14, hx14, hM, hf14⟩ | ⟨hc14_0, ha14, hM, hf14⟩
              · have hfr := fr_tr hfr hf14 (Nat.le_refl _) (Nat.le_refl _)
                subst ha14
                obtain ⟨k5_l, k5_0, k5_1, k5_3, k5_4, k5_5, k5_6⟩ := gb_step (x := iv 1) (q := 4) hx14 k4_0 k4_1 k4_5 k4_6
                have k5_b := tokV_le by0 (iv 0) (xq by0 (iv 0) (iv 1) 5)
                have k5_n := tokK_le by0 (iv 0) (xq by0 (iv 0) (iv 1) 5)
                have k5_f := lk_f k5_l
                have hvl9 : ∀ j, (va_up (va_up (va_up (va_up vl 0 (iv3 4)) 1 (iv4 4)) 2 (iv7 4)) 3 (iv12 4)) j < 2000 := up_le2 hvl9 (by omega)
                have hok3 : okQ by0 (iv 0) (an 0) (an 1) (cn an) 2 (iv 1) 3 := ⟨by omega, fit_2.mpr (by unfold fitW; rw [if_neg (by decide), if_neg (by decide), if_neg (by decide)]; omega)⟩
                have hoks : ∀ q, q < 4 → okQ by0 (iv 0) (an 0) (an 1) (cn an) 2 (iv 1) q := fun u hu => by rcases (show u = 0 ∨ u = 1 ∨ u = 2 ∨ u = 3 by omega) with rfl | rfl | rfl | rfl; exact hok0; exact hok1; exact hok2; exact hok3
                refine nr_if_ne (tgt := 95) hx hb (by decide) dX12_givesWrong_90 (by decide) (fun c15 => ?_) (fun c15 => absurd c15 (by decide))
                refine lv_aload_n hx hb dX12_givesWrong_95 rfl (lv_at hl 0 rfl) ?_
                refine nr_get (own := RX12) (C := RX12) (T := TX12) (N := 19) (v := .ref (ad Γ (mo + 11))) hx hb hts hi_X12_givesWrong_X12 hown hw (by omega) (isM_0 hM) rfl 17 (by decide) wl_X12_givesWrong_1 rfl rfl dX12_givesWrong_96 ?_
                refine lv_aload_n hx hb dX12_givesWrong_99 rfl (lv_at hl 0 rfl) ?_
                refine nr_get (own := RX12) (C := RX12) (T := TX12) (N := 19) (v := .ref (ad Γ (mo + 12))) hx hb hts hi_X12_givesWrong_X12 hown hw (by omega) (isM_0 hM) rfl 18 (by decide) wl_X12_givesWrong_4 rfl rfl dX12_givesWrong_100 ?_
                refine lv_iconst (v := nI 0) hx hb dX12_givesWrong_103 (by decide) ?_
                refine nr_iald (x := (tokV by0 (iv 0) (xq by0 (iv 0) (iv 1) 1))) hx hb hw (by omega) (isM_12 hM) (by rw [va_up_ne _ _ (by decide), va_up_ne _ _ (by decide), va_up_ne _ _ (by decide), va_up_self]; exact k1_4) (by omega) (by decide) dX12_givesWrong_104 ?_
                refine lv_aload_n hx hb dX12_givesWrong_105 rfl (lv_at hl 0 rfl) ?_
                refine nr_get (own := RX12) (C := RX12) (T := TX12) (N := 19) (v := .ref (ad Γ (mo + 12))) hx hb hts hi_X12_givesWrong_X12 hown hw (by omega) (isM_0 hM) rfl 18 (by decide) wl_X12_givesWrong_4 rfl rfl dX12_givesWrong_106 ?_
                refine lv_iconst (v := nI 1) hx hb dX12_givesWrong_109 (by decide) ?_
                refine nr_iald (x := (tokV by0 (iv 0) (xq by0 (iv 0) (iv 1) 2))) hx hb hw (by omega) (isM_12 hM) (by rw [va_up_ne _ _ (by decide), va_up_ne _ _ (by decide), va_up_self]; exact k2_4) (by omega) (by decide) dX12_givesWrong_110 ?_
                refine lv_aload_n hx hb dX12_givesWrong_111 rfl (lv_at hl 0 rfl) ?_
                refine nr_get (own := RX12) (C := RX12) (T := TX12) (N := 19) (v := .ref (ad Γ (mo + 12))) hx hb hts hi_X12_givesWrong_X12 hown hw (by omega) (isM_0 hM) rfl 18 (by decide) wl_X12_givesWrong_4 rfl rfl dX12_givesWrong_112 ?_
                refine lv_iconst (v := nI 2) hx hb dX12_givesWrong_115 (by decide) ?_
                refine nr_iald (x := (tokV by0 (iv 0) (xq by0 (iv 0) (iv 1) 3))) hx hb hw (by omega) (isM_12 hM) (by rw [va_up_ne _ _ (by decide), va_up_self]; exact k3_4) (by omega) (by decide) dX12_givesWrong_116 ?_
                refine lv_aload_n hx hb dX12_givesWrong_117 rfl (lv_at hl 0 rfl) ?_
                refine nr_get (own := RX12) (C := RX12) (T := TX12) (N := 19) (v := .ref (ad Γ (mo + 12))) hx hb hts hi_X12_givesWrong_X12 hown hw (by omega) (isM_0 hM) rfl 18 (by decide) wl_X12_givesWrong_4 rfl rfl dX12_givesWrong_118 ?_
                refine lv_iconst (v := nI 3) hx hb dX12_givesWrong_121 (by decide) ?_
                refine nr_iald (x := (tokV by0 (iv 0) (xq by0 (iv 0) (iv 1) 4))) hx hb hw (by omega) (isM_12 hM) (by rw [va_up_self]; exact k4_4) (by omega) (by decide) dX12_givesWrong_122 ?_
                refine nr_goV (nr_runS (As := [.ref (ad Γ (mo + 11)), .int (nI (tokV by0 (iv 0) (xq by0 (iv 0) (iv 1) 1))), .int (nI (tokV by0 (iv 0) (xq by0 (iv 0) (iv 1) 2))), .int (nI (tokV by0 (iv 0) (xq by0 (iv 0) (iv 1) 3))), .int (nI (tokV by0 (iv 0) (xq by0 (iv 0) (iv 1) 4)))]) ⟨hx, hb, hml, hown, hts⟩ hw (c_X12_layWrong l Γ n G14 (mo + 11) 128 an (isM_11 hM) (by omega) (by omega) (by omega) hAI hj (tokV by0 (iv 0) (xq by0 (iv 0) (iv 1) 1)) (tokV by0 (iv 0) (xq by0 (iv 0) (iv 1) 2)) (tokV by0 (iv 0) (xq by0 (iv 0) (iv 1) 3)) (tokV by0 (iv 0) (xq by0 (iv 0) (iv 1) 4)) (by omega)) (va_cwS 5 hts gX12_givesWrong_X12_layWrong rfl rfl rfl (by decide +kernel) ⟨Nat.le_of_ble_eq_true rfl, Nat.le_of_ble_eq_true rfl⟩) rfl hl.1 rfl (Nat.le_of_ble_eq_true rfl) dX12_givesWrong_123 ⟨Nat.zero_le _, Nat.zero_le _⟩) hw hA hS (fun G16 H locs hp hw hS => ?_)
                subst hp
                have hM := isM_s11 hM (layR an (tokV by0 (iv 0) (xq by0 (iv 0) (iv 1) 1)) (tokV by0 (iv 0) (xq by0 (iv 0) (iv 1) 2)) (tokV by0 (iv 0) (xq by0 (iv 0) (iv 1) 3)) (tokV by0 (iv 0) (xq by0 (iv 0) (iv 1) 4)))
                have hfr := fr_up hfr (i := mo + 11) (by omega) (by omega) (na Γ 128 (layR an (tokV by0 (iv 0) (xq by0 (iv 0) (iv 1) 1)) (tokV by0 (iv 0) (xq by0 (iv 0) (iv 1) 2)) (tokV by0 (iv 0) (xq by0 (iv 0) (iv 1) 3)) (tokV by0 (iv 0) (xq by0 (iv 0) (iv 1) 4))))
                generalize va_up G14 (mo + 11) (na Γ 128 (layR an (tokV by0 (iv 0) (xq by0 (iv 0) (iv 1) 1)) (tokV by0 (iv 0) (xq by0 (iv 0) (iv 1) 2)) (tokV by0 (iv 0) (xq by0 (iv 0) (iv 1) 3)) (tokV by0 (iv 0) (xq by0 (iv 0) (iv 1) 4)))) = G17 at hw hM hfr
                refine lv_iconst (v := nI 1) hx hb dX12_givesWrong_126 (by decide) ?_
                exact nr_retIB hx hb hr hlocks (by decide) hw hS (Or.inl ⟨by omega, hoks, rfl, _, _, ⟨by rw [← k5_0]; exact k5_l, k5_1, k5_5, k5_6, hvl9⟩, by rw [show itV by0 (iv 0) an (iv 1) = layR an (tokV by0 (iv 0) (xq by0 (iv 0) (iv 1) 1)) (tokV by0 (iv 0) (xq by0 (iv 0) (iv 1) 2)) (tokV by0 (iv 0) (xq by0 (iv 0) (iv 1) 3)) (tokV by0 (iv 0) (xq by0 (iv 0) (iv 1) 4)) from (by rw [itV_3 hw9])]; exact hM, hfr⟩) dX12_givesWrong_127
              · have hfr := fr_tr hfr hf14 (Nat.le_refl _) (Nat.le_refl _)
                subst ha14
                have hnb : ¬ okQ by0 (iv 0) (an 0) (an 1) (cn an) 2 (iv 1) 3 := fun z => by have zf := fit_2.mp z.2; have zk := z.1; unfold fitW at zf; rw [if_neg (by decide), if_neg (by decide), if_neg (by decide)] at zf; omega
                refine nr_if_ne (tgt := 95) hx hb (by decide) dX12_givesWrong_90 (by decide) (fun c18 => absurd c18 (by decide)) (fun c18 => ?_)
                have hob : ∀ u, u < 3 → okQ by0 (iv 0) (an 0) (an 1) (cn an) 2 (iv 1) u := fun u hu => by rcases (show u = 0 ∨ u = 1 ∨ u = 2 by omega) with rfl | rfl | rfl; exact hok0; exact hok1; exact hok2
                have hnb : ¬ okQ by0 (iv 0) (an 0) (an 1) (cn an) 2 (iv 1) 3 := by first | exact hnb | (intro z; have zf := fit_2.mp z.2; have zk := z.1; unfold fitW at zf; rw [if_neg (by decide), if_neg (by decide), if_neg (by decide)] at zf; omega)
                refine lv_iconst (v := nI 0) hx hb dX12_givesWrong_93 (by decide) ?_
                exact nr_retIB hx hb hr hlocks (by decide) hw hS (Or.inr (⟨rfl, _, _, ⟨by rw [← k4_0]; exact k4_l, Or.inr ⟨by omega, ⟨3, by omega, hob, hnb, k4_1⟩⟩, k4_5, k4_6, hvl9⟩, hM, hfr⟩)) dX12_givesWrong_94
            · have hfr := fr_tr hfr hf12 (Nat.le_refl _) (Nat.le_refl _)
              subst ha12
              have hnb : ¬ okQ by0 (iv 0) (an 0) (an 1) (cn an) 2 (iv 1) 2 := fun z => by have zf := fit_2.mp z.2; have zk := z.1; unfold fitW at zf; rw [if_neg (by decide), if_neg (by decide), if_pos rfl] at zf; omega
              refine nr_if_eq (tgt := 93) hx hb (by decide) dX12_givesWrong_79 (by decide) (fun c19 => ?_) (fun c19 => absurd c19 (by decide))
              have hob : ∀ u, u < 2 → okQ by0 (iv 0) (an 0) (an 1) (cn an) 2 (iv 1) u := fun u hu => by rcases (show u = 0 ∨ u = 1 by omega) with rfl | rfl; exact hok0; exact hok1
              have hnb : ¬ okQ by0 (iv 0) (an 0) (an 1) (cn an) 2 (iv 1) 2 := by first | exact hnb | (intro z; have zf := fit_2.mp z.2; have zk := z.1; unfold fitW at zf; rw [if_neg (by decide), if_neg (by decide), if_pos rfl] at zf; omega)
              refine lv_iconst (v := nI 0) hx hb dX12_givesWrong_93 (by decide) ?_
              exact nr_retIB hx hb hr hlocks (by decide) hw hS (Or.inr (⟨rfl, _, _, ⟨by rw [← k3_0]; exact k3_l, Or.inr ⟨by omega, ⟨2, by omega, hob, hnb, k3_1⟩⟩, k3_5, k3_6, hvl9⟩, hM, hfr⟩)) dX12_givesWrong_94
      · have hfr := fr_tr hfr hf7 (Nat.le_refl _) (Nat.le_refl _)
        subst ha7
        have hnb : ¬ okQ by0 (iv 0) (an 0) (an 1) (cn an) 2 (iv 1) 1 := fun z => by have zf := fit_2.mp z.2; have zk := z.1; unfold fitW at zf; rw [if_neg (by decide), if_pos rfl] at zf; omega
        refine nr_if_eq (tgt := 93) hx hb (by decide) dX12_givesWrong_41 (by decide) (fun c20 => ?_) (fun c20 => absurd c20 (by decide))
        have hob : ∀ u, u < 1 → okQ by0 (iv 0) (an 0) (an 1) (cn an) 2 (iv 1) u := fun u hu => by rcases (show u = 0 by omega) with rfl; exact hok0
        have hnb : ¬ okQ by0 (iv 0) (an 0) (an 1) (cn an) 2 (iv 1) 1 := by first | exact hnb | (intro z; have zf := fit_2.mp z.2; have zk := z.1; unfold fitW at zf; rw [if_neg (by decide), if_pos rfl] at zf; omega)
        refine lv_iconst (v := nI 0) hx hb dX12_givesWrong_93 (by decide) ?_
        exact nr_retIB hx hb hr hlocks (by decide) hw hS (Or.inr (⟨rfl, _, _, ⟨by rw [← k2_0]; exact k2_l, Or.inr ⟨by omega, ⟨1, by omega, hob, hnb, k2_1⟩⟩, k2_5, k2_6, hvl9⟩, hM, hfr⟩)) dX12_givesWrong_94
    · have hfr := fr_tr hfr hf4 (Nat.le_refl _) (Nat.le_refl _)
      subst ha4
      have hnb : ¬ okQ by0 (iv 0) (an 0) (an 1) (cn an) 2 (iv 1) 0 := fun z => by have zf := fit_2.mp z.2; have zk := z.1; unfold fitW at zf; rw [if_pos rfl] at zf; omega
      refine nr_if_eq (tgt := 93) hx hb (by decide) dX12_givesWrong_24 (by decide) (fun c21 => ?_) (fun c21 => absurd c21 (by decide))
      have hob : ∀ u, u < 0 → okQ by0 (iv 0) (an 0) (an 1) (cn an) 2 (iv 1) u := fun u hu => absurd hu (Nat.not_lt_zero u)
      have hnb : ¬ okQ by0 (iv 0) (an 0) (an 1) (cn an) 2 (iv 1) 0 := by first | exact hnb | (intro z; have zf := fit_2.mp z.2; have zk := z.1; unfold fitW at zf; rw [if_pos rfl] at zf; omega)
      refine lv_iconst (v := nI 0) hx hb dX12_givesWrong_93 (by decide) ?_
      exact nr_retIB hx hb hr hlocks (by decide) hw hS (Or.inr (⟨rfl, _, _, ⟨by rw [← k1_0]; exact k1_l, Or.inr ⟨by omega, ⟨0, by omega, hob, hnb, k1_1⟩⟩, k1_5, k1_6, hvl9⟩, hM, hfr⟩)) dX12_givesWrong_94
  · refine lv_iconst (v := nI 0) hx hb dX12_givesWrong_11 (by decide) ?_
    exact nr_retIB hx hb hr hlocks (by decide) hw hS (Or.inr (⟨rfl, _, _, ⟨hlk, Or.inl ⟨by omega, rfl⟩, rfl, rfl, hvl9⟩, hM, hfr⟩)) dX12_givesWrong_12
