section SRN
theorem one_per {R : Nat → Nat} (h : R (6 + R 0) = 0) (h6 : R 0 < 6) {k : Nat} : oneR R k = perV (va_up R 5 0) k := by
  funext j
  rw [per_at]
  unfold oneR
  rw [va_up_ne _ _ (show ¬ 0 = 5 by decide)]
  by_cases q5 : j = 5
  · rw [q5, va_up_self, if_neg (by omega), if_neg (by omega), if_neg (by omega), va_up_self]
  · rw [va_up_ne _ _ q5]
    by_cases q0 : j = 0
    · rw [if_pos q0, q0, va_up_self]
    · rw [va_up_ne _ _ q0, if_neg q0]
      by_cases q1 : j = 6 + R 0
      · rw [if_pos q1, va_up_ne _ _ (by omega), q1, h]
      · rw [if_neg q1]
        by_cases q2 : j = 22 + R 0
        · rw [if_pos q2, q2, va_up_self]
        · rw [if_neg q2, va_up_ne _ _ q2, va_up_ne _ _ q5]
theorem wrong_lay {R : Nat → Nat} {kd a b g : Nat} : wrongR R kd a b g = layR (va_up R 5 0) kd a b g := by
  funext j
  unfold wrongR
  by_cases q5 : j = 5
  · rw [q5, va_up_self, lay_at, va_up_ne _ _ (show ¬ 1 = 5 by decide), if_neg (by omega), if_neg (by omega), if_neg (by omega), if_neg (by omega), if_neg (by omega), if_neg (by omega), va_up_self]
  · rw [va_up_ne _ _ q5, lay_at, lay_at, va_up_ne _ _ (show ¬ 1 = 5 by decide), va_up_ne _ _ q5]
set_option maxHeartbeats 1000000 in
theorem op_valley {Γ : Gam} {G G2 G3 : Nat → va_E} {co mo : Nat} {by0 tv gv Dv lf vs cv V J0 J1 kp rf R K ca rc hd fw tl an vl iv : Nat → Nat} (hcm : co + 76 ≤ mo) (S : sR by0 tv gv Dv lf vs cv V J0 J1 kp R K hd fw tl an vl iv) {z z2 : Int32} (p1 : ((z = nI (V 0)) ∧ isO Γ G2 co kp rf ∧ isT Γ G2 (co + 3) by0 tv ∧ isRd Γ G2 (co + 5) gv ∧ isV Γ G2 (co + 7) Dv ∧ isRw Γ G2 (co + 23) lf ∧ isGs Γ G2 (co + 25) vs ∧ isCh Γ G2 (co + 27) cv ∧ isV Γ G2 (co + 28) (emV V) ∧ isV Γ G2 (co + 44) J0 ∧ isV Γ G2 (co + 60) J1 ∧ fr G G2 (co + 0) (co + 76))) (p2 : ((z2 = nI (R 0)) ∧ isM Γ G3 mo (zeroR R 128) K kp rf ca rc hd fw tl by0 an vl iv ∧ fr G2 G3 mo (mo + 13))) : z = z2 ∧ SI Γ G3 co mo := by
  have S0 := S
  obtain ⟨hv, hj0, hj1, ⟨ht, hL, hbt⟩, ⟨hD, hgv, hlf, hvs⟩, hkp, ⟨hhd, hfw, htl, hvl⟩, hAi, hKB, hc0, hc1⟩ := S
  have c := hv.2.2
  have hG := hv.1.1
  have hR := hv.2.1.1.1
  have e0 := c.1 0 (by omega)
  have e1 := c.1 1 (by omega)
  have e2 := c.1 2 (by omega)
  have e3 := c.1 3 (by omega)
  have e4 := c.1 4 (by omega)
  have e5 := c.1 5 (by omega)
  have e20 := c.2.1
  have e21 := c.2.2.1
  have i2 := hG.1.2.1
  have i3 := hG.1.2.2.1
  obtain ⟨r1, qq⟩ := p1
  obtain ⟨r2, m⟩ := p2
  exact ⟨by rw [r1, r2, e0], mkSI hcm qq m ⟨vr_em hG.1 hR.1.1, hj0, hj1, ⟨ht, hL, hbt⟩, ⟨hD, hgv, hlf, hvs⟩, hkp, ⟨hhd, hfw, htl, hvl⟩, hAi, hKB, hc0, hc1⟩⟩

set_option maxHeartbeats 1000000 in
theorem op_one {Γ : Gam} {G G2 G3 : Nat → va_E} {co mo : Nat} {by0 tv gv Dv lf vs cv V J0 J1 kp rf R K ca rc hd fw tl an vl iv : Nat → Nat} (hcm : co + 76 ≤ mo) (S : sR by0 tv gv Dv lf vs cv V J0 J1 kp R K hd fw tl an vl iv) {kind : Int32} {z z2 : Int32} (p1 : ((¬ vRng 0 5 kind) ∧ (z = -2) ∧ isO Γ G2 co kp (bmp rf 0) ∧ isT Γ G2 (co + 3) by0 tv ∧ isRd Γ G2 (co + 5) gv ∧ isV Γ G2 (co + 7) Dv ∧ isRw Γ G2 (co + 23) lf ∧ isGs Γ G2 (co + 25) vs ∧ isCh Γ G2 (co + 27) cv ∧ isV Γ G2 (co + 28) V ∧ isV Γ G2 (co + 44) J0 ∧ isV Γ G2 (co + 60) J1 ∧ fr G G2 (co + 0) (co + 76)) ∨ ((vRng 0 5 kind) ∧ (V 0 = 6) ∧ (z = -4) ∧ isO Γ G2 co kp (bmp rf 2) ∧ isT Γ G2 (co + 3) by0 tv ∧ isRd Γ G2 (co + 5) gv ∧ isV Γ G2 (co + 7) Dv ∧ isRw Γ G2 (co + 23) lf ∧ isGs Γ G2 (co + 25) vs ∧ isCh Γ G2 (co + 27) cv ∧ isV Γ G2 (co + 28) V ∧ isV Γ G2 (co + 44) J0 ∧ isV Γ G2 (co + 60) J1 ∧ fr G G2 (co + 0) (co + 76)) ∨ (∃ j : Nat, (j ≤ 5) ∧ (kind = nI j) ∧ (¬ V 0 = 6) ∧ (z = nI (V 0)) ∧ isO Γ G2 co kp rf ∧ isT Γ G2 (co + 3) by0 tv ∧ isRd Γ G2 (co + 5) gv ∧ isV Γ G2 (co + 7) Dv ∧ isRw Γ G2 (co + 23) lf ∧ isGs Γ G2 (co + 25) vs ∧ isCh Γ G2 (co + 27) cv ∧ isV Γ G2 (co + 28) (perV (va_up V 5 0) j) ∧ isV Γ G2 (co + 44) J0 ∧ isV Γ G2 (co + 60) J1 ∧ fr G G2 (co + 0) (co + 76))) (p2 : ((¬ vRng 0 5 kind) ∧ (z2 = -2) ∧ isM Γ G3 mo R K kp (bmp rf 0) ca rc hd fw tl by0 an vl iv ∧ fr G2 G3 mo (mo + 13)) ∨ ((vRng 0 5 kind) ∧ (R 0 = 6) ∧ (z2 = -4) ∧ isM Γ G3 mo R K kp (bmp rf 2) ca rc hd fw tl by0 an vl iv ∧ fr G2 G3 mo (mo + 13)) ∨ (∃ j : Nat, (j ≤ 5) ∧ (kind = nI j) ∧ (¬ R 0 = 6) ∧ (z2 = nI (R 0)) ∧ isM Γ G3 mo (oneR R j) K kp rf ca rc hd fw tl by0 an vl iv ∧ fr G2 G3 mo (mo + 13))) : z = z2 ∧ SI Γ G3 co mo := by
  have S0 := S
  obtain ⟨hv, hj0, hj1, ⟨ht, hL, hbt⟩, ⟨hD, hgv, hlf, hvs⟩, hkp, ⟨hhd, hfw, htl, hvl⟩, hAi, hKB, hc0, hc1⟩ := S
  have c := hv.2.2
  have hG := hv.1.1
  have hR := hv.2.1.1.1
  have e0 := c.1 0 (by omega)
  have e1 := c.1 1 (by omega)
  have e2 := c.1 2 (by omega)
  have e3 := c.1 3 (by omega)
  have e4 := c.1 4 (by omega)
  have e5 := c.1 5 (by omega)
  have e20 := c.2.1
  have e21 := c.2.2.1
  have i2 := hG.1.2.1
  have i3 := hG.1.2.2.1
  rcases p1 with ⟨n1, r1, qq⟩ | ⟨x1, n1, r1, qq⟩ | ⟨j, a1, a2, a3, ans, qq⟩
  · rcases p2 with ⟨n2, r2, m⟩ | ⟨x2, n2, r2, m⟩ | ⟨j2, b1, b2, b3, ans2, m⟩
    · exact ⟨r1.trans r2.symm, mkSI hcm qq m S0⟩
    · exact absurd (by first | exact x2 | (rw [e0]; exact x2) | (rw [e1]; exact x2)) n1
    · exact absurd ⟨j2, Nat.zero_le _, b1, b2⟩ n1
  · rcases p2 with ⟨n2, r2, m⟩ | ⟨x2, n2, r2, m⟩ | ⟨j2, b1, b2, b3, ans2, m⟩
    · exact absurd (by first | exact x1 | (rw [← e0]; exact x1) | (rw [← e1]; exact x1)) n2
    · exact ⟨r1.trans r2.symm, mkSI hcm qq m S0⟩
    · exfalso; omega
  · rcases p2 with ⟨n2, r2, m⟩ | ⟨x2, n2, r2, m⟩ | ⟨j2, b1, b2, b3, ans2, m⟩
    · exact absurd ⟨j, Nat.zero_le _, a1, a2⟩ n2
    · exfalso; omega
    · obtain rfl := nI_u a2 b2 (by omega) (by omega)
      rw [one_per (R := R) (hv.2.1.2.1 (R 0) (Nat.le_refl _) (by omega)) (by omega)] at m
      exact ⟨by rw [ans, ans2, e0], mkSI hcm qq m ⟨vr_per (vr_cut hv) (va_up_self _ _ _) (by omega) (by rw [va_up_ne _ _ (by decide)]; omega), hj0, hj1, ⟨ht, hL, hbt⟩, ⟨hD, hgv, hlf, hvs⟩, hkp, ⟨hhd, hfw, htl, hvl⟩, hAi, hKB, hc0, hc1⟩⟩

set_option maxHeartbeats 1000000 in
theorem op_wrong {Γ : Gam} {G G2 G3 : Nat → va_E} {co mo : Nat} {by0 tv gv Dv lf vs cv V J0 J1 kp rf R K ca rc hd fw tl an vl iv : Nat → Nat} (hcm : co + 76 ≤ mo) (S : sR by0 tv gv Dv lf vs cv V J0 J1 kp R K hd fw tl an vl iv) {kind a b gr : Int32} {z z2 : Int32} (p1 : ((¬ (vRng 0 5 kind ∧ vBel (V 0) a ∧ vBel (V 0) b ∧ ¬ a = b ∧ vRng 1 9 gr)) ∧ (z = -2) ∧ isO Γ G2 co kp (bmp rf 0) ∧ isT Γ G2 (co + 3) by0 tv ∧ isRd Γ G2 (co + 5) gv ∧ isV Γ G2 (co + 7) Dv ∧ isRw Γ G2 (co + 23) lf ∧ isGs Γ G2 (co + 25) vs ∧ isCh Γ G2 (co + 27) cv ∧ isV Γ G2 (co + 28) V ∧ isV Γ G2 (co + 44) J0 ∧ isV Γ G2 (co + 60) J1 ∧ fr G G2 (co + 0) (co + 76)) ∨ ((vRng 0 5 kind ∧ vBel (V 0) a ∧ vBel (V 0) b ∧ ¬ a = b ∧ vRng 1 9 gr) ∧ (V 1 = 8) ∧ (z = -4) ∧ isO Γ G2 co kp (bmp rf 2) ∧ isT Γ G2 (co + 3) by0 tv ∧ isRd Γ G2 (co + 5) gv ∧ isV Γ G2 (co + 7) Dv ∧ isRw Γ G2 (co + 23) lf ∧ isGs Γ G2 (co + 25) vs ∧ isCh Γ G2 (co + 27) cv ∧ isV Γ G2 (co + 28) V ∧ isV Γ G2 (co + 44) J0 ∧ isV Γ G2 (co + 60) J1 ∧ fr G G2 (co + 0) (co + 76)) ∨ (∃ j ja jb jg : Nat, (j ≤ 5) ∧ (kind = nI j) ∧ (ja < V 0) ∧ (a = nI ja) ∧ (jb < V 0) ∧ (b = nI jb) ∧ (¬ ja = jb) ∧ (1 ≤ jg) ∧ (jg ≤ 9) ∧ (gr = nI jg) ∧ (¬ V 1 = 8) ∧ (z = nI (V 1)) ∧ isO Γ G2 co kp rf ∧ isT Γ G2 (co + 3) by0 tv ∧ isRd Γ G2 (co + 5) gv ∧ isV Γ G2 (co + 7) Dv ∧ isRw Γ G2 (co + 23) lf ∧ isGs Γ G2 (co + 25) vs ∧ isCh Γ G2 (co + 27) cv ∧ isV Γ G2 (co + 28) (layR (va_up V 5 0) j ja jb jg) ∧ isV Γ G2 (co + 44) J0 ∧ isV Γ G2 (co + 60) J1 ∧ fr G G2 (co + 0) (co + 76))) (p2 : ((¬ (vRng 0 5 kind ∧ vBel (R 0) a ∧ vBel (R 0) b ∧ ¬ a = b ∧ vRng 1 9 gr)) ∧ (z2 = -2) ∧ isM Γ G3 mo R K kp (bmp rf 0) ca rc hd fw tl by0 an vl iv ∧ fr G2 G3 mo (mo + 13)) ∨ ((vRng 0 5 kind ∧ vBel (R 0) a ∧ vBel (R 0) b ∧ ¬ a = b ∧ vRng 1 9 gr) ∧ (R 1 = 8) ∧ (z2 = -4) ∧ isM Γ G3 mo R K kp (bmp rf 2) ca rc hd fw tl by0 an vl iv ∧ fr G2 G3 mo (mo + 13)) ∨ (∃ j ja jb jg : Nat, (j ≤ 5) ∧ (kind = nI j) ∧ (ja < R 0) ∧ (a = nI ja) ∧ (jb < R 0) ∧ (b = nI jb) ∧ (¬ ja = jb) ∧ (1 ≤ jg) ∧ (jg ≤ 9) ∧ (gr = nI jg) ∧ (¬ R 1 = 8) ∧ (z2 = nI (R 1)) ∧ isM Γ G3 mo (wrongR R j ja jb jg) K kp rf ca rc hd fw tl by0 an vl iv ∧ fr G2 G3 mo (mo + 13))) : z = z2 ∧ SI Γ G3 co mo := by
  have S0 := S
  obtain ⟨hv, hj0, hj1, ⟨ht, hL, hbt⟩, ⟨hD, hgv, hlf, hvs⟩, hkp, ⟨hhd, hfw, htl, hvl⟩, hAi, hKB, hc0, hc1⟩ := S
  have c := hv.2.2
  have hG := hv.1.1
  have hR := hv.2.1.1.1
  have e0 := c.1 0 (by omega)
  have e1 := c.1 1 (by omega)
  have e2 := c.1 2 (by omega)
  have e3 := c.1 3 (by omega)
  have e4 := c.1 4 (by omega)
  have e5 := c.1 5 (by omega)
  have e20 := c.2.1
  have e21 := c.2.2.1
  have i2 := hG.1.2.1
  have i3 := hG.1.2.2.1
  rcases p1 with ⟨n1, r1, qq⟩ | ⟨x1, n1, r1, qq⟩ | ⟨j, ja, jb, jg, a1, a2, a3, a4, a5, a6, a7, a8, a9, a10, a11, ans, qq⟩
  · rcases p2 with ⟨n2, r2, m⟩ | ⟨x2, n2, r2, m⟩ | ⟨j2, ja2, jb2, jg2, b1, b2, b3, b4, b5, b6, b7, b8, b9, b10, b11, ans2, m⟩
    · exact ⟨r1.trans r2.symm, mkSI hcm qq m S0⟩
    · exact absurd (by first | exact x2 | (rw [e0]; exact x2) | (rw [e1]; exact x2)) n1
    · exact absurd ⟨⟨j2, Nat.zero_le _, b1, b2⟩, ⟨ja2, by omega, b4⟩, ⟨jb2, by omega, b6⟩, fun hh => b7 (nI_u b4 (hh.trans b6) (by omega) (by omega)), ⟨jg2, b8, b9, b10⟩⟩ n1
  · rcases p2 with ⟨n2, r2, m⟩ | ⟨x2, n2, r2, m⟩ | ⟨j2, ja2, jb2, jg2, b1, b2, b3, b4, b5, b6, b7, b8, b9, b10, b11, ans2, m⟩
    · exact absurd (by first | exact x1 | (rw [← e0]; exact x1) | (rw [← e1]; exact x1)) n2
    · exact ⟨r1.trans r2.symm, mkSI hcm qq m S0⟩
    · exfalso; omega
  · rcases p2 with ⟨n2, r2, m⟩ | ⟨x2, n2, r2, m⟩ | ⟨j2, ja2, jb2, jg2, b1, b2, b3, b4, b5, b6, b7, b8, b9, b10, b11, ans2, m⟩
    · exact absurd ⟨⟨j, Nat.zero_le _, a1, a2⟩, ⟨ja, by omega, a4⟩, ⟨jb, by omega, a6⟩, fun hh => a7 (nI_u a4 (hh.trans a6) (by omega) (by omega)), ⟨jg, a8, a9, a10⟩⟩ n2
    · exfalso; omega
    · obtain rfl := nI_u a2 b2 (by omega) (by omega)
      obtain rfl := nI_u a4 b4 (by omega) (by omega)
      obtain rfl := nI_u a6 b6 (by omega) (by omega)
      obtain rfl := nI_u a10 b10 (by omega) (by omega)
      rw [wrong_lay] at m
      exact ⟨by rw [ans, ans2, e1], mkSI hcm qq m ⟨vr_lay (vr_cut hv) (va_up_self _ _ _) (by omega) (by rw [va_up_ne _ _ (by decide)]; exact a3) (by rw [va_up_ne _ _ (by decide)]; exact a5) a9 (by rw [va_up_ne _ _ (by decide)]; omega), hj0, hj1, ⟨ht, hL, hbt⟩, ⟨hD, hgv, hlf, hvs⟩, hkp, ⟨hhd, hfw, htl, hvl⟩, hAi, hKB, hc0, hc1⟩⟩

set_option maxHeartbeats 1000000 in
theorem op_days {Γ : Gam} {G G2 G3 : Nat → va_E} {co mo : Nat} {by0 tv gv Dv lf vs cv V J0 J1 kp rf R K ca rc hd fw tl an vl iv : Nat → Nat} (hcm : co + 76 ≤ mo) (S : sR by0 tv gv Dv lf vs cv V J0 J1 kp R K hd fw tl an vl iv) {q : Int32} {z z2 : Int32} (p1 : ((¬ vRng 1 60 q) ∧ (z = -2) ∧ isO Γ G2 co kp (bmp rf 0) ∧ isT Γ G2 (co + 3) by0 tv ∧ isRd Γ G2 (co + 5) gv ∧ isV Γ G2 (co + 7) Dv ∧ isRw Γ G2 (co + 23) lf ∧ isGs Γ G2 (co + 25) vs ∧ isCh Γ G2 (co + 27) cv ∧ isV Γ G2 (co + 28) V ∧ isV Γ G2 (co + 44) J0 ∧ isV Γ G2 (co + 60) J1 ∧ fr G G2 (co + 0) (co + 76)) ∨ (∃ jq : Nat, (1 ≤ jq) ∧ (jq ≤ 60) ∧ (q = nI jq) ∧ (z = nI (pasV (saveR V) (min jq (999 - V 21)) 21)) ∧ isO Γ G2 co kp rf ∧ isT Γ G2 (co + 3) by0 tv ∧ isRd Γ G2 (co + 5) gv ∧ isV Γ G2 (co + 7) Dv ∧ isRw Γ G2 (co + 23) lf ∧ isGs Γ G2 (co + 25) vs ∧ isCh Γ G2 (co + 27) cv ∧ isV Γ G2 (co + 28) (pasV (saveR V) (min jq (999 - V 21))) ∧ isV Γ G2 (co + 44) J0 ∧ isV Γ G2 (co + 60) J1 ∧ fr G G2 (co + 0) (co + 76))) (p2 : ((¬ vRng 1 60 q) ∧ (z2 = -2) ∧ isM Γ G3 mo R K kp (bmp rf 0) ca rc hd fw tl by0 an vl iv ∧ fr G2 G3 mo (mo + 13)) ∨ (∃ jq : Nat, (1 ≤ jq) ∧ (jq ≤ 60) ∧ (q = nI jq) ∧ (z2 = nI (itD (saveR R) (min jq (999 - R 21)) 21)) ∧ isM Γ G3 mo (itD (saveR R) (min jq (999 - R 21))) K kp rf ca rc hd fw tl by0 an vl iv ∧ fr G2 G3 mo (mo + 13))) : z = z2 ∧ SI Γ G3 co mo := by
  have S0 := S
  obtain ⟨hv, hj0, hj1, ⟨ht, hL, hbt⟩, ⟨hD, hgv, hlf, hvs⟩, hkp, ⟨hhd, hfw, htl, hvl⟩, hAi, hKB, hc0, hc1⟩ := S
  have c := hv.2.2
  have hG := hv.1.1
  have hR := hv.2.1.1.1
  have e0 := c.1 0 (by omega)
  have e1 := c.1 1 (by omega)
  have e2 := c.1 2 (by omega)
  have e3 := c.1 3 (by omega)
  have e4 := c.1 4 (by omega)
  have e5 := c.1 5 (by omega)
  have e20 := c.2.1
  have e21 := c.2.2.1
  have i2 := hG.1.2.1
  have i3 := hG.1.2.2.1
  rcases p1 with ⟨n1, r1, qq⟩ | ⟨jq, a1, a2, a3, ans, qq⟩
  · rcases p2 with ⟨n2, r2, m⟩ | ⟨jq2, b1, b2, b3, ans2, m⟩
    · exact ⟨r1.trans r2.symm, mkSI hcm qq m S0⟩
    · exact absurd ⟨jq2, b1, b2, b3⟩ n1
  · rcases p2 with ⟨n2, r2, m⟩ | ⟨jq2, b1, b2, b3, ans2, m⟩
    · exact absurd ⟨jq, a1, a2, a3⟩ n2
    · obtain rfl := nI_u a3 b3 (by omega) (by omega)
      have h21 := hG.2.1
      have hs := vr_save hv
      have hs21 : saveR V 21 = V 21 := saveR_o (by decide) (by decide)
      rw [it_live hs.2.1.1.1, ← e21] at ans2 m
      have hp := vr_pas hs (q := min jq (999 - V 21)) (by omega)
      exact ⟨by rw [ans, ans2, hp.2.2.2.2.1], mkSI hcm qq m ⟨hp, hj0, hj1, ⟨ht, hL, hbt⟩, ⟨hD, hgv, hlf, hvs⟩, hkp, ⟨hhd, hfw, htl, hvl⟩, hAi, hKB, hc0, hc1⟩⟩

set_option maxHeartbeats 1000000 in
theorem op_rings {Γ : Gam} {G G2 G3 : Nat → va_E} {co mo : Nat} {by0 tv gv Dv lf vs cv V J0 J1 kp rf R K ca rc hd fw tl an vl iv : Nat → Nat} (hcm : co + 76 ≤ mo) (S : sR by0 tv gv Dv lf vs cv V J0 J1 kp R K hd fw tl an vl iv) {k : Int32} {z z2 : Int32} (p1 : ((¬ vBel (V 1) k) ∧ (z = -2) ∧ isO Γ G2 co kp (bmp rf 0) ∧ isT Γ G2 (co + 3) by0 tv ∧ isRd Γ G2 (co + 5) gv ∧ isV Γ G2 (co + 7) Dv ∧ isRw Γ G2 (co + 23) lf ∧ isGs Γ G2 (co + 25) vs ∧ isCh Γ G2 (co + 27) cv ∧ isV Γ G2 (co + 28) V ∧ isV Γ G2 (co + 44) J0 ∧ isV Γ G2 (co + 60) J1 ∧ fr G G2 (co + 0) (co + 76)) ∨ (∃ jk : Nat, (jk < V 1) ∧ (k = nI jk) ∧ (¬ cn V jk) ∧ (z = -3) ∧ isO Γ G2 co kp (bmp rf 1) ∧ isT Γ G2 (co + 3) by0 tv ∧ isRd Γ G2 (co + 5) gv ∧ isV Γ G2 (co + 7) Dv ∧ isRw Γ G2 (co + 23) lf ∧ isGs Γ G2 (co + 25) vs ∧ isCh Γ G2 (co + 27) cv ∧ isV Γ G2 (co + 28) V ∧ isV Γ G2 (co + 44) J0 ∧ isV Γ G2 (co + 60) J1 ∧ fr G G2 (co + 0) (co + 76)) ∨ (∃ jk : Nat, (jk < V 1) ∧ (k = nI jk) ∧ (cn V jk) ∧ (z = nI (V (6 + V (36 + jk)) + 1)) ∧ isO Γ G2 co kp rf ∧ isT Γ G2 (co + 3) by0 tv ∧ isRd Γ G2 (co + 5) gv ∧ isV Γ G2 (co + 7) Dv ∧ isRw Γ G2 (co + 23) lf ∧ isGs Γ G2 (co + 25) vs ∧ isCh Γ G2 (co + 27) cv ∧ isV Γ G2 (co + 28) (stkV (saveR V) jk) ∧ isV Γ G2 (co + 44) J0 ∧ isV Γ G2 (co + 60) J1 ∧ fr G G2 (co + 0) (co + 76))) (p2 : ((¬ vBel (R 1) k) ∧ (z2 = -2) ∧ isM Γ G3 mo R K kp (bmp rf 0) ca rc hd fw tl by0 an vl iv ∧ fr G2 G3 mo (mo + 13)) ∨ (∃ jk : Nat, (jk < R 1) ∧ (k = nI jk) ∧ (¬ canP R jk) ∧ (z2 = -3) ∧ isM Γ G3 mo R K kp (bmp rf 1) ca rc hd fw tl by0 an vl iv ∧ fr G2 G3 mo (mo + 13)) ∨ (∃ jk : Nat, (jk < R 1) ∧ (k = nI jk) ∧ (canP R jk) ∧ (z2 = nI (offR (saveR R) jk 1 (6 + R (36 + jk)))) ∧ isM Γ G3 mo (offR (saveR R) jk 1) K kp rf ca rc hd fw tl by0 an vl iv ∧ fr G2 G3 mo (mo + 13))) : z = z2 ∧ SI Γ G3 co mo := by
  have S0 := S
  obtain ⟨hv, hj0, hj1, ⟨ht, hL, hbt⟩, ⟨hD, hgv, hlf, hvs⟩, hkp, ⟨hhd, hfw, htl, hvl⟩, hAi, hKB, hc0, hc1⟩ := S
  have c := hv.2.2
  have hG := hv.1.1
  have hR := hv.2.1.1.1
  have e0 := c.1 0 (by omega)
  have e1 := c.1 1 (by omega)
  have e2 := c.1 2 (by omega)
  have e3 := c.1 3 (by omega)
  have e4 := c.1 4 (by omega)
  have e5 := c.1 5 (by omega)
  have e20 := c.2.1
  have e21 := c.2.2.1
  have i2 := hG.1.2.1
  have i3 := hG.1.2.2.1
  rcases p1 with ⟨n1, r1, qq⟩ | ⟨jk, a1, a2, a3, ans, qq⟩ | ⟨jk, a1, a2, a3, ans, qq⟩
  · rcases p2 with ⟨n2, r2, m⟩ | ⟨jk2, b1, b2, b3, ans2, m⟩ | ⟨jk2, b1, b2, b3, ans2, m⟩
    · exact ⟨r1.trans r2.symm, mkSI hcm qq m S0⟩
    · exact absurd ⟨jk2, by omega, b2⟩ n1
    · exact absurd ⟨jk2, by omega, b2⟩ n1
  · rcases p2 with ⟨n2, r2, m⟩ | ⟨jk2, b1, b2, b3, ans2, m⟩ | ⟨jk2, b1, b2, b3, ans2, m⟩
    · exact absurd ⟨jk, by omega, a2⟩ n2
    · exact ⟨ans.trans ans2.symm, mkSI hcm qq m S0⟩
    · obtain rfl := nI_u a2 b2 (by omega) (by omega)
      exact absurd ((an_cn c hG hR a1).mpr b3) a3
  · rcases p2 with ⟨n2, r2, m⟩ | ⟨jk2, b1, b2, b3, ans2, m⟩ | ⟨jk2, b1, b2, b3, ans2, m⟩
    · exact absurd ⟨jk, by omega, a2⟩ n2
    · obtain rfl := nI_u a2 b2 (by omega) (by omega)
      exact absurd ((an_cn c hG hR a1).mp a3) b3
    · obtain rfl := nI_u a2 b2 (by omega) (by omega)
      have hs := vr_save hv
      have s1 : saveR V 1 = V 1 := saveR_o (by decide) (by decide)
      have s1r : saveR R 1 = R 1 := saveR_o (by decide) (by decide)
      have s20 : saveR V 20 = V 20 := saveR_o (by decide) (by decide)
      have sw : saveR V (36 + jk) = V (36 + jk) := saveR_o (by omega) (by omega)
      have swr : saveR R (36 + jk) = R (36 + jk) := saveR_o (by omega) (by omega)
      have hw0 := (hG.2.2.2.1 jk a1).1
      have ew := (c.2.2.2.2.1 jk a1).2.1
      have sr : saveR V (6 + V (36 + jk)) = V (6 + V (36 + jk)) := saveR_o (by omega) (by omega)
      rw [off_stk hs.2.1.1.1 (show jk < saveR R 1 by omega)] at ans2 m
      have hp := vr_stk hs (k := jk) (by omega) (by rw [s20]; exact fun z => a3.1 ((bt_orr _ _ _).mpr (Or.inl z)))
      refine ⟨?_, mkSI hcm qq m ⟨hp, hj0, hj1, ⟨ht, hL, hbt⟩, ⟨hD, hgv, hlf, hvs⟩, hkp, ⟨hhd, hfw, htl, hvl⟩, hAi, hKB, hc0, hc1⟩⟩
      have er := (hs.2.2.2.2.2.1 (V (36 + jk)) (by rw [saveR_o (by decide) (by decide)]; exact hw0)).2
      rw [ans, ans2, stk_at, swr, if_pos rfl, ← ew, ← er, sr]

set_option maxHeartbeats 1000000 in
theorem op_undo {Γ : Gam} {G G2 G3 : Nat → va_E} {co mo : Nat} {by0 tv gv Dv lf vs cv V J0 J1 kp rf R K ca rc hd fw tl an vl iv : Nat → Nat} (hcm : co + 76 ≤ mo) (S : sR by0 tv gv Dv lf vs cv V J0 J1 kp R K hd fw tl an vl iv) {z z2 : Int32} (p1 : ((V 5 = 0) ∧ (z = -3) ∧ isO Γ G2 co kp (bmp rf 1) ∧ isT Γ G2 (co + 3) by0 tv ∧ isRd Γ G2 (co + 5) gv ∧ isV Γ G2 (co + 7) Dv ∧ isRw Γ G2 (co + 23) lf ∧ isGs Γ G2 (co + 25) vs ∧ isCh Γ G2 (co + 27) cv ∧ isV Γ G2 (co + 28) V ∧ isV Γ G2 (co + 44) J0 ∧ isV Γ G2 (co + 60) J1 ∧ fr G G2 (co + 0) (co + 76)) ∨ ((¬ V 5 = 0) ∧ (z = nI (popR V 21)) ∧ isO Γ G2 co kp rf ∧ isT Γ G2 (co + 3) by0 tv ∧ isRd Γ G2 (co + 5) gv ∧ isV Γ G2 (co + 7) Dv ∧ isRw Γ G2 (co + 23) lf ∧ isGs Γ G2 (co + 25) vs ∧ isCh Γ G2 (co + 27) cv ∧ isV Γ G2 (co + 28) (popR V) ∧ isV Γ G2 (co + 44) J0 ∧ isV Γ G2 (co + 60) J1 ∧ fr G G2 (co + 0) (co + 76))) (p2 : ((R 5 = 0) ∧ (z2 = -3) ∧ isM Γ G3 mo R K kp (bmp rf 1) ca rc hd fw tl by0 an vl iv ∧ fr G2 G3 mo (mo + 13)) ∨ ((¬ R 5 = 0) ∧ (z2 = nI (popR R 21)) ∧ isM Γ G3 mo (popR R) K kp rf ca rc hd fw tl by0 an vl iv ∧ fr G2 G3 mo (mo + 13))) : z = z2 ∧ SI Γ G3 co mo := by
  have S0 := S
  obtain ⟨hv, hj0, hj1, ⟨ht, hL, hbt⟩, ⟨hD, hgv, hlf, hvs⟩, hkp, ⟨hhd, hfw, htl, hvl⟩, hAi, hKB, hc0, hc1⟩ := S
  have c := hv.2.2
  have hG := hv.1.1
  have hR := hv.2.1.1.1
  have e0 := c.1 0 (by omega)
  have e1 := c.1 1 (by omega)
  have e2 := c.1 2 (by omega)
  have e3 := c.1 3 (by omega)
  have e4 := c.1 4 (by omega)
  have e5 := c.1 5 (by omega)
  have e20 := c.2.1
  have e21 := c.2.2.1
  have i2 := hG.1.2.1
  have i3 := hG.1.2.2.1
  rcases p1 with ⟨n1, r1, qq⟩ | ⟨n1, r1, qq⟩
  · rcases p2 with ⟨n2, r2, m⟩ | ⟨n2, r2, m⟩
    · exact ⟨r1.trans r2.symm, mkSI hcm qq m S0⟩
    · exfalso; omega
  · rcases p2 with ⟨n2, r2, m⟩ | ⟨n2, r2, m⟩
    · exfalso; omega
    · have hp := vr_pop hv (by omega)
      exact ⟨by rw [r1, r2, hp.2.2.2.2.1], mkSI hcm qq m ⟨hp, hj0, hj1, ⟨ht, hL, hbt⟩, ⟨hD, hgv, hlf, hvs⟩, hkp, ⟨hhd, hfw, htl, hvl⟩, hAi, hKB, hc0, hc1⟩⟩

set_option maxHeartbeats 1000000 in
theorem op_seen {Γ : Gam} {G G2 G3 : Nat → va_E} {co mo : Nat} {by0 tv gv Dv lf vs cv V J0 J1 kp rf R K ca rc hd fw tl an vl iv : Nat → Nat} (hcm : co + 76 ≤ mo) (S : sR by0 tv gv Dv lf vs cv V J0 J1 kp R K hd fw tl an vl iv) {k d lm off : Int32} {z z2 : Int32} (p1 : ((¬ (vBel (V 1) k ∧ vRng 0 99 d ∧ vRng 0 40 lm ∧ vRng 0 1 off)) ∧ (z = -2) ∧ isO Γ G2 co kp (bmp rf 0) ∧ isT Γ G2 (co + 3) by0 tv ∧ isRd Γ G2 (co + 5) gv ∧ isV Γ G2 (co + 7) Dv ∧ isRw Γ G2 (co + 23) lf ∧ isGs Γ G2 (co + 25) vs ∧ isCh Γ G2 (co + 27) cv ∧ isV Γ G2 (co + 28) V ∧ isV Γ G2 (co + 44) J0 ∧ isV Γ G2 (co + 60) J1 ∧ fr G G2 (co + 0) (co + 76)) ∨ ((vBel (V 1) k ∧ vRng 0 99 d ∧ vRng 0 40 lm ∧ vRng 0 1 off) ∧ (V 2 = 5) ∧ (z = -4) ∧ isO Γ G2 co kp (bmp rf 2) ∧ isT Γ G2 (co + 3) by0 tv ∧ isRd Γ G2 (co + 5) gv ∧ isV Γ G2 (co + 7) Dv ∧ isRw Γ G2 (co + 23) lf ∧ isGs Γ G2 (co + 25) vs ∧ isCh Γ G2 (co + 27) cv ∧ isV Γ G2 (co + 28) V ∧ isV Γ G2 (co + 44) J0 ∧ isV Γ G2 (co + 60) J1 ∧ fr G G2 (co + 0) (co + 76)) ∨ (∃ jk jd jlm joff : Nat, (jk < V 1) ∧ (k = nI jk) ∧ (0 ≤ jd) ∧ (jd ≤ 99) ∧ (d = nI jd) ∧ (0 ≤ jlm) ∧ (jlm ≤ 40) ∧ (lm = nI jlm) ∧ (0 ≤ joff) ∧ (joff ≤ 1) ∧ (off = nI joff) ∧ (¬ V 2 = 5) ∧ (z = nI (V 2 + 1)) ∧ isO Γ G2 co kp rf ∧ isT Γ G2 (co + 3) by0 tv ∧ isRd Γ G2 (co + 5) gv ∧ isV Γ G2 (co + 7) Dv ∧ isRw Γ G2 (co + 23) lf ∧ isGs Γ G2 (co + 25) vs ∧ isCh Γ G2 (co + 27) cv ∧ isV Γ G2 (co + 28) (addV V 2 60 jk jd jlm joff) ∧ isV Γ G2 (co + 44) J0 ∧ isV Γ G2 (co + 60) J1 ∧ fr G G2 (co + 0) (co + 76))) (p2 : ((¬ (vBel (R 1) k ∧ vRng 0 99 d ∧ vRng 0 40 lm ∧ vRng 0 1 off)) ∧ (z2 = -2) ∧ isM Γ G3 mo R K kp (bmp rf 0) ca rc hd fw tl by0 an vl iv ∧ fr G2 G3 mo (mo + 13)) ∨ ((vBel (R 1) k ∧ vRng 0 99 d ∧ vRng 0 40 lm ∧ vRng 0 1 off) ∧ (R 2 = 5) ∧ (z2 = -4) ∧ isM Γ G3 mo R K kp (bmp rf 2) ca rc hd fw tl by0 an vl iv ∧ fr G2 G3 mo (mo + 13)) ∨ (∃ jk jd jlm joff : Nat, (jk < R 1) ∧ (k = nI jk) ∧ (0 ≤ jd) ∧ (jd ≤ 99) ∧ (d = nI jd) ∧ (0 ≤ jlm) ∧ (jlm ≤ 40) ∧ (lm = nI jlm) ∧ (0 ≤ joff) ∧ (joff ≤ 1) ∧ (off = nI joff) ∧ (¬ R 2 = 5) ∧ (z2 = nI (R 2 + 1)) ∧ isM Γ G3 mo (addR R 2 60 jk jd jlm joff) K kp rf ca rc hd fw tl by0 an vl iv ∧ fr G2 G3 mo (mo + 13))) : z = z2 ∧ SI Γ G3 co mo := by
  have S0 := S
  obtain ⟨hv, hj0, hj1, ⟨ht, hL, hbt⟩, ⟨hD, hgv, hlf, hvs⟩, hkp, ⟨hhd, hfw, htl, hvl⟩, hAi, hKB, hc0, hc1⟩ := S
  have c := hv.2.2
  have hG := hv.1.1
  have hR := hv.2.1.1.1
  have e0 := c.1 0 (by omega)
  have e1 := c.1 1 (by omega)
  have e2 := c.1 2 (by omega)
  have e3 := c.1 3 (by omega)
  have e4 := c.1 4 (by omega)
  have e5 := c.1 5 (by omega)
  have e20 := c.2.1
  have e21 := c.2.2.1
  have i2 := hG.1.2.1
  have i3 := hG.1.2.2.1
  rcases p1 with ⟨n1, r1, qq⟩ | ⟨x1, n1, r1, qq⟩ | ⟨jk, jd, jlm, joff, a1, a2, a3, a4, a5, a6, a7, a8, a9, a10, a11, a12, ans, qq⟩
  · rcases p2 with ⟨n2, r2, m⟩ | ⟨x2, n2, r2, m⟩ | ⟨u1, u2, u3, u4, b1, b2, b3, b4, b5, b6, b7, b8, b9, b10, b11, b12, ans2, m⟩
    · exact ⟨r1.trans r2.symm, mkSI hcm qq m S0⟩
    · exact absurd (by first | exact x2 | (rw [e0]; exact x2) | (rw [e1]; exact x2)) n1
    · exact absurd ⟨⟨u1, by omega, b2⟩, ⟨u2, b3, b4, b5⟩, ⟨u3, b6, b7, b8⟩, ⟨u4, b9, b10, b11⟩⟩ n1
  · rcases p2 with ⟨n2, r2, m⟩ | ⟨x2, n2, r2, m⟩ | ⟨u1, u2, u3, u4, b1, b2, b3, b4, b5, b6, b7, b8, b9, b10, b11, b12, ans2, m⟩
    · exact absurd (by first | exact x1 | (rw [← e0]; exact x1) | (rw [← e1]; exact x1)) n2
    · exact ⟨r1.trans r2.symm, mkSI hcm qq m S0⟩
    · exfalso; omega
  · rcases p2 with ⟨n2, r2, m⟩ | ⟨x2, n2, r2, m⟩ | ⟨u1, u2, u3, u4, b1, b2, b3, b4, b5, b6, b7, b8, b9, b10, b11, b12, ans2, m⟩
    · exact absurd ⟨⟨jk, by omega, a2⟩, ⟨jd, a3, a4, a5⟩, ⟨jlm, a6, a7, a8⟩, ⟨joff, a9, a10, a11⟩⟩ n2
    · exfalso; omega
    · obtain rfl := nI_u a2 b2 (by omega) (by omega)
      obtain rfl := nI_u a5 b5 (by omega) (by omega)
      obtain rfl := nI_u a8 b8 (by omega) (by omega)
      obtain rfl := nI_u a11 b11 (by omega) (by omega)
      rw [add_r] at m
      have z2 := hG.1.2.2.2.1
      have z3 := hG.1.2.2.2.2.1
      have z4 := hG.1.2.2.2.2.2.1
      exact ⟨by rw [ans, ans2, e2], mkSI hcm qq m ⟨vr_add hv (sz := 2) (off := 60) (by omega) (by omega) (by omega) (by omega) (by omega), hj0, hj1, ⟨ht, hL, hbt⟩, ⟨hD, hgv, hlf, hvs⟩, hkp, ⟨hhd, hfw, htl, hvl⟩, hAi, hKB, hc0, hc1⟩⟩

set_option maxHeartbeats 1000000 in
theorem op_note {Γ : Gam} {G G2 G3 : Nat → va_E} {co mo : Nat} {by0 tv gv Dv lf vs cv V J0 J1 kp rf R K ca rc hd fw tl an vl iv : Nat → Nat} (hcm : co + 76 ≤ mo) (S : sR by0 tv gv Dv lf vs cv V J0 J1 kp R K hd fw tl an vl iv) {k g d x1 : Int32} {z z2 : Int32} (p1 : ((¬ (vBel (V 1) k ∧ vRng 1 9 g ∧ vRng 0 99 d ∧ vRng 0 40 x1)) ∧ (z = -2) ∧ isO Γ G2 co kp (bmp rf 0) ∧ isT Γ G2 (co + 3) by0 tv ∧ isRd Γ G2 (co + 5) gv ∧ isV Γ G2 (co + 7) Dv ∧ isRw Γ G2 (co + 23) lf ∧ isGs Γ G2 (co + 25) vs ∧ isCh Γ G2 (co + 27) cv ∧ isV Γ G2 (co + 28) V ∧ isV Γ G2 (co + 44) J0 ∧ isV Γ G2 (co + 60) J1 ∧ fr G G2 (co + 0) (co + 76)) ∨ ((vBel (V 1) k ∧ vRng 1 9 g ∧ vRng 0 99 d ∧ vRng 0 40 x1) ∧ (V 3 = 6) ∧ (z = -4) ∧ isO Γ G2 co kp (bmp rf 2) ∧ isT Γ G2 (co + 3) by0 tv ∧ isRd Γ G2 (co + 5) gv ∧ isV Γ G2 (co + 7) Dv ∧ isRw Γ G2 (co + 23) lf ∧ isGs Γ G2 (co + 25) vs ∧ isCh Γ G2 (co + 27) cv ∧ isV Γ G2 (co + 28) V ∧ isV Γ G2 (co + 44) J0 ∧ isV Γ G2 (co + 60) J1 ∧ fr G G2 (co + 0) (co + 76)) ∨ (∃ jk jg jd jx1 : Nat, (jk < V 1) ∧ (k = nI jk) ∧ (1 ≤ jg) ∧ (jg ≤ 9) ∧ (g = nI jg) ∧ (0 ≤ jd) ∧ (jd ≤ 99) ∧ (d = nI jd) ∧ (0 ≤ jx1) ∧ (jx1 ≤ 40) ∧ (x1 = nI jx1) ∧ (¬ V 3 = 6) ∧ (z = nI (V 3 + 1)) ∧ isO Γ G2 co kp rf ∧ isT Γ G2 (co + 3) by0 tv ∧ isRd Γ G2 (co + 5) gv ∧ isV Γ G2 (co + 7) Dv ∧ isRw Γ G2 (co + 23) lf ∧ isGs Γ G2 (co + 25) vs ∧ isCh Γ G2 (co + 27) cv ∧ isV Γ G2 (co + 28) (addV V 3 80 jk jg jd jx1) ∧ isV Γ G2 (co + 44) J0 ∧ isV Γ G2 (co + 60) J1 ∧ fr G G2 (co + 0) (co + 76))) (p2 : ((¬ (vBel (R 1) k ∧ vRng 1 9 g ∧ vRng 0 99 d ∧ vRng 0 40 x1)) ∧ (z2 = -2) ∧ isM Γ G3 mo R K kp (bmp rf 0) ca rc hd fw tl by0 an vl iv ∧ fr G2 G3 mo (mo + 13)) ∨ ((vBel (R 1) k ∧ vRng 1 9 g ∧ vRng 0 99 d ∧ vRng 0 40 x1) ∧ (R 3 = 6) ∧ (z2 = -4) ∧ isM Γ G3 mo R K kp (bmp rf 2) ca rc hd fw tl by0 an vl iv ∧ fr G2 G3 mo (mo + 13)) ∨ (∃ jk jg jd jx : Nat, (jk < R 1) ∧ (k = nI jk) ∧ (1 ≤ jg) ∧ (jg ≤ 9) ∧ (g = nI jg) ∧ (0 ≤ jd) ∧ (jd ≤ 99) ∧ (d = nI jd) ∧ (0 ≤ jx) ∧ (jx ≤ 40) ∧ (x1 = nI jx) ∧ (¬ R 3 = 6) ∧ (z2 = nI (R 3 + 1)) ∧ isM Γ G3 mo (addR R 3 80 jk jg jd jx) K kp rf ca rc hd fw tl by0 an vl iv ∧ fr G2 G3 mo (mo + 13))) : z = z2 ∧ SI Γ G3 co mo := by
  have S0 := S
  obtain ⟨hv, hj0, hj1, ⟨ht, hL, hbt⟩, ⟨hD, hgv, hlf, hvs⟩, hkp, ⟨hhd, hfw, htl, hvl⟩, hAi, hKB, hc0, hc1⟩ := S
  have c := hv.2.2
  have hG := hv.1.1
  have hR := hv.2.1.1.1
  have e0 := c.1 0 (by omega)
  have e1 := c.1 1 (by omega)
  have e2 := c.1 2 (by omega)
  have e3 := c.1 3 (by omega)
  have e4 := c.1 4 (by omega)
  have e5 := c.1 5 (by omega)
  have e20 := c.2.1
  have e21 := c.2.2.1
  have i2 := hG.1.2.1
  have i3 := hG.1.2.2.1
  rcases p1 with ⟨n1, r1, qq⟩ | ⟨x1, n1, r1, qq⟩ | ⟨jk, jg, jd, jx1, a1, a2, a3, a4, a5, a6, a7, a8, a9, a10, a11, a12, ans, qq⟩
  · rcases p2 with ⟨n2, r2, m⟩ | ⟨x2, n2, r2, m⟩ | ⟨u1, u2, u3, u4, b1, b2, b3, b4, b5, b6, b7, b8, b9, b10, b11, b12, ans2, m⟩
    · exact ⟨r1.trans r2.symm, mkSI hcm qq m S0⟩
    · exact absurd (by first | exact x2 | (rw [e0]; exact x2) | (rw [e1]; exact x2)) n1
    · exact absurd ⟨⟨u1, by omega, b2⟩, ⟨u2, b3, b4, b5⟩, ⟨u3, b6, b7, b8⟩, ⟨u4, b9, b10, b11⟩⟩ n1
  · rcases p2 with ⟨n2, r2, m⟩ | ⟨x2, n2, r2, m⟩ | ⟨u1, u2, u3, u4, b1, b2, b3, b4, b5, b6, b7, b8, b9, b10, b11, b12, ans2, m⟩
    · exact absurd (by first | exact x1 | (rw [← e0]; exact x1) | (rw [← e1]; exact x1)) n2
    · exact ⟨r1.trans r2.symm, mkSI hcm qq m S0⟩
    · exfalso; omega
  · rcases p2 with ⟨n2, r2, m⟩ | ⟨x2, n2, r2, m⟩ | ⟨u1, u2, u3, u4, b1, b2, b3, b4, b5, b6, b7, b8, b9, b10, b11, b12, ans2, m⟩
    · exact absurd ⟨⟨jk, by omega, a2⟩, ⟨jg, a3, a4, a5⟩, ⟨jd, a6, a7, a8⟩, ⟨jx1, a9, a10, a11⟩⟩ n2
    · exfalso; omega
    · obtain rfl := nI_u a2 b2 (by omega) (by omega)
      obtain rfl := nI_u a5 b5 (by omega) (by omega)
      obtain rfl := nI_u a8 b8 (by omega) (by omega)
      obtain rfl := nI_u a11 b11 (by omega) (by omega)
      rw [add_r] at m
      have z2 := hG.1.2.2.2.1
      have z3 := hG.1.2.2.2.2.1
      have z4 := hG.1.2.2.2.2.2.1
      exact ⟨by rw [ans, ans2, e3], mkSI hcm qq m ⟨vr_add hv (sz := 3) (off := 80) (by omega) (by omega) (by omega) (by omega) (by omega), hj0, hj1, ⟨ht, hL, hbt⟩, ⟨hD, hgv, hlf, hvs⟩, hkp, ⟨hhd, hfw, htl, hvl⟩, hAi, hKB, hc0, hc1⟩⟩

set_option maxHeartbeats 1000000 in
theorem op_mark {Γ : Gam} {G G2 G3 : Nat → va_E} {co mo : Nat} {by0 tv gv Dv lf vs cv V J0 J1 kp rf R K ca rc hd fw tl an vl iv : Nat → Nat} (hcm : co + 76 ≤ mo) (S : sR by0 tv gv Dv lf vs cv V J0 J1 kp R K hd fw tl an vl iv) {i r t x1 : Int32} {z z2 : Int32} (p1 : ((¬ (vBel (V 0) i ∧ vRng 0 9 r ∧ vRng 0 99 t ∧ vRng 0 60 x1)) ∧ (z = -2) ∧ isO Γ G2 co kp (bmp rf 0) ∧ isT Γ G2 (co + 3) by0 tv ∧ isRd Γ G2 (co + 5) gv ∧ isV Γ G2 (co + 7) Dv ∧ isRw Γ G2 (co + 23) lf ∧ isGs Γ G2 (co + 25) vs ∧ isCh Γ G2 (co + 27) cv ∧ isV Γ G2 (co + 28) V ∧ isV Γ G2 (co + 44) J0 ∧ isV Γ G2 (co + 60) J1 ∧ fr G G2 (co + 0) (co + 76)) ∨ ((vBel (V 0) i ∧ vRng 0 9 r ∧ vRng 0 99 t ∧ vRng 0 60 x1) ∧ (V 4 = 6) ∧ (z = -4) ∧ isO Γ G2 co kp (bmp rf 2) ∧ isT Γ G2 (co + 3) by0 tv ∧ isRd Γ G2 (co + 5) gv ∧ isV Γ G2 (co + 7) Dv ∧ isRw Γ G2 (co + 23) lf ∧ isGs Γ G2 (co + 25) vs ∧ isCh Γ G2 (co + 27) cv ∧ isV Γ G2 (co + 28) V ∧ isV Γ G2 (co + 44) J0 ∧ isV Γ G2 (co + 60) J1 ∧ fr G G2 (co + 0) (co + 76)) ∨ (∃ ji jr jt jx1 : Nat, (ji < V 0) ∧ (i = nI ji) ∧ (0 ≤ jr) ∧ (jr ≤ 9) ∧ (r = nI jr) ∧ (0 ≤ jt) ∧ (jt ≤ 99) ∧ (t = nI jt) ∧ (0 ≤ jx1) ∧ (jx1 ≤ 60) ∧ (x1 = nI jx1) ∧ (¬ V 4 = 6) ∧ (z = nI (V 4 + 1)) ∧ isO Γ G2 co kp rf ∧ isT Γ G2 (co + 3) by0 tv ∧ isRd Γ G2 (co + 5) gv ∧ isV Γ G2 (co + 7) Dv ∧ isRw Γ G2 (co + 23) lf ∧ isGs Γ G2 (co + 25) vs ∧ isCh Γ G2 (co + 27) cv ∧ isV Γ G2 (co + 28) (addV V 4 104 ji jr jt jx1) ∧ isV Γ G2 (co + 44) J0 ∧ isV Γ G2 (co + 60) J1 ∧ fr G G2 (co + 0) (co + 76))) (p2 : ((¬ (vBel (R 0) i ∧ vRng 0 9 r ∧ vRng 0 99 t ∧ vRng 0 60 x1)) ∧ (z2 = -2) ∧ isM Γ G3 mo R K kp (bmp rf 0) ca rc hd fw tl by0 an vl iv ∧ fr G2 G3 mo (mo + 13)) ∨ ((vBel (R 0) i ∧ vRng 0 9 r ∧ vRng 0 99 t ∧ vRng 0 60 x1) ∧ (R 4 = 6) ∧ (z2 = -4) ∧ isM Γ G3 mo R K kp (bmp rf 2) ca rc hd fw tl by0 an vl iv ∧ fr G2 G3 mo (mo + 13)) ∨ (∃ ji jr jt jx : Nat, (ji < R 0) ∧ (i = nI ji) ∧ (0 ≤ jr) ∧ (jr ≤ 9) ∧ (r = nI jr) ∧ (0 ≤ jt) ∧ (jt ≤ 99) ∧ (t = nI jt) ∧ (0 ≤ jx) ∧ (jx ≤ 60) ∧ (x1 = nI jx) ∧ (¬ R 4 = 6) ∧ (z2 = nI (R 4 + 1)) ∧ isM Γ G3 mo (addR R 4 104 ji jr jt jx) K kp rf ca rc hd fw tl by0 an vl iv ∧ fr G2 G3 mo (mo + 13))) : z = z2 ∧ SI Γ G3 co mo := by
  have S0 := S
  obtain ⟨hv, hj0, hj1, ⟨ht, hL, hbt⟩, ⟨hD, hgv, hlf, hvs⟩, hkp, ⟨hhd, hfw, htl, hvl⟩, hAi, hKB, hc0, hc1⟩ := S
  have c := hv.2.2
  have hG := hv.1.1
  have hR := hv.2.1.1.1
  have e0 := c.1 0 (by omega)
  have e1 := c.1 1 (by omega)
  have e2 := c.1 2 (by omega)
  have e3 := c.1 3 (by omega)
  have e4 := c.1 4 (by omega)
  have e5 := c.1 5 (by omega)
  have e20 := c.2.1
  have e21 := c.2.2.1
  have i2 := hG.1.2.1
  have i3 := hG.1.2.2.1
  rcases p1 with ⟨n1, r1, qq⟩ | ⟨x1, n1, r1, qq⟩ | ⟨ji, jr, jt, jx1, a1, a2, a3, a4, a5, a6, a7, a8, a9, a10, a11, a12, ans, qq⟩
  · rcases p2 with ⟨n2, r2, m⟩ | ⟨x2, n2, r2, m⟩ | ⟨u1, u2, u3, u4, b1, b2, b3, b4, b5, b6, b7, b8, b9, b10, b11, b12, ans2, m⟩
    · exact ⟨r1.trans r2.symm, mkSI hcm qq m S0⟩
    · exact absurd (by first | exact x2 | (rw [e0]; exact x2) | (rw [e1]; exact x2)) n1
    · exact absurd ⟨⟨u1, by omega, b2⟩, ⟨u2, b3, b4, b5⟩, ⟨u3, b6, b7, b8⟩, ⟨u4, b9, b10, b11⟩⟩ n1
  · rcases p2 with ⟨n2, r2, m⟩ | ⟨x2, n2, r2, m⟩ | ⟨u1, u2, u3, u4, b1, b2, b3, b4, b5, b6, b7, b8, b9, b10, b11, b12, ans2, m⟩
    · exact absurd (by first | exact x1 | (rw [← e0]; exact x1) | (rw [← e1]; exact x1)) n2
    · exact ⟨r1.trans r2.symm, mkSI hcm qq m S0⟩
    · exfalso; omega
  · rcases p2 with ⟨n2, r2, m⟩ | ⟨x2, n2, r2, m⟩ | ⟨u1, u2, u3, u4, b1, b2, b3, b4, b5, b6, b7, b8, b9, b10, b11, b12, ans2, m⟩
    · exact absurd ⟨⟨ji, by omega, a2⟩, ⟨jr, a3, a4, a5⟩, ⟨jt, a6, a7, a8⟩, ⟨jx1, a9, a10, a11⟩⟩ n2
    · exfalso; omega
    · obtain rfl := nI_u a2 b2 (by omega) (by omega)
      obtain rfl := nI_u a5 b5 (by omega) (by omega)
      obtain rfl := nI_u a8 b8 (by omega) (by omega)
      obtain rfl := nI_u a11 b11 (by omega) (by omega)
      rw [add_r] at m
      have z2 := hG.1.2.2.2.1
      have z3 := hG.1.2.2.2.2.1
      have z4 := hG.1.2.2.2.2.2.1
      exact ⟨by rw [ans, ans2, e4], mkSI hcm qq m ⟨vr_add hv (sz := 4) (off := 104) (by omega) (by omega) (by omega) (by omega) (by omega), hj0, hj1, ⟨ht, hL, hbt⟩, ⟨hD, hgv, hlf, hvs⟩, hkp, ⟨hhd, hfw, htl, hvl⟩, hAi, hKB, hc0, hc1⟩⟩

set_option maxHeartbeats 1000000 in
theorem op_forget {Γ : Gam} {G G2 G3 : Nat → va_E} {co mo : Nat} {by0 tv gv Dv lf vs cv V J0 J1 kp rf R K ca rc hd fw tl an vl iv : Nat → Nat} (hcm : co + 76 ≤ mo) (S : sR by0 tv gv Dv lf vs cv V J0 J1 kp R K hd fw tl an vl iv) {what : Int32} {z z2 : Int32} (p1 : ((¬ vRng 0 2 what) ∧ (z = -2) ∧ isO Γ G2 co kp (bmp rf 0) ∧ isT Γ G2 (co + 3) by0 tv ∧ isRd Γ G2 (co + 5) gv ∧ isV Γ G2 (co + 7) Dv ∧ isRw Γ G2 (co + 23) lf ∧ isGs Γ G2 (co + 25) vs ∧ isCh Γ G2 (co + 27) cv ∧ isV Γ G2 (co + 28) V ∧ isV Γ G2 (co + 44) J0 ∧ isV Γ G2 (co + 60) J1 ∧ fr G G2 (co + 0) (co + 76)) ∨ (∃ jw : Nat, (jw ≤ 2) ∧ (what = nI jw) ∧ (z = nI (V (2 + jw))) ∧ isO Γ G2 co kp rf ∧ isT Γ G2 (co + 3) by0 tv ∧ isRd Γ G2 (co + 5) gv ∧ isV Γ G2 (co + 7) Dv ∧ isRw Γ G2 (co + 23) lf ∧ isGs Γ G2 (co + 25) vs ∧ isCh Γ G2 (co + 27) cv ∧ isV Γ G2 (co + 28) (va_up V (2 + jw) 0) ∧ isV Γ G2 (co + 44) J0 ∧ isV Γ G2 (co + 60) J1 ∧ fr G G2 (co + 0) (co + 76))) (p2 : ((¬ vRng 0 2 what) ∧ (z2 = -2) ∧ isM Γ G3 mo R K kp (bmp rf 0) ca rc hd fw tl by0 an vl iv ∧ fr G2 G3 mo (mo + 13)) ∨ (∃ jw : Nat, (jw ≤ 2) ∧ (what = nI jw) ∧ (z2 = nI (R (2 + jw))) ∧ isM Γ G3 mo (va_up R (2 + jw) 0) K kp rf ca rc hd fw tl by0 an vl iv ∧ fr G2 G3 mo (mo + 13))) : z = z2 ∧ SI Γ G3 co mo := by
  have S0 := S
  obtain ⟨hv, hj0, hj1, ⟨ht, hL, hbt⟩, ⟨hD, hgv, hlf, hvs⟩, hkp, ⟨hhd, hfw, htl, hvl⟩, hAi, hKB, hc0, hc1⟩ := S
  have c := hv.2.2
  have hG := hv.1.1
  have hR := hv.2.1.1.1
  have e0 := c.1 0 (by omega)
  have e1 := c.1 1 (by omega)
  have e2 := c.1 2 (by omega)
  have e3 := c.1 3 (by omega)
  have e4 := c.1 4 (by omega)
  have e5 := c.1 5 (by omega)
  have e20 := c.2.1
  have e21 := c.2.2.1
  have i2 := hG.1.2.1
  have i3 := hG.1.2.2.1
  rcases p1 with ⟨n1, r1, qq⟩ | ⟨jw, a1, a2, ans, qq⟩
  · rcases p2 with ⟨n2, r2, m⟩ | ⟨jw2, b1, b2, ans2, m⟩
    · exact ⟨r1.trans r2.symm, mkSI hcm qq m S0⟩
    · exact absurd ⟨jw2, Nat.zero_le _, b1, b2⟩ n1
  · rcases p2 with ⟨n2, r2, m⟩ | ⟨jw2, b1, b2, ans2, m⟩
    · exact absurd ⟨jw, Nat.zero_le _, a1, a2⟩ n2
    · obtain rfl := nI_u a2 b2 (by omega) (by omega)
      exact ⟨by rw [ans, ans2, c.1 (2 + jw) (by omega)], mkSI hcm qq m ⟨vr_fgt hv a1, hj0, hj1, ⟨ht, hL, hbt⟩, ⟨hD, hgv, hlf, hvs⟩, hkp, ⟨hhd, hfw, htl, hvl⟩, hAi, hKB, hc0, hc1⟩⟩

set_option maxHeartbeats 1000000 in
theorem op_type {Γ : Gam} {G G2 G3 : Nat → va_E} {co mo : Nat} {by0 tv gv Dv lf vs cv V J0 J1 kp rf R K ca rc hd fw tl an vl iv : Nat → Nat} (hcm : co + 76 ≤ mo) (S : sR by0 tv gv Dv lf vs cv V J0 J1 kp R K hd fw tl an vl iv) {ch : Int32} {z z2 : Int32} (p1 : ((¬ vRng 0 127 ch) ∧ (z = -2) ∧ isO Γ G2 co kp (bmp rf 0) ∧ isT Γ G2 (co + 3) by0 tv ∧ isRd Γ G2 (co + 5) gv ∧ isV Γ G2 (co + 7) Dv ∧ isRw Γ G2 (co + 23) lf ∧ isGs Γ G2 (co + 25) vs ∧ isCh Γ G2 (co + 27) cv ∧ isV Γ G2 (co + 28) V ∧ isV Γ G2 (co + 44) J0 ∧ isV Γ G2 (co + 60) J1 ∧ fr G G2 (co + 0) (co + 76)) ∨ ((vRng 0 127 ch) ∧ (tv 0 = 150) ∧ (z = -4) ∧ isO Γ G2 co kp (bmp rf 2) ∧ isT Γ G2 (co + 3) by0 tv ∧ isRd Γ G2 (co + 5) gv ∧ isV Γ G2 (co + 7) Dv ∧ isRw Γ G2 (co + 23) lf ∧ isGs Γ G2 (co + 25) vs ∧ isCh Γ G2 (co + 27) cv ∧ isV Γ G2 (co + 28) V ∧ isV Γ G2 (co + 44) J0 ∧ isV Γ G2 (co + 60) J1 ∧ fr G G2 (co + 0) (co + 76)) ∨ (∃ jc : Nat, (jc ≤ 127) ∧ (ch = nI jc) ∧ (¬ tv 0 = 150) ∧ (z = nI (tv 0 + 1)) ∧ isO Γ G2 co kp rf ∧ isT Γ G2 (co + 3) (va_up by0 (tv 0) jc) (va_up tv 0 (tv 0 + 1)) ∧ isRd Γ G2 (co + 5) gv ∧ isV Γ G2 (co + 7) Dv ∧ isRw Γ G2 (co + 23) lf ∧ isGs Γ G2 (co + 25) vs ∧ isCh Γ G2 (co + 27) cv ∧ isV Γ G2 (co + 28) V ∧ isV Γ G2 (co + 44) J0 ∧ isV Γ G2 (co + 60) J1 ∧ fr G G2 (co + 0) (co + 76))) (p2 : ((¬ vRng 0 127 ch) ∧ (z2 = -2) ∧ isM Γ G3 mo R K kp (bmp rf 0) ca rc hd fw tl by0 an vl iv ∧ fr G2 G3 mo (mo + 13)) ∨ ((vRng 0 127 ch) ∧ (iv 0 = 150) ∧ (z2 = -4) ∧ isM Γ G3 mo R K kp (bmp rf 2) ca rc hd fw tl by0 an vl iv ∧ fr G2 G3 mo (mo + 13)) ∨ (∃ jc : Nat, (jc ≤ 127) ∧ (ch = nI jc) ∧ (¬ iv 0 = 150) ∧ (z2 = nI (iv 0 + 1)) ∧ isM Γ G3 mo R K kp rf ca rc hd fw tl (va_up by0 (iv 0) jc) an vl (va_up iv 0 (iv 0 + 1)) ∧ fr G2 G3 mo (mo + 13))) : z = z2 ∧ SI Γ G3 co mo := by
  have S0 := S
  obtain ⟨hv, hj0, hj1, ⟨ht, hL, hbt⟩, ⟨hD, hgv, hlf, hvs⟩, hkp, ⟨hhd, hfw, htl, hvl⟩, hAi, hKB, hc0, hc1⟩ := S
  have c := hv.2.2
  have hG := hv.1.1
  have hR := hv.2.1.1.1
  have e0 := c.1 0 (by omega)
  have e1 := c.1 1 (by omega)
  have e2 := c.1 2 (by omega)
  have e3 := c.1 3 (by omega)
  have e4 := c.1 4 (by omega)
  have e5 := c.1 5 (by omega)
  have e20 := c.2.1
  have e21 := c.2.2.1
  have i2 := hG.1.2.1
  have i3 := hG.1.2.2.1
  rcases p1 with ⟨n1, r1, qq⟩ | ⟨x1, n1, r1, qq⟩ | ⟨jc, a1, a2, a3, ans, qq⟩
  · rcases p2 with ⟨n2, r2, m⟩ | ⟨x2, n2, r2, m⟩ | ⟨jc2, b1, b2, b3, ans2, m⟩
    · exact ⟨r1.trans r2.symm, mkSI hcm qq m S0⟩
    · exact absurd (by first | exact x2 | (rw [e0]; exact x2) | (rw [e1]; exact x2)) n1
    · exact absurd ⟨jc2, Nat.zero_le _, b1, b2⟩ n1
  · rcases p2 with ⟨n2, r2, m⟩ | ⟨x2, n2, r2, m⟩ | ⟨jc2, b1, b2, b3, ans2, m⟩
    · exact absurd (by first | exact x1 | (rw [← e0]; exact x1) | (rw [← e1]; exact x1)) n2
    · exact ⟨r1.trans r2.symm, mkSI hcm qq m S0⟩
    · exfalso; omega
  · rcases p2 with ⟨n2, r2, m⟩ | ⟨x2, n2, r2, m⟩ | ⟨jc2, b1, b2, b3, ans2, m⟩
    · exact absurd ⟨jc, Nat.zero_le _, a1, a2⟩ n2
    · exfalso; omega
    · obtain rfl := nI_u a2 b2 (by omega) (by omega)
      rw [← ht] at m
      exact ⟨by rw [ans, ans2, ht], mkSI hcm qq m ⟨hv, hj0, hj1, ⟨by rw [va_up_self, va_up_self], by rw [va_up_self]; omega, fun j => up_le hbt (by omega) j⟩, ⟨hD, hgv, hlf, hvs⟩, hkp, ⟨hhd, hfw, htl, hvl⟩, hAi, hKB, by rw [va_up_ne _ _ (by decide)]; exact hc0, by rw [va_up_ne _ _ (by decide)]; exact hc1⟩⟩

set_option maxHeartbeats 1000000 in
theorem op_clear {Γ : Gam} {G G2 G3 : Nat → va_E} {co mo : Nat} {by0 tv gv Dv lf vs cv V J0 J1 kp rf R K ca rc hd fw tl an vl iv : Nat → Nat} (hcm : co + 76 ≤ mo) (S : sR by0 tv gv Dv lf vs cv V J0 J1 kp R K hd fw tl an vl iv) {z z2 : Int32} (p1 : ((z = nI (tv 0)) ∧ isO Γ G2 co kp rf ∧ isT Γ G2 (co + 3) by0 (va_up tv 0 0) ∧ isRd Γ G2 (co + 5) gv ∧ isV Γ G2 (co + 7) Dv ∧ isRw Γ G2 (co + 23) lf ∧ isGs Γ G2 (co + 25) vs ∧ isCh Γ G2 (co + 27) cv ∧ isV Γ G2 (co + 28) V ∧ isV Γ G2 (co + 44) J0 ∧ isV Γ G2 (co + 60) J1 ∧ fr G G2 (co + 0) (co + 76))) (p2 : ((z2 = nI (iv 0)) ∧ isM Γ G3 mo R K kp rf ca rc hd fw tl by0 an vl (va_up iv 0 0) ∧ fr G2 G3 mo (mo + 13))) : z = z2 ∧ SI Γ G3 co mo := by
  have S0 := S
  obtain ⟨hv, hj0, hj1, ⟨ht, hL, hbt⟩, ⟨hD, hgv, hlf, hvs⟩, hkp, ⟨hhd, hfw, htl, hvl⟩, hAi, hKB, hc0, hc1⟩ := S
  have c := hv.2.2
  have hG := hv.1.1
  have hR := hv.2.1.1.1
  have e0 := c.1 0 (by omega)
  have e1 := c.1 1 (by omega)
  have e2 := c.1 2 (by omega)
  have e3 := c.1 3 (by omega)
  have e4 := c.1 4 (by omega)
  have e5 := c.1 5 (by omega)
  have e20 := c.2.1
  have e21 := c.2.2.1
  have i2 := hG.1.2.1
  have i3 := hG.1.2.2.1
  obtain ⟨r1, qq⟩ := p1
  obtain ⟨r2, m⟩ := p2
  exact ⟨by rw [r1, r2, ht], mkSI hcm qq m ⟨hv, hj0, hj1, ⟨by rw [va_up_self, va_up_self], by rw [va_up_self]; omega, hbt⟩, ⟨hD, hgv, hlf, hvs⟩, hkp, ⟨hhd, hfw, htl, hvl⟩, hAi, hKB, by rw [va_up_ne _ _ (by decide)]; exact hc0, by rw [va_up_ne _ _ (by decide)]; exact hc1⟩⟩

end SRN
