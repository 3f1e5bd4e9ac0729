section SRM
set_option maxHeartbeats 1000000 in
theorem op_of {Γ : Gam} {G G2 G3 : Nat → va_E} {co mo : Nat} {by0 tv gv Dv lf vs cv V J0 J1 kp rf R K ca rc hd fw tl an vl iv : Nat → Nat} (hcm : co + 76 ≤ mo) (S : sR by0 tv gv Dv lf vs cv V J0 J1 kp R K hd fw tl an vl iv) {i what : Int32} {z z2 : Int32} (p1 : ((¬ (vBel (V 0) i ∧ vRng 0 3 what)) ∧ (z = -2) ∧ isO Γ G2 co kp (bmp rf 0) ∧ isT Γ G2 (co + 3) by0 tv ∧ isRd Γ G2 (co + 5) gv ∧ isV Γ G2 (co + 7) Dv ∧ isRw Γ G2 (co + 23) lf ∧ isGs Γ G2 (co + 25) vs ∧ isCh Γ G2 (co + 27) cv ∧ isV Γ G2 (co + 28) V ∧ isV Γ G2 (co + 44) J0 ∧ isV Γ G2 (co + 60) J1 ∧ fr G G2 (co + 0) (co + 76)) ∨ (∃ ji jw : Nat, (ji < V 0) ∧ (i = nI ji) ∧ (jw ≤ 3) ∧ (what = nI jw) ∧ (z = nI (ofC V ji jw)) ∧ isO Γ G2 co kp rf ∧ isT Γ G2 (co + 3) by0 tv ∧ isRd Γ G2 (co + 5) gv ∧ isV Γ G2 (co + 7) Dv ∧ isRw Γ G2 (co + 23) lf ∧ isGs Γ G2 (co + 25) vs ∧ isCh Γ G2 (co + 27) cv ∧ isV Γ G2 (co + 28) V ∧ isV Γ G2 (co + 44) J0 ∧ isV Γ G2 (co + 60) J1 ∧ fr G G2 (co + 0) (co + 76))) (p2 : ((¬ (vBel (R 0) i ∧ vRng 0 3 what)) ∧ (z2 = -2) ∧ isM Γ G3 mo R K kp (bmp rf 0) ca rc hd fw tl by0 an vl iv ∧ fr G2 G3 mo (mo + 13)) ∨ (∃ ji jw : Nat, (ji < R 0) ∧ (i = nI ji) ∧ (jw ≤ 3) ∧ (what = nI jw) ∧ (z2 = nI (rOf R ji jw)) ∧ isM Γ G3 mo R K kp rf ca rc hd fw tl by0 an vl iv ∧ fr G2 G3 mo (mo + 13))) : z = z2 ∧ SI Γ G3 co mo := by
  have S0 := S
  obtain ⟨hv, hj0, hj1, ⟨ht, hL, hbt⟩, ⟨hD, hgv, hlf, hvs⟩, hkp, ⟨hhd, hfw, htl, hvl⟩, hAi, hKB, hc0, hc1⟩ := S
  have c := hv.2.2
  have hG := hv.1.1
  have hR := hv.2.1.1.1
  have e0 := c.1 0 (by omega)
  have e1 := c.1 1 (by omega)
  have e2 := c.1 2 (by omega)
  have e3 := c.1 3 (by omega)
  have e4 := c.1 4 (by omega)
  have e5 := c.1 5 (by omega)
  have e20 := c.2.1
  have e21 := c.2.2.1
  have i2 := hG.1.2.1
  have i3 := hG.1.2.2.1
  rcases p1 with ⟨n1, r1, qq⟩ | ⟨jk, jw, a1, a2, a3, a4, ans, qq⟩
  · rcases p2 with ⟨n2, r2, m⟩ | ⟨jk2, jw2, b1, b2, b3, b4, ans2, m⟩
    · exact ⟨r1.trans r2.symm, mkSI hcm qq m S0⟩
    · exact absurd ⟨⟨jk2, by omega, b2⟩, ⟨jw2, Nat.zero_le _, b3, b4⟩⟩ n1
  · rcases p2 with ⟨n2, r2, m⟩ | ⟨jk2, jw2, b1, b2, b3, b4, ans2, m⟩
    · exact absurd ⟨⟨jk, by omega, a2⟩, ⟨jw, Nat.zero_le _, a3, a4⟩⟩ n2
    · obtain rfl := nI_u a2 b2 (by omega) (by omega)
      obtain rfl := nI_u a4 b4 (by omega) (by omega)
      exact ⟨by rw [ans, ans2, an_of c a1 jw], mkSI hcm qq m S0⟩

set_option maxHeartbeats 1000000 in
theorem op_about {Γ : Gam} {G G2 G3 : Nat → va_E} {co mo : Nat} {by0 tv gv Dv lf vs cv V J0 J1 kp rf R K ca rc hd fw tl an vl iv : Nat → Nat} (hcm : co + 76 ≤ mo) (S : sR by0 tv gv Dv lf vs cv V J0 J1 kp R K hd fw tl an vl iv) {k what : Int32} {z z2 : Int32} (p1 : ((¬ (vBel (V 1) k ∧ vRng 0 6 what)) ∧ (z = -2) ∧ isO Γ G2 co kp (bmp rf 0) ∧ isT Γ G2 (co + 3) by0 tv ∧ isRd Γ G2 (co + 5) gv ∧ isV Γ G2 (co + 7) Dv ∧ isRw Γ G2 (co + 23) lf ∧ isGs Γ G2 (co + 25) vs ∧ isCh Γ G2 (co + 27) cv ∧ isV Γ G2 (co + 28) V ∧ isV Γ G2 (co + 44) J0 ∧ isV Γ G2 (co + 60) J1 ∧ fr G G2 (co + 0) (co + 76)) ∨ (∃ jk jw : Nat, (jk < V 1) ∧ (k = nI jk) ∧ (jw ≤ 6) ∧ (what = nI jw) ∧ (z = nI (sTold V jk jw)) ∧ isO Γ G2 co kp rf ∧ isT Γ G2 (co + 3) by0 tv ∧ isRd Γ G2 (co + 5) gv ∧ isV Γ G2 (co + 7) Dv ∧ isRw Γ G2 (co + 23) lf ∧ isGs Γ G2 (co + 25) vs ∧ isCh Γ G2 (co + 27) cv ∧ isV Γ G2 (co + 28) V ∧ isV Γ G2 (co + 44) J0 ∧ isV Γ G2 (co + 60) J1 ∧ fr G G2 (co + 0) (co + 76))) (p2 : ((¬ (vBel (R 1) k ∧ vRng 0 6 what)) ∧ (z2 = -2) ∧ isM Γ G3 mo R K kp (bmp rf 0) ca rc hd fw tl by0 an vl iv ∧ fr G2 G3 mo (mo + 13)) ∨ (∃ jk jw : Nat, (jk < R 1) ∧ (k = nI jk) ∧ (jw ≤ 6) ∧ (what = nI jw) ∧ (z2 = nI (rTold R jk jw)) ∧ isM Γ G3 mo R K kp rf ca rc hd fw tl by0 an vl iv ∧ fr G2 G3 mo (mo + 13))) : z = z2 ∧ SI Γ G3 co mo := by
  have S0 := S
  obtain ⟨hv, hj0, hj1, ⟨ht, hL, hbt⟩, ⟨hD, hgv, hlf, hvs⟩, hkp, ⟨hhd, hfw, htl, hvl⟩, hAi, hKB, hc0, hc1⟩ := S
  have c := hv.2.2
  have hG := hv.1.1
  have hR := hv.2.1.1.1
  have e0 := c.1 0 (by omega)
  have e1 := c.1 1 (by omega)
  have e2 := c.1 2 (by omega)
  have e3 := c.1 3 (by omega)
  have e4 := c.1 4 (by omega)
  have e5 := c.1 5 (by omega)
  have e20 := c.2.1
  have e21 := c.2.2.1
  have i2 := hG.1.2.1
  have i3 := hG.1.2.2.1
  rcases p1 with ⟨n1, r1, qq⟩ | ⟨jk, jw, a1, a2, a3, a4, ans, qq⟩
  · rcases p2 with ⟨n2, r2, m⟩ | ⟨jk2, jw2, b1, b2, b3, b4, ans2, m⟩
    · exact ⟨r1.trans r2.symm, mkSI hcm qq m S0⟩
    · exact absurd ⟨⟨jk2, by omega, b2⟩, ⟨jw2, Nat.zero_le _, b3, b4⟩⟩ n1
  · rcases p2 with ⟨n2, r2, m⟩ | ⟨jk2, jw2, b1, b2, b3, b4, ans2, m⟩
    · exact absurd ⟨⟨jk, by omega, a2⟩, ⟨jw, Nat.zero_le _, a3, a4⟩⟩ n2
    · obtain rfl := nI_u a2 b2 (by omega) (by omega)
      obtain rfl := nI_u a4 b4 (by omega) (by omega)
      exact ⟨by rw [ans, ans2, an_about c hR a1 jw], mkSI hcm qq m S0⟩

set_option maxHeartbeats 1000000 in
theorem op_may {Γ : Gam} {G G2 G3 : Nat → va_E} {co mo : Nat} {by0 tv gv Dv lf vs cv V J0 J1 kp rf R K ca rc hd fw tl an vl iv : Nat → Nat} (hcm : co + 76 ≤ mo) (S : sR by0 tv gv Dv lf vs cv V J0 J1 kp R K hd fw tl an vl iv) {z z2 : Int32} (p1 : ((z = nI (bitsOf (fun k => could V k 0 0 0) (V 1))) ∧ isO Γ G2 co kp rf ∧ isT Γ G2 (co + 3) by0 tv ∧ isRd Γ G2 (co + 5) gv ∧ isV Γ G2 (co + 7) Dv ∧ isRw Γ G2 (co + 23) lf ∧ isGs Γ G2 (co + 25) vs ∧ isCh Γ G2 (co + 27) cv ∧ isV Γ G2 (co + 28) V ∧ isV Γ G2 (co + 44) J0 ∧ isV Γ G2 (co + 60) J1 ∧ fr G G2 (co + 0) (co + 76))) (p2 : (z2 = nI (bitsOf (fun k => canP R k) (R 1))) ∧ isM Γ G3 mo R K kp rf ca rc hd fw tl by0 an vl iv ∧ fr G2 G3 mo (mo + 13)) : z = z2 ∧ SI Γ G3 co mo := by
  have S0 := S
  obtain ⟨hv, hj0, hj1, ⟨ht, hL, hbt⟩, ⟨hD, hgv, hlf, hvs⟩, hkp, ⟨hhd, hfw, htl, hvl⟩, hAi, hKB, hc0, hc1⟩ := S
  have c := hv.2.2
  have hG := hv.1.1
  have hR := hv.2.1.1.1
  have e0 := c.1 0 (by omega)
  have e1 := c.1 1 (by omega)
  have e2 := c.1 2 (by omega)
  have e3 := c.1 3 (by omega)
  have e4 := c.1 4 (by omega)
  have e5 := c.1 5 (by omega)
  have e20 := c.2.1
  have e21 := c.2.2.1
  have i2 := hG.1.2.1
  have i3 := hG.1.2.2.1
  obtain ⟨r1, qq⟩ := p1
  obtain ⟨r2, m⟩ := p2
  exact ⟨by rw [r1, r2, an_may c hG hR], mkSI hcm qq m S0⟩

set_option maxHeartbeats 1000000 in
theorem op_peal {Γ : Gam} {G G2 G3 : Nat → va_E} {co mo : Nat} {by0 tv gv Dv lf vs cv V J0 J1 kp rf R K ca rc hd fw tl an vl iv : Nat → Nat} (hcm : co + 76 ≤ mo) (S : sR by0 tv gv Dv lf vs cv V J0 J1 kp R K hd fw tl an vl iv) {z z2 : Int32} (p1 : ((z = nI (clo V 0 (V 1))) ∧ isO Γ G2 co kp rf ∧ isT Γ G2 (co + 3) by0 tv ∧ isRd Γ G2 (co + 5) gv ∧ isV Γ G2 (co + 7) Dv ∧ isRw Γ G2 (co + 23) lf ∧ isGs Γ G2 (co + 25) vs ∧ isCh Γ G2 (co + 27) cv ∧ isV Γ G2 (co + 28) V ∧ isV Γ G2 (co + 44) J0 ∧ isV Γ G2 (co + 60) J1 ∧ fr G G2 (co + 0) (co + 76))) (p2 : ((True) ∧ ∃ ca2 : Nat → Nat, ∃ rc2 : Nat → Nat, ((∀ w, w < 2 ^ R 1 → rc2 w ≤ 1 ∧ (rc2 w = 1 ↔ rchK R rc2 w (R 1))) ∧ ∃ y, z2 = nI y ∧ y < 256 ∧ ∀ j, bt y j ↔ ∃ w, w < 2 ^ R 1 ∧ rc2 w = 1 ∧ bt (canS R w) j) ∧ isM Γ G3 mo R K kp rf ca2 rc2 hd fw tl by0 an vl iv ∧ fr G2 G3 mo (mo + 13))) : z = z2 ∧ SI Γ G3 co mo := by
  have S0 := S
  obtain ⟨hv, hj0, hj1, ⟨ht, hL, hbt⟩, ⟨hD, hgv, hlf, hvs⟩, hkp, ⟨hhd, hfw, htl, hvl⟩, hAi, hKB, hc0, hc1⟩ := S
  have c := hv.2.2
  have hG := hv.1.1
  have hR := hv.2.1.1.1
  have e0 := c.1 0 (by omega)
  have e1 := c.1 1 (by omega)
  have e2 := c.1 2 (by omega)
  have e3 := c.1 3 (by omega)
  have e4 := c.1 4 (by omega)
  have e5 := c.1 5 (by omega)
  have e20 := c.2.1
  have e21 := c.2.2.1
  have i2 := hG.1.2.1
  have i3 := hG.1.2.2.1
  obtain ⟨r1, qq⟩ := p1
  obtain ⟨-, ca2, rc2, ⟨y1, y, y2, y3, y4⟩, m⟩ := p2
  exact ⟨by rw [r1, y2, an_peal c hG hR y1 y3 y4], mkSI hcm qq m S0⟩

set_option maxHeartbeats 1000000 in
theorem op_when {Γ : Gam} {G G2 G3 : Nat → va_E} {co mo : Nat} {by0 tv gv Dv lf vs cv V J0 J1 kp rf R K ca rc hd fw tl an vl iv : Nat → Nat} (hcm : co + 76 ≤ mo) (S : sR by0 tv gv Dv lf vs cv V J0 J1 kp R K hd fw tl an vl iv) {k : Int32} {z z2 : Int32} (p1 : ((¬ vBel (V 1) k) ∧ (z = -2) ∧ isO Γ G2 co kp (bmp rf 0) ∧ isT Γ G2 (co + 3) by0 tv ∧ isRd Γ G2 (co + 5) gv ∧ isV Γ G2 (co + 7) Dv ∧ isRw Γ G2 (co + 23) lf ∧ isGs Γ G2 (co + 25) vs ∧ isCh Γ G2 (co + 27) cv ∧ isV Γ G2 (co + 28) V ∧ isV Γ G2 (co + 44) J0 ∧ isV Γ G2 (co + 60) J1 ∧ fr G G2 (co + 0) (co + 76)) ∨ (∃ jk : Nat, (jk < V 1) ∧ (k = nI jk) ∧ (whenR V jk z) ∧ isO Γ G2 co kp rf ∧ isT Γ G2 (co + 3) by0 tv ∧ isRd Γ G2 (co + 5) gv ∧ isV Γ G2 (co + 7) Dv ∧ isRw Γ G2 (co + 23) lf ∧ isGs Γ G2 (co + 25) vs ∧ isCh Γ G2 (co + 27) cv ∧ isV Γ G2 (co + 28) V ∧ isV Γ G2 (co + 44) J0 ∧ isV Γ G2 (co + 60) J1 ∧ fr G G2 (co + 0) (co + 76))) (p2 : ((¬ vBel (R 1) k) ∧ (z2 = -2) ∧ isM Γ G3 mo R K kp (bmp rf 0) ca rc hd fw tl by0 an vl iv ∧ fr G2 G3 mo (mo + 13)) ∨ (∃ jk : Nat, (jk < R 1) ∧ (k = nI jk) ∧ (whenM (cpyR hd R 60) jk z2) ∧ ∃ hd2 : Nat → Nat, (∀ j, hd2 j ≤ 1999) ∧ isM Γ G3 mo R K kp rf ca rc hd2 fw tl by0 an vl iv ∧ fr G2 G3 mo (mo + 13))) : z = z2 ∧ SI Γ G3 co mo := by
  have S0 := S
  obtain ⟨hv, hj0, hj1, ⟨ht, hL, hbt⟩, ⟨hD, hgv, hlf, hvs⟩, hkp, ⟨hhd, hfw, htl, hvl⟩, hAi, hKB, hc0, hc1⟩ := S
  have c := hv.2.2
  have hG := hv.1.1
  have hR := hv.2.1.1.1
  have e0 := c.1 0 (by omega)
  have e1 := c.1 1 (by omega)
  have e2 := c.1 2 (by omega)
  have e3 := c.1 3 (by omega)
  have e4 := c.1 4 (by omega)
  have e5 := c.1 5 (by omega)
  have e20 := c.2.1
  have e21 := c.2.2.1
  have i2 := hG.1.2.1
  have i3 := hG.1.2.2.1
  rcases p1 with ⟨n1, r1, qq⟩ | ⟨jk, a1, a2, ans, qq⟩
  · rcases p2 with ⟨n2, r2, m⟩ | ⟨jk2, b1, b2, ans2, hd2, y1, m⟩
    · exact ⟨r1.trans r2.symm, mkSI hcm qq m S0⟩
    · exact absurd ⟨jk2, by omega, b2⟩ n1
  · rcases p2 with ⟨n2, r2, m⟩ | ⟨jk2, b1, b2, ans2, hd2, y1, m⟩
    · exact absurd ⟨jk, by omega, a2⟩ n2
    · obtain rfl := nI_u a2 b2 (by omega) (by omega)
      exact ⟨an_when c hG hR hhd a1 ans ans2, mkSI hcm qq m ⟨hv, hj0, hj1, ⟨ht, hL, hbt⟩, ⟨hD, hgv, hlf, hvs⟩, hkp, ⟨y1, hfw, htl, hvl⟩, hAi, hKB, hc0, hc1⟩⟩

set_option maxHeartbeats 1000000 in
theorem op_few {Γ : Gam} {G G2 G3 : Nat → va_E} {co mo : Nat} {by0 tv gv Dv lf vs cv V J0 J1 kp rf R K ca rc hd fw tl an vl iv : Nat → Nat} (hcm : co + 76 ≤ mo) (S : sR by0 tv gv Dv lf vs cv V J0 J1 kp R K hd fw tl an vl iv) {k q : Int32} {z z2 : Int32} (p1 : ((¬ (vBel (V 1) k ∧ -1 ≤ q)) ∧ (z = -10) ∧ isO Γ G2 co kp (bmp rf 0) ∧ isT Γ G2 (co + 3) by0 tv ∧ isRd Γ G2 (co + 5) gv ∧ isV Γ G2 (co + 7) Dv ∧ isRw Γ G2 (co + 23) lf ∧ isGs Γ G2 (co + 25) vs ∧ isCh Γ G2 (co + 27) cv ∧ isV Γ G2 (co + 28) V ∧ isV Γ G2 (co + 44) J0 ∧ isV Γ G2 (co + 60) J1 ∧ fr G G2 (co + 0) (co + 76)) ∨ (∃ jk : Nat, (jk < V 1) ∧ (k = nI jk) ∧ (-1 ≤ q) ∧ (∃ F : Nat → Nat, (¬ bt (V 20) jk → sizR V F jk 0) ∧ fewC V F jk q z) ∧ ∃ lf2 : Nat → Nat, (∀ j, lf2 j ≤ 100) ∧ isO Γ G2 co kp rf ∧ isT Γ G2 (co + 3) by0 tv ∧ isRd Γ G2 (co + 5) gv ∧ isV Γ G2 (co + 7) Dv ∧ isRw Γ G2 (co + 23) lf2 ∧ isGs Γ G2 (co + 25) vs ∧ isCh Γ G2 (co + 27) cv ∧ isV Γ G2 (co + 28) V ∧ isV Γ G2 (co + 44) J0 ∧ isV Γ G2 (co + 60) J1 ∧ fr G G2 (co + 0) (co + 76))) (p2 : ((¬ (vBel (R 1) k ∧ -1 ≤ q)) ∧ (z2 = -10) ∧ isM Γ G3 mo R K kp (bmp rf 0) ca rc hd fw tl by0 an vl iv ∧ fr G2 G3 mo (mo + 13)) ∨ (∃ jk : Nat, (jk < R 1) ∧ (k = nI jk) ∧ (-1 ≤ q) ∧ (True) ∧ ∃ ca2 : Nat → Nat, ∃ fw2 : Nat → Nat, ((∀ w, w < 2 ^ R 1 → ca2 w = canS R w) ∧ (∀ w, w < 2 ^ R 1 → fw2 w = lfJ ca2 fw2 jk 0 w (R 1)) ∧ (∀ j, fw2 j ≤ 1000000) ∧ fewA ca2 fw2 R jk q z2) ∧ isM Γ G3 mo R K kp rf ca2 rc hd fw2 tl by0 an vl iv ∧ fr G2 G3 mo (mo + 13))) : z = z2 ∧ SI Γ G3 co mo := by
  have S0 := S
  obtain ⟨hv, hj0, hj1, ⟨ht, hL, hbt⟩, ⟨hD, hgv, hlf, hvs⟩, hkp, ⟨hhd, hfw, htl, hvl⟩, hAi, hKB, hc0, hc1⟩ := S
  have c := hv.2.2
  have hG := hv.1.1
  have hR := hv.2.1.1.1
  have e0 := c.1 0 (by omega)
  have e1 := c.1 1 (by omega)
  have e2 := c.1 2 (by omega)
  have e3 := c.1 3 (by omega)
  have e4 := c.1 4 (by omega)
  have e5 := c.1 5 (by omega)
  have e20 := c.2.1
  have e21 := c.2.2.1
  have i2 := hG.1.2.1
  have i3 := hG.1.2.2.1
  rcases p1 with ⟨n1, r1, qq⟩ | ⟨jk, a1, a2, a3, ⟨F, f1⟩, lf2, y0, qq⟩
  · rcases p2 with ⟨n2, r2, m⟩ | ⟨jk2, b1, b2, b3, -, ca2, fw2, ⟨y1, y2, y3, y4⟩, m⟩
    · exact ⟨r1.trans r2.symm, mkSI hcm qq m S0⟩
    · exact absurd ⟨⟨jk2, by omega, b2⟩, b3⟩ n1
  · rcases p2 with ⟨n2, r2, m⟩ | ⟨jk2, b1, b2, b3, -, ca2, fw2, ⟨y1, y2, y3, y4⟩, m⟩
    · exact absurd ⟨⟨jk, by omega, a2⟩, a3⟩ n2
    · obtain rfl := nI_u a2 b2 (by omega) (by omega)
      exact ⟨an_few c hG hR a1 f1 y1 y2 y4, mkSI hcm qq m ⟨hv, hj0, hj1, ⟨ht, hL, hbt⟩, ⟨hD, hgv, y0, hvs⟩, hkp, ⟨hhd, y3, htl, hvl⟩, hAi, hKB, hc0, hc1⟩⟩

set_option maxHeartbeats 1000000 in
theorem op_hush {Γ : Gam} {G G2 G3 : Nat → va_E} {co mo : Nat} {by0 tv gv Dv lf vs cv V J0 J1 kp rf R K ca rc hd fw tl an vl iv : Nat → Nat} (hcm : co + 76 ≤ mo) (S : sR by0 tv gv Dv lf vs cv V J0 J1 kp R K hd fw tl an vl iv) {k : Int32} {z z2 : Int32} (p1 : ((¬ vBel (V 1) k) ∧ (z = -2) ∧ isO Γ G2 co kp (bmp rf 0) ∧ isT Γ G2 (co + 3) by0 tv ∧ isRd Γ G2 (co + 5) gv ∧ isV Γ G2 (co + 7) Dv ∧ isRw Γ G2 (co + 23) lf ∧ isGs Γ G2 (co + 25) vs ∧ isCh Γ G2 (co + 27) cv ∧ isV Γ G2 (co + 28) V ∧ isV Γ G2 (co + 44) J0 ∧ isV Γ G2 (co + 60) J1 ∧ fr G G2 (co + 0) (co + 76)) ∨ (∃ jk : Nat, (jk < V 1) ∧ (k = nI jk) ∧ (silR V jk z) ∧ isO Γ G2 co kp rf ∧ isT Γ G2 (co + 3) by0 tv ∧ isRd Γ G2 (co + 5) gv ∧ isV Γ G2 (co + 7) Dv ∧ isRw Γ G2 (co + 23) lf ∧ isGs Γ G2 (co + 25) vs ∧ isCh Γ G2 (co + 27) cv ∧ isV Γ G2 (co + 28) V ∧ isV Γ G2 (co + 44) J0 ∧ isV Γ G2 (co + 60) J1 ∧ fr G G2 (co + 0) (co + 76))) (p2 : ((¬ vBel (R 1) k) ∧ (z2 = -2) ∧ isM Γ G3 mo R K kp (bmp rf 0) ca rc hd fw tl by0 an vl iv ∧ fr G2 G3 mo (mo + 13)) ∨ (∃ jk : Nat, (jk < R 1) ∧ (k = nI jk) ∧ (hushI R jk (2 ^ R 1) z2) ∧ ∃ ca2 : Nat → Nat, ∃ fw2 : Nat → Nat, (∀ j, fw2 j ≤ 1000000) ∧ isM Γ G3 mo R K kp rf ca2 rc hd fw2 tl by0 an vl iv ∧ fr G2 G3 mo (mo + 13))) : z = z2 ∧ SI Γ G3 co mo := by
  have S0 := S
  obtain ⟨hv, hj0, hj1, ⟨ht, hL, hbt⟩, ⟨hD, hgv, hlf, hvs⟩, hkp, ⟨hhd, hfw, htl, hvl⟩, hAi, hKB, hc0, hc1⟩ := S
  have c := hv.2.2
  have hG := hv.1.1
  have hR := hv.2.1.1.1
  have e0 := c.1 0 (by omega)
  have e1 := c.1 1 (by omega)
  have e2 := c.1 2 (by omega)
  have e3 := c.1 3 (by omega)
  have e4 := c.1 4 (by omega)
  have e5 := c.1 5 (by omega)
  have e20 := c.2.1
  have e21 := c.2.2.1
  have i2 := hG.1.2.1
  have i3 := hG.1.2.2.1
  rcases p1 with ⟨n1, r1, qq⟩ | ⟨jk, a1, a2, ans, qq⟩
  · rcases p2 with ⟨n2, r2, m⟩ | ⟨jk2, b1, b2, ans2, ca2, fw2, y1, m⟩
    · exact ⟨r1.trans r2.symm, mkSI hcm qq m S0⟩
    · exact absurd ⟨jk2, by omega, b2⟩ n1
  · rcases p2 with ⟨n2, r2, m⟩ | ⟨jk2, b1, b2, ans2, ca2, fw2, y1, m⟩
    · exact absurd ⟨jk, by omega, a2⟩ n2
    · obtain rfl := nI_u a2 b2 (by omega) (by omega)
      exact ⟨an_hush c hG hR a1 ans ans2, mkSI hcm qq m ⟨hv, hj0, hj1, ⟨ht, hL, hbt⟩, ⟨hD, hgv, hlf, hvs⟩, hkp, ⟨hhd, y1, htl, hvl⟩, hAi, hKB, hc0, hc1⟩⟩

set_option maxHeartbeats 1000000 in
theorem op_round {Γ : Gam} {G G2 G3 : Nat → va_E} {co mo : Nat} {by0 tv gv Dv lf vs cv V J0 J1 kp rf R K ca rc hd fw tl an vl iv : Nat → Nat} (hcm : co + 76 ≤ mo) (S : sR by0 tv gv Dv lf vs cv V J0 J1 kp R K hd fw tl an vl iv) {k : Int32} {z z2 : Int32} (p1 : ((¬ vBel (V 0) k) ∧ (z = -2) ∧ isO Γ G2 co kp (bmp rf 0) ∧ isT Γ G2 (co + 3) by0 tv ∧ isRd Γ G2 (co + 5) gv ∧ isV Γ G2 (co + 7) Dv ∧ isRw Γ G2 (co + 23) lf ∧ isGs Γ G2 (co + 25) vs ∧ isCh Γ G2 (co + 27) cv ∧ isV Γ G2 (co + 28) V ∧ isV Γ G2 (co + 44) J0 ∧ isV Γ G2 (co + 60) J1 ∧ fr G G2 (co + 0) (co + 76)) ∨ (∃ jk : Nat, (jk < V 0) ∧ (k = nI jk) ∧ (ringR V jk (V 0) z) ∧ isO Γ G2 co kp rf ∧ isT Γ G2 (co + 3) by0 tv ∧ isRd Γ G2 (co + 5) gv ∧ isV Γ G2 (co + 7) Dv ∧ isRw Γ G2 (co + 23) lf ∧ isGs Γ G2 (co + 25) vs ∧ isCh Γ G2 (co + 27) cv ∧ isV Γ G2 (co + 28) V ∧ isV Γ G2 (co + 44) J0 ∧ isV Γ G2 (co + 60) J1 ∧ fr G G2 (co + 0) (co + 76))) (p2 : ((¬ vBel (R 0) k) ∧ (z2 = -2) ∧ isM Γ G3 mo R K kp (bmp rf 0) ca rc hd fw tl by0 an vl iv ∧ fr G2 G3 mo (mo + 13)) ∨ (∃ ji : Nat, (ji < R 0) ∧ (k = nI ji) ∧ (ringR R ji 6 z2) ∧ isM Γ G3 mo R K kp rf ca rc hd fw tl by0 an vl iv ∧ fr G2 G3 mo (mo + 13))) : z = z2 ∧ SI Γ G3 co mo := by
  have S0 := S
  obtain ⟨hv, hj0, hj1, ⟨ht, hL, hbt⟩, ⟨hD, hgv, hlf, hvs⟩, hkp, ⟨hhd, hfw, htl, hvl⟩, hAi, hKB, hc0, hc1⟩ := S
  have c := hv.2.2
  have hG := hv.1.1
  have hR := hv.2.1.1.1
  have e0 := c.1 0 (by omega)
  have e1 := c.1 1 (by omega)
  have e2 := c.1 2 (by omega)
  have e3 := c.1 3 (by omega)
  have e4 := c.1 4 (by omega)
  have e5 := c.1 5 (by omega)
  have e20 := c.2.1
  have e21 := c.2.2.1
  have i2 := hG.1.2.1
  have i3 := hG.1.2.2.1
  rcases p1 with ⟨n1, r1, qq⟩ | ⟨jk, a1, a2, ans, qq⟩
  · rcases p2 with ⟨n2, r2, m⟩ | ⟨jk2, b1, b2, ans2, m⟩
    · exact ⟨r1.trans r2.symm, mkSI hcm qq m S0⟩
    · exact absurd ⟨jk2, by omega, b2⟩ n1
  · rcases p2 with ⟨n2, r2, m⟩ | ⟨jk2, b1, b2, ans2, m⟩
    · exact absurd ⟨jk, by omega, a2⟩ n2
    · obtain rfl := nI_u a2 b2 (by omega) (by omega)
      exact ⟨an_ring c hG ans ans2, mkSI hcm qq m S0⟩

set_option maxHeartbeats 1000000 in
theorem op_grave {Γ : Gam} {G G2 G3 : Nat → va_E} {co mo : Nat} {by0 tv gv Dv lf vs cv V J0 J1 kp rf R K ca rc hd fw tl an vl iv : Nat → Nat} (hcm : co + 76 ≤ mo) (S : sR by0 tv gv Dv lf vs cv V J0 J1 kp R K hd fw tl an vl iv) {k what : Int32} {z z2 : Int32} (p1 : ((¬ (vBel (V 1) k ∧ vRng 0 2 what)) ∧ (z = -2) ∧ isO Γ G2 co kp (bmp rf 0) ∧ isT Γ G2 (co + 3) by0 tv ∧ isRd Γ G2 (co + 5) gv ∧ isV Γ G2 (co + 7) Dv ∧ isRw Γ G2 (co + 23) lf ∧ isGs Γ G2 (co + 25) vs ∧ isCh Γ G2 (co + 27) cv ∧ isV Γ G2 (co + 28) V ∧ isV Γ G2 (co + 44) J0 ∧ isV Γ G2 (co + 60) J1 ∧ fr G G2 (co + 0) (co + 76)) ∨ (∃ jk jw : Nat, (jk < V 1) ∧ (k = nI jk) ∧ (jw ≤ 2) ∧ (what = nI jw) ∧ (graveC V jk jw z) ∧ isO Γ G2 co kp rf ∧ isT Γ G2 (co + 3) by0 tv ∧ isRd Γ G2 (co + 5) gv ∧ isV Γ G2 (co + 7) Dv ∧ isRw Γ G2 (co + 23) lf ∧ isGs Γ G2 (co + 25) vs ∧ isCh Γ G2 (co + 27) cv ∧ isV Γ G2 (co + 28) V ∧ isV Γ G2 (co + 44) J0 ∧ isV Γ G2 (co + 60) J1 ∧ fr G G2 (co + 0) (co + 76))) (p2 : ((¬ (vBel (R 1) k ∧ vRng 0 2 what)) ∧ (z2 = -2) ∧ isM Γ G3 mo R K kp (bmp rf 0) ca rc hd fw tl by0 an vl iv ∧ fr G2 G3 mo (mo + 13)) ∨ (∃ jk jw : Nat, (jk < R 1) ∧ (k = nI jk) ∧ (jw ≤ 2) ∧ (what = nI jw) ∧ (graveM R jk jw z2) ∧ isM Γ G3 mo R K kp rf ca rc hd fw tl by0 an vl iv ∧ fr G2 G3 mo (mo + 13))) : z = z2 ∧ SI Γ G3 co mo := by
  have S0 := S
  obtain ⟨hv, hj0, hj1, ⟨ht, hL, hbt⟩, ⟨hD, hgv, hlf, hvs⟩, hkp, ⟨hhd, hfw, htl, hvl⟩, hAi, hKB, hc0, hc1⟩ := S
  have c := hv.2.2
  have hG := hv.1.1
  have hR := hv.2.1.1.1
  have e0 := c.1 0 (by omega)
  have e1 := c.1 1 (by omega)
  have e2 := c.1 2 (by omega)
  have e3 := c.1 3 (by omega)
  have e4 := c.1 4 (by omega)
  have e5 := c.1 5 (by omega)
  have e20 := c.2.1
  have e21 := c.2.2.1
  have i2 := hG.1.2.1
  have i3 := hG.1.2.2.1
  rcases p1 with ⟨n1, r1, qq⟩ | ⟨jk, jw, a1, a2, a3, a4, ans, qq⟩
  · rcases p2 with ⟨n2, r2, m⟩ | ⟨jk2, jw2, b1, b2, b3, b4, ans2, m⟩
    · exact ⟨r1.trans r2.symm, mkSI hcm qq m S0⟩
    · exact absurd ⟨⟨jk2, by omega, b2⟩, ⟨jw2, Nat.zero_le _, b3, b4⟩⟩ n1
  · rcases p2 with ⟨n2, r2, m⟩ | ⟨jk2, jw2, b1, b2, b3, b4, ans2, m⟩
    · exact absurd ⟨⟨jk, by omega, a2⟩, ⟨jw, Nat.zero_le _, a3, a4⟩⟩ n2
    · obtain rfl := nI_u a2 b2 (by omega) (by omega)
      obtain rfl := nI_u a4 b4 (by omega) (by omega)
      exact ⟨an_grave c a1 a3 ans ans2, mkSI hcm qq m S0⟩

set_option maxHeartbeats 1000000 in
theorem op_tell {Γ : Gam} {G G2 G3 : Nat → va_E} {co mo : Nat} {by0 tv gv Dv lf vs cv V J0 J1 kp rf R K ca rc hd fw tl an vl iv : Nat → Nat} (hcm : co + 76 ≤ mo) (S : sR by0 tv gv Dv lf vs cv V J0 J1 kp R K hd fw tl an vl iv) {k : Int32} {z z2 : Int32} (p1 : ((¬ vBel (V 1) k) ∧ (z = -2) ∧ isO Γ G2 co kp (bmp rf 0) ∧ isT Γ G2 (co + 3) by0 tv ∧ isRd Γ G2 (co + 5) gv ∧ isV Γ G2 (co + 7) Dv ∧ isRw Γ G2 (co + 23) lf ∧ isGs Γ G2 (co + 25) vs ∧ isCh Γ G2 (co + 27) cv ∧ isV Γ G2 (co + 28) V ∧ isV Γ G2 (co + 44) J0 ∧ isV Γ G2 (co + 60) J1 ∧ fr G G2 (co + 0) (co + 76)) ∨ (∃ jk : Nat, (jk < V 1) ∧ (k = nI jk) ∧ (tellR V jk z) ∧ isO Γ G2 co kp rf ∧ isT Γ G2 (co + 3) by0 tv ∧ isRd Γ G2 (co + 5) gv ∧ isV Γ G2 (co + 7) Dv ∧ isRw Γ G2 (co + 23) lf ∧ isGs Γ G2 (co + 25) vs ∧ isCh Γ G2 (co + 27) cv ∧ isV Γ G2 (co + 28) V ∧ isV Γ G2 (co + 44) J0 ∧ isV Γ G2 (co + 60) J1 ∧ fr G G2 (co + 0) (co + 76))) (p2 : ((¬ vBel (R 1) k) ∧ (z2 = -2) ∧ isM Γ G3 mo R K kp (bmp rf 0) ca rc hd fw tl by0 an vl iv ∧ fr G2 G3 mo (mo + 13)) ∨ (∃ jk : Nat, (jk < R 1) ∧ (k = nI jk) ∧ (tellM R jk 1000000 z2) ∧ isM Γ G3 mo R K kp rf ca rc hd fw tl by0 an vl iv ∧ fr G2 G3 mo (mo + 13))) : z = z2 ∧ SI Γ G3 co mo := by
  have S0 := S
  obtain ⟨hv, hj0, hj1, ⟨ht, hL, hbt⟩, ⟨hD, hgv, hlf, hvs⟩, hkp, ⟨hhd, hfw, htl, hvl⟩, hAi, hKB, hc0, hc1⟩ := S
  have c := hv.2.2
  have hG := hv.1.1
  have hR := hv.2.1.1.1
  have e0 := c.1 0 (by omega)
  have e1 := c.1 1 (by omega)
  have e2 := c.1 2 (by omega)
  have e3 := c.1 3 (by omega)
  have e4 := c.1 4 (by omega)
  have e5 := c.1 5 (by omega)
  have e20 := c.2.1
  have e21 := c.2.2.1
  have i2 := hG.1.2.1
  have i3 := hG.1.2.2.1
  rcases p1 with ⟨n1, r1, qq⟩ | ⟨jk, a1, a2, ans, qq⟩
  · rcases p2 with ⟨n2, r2, m⟩ | ⟨jk2, b1, b2, ans2, m⟩
    · exact ⟨r1.trans r2.symm, mkSI hcm qq m S0⟩
    · exact absurd ⟨jk2, by omega, b2⟩ n1
  · rcases p2 with ⟨n2, r2, m⟩ | ⟨jk2, b1, b2, ans2, m⟩
    · exact absurd ⟨jk, by omega, a2⟩ n2
    · obtain rfl := nI_u a2 b2 (by omega) (by omega)
      exact ⟨an_tell c a1 ans ans2, mkSI hcm qq m S0⟩

set_option maxHeartbeats 1000000 in
theorem op_is {Γ : Gam} {G G2 G3 : Nat → va_E} {co mo : Nat} {by0 tv gv Dv lf vs cv V J0 J1 kp rf R K ca rc hd fw tl an vl iv : Nat → Nat} (hcm : co + 76 ≤ mo) (S : sR by0 tv gv Dv lf vs cv V J0 J1 kp R K hd fw tl an vl iv) {k : Int32} {z z2 : Int32} (p1 : ((¬ vBel (V 1) k) ∧ (z = -2) ∧ isO Γ G2 co kp (bmp rf 0) ∧ isT Γ G2 (co + 3) by0 tv ∧ isRd Γ G2 (co + 5) gv ∧ isV Γ G2 (co + 7) Dv ∧ isRw Γ G2 (co + 23) lf ∧ isGs Γ G2 (co + 25) vs ∧ isCh Γ G2 (co + 27) cv ∧ isV Γ G2 (co + 28) V ∧ isV Γ G2 (co + 44) J0 ∧ isV Γ G2 (co + 60) J1 ∧ fr G G2 (co + 0) (co + 76)) ∨ (∃ jk : Nat, (jk < V 1) ∧ (k = nI jk) ∧ (z = nI (wkinds V jk)) ∧ isO Γ G2 co kp rf ∧ isT Γ G2 (co + 3) by0 tv ∧ isRd Γ G2 (co + 5) gv ∧ isV Γ G2 (co + 7) Dv ∧ isRw Γ G2 (co + 23) lf ∧ isGs Γ G2 (co + 25) vs ∧ isCh Γ G2 (co + 27) cv ∧ isV Γ G2 (co + 28) V ∧ isV Γ G2 (co + 44) J0 ∧ isV Γ G2 (co + 60) J1 ∧ fr G G2 (co + 0) (co + 76))) (p2 : ((¬ vBel (R 1) k) ∧ (z2 = -2) ∧ isM Γ G3 mo R K kp (bmp rf 0) ca rc hd fw tl by0 an vl iv ∧ fr G2 G3 mo (mo + 13)) ∨ (∃ jk : Nat, (jk < R 1) ∧ (k = nI jk) ∧ (z2 = nI (wkinds R jk)) ∧ isM Γ G3 mo R K kp rf ca rc hd fw tl by0 an vl iv ∧ fr G2 G3 mo (mo + 13))) : z = z2 ∧ SI Γ G3 co mo := by
  have S0 := S
  obtain ⟨hv, hj0, hj1, ⟨ht, hL, hbt⟩, ⟨hD, hgv, hlf, hvs⟩, hkp, ⟨hhd, hfw, htl, hvl⟩, hAi, hKB, hc0, hc1⟩ := S
  have c := hv.2.2
  have hG := hv.1.1
  have hR := hv.2.1.1.1
  have e0 := c.1 0 (by omega)
  have e1 := c.1 1 (by omega)
  have e2 := c.1 2 (by omega)
  have e3 := c.1 3 (by omega)
  have e4 := c.1 4 (by omega)
  have e5 := c.1 5 (by omega)
  have e20 := c.2.1
  have e21 := c.2.2.1
  have i2 := hG.1.2.1
  have i3 := hG.1.2.2.1
  rcases p1 with ⟨n1, r1, qq⟩ | ⟨jk, a1, a2, ans, qq⟩
  · rcases p2 with ⟨n2, r2, m⟩ | ⟨jk2, b1, b2, ans2, m⟩
    · exact ⟨r1.trans r2.symm, mkSI hcm qq m S0⟩
    · exact absurd ⟨jk2, by omega, b2⟩ n1
  · rcases p2 with ⟨n2, r2, m⟩ | ⟨jk2, b1, b2, ans2, m⟩
    · exact absurd ⟨jk, by omega, a2⟩ n2
    · obtain rfl := nI_u a2 b2 (by omega) (by omega)
      exact ⟨by rw [ans, ans2, wk_c c], mkSI hcm qq m S0⟩

set_option maxHeartbeats 1000000 in
theorem op_look {Γ : Gam} {G G2 G3 : Nat → va_E} {co mo : Nat} {by0 tv gv Dv lf vs cv V J0 J1 kp rf R K ca rc hd fw tl an vl iv : Nat → Nat} (hcm : co + 76 ≤ mo) (S : sR by0 tv gv Dv lf vs cv V J0 J1 kp R K hd fw tl an vl iv) {k : Int32} {z z2 : Int32} (p1 : ((¬ vBel (V 1) k) ∧ (z = -2) ∧ isO Γ G2 co kp (bmp rf 0) ∧ isT Γ G2 (co + 3) by0 tv ∧ isRd Γ G2 (co + 5) gv ∧ isV Γ G2 (co + 7) Dv ∧ isRw Γ G2 (co + 23) lf ∧ isGs Γ G2 (co + 25) vs ∧ isCh Γ G2 (co + 27) cv ∧ isV Γ G2 (co + 28) V ∧ isV Γ G2 (co + 44) J0 ∧ isV Γ G2 (co + 60) J1 ∧ fr G G2 (co + 0) (co + 76)) ∨ (∃ jk : Nat, (jk < V 1) ∧ (k = nI jk) ∧ (lookM V jk 100 z) ∧ ∃ vs2 : Nat → Nat, (∀ j, vs2 j < 2147483648) ∧ isO Γ G2 co kp rf ∧ isT Γ G2 (co + 3) by0 tv ∧ isRd Γ G2 (co + 5) gv ∧ isV Γ G2 (co + 7) Dv ∧ isRw Γ G2 (co + 23) lf ∧ isGs Γ G2 (co + 25) vs2 ∧ isCh Γ G2 (co + 27) cv ∧ isV Γ G2 (co + 28) V ∧ isV Γ G2 (co + 44) J0 ∧ isV Γ G2 (co + 60) J1 ∧ fr G G2 (co + 0) (co + 76))) (p2 : ((¬ vBel (R 1) k) ∧ (z2 = -2) ∧ isM Γ G3 mo R K kp (bmp rf 0) ca rc hd fw tl by0 an vl iv ∧ fr G2 G3 mo (mo + 13)) ∨ (∃ jk : Nat, (jk < R 1) ∧ (k = nI jk) ∧ (lookM R jk 1000000 z2) ∧ ∃ tl2 : Nat → Nat, (∀ j, tl2 j < 2147483648) ∧ isM Γ G3 mo R K kp rf ca rc hd fw tl2 by0 an vl iv ∧ fr G2 G3 mo (mo + 13))) : z = z2 ∧ SI Γ G3 co mo := by
  have S0 := S
  obtain ⟨hv, hj0, hj1, ⟨ht, hL, hbt⟩, ⟨hD, hgv, hlf, hvs⟩, hkp, ⟨hhd, hfw, htl, hvl⟩, hAi, hKB, hc0, hc1⟩ := S
  have c := hv.2.2
  have hG := hv.1.1
  have hR := hv.2.1.1.1
  have e0 := c.1 0 (by omega)
  have e1 := c.1 1 (by omega)
  have e2 := c.1 2 (by omega)
  have e3 := c.1 3 (by omega)
  have e4 := c.1 4 (by omega)
  have e5 := c.1 5 (by omega)
  have e20 := c.2.1
  have e21 := c.2.2.1
  have i2 := hG.1.2.1
  have i3 := hG.1.2.2.1
  rcases p1 with ⟨n1, r1, qq⟩ | ⟨jk, a1, a2, ans, vs2, y0, qq⟩
  · rcases p2 with ⟨n2, r2, m⟩ | ⟨jk2, b1, b2, ans2, tl2, y1, m⟩
    · exact ⟨r1.trans r2.symm, mkSI hcm qq m S0⟩
    · exact absurd ⟨jk2, by omega, b2⟩ n1
  · rcases p2 with ⟨n2, r2, m⟩ | ⟨jk2, b1, b2, ans2, tl2, y1, m⟩
    · exact absurd ⟨jk, by omega, a2⟩ n2
    · obtain rfl := nI_u a2 b2 (by omega) (by omega)
      exact ⟨an_look c a1 ans ans2, mkSI hcm qq m ⟨hv, hj0, hj1, ⟨ht, hL, hbt⟩, ⟨hD, hgv, hlf, y0⟩, hkp, ⟨hhd, hfw, y1, hvl⟩, hAi, hKB, hc0, hc1⟩⟩

set_option maxHeartbeats 1000000 in
theorem op_kinds {Γ : Gam} {G G2 G3 : Nat → va_E} {co mo : Nat} {by0 tv gv Dv lf vs cv V J0 J1 kp rf R K ca rc hd fw tl an vl iv : Nat → Nat} (hcm : co + 76 ≤ mo) (S : sR by0 tv gv Dv lf vs cv V J0 J1 kp R K hd fw tl an vl iv) {k : Int32} {z z2 : Int32} (p1 : ((¬ vBel (V 0) k) ∧ (z = -2) ∧ isO Γ G2 co kp (bmp rf 0) ∧ isT Γ G2 (co + 3) by0 tv ∧ isRd Γ G2 (co + 5) gv ∧ isV Γ G2 (co + 7) Dv ∧ isRw Γ G2 (co + 23) lf ∧ isGs Γ G2 (co + 25) vs ∧ isCh Γ G2 (co + 27) cv ∧ isV Γ G2 (co + 28) V ∧ isV Γ G2 (co + 44) J0 ∧ isV Γ G2 (co + 60) J1 ∧ fr G G2 (co + 0) (co + 76)) ∨ (∃ jk : Nat, (jk < V 0) ∧ (k = nI jk) ∧ (z = nI (pkinds V jk)) ∧ isO Γ G2 co kp rf ∧ isT Γ G2 (co + 3) by0 tv ∧ isRd Γ G2 (co + 5) gv ∧ isV Γ G2 (co + 7) Dv ∧ isRw Γ G2 (co + 23) lf ∧ isGs Γ G2 (co + 25) vs ∧ isCh Γ G2 (co + 27) cv ∧ isV Γ G2 (co + 28) V ∧ isV Γ G2 (co + 44) J0 ∧ isV Γ G2 (co + 60) J1 ∧ fr G G2 (co + 0) (co + 76))) (p2 : ((¬ vBel (R 0) k) ∧ (z2 = -2) ∧ isM Γ G3 mo R K kp (bmp rf 0) ca rc hd fw tl by0 an vl iv ∧ fr G2 G3 mo (mo + 13)) ∨ (∃ jk : Nat, (jk < R 0) ∧ (k = nI jk) ∧ (z2 = nI (pkinds R jk)) ∧ isM Γ G3 mo R K kp rf ca rc hd fw tl by0 an vl iv ∧ fr G2 G3 mo (mo + 13))) : z = z2 ∧ SI Γ G3 co mo := by
  have S0 := S
  obtain ⟨hv, hj0, hj1, ⟨ht, hL, hbt⟩, ⟨hD, hgv, hlf, hvs⟩, hkp, ⟨hhd, hfw, htl, hvl⟩, hAi, hKB, hc0, hc1⟩ := S
  have c := hv.2.2
  have hG := hv.1.1
  have hR := hv.2.1.1.1
  have e0 := c.1 0 (by omega)
  have e1 := c.1 1 (by omega)
  have e2 := c.1 2 (by omega)
  have e3 := c.1 3 (by omega)
  have e4 := c.1 4 (by omega)
  have e5 := c.1 5 (by omega)
  have e20 := c.2.1
  have e21 := c.2.2.1
  have i2 := hG.1.2.1
  have i3 := hG.1.2.2.1
  rcases p1 with ⟨n1, r1, qq⟩ | ⟨jk, a1, a2, ans, qq⟩
  · rcases p2 with ⟨n2, r2, m⟩ | ⟨jk2, b1, b2, ans2, m⟩
    · exact ⟨r1.trans r2.symm, mkSI hcm qq m S0⟩
    · exact absurd ⟨jk2, by omega, b2⟩ n1
  · rcases p2 with ⟨n2, r2, m⟩ | ⟨jk2, b1, b2, ans2, m⟩
    · exact absurd ⟨jk, by omega, a2⟩ n2
    · obtain rfl := nI_u a2 b2 (by omega) (by omega)
      exact ⟨by rw [ans, ans2, pk_c c], mkSI hcm qq m S0⟩

set_option maxHeartbeats 1000000 in
theorem op_ask {Γ : Gam} {G G2 G3 : Nat → va_E} {co mo : Nat} {by0 tv gv Dv lf vs cv V J0 J1 kp rf R K ca rc hd fw tl an vl iv : Nat → Nat} (hcm : co + 76 ≤ mo) (S : sR by0 tv gv Dv lf vs cv V J0 J1 kp R K hd fw tl an vl iv) {k : Int32} {z z2 : Int32} (p1 : ((¬ vBel (V 0) k) ∧ (z = -2) ∧ isO Γ G2 co kp (bmp rf 0) ∧ isT Γ G2 (co + 3) by0 tv ∧ isRd Γ G2 (co + 5) gv ∧ isV Γ G2 (co + 7) Dv ∧ isRw Γ G2 (co + 23) lf ∧ isGs Γ G2 (co + 25) vs ∧ isCh Γ G2 (co + 27) cv ∧ isV Γ G2 (co + 28) V ∧ isV Γ G2 (co + 44) J0 ∧ isV Γ G2 (co + 60) J1 ∧ fr G G2 (co + 0) (co + 76)) ∨ (∃ jk : Nat, (jk < V 0) ∧ (k = nI jk) ∧ (askM V jk 100 z) ∧ ∃ vs2 : Nat → Nat, (∀ j, vs2 j < 2147483648) ∧ isO Γ G2 co kp rf ∧ isT Γ G2 (co + 3) by0 tv ∧ isRd Γ G2 (co + 5) gv ∧ isV Γ G2 (co + 7) Dv ∧ isRw Γ G2 (co + 23) lf ∧ isGs Γ G2 (co + 25) vs2 ∧ isCh Γ G2 (co + 27) cv ∧ isV Γ G2 (co + 28) V ∧ isV Γ G2 (co + 44) J0 ∧ isV Γ G2 (co + 60) J1 ∧ fr G G2 (co + 0) (co + 76))) (p2 : ((¬ vBel (R 0) k) ∧ (z2 = -2) ∧ isM Γ G3 mo R K kp (bmp rf 0) ca rc hd fw tl by0 an vl iv ∧ fr G2 G3 mo (mo + 13)) ∨ (∃ ji : Nat, (ji < R 0) ∧ (k = nI ji) ∧ (askM R ji 1000000 z2) ∧ ∃ tl2 : Nat → Nat, (∀ j, tl2 j < 2147483648) ∧ isM Γ G3 mo R K kp rf ca rc hd fw tl2 by0 an vl iv ∧ fr G2 G3 mo (mo + 13))) : z = z2 ∧ SI Γ G3 co mo := by
  have S0 := S
  obtain ⟨hv, hj0, hj1, ⟨ht, hL, hbt⟩, ⟨hD, hgv, hlf, hvs⟩, hkp, ⟨hhd, hfw, htl, hvl⟩, hAi, hKB, hc0, hc1⟩ := S
  have c := hv.2.2
  have hG := hv.1.1
  have hR := hv.2.1.1.1
  have e0 := c.1 0 (by omega)
  have e1 := c.1 1 (by omega)
  have e2 := c.1 2 (by omega)
  have e3 := c.1 3 (by omega)
  have e4 := c.1 4 (by omega)
  have e5 := c.1 5 (by omega)
  have e20 := c.2.1
  have e21 := c.2.2.1
  have i2 := hG.1.2.1
  have i3 := hG.1.2.2.1
  rcases p1 with ⟨n1, r1, qq⟩ | ⟨jk, a1, a2, ans, vs2, y0, qq⟩
  · rcases p2 with ⟨n2, r2, m⟩ | ⟨jk2, b1, b2, ans2, tl2, y1, m⟩
    · exact ⟨r1.trans r2.symm, mkSI hcm qq m S0⟩
    · exact absurd ⟨jk2, by omega, b2⟩ n1
  · rcases p2 with ⟨n2, r2, m⟩ | ⟨jk2, b1, b2, ans2, tl2, y1, m⟩
    · exact absurd ⟨jk, by omega, a2⟩ n2
    · obtain rfl := nI_u a2 b2 (by omega) (by omega)
      exact ⟨an_ask c ans ans2, mkSI hcm qq m ⟨hv, hj0, hj1, ⟨ht, hL, hbt⟩, ⟨hD, hgv, hlf, y0⟩, hkp, ⟨hhd, hfw, y1, hvl⟩, hAi, hKB, hc0, hc1⟩⟩

set_option maxHeartbeats 1000000 in
theorem op_first {Γ : Gam} {G G2 G3 : Nat → va_E} {co mo : Nat} {by0 tv gv Dv lf vs cv V J0 J1 kp rf R K ca rc hd fw tl an vl iv : Nat → Nat} (hcm : co + 76 ≤ mo) (S : sR by0 tv gv Dv lf vs cv V J0 J1 kp R K hd fw tl an vl iv) {a b : Int32} {z z2 : Int32} (p1 : ((¬ (vBel (V 0) a ∧ vBel (V 0) b ∧ ¬ a = b)) ∧ (z = -2) ∧ isO Γ G2 co kp (bmp rf 0) ∧ isT Γ G2 (co + 3) by0 tv ∧ isRd Γ G2 (co + 5) gv ∧ isV Γ G2 (co + 7) Dv ∧ isRw Γ G2 (co + 23) lf ∧ isGs Γ G2 (co + 25) vs ∧ isCh Γ G2 (co + 27) cv ∧ isV Γ G2 (co + 28) V ∧ isV Γ G2 (co + 44) J0 ∧ isV Γ G2 (co + 60) J1 ∧ fr G G2 (co + 0) (co + 76)) ∨ (∃ ja jb : Nat, (ja < V 0) ∧ (a = nI ja) ∧ (jb < V 0) ∧ (b = nI jb) ∧ (¬ ja = jb) ∧ (z = nI (restV (if sM V ja 0 0 < 3 then 1 else 0) (if sM V jb 0 0 < 3 then 1 else 0))) ∧ isO Γ G2 co kp rf ∧ isT Γ G2 (co + 3) by0 tv ∧ isRd Γ G2 (co + 5) gv ∧ isV Γ G2 (co + 7) Dv ∧ isRw Γ G2 (co + 23) lf ∧ isGs Γ G2 (co + 25) vs ∧ isCh Γ G2 (co + 27) cv ∧ isV Γ G2 (co + 28) V ∧ isV Γ G2 (co + 44) J0 ∧ isV Γ G2 (co + 60) J1 ∧ fr G G2 (co + 0) (co + 76))) (p2 : ((¬ (vBel (R 0) a ∧ vBel (R 0) b ∧ ¬ a = b)) ∧ (z2 = -2) ∧ isM Γ G3 mo R K kp (bmp rf 0) ca rc hd fw tl by0 an vl iv ∧ fr G2 G3 mo (mo + 13)) ∨ (∃ ja jb : Nat, (ja < R 0) ∧ (a = nI ja) ∧ (jb < R 0) ∧ (b = nI jb) ∧ (¬ ja = jb) ∧ (z2 = nI (restV (if (if rL R ja < 3 then 11 else 2) = 11 then 1 else 0) (if (if rL R jb < 3 then 11 else 2) = 11 then 1 else 0))) ∧ isM Γ G3 mo R K kp rf ca rc hd fw tl by0 an vl iv ∧ fr G2 G3 mo (mo + 13))) : z = z2 ∧ SI Γ G3 co mo := by
  have S0 := S
  obtain ⟨hv, hj0, hj1, ⟨ht, hL, hbt⟩, ⟨hD, hgv, hlf, hvs⟩, hkp, ⟨hhd, hfw, htl, hvl⟩, hAi, hKB, hc0, hc1⟩ := S
  have c := hv.2.2
  have hG := hv.1.1
  have hR := hv.2.1.1.1
  have e0 := c.1 0 (by omega)
  have e1 := c.1 1 (by omega)
  have e2 := c.1 2 (by omega)
  have e3 := c.1 3 (by omega)
  have e4 := c.1 4 (by omega)
  have e5 := c.1 5 (by omega)
  have e20 := c.2.1
  have e21 := c.2.2.1
  have i2 := hG.1.2.1
  have i3 := hG.1.2.2.1
  rcases p1 with ⟨n1, r1, qq⟩ | ⟨ja, jb, a1, a2, a3, a4, a5, ans, qq⟩
  · rcases p2 with ⟨n2, r2, m⟩ | ⟨ja2, jb2, b1, b2, b3, b4, b5, ans2, m⟩
    · exact ⟨r1.trans r2.symm, mkSI hcm qq m S0⟩
    · exact absurd ⟨⟨ja2, by omega, b2⟩, ⟨jb2, by omega, b4⟩, fun hh => b5 (nI_u b2 (hh.trans b4) (by omega) (by omega))⟩ n1
  · rcases p2 with ⟨n2, r2, m⟩ | ⟨ja2, jb2, b1, b2, b3, b4, b5, ans2, m⟩
    · exact absurd ⟨⟨ja, by omega, a2⟩, ⟨jb, by omega, a4⟩, fun hh => a5 (nI_u a2 (hh.trans a4) (by omega) (by omega))⟩ n2
    · obtain rfl := nI_u a2 b2 (by omega) (by omega)
      obtain rfl := nI_u a4 b4 (by omega) (by omega)
      exact ⟨by rw [ans, ans2, an_first, an_first, sM_c c a1, sM_c c a3, sM_r, sM_r], mkSI hcm qq m S0⟩

set_option maxHeartbeats 1000000 in
theorem op_easters {Γ : Gam} {G G2 G3 : Nat → va_E} {co mo : Nat} {by0 tv gv Dv lf vs cv V J0 J1 kp rf R K ca rc hd fw tl an vl iv : Nat → Nat} (hcm : co + 76 ≤ mo) (S : sR by0 tv gv Dv lf vs cv V J0 J1 kp R K hd fw tl an vl iv) {sd q : Int32} {z z2 : Int32} (p1 : ((¬ (vRng 0 999999 sd ∧ vRng 0 60 q)) ∧ (z = -2) ∧ isO Γ G2 co kp (bmp rf 0) ∧ isT Γ G2 (co + 3) by0 tv ∧ isRd Γ G2 (co + 5) gv ∧ isV Γ G2 (co + 7) Dv ∧ isRw Γ G2 (co + 23) lf ∧ isGs Γ G2 (co + 25) vs ∧ isCh Γ G2 (co + 27) cv ∧ isV Γ G2 (co + 28) V ∧ isV Γ G2 (co + 44) J0 ∧ isV Γ G2 (co + 60) J1 ∧ fr G G2 (co + 0) (co + 76)) ∨ (∃ js jq : Nat, (js ≤ 999999) ∧ (sd = nI js) ∧ (jq ≤ 60) ∧ (q = nI jq) ∧ (z = nI (pc8 (V 20 ||| seedG V js jq))) ∧ isO Γ G2 co kp rf ∧ isT Γ G2 (co + 3) by0 tv ∧ isRd Γ G2 (co + 5) gv ∧ isV Γ G2 (co + 7) Dv ∧ isRw Γ G2 (co + 23) lf ∧ isGs Γ G2 (co + 25) vs ∧ isCh Γ G2 (co + 27) cv ∧ isV Γ G2 (co + 28) V ∧ isV Γ G2 (co + 44) J0 ∧ isV Γ G2 (co + 60) J1 ∧ fr G G2 (co + 0) (co + 76))) (p2 : ((¬ (vRng 0 999999 sd ∧ vRng 0 60 q)) ∧ (z2 = -2) ∧ isM Γ G3 mo R K kp (bmp rf 0) ca rc hd fw tl by0 an vl iv ∧ fr G2 G3 mo (mo + 13)) ∨ (∃ js jq : Nat, (js ≤ 999999) ∧ (sd = nI js) ∧ (jq ≤ 60) ∧ (q = nI jq) ∧ (z2 = nI (pc8 (eaH (cpyR hd R 60) js jq 20))) ∧ ∃ hd2 : Nat → Nat, (∀ j, hd2 j ≤ 1999) ∧ isM Γ G3 mo R K kp rf ca rc hd2 fw tl by0 an vl iv ∧ fr G2 G3 mo (mo + 13))) : z = z2 ∧ SI Γ G3 co mo := by
  have S0 := S
  obtain ⟨hv, hj0, hj1, ⟨ht, hL, hbt⟩, ⟨hD, hgv, hlf, hvs⟩, hkp, ⟨hhd, hfw, htl, hvl⟩, hAi, hKB, hc0, hc1⟩ := S
  have c := hv.2.2
  have hG := hv.1.1
  have hR := hv.2.1.1.1
  have e0 := c.1 0 (by omega)
  have e1 := c.1 1 (by omega)
  have e2 := c.1 2 (by omega)
  have e3 := c.1 3 (by omega)
  have e4 := c.1 4 (by omega)
  have e5 := c.1 5 (by omega)
  have e20 := c.2.1
  have e21 := c.2.2.1
  have i2 := hG.1.2.1
  have i3 := hG.1.2.2.1
  rcases p1 with ⟨n1, r1, qq⟩ | ⟨js, jq, a1, a2, a3, a4, ans, qq⟩
  · rcases p2 with ⟨n2, r2, m⟩ | ⟨js2, jq2, b1, b2, b3, b4, ans2, hd2, y1, m⟩
    · exact ⟨r1.trans r2.symm, mkSI hcm qq m S0⟩
    · exact absurd ⟨⟨js2, Nat.zero_le _, b1, b2⟩, ⟨jq2, Nat.zero_le _, b3, b4⟩⟩ n1
  · rcases p2 with ⟨n2, r2, m⟩ | ⟨js2, jq2, b1, b2, b3, b4, ans2, hd2, y1, m⟩
    · exact absurd ⟨⟨js, Nat.zero_le _, a1, a2⟩, ⟨jq, Nat.zero_le _, a3, a4⟩⟩ n2
    · obtain rfl := nI_u a2 b2 (by omega) (by omega)
      obtain rfl := nI_u a4 b4 (by omega) (by omega)
      exact ⟨by rw [ans, ans2, an_easters c hG hR], mkSI hcm qq m ⟨hv, hj0, hj1, ⟨ht, hL, hbt⟩, ⟨hD, hgv, hlf, hvs⟩, hkp, ⟨y1, hfw, htl, hvl⟩, hAi, hKB, hc0, hc1⟩⟩

set_option maxHeartbeats 1000000 in
theorem op_status {Γ : Gam} {G G2 G3 : Nat → va_E} {co mo : Nat} {by0 tv gv Dv lf vs cv V J0 J1 kp rf R K ca rc hd fw tl an vl iv : Nat → Nat} (hcm : co + 76 ≤ mo) (S : sR by0 tv gv Dv lf vs cv V J0 J1 kp R K hd fw tl an vl iv) {what : Int32} {z z2 : Int32} (p1 : ((¬ vRng 0 2 what) ∧ (z = -1) ∧ isO Γ G2 co kp (bmp rf 0) ∧ isT Γ G2 (co + 3) by0 tv ∧ isRd Γ G2 (co + 5) gv ∧ isV Γ G2 (co + 7) Dv ∧ isRw Γ G2 (co + 23) lf ∧ isGs Γ G2 (co + 25) vs ∧ isCh Γ G2 (co + 27) cv ∧ isV Γ G2 (co + 28) V ∧ isV Γ G2 (co + 44) J0 ∧ isV Γ G2 (co + 60) J1 ∧ fr G G2 (co + 0) (co + 76)) ∨ (∃ jw : Nat, (jw ≤ 2) ∧ (what = nI jw) ∧ (z = nI (rf jw)) ∧ isO Γ G2 co kp rf ∧ isT Γ G2 (co + 3) by0 tv ∧ isRd Γ G2 (co + 5) gv ∧ isV Γ G2 (co + 7) Dv ∧ isRw Γ G2 (co + 23) lf ∧ isGs Γ G2 (co + 25) vs ∧ isCh Γ G2 (co + 27) cv ∧ isV Γ G2 (co + 28) V ∧ isV Γ G2 (co + 44) J0 ∧ isV Γ G2 (co + 60) J1 ∧ fr G G2 (co + 0) (co + 76))) (p2 : ((¬ vRng 0 2 what) ∧ (z2 = -1) ∧ isM Γ G3 mo R K kp (bmp rf 0) ca rc hd fw tl by0 an vl iv ∧ fr G2 G3 mo (mo + 13)) ∨ (∃ jw : Nat, (jw ≤ 2) ∧ (what = nI jw) ∧ (z2 = nI (rf jw)) ∧ isM Γ G3 mo R K kp rf ca rc hd fw tl by0 an vl iv ∧ fr G2 G3 mo (mo + 13))) : z = z2 ∧ SI Γ G3 co mo := by
  have S0 := S
  obtain ⟨hv, hj0, hj1, ⟨ht, hL, hbt⟩, ⟨hD, hgv, hlf, hvs⟩, hkp, ⟨hhd, hfw, htl, hvl⟩, hAi, hKB, hc0, hc1⟩ := S
  have c := hv.2.2
  have hG := hv.1.1
  have hR := hv.2.1.1.1
  have e0 := c.1 0 (by omega)
  have e1 := c.1 1 (by omega)
  have e2 := c.1 2 (by omega)
  have e3 := c.1 3 (by omega)
  have e4 := c.1 4 (by omega)
  have e5 := c.1 5 (by omega)
  have e20 := c.2.1
  have e21 := c.2.2.1
  have i2 := hG.1.2.1
  have i3 := hG.1.2.2.1
  rcases p1 with ⟨n1, r1, qq⟩ | ⟨jw, a1, a2, ans, qq⟩
  · rcases p2 with ⟨n2, r2, m⟩ | ⟨jw2, b1, b2, ans2, m⟩
    · exact ⟨r1.trans r2.symm, mkSI hcm qq m S0⟩
    · exact absurd ⟨jw2, Nat.zero_le _, b1, b2⟩ n1
  · rcases p2 with ⟨n2, r2, m⟩ | ⟨jw2, b1, b2, ans2, m⟩
    · exact absurd ⟨jw, Nat.zero_le _, a1, a2⟩ n2
    · obtain rfl := nI_u a2 b2 (by omega) (by omega)
      exact ⟨ans.trans ans2.symm, mkSI hcm qq m S0⟩

set_option maxHeartbeats 1000000 in
theorem op_count {Γ : Gam} {G G2 G3 : Nat → va_E} {co mo : Nat} {by0 tv gv Dv lf vs cv V J0 J1 kp rf R K ca rc hd fw tl an vl iv : Nat → Nat} (hcm : co + 76 ≤ mo) (S : sR by0 tv gv Dv lf vs cv V J0 J1 kp R K hd fw tl an vl iv) {what : Int32} {z z2 : Int32} (p1 : ((¬ vRng 0 10 what) ∧ (z = -2) ∧ isO Γ G2 co kp (bmp rf 0) ∧ isT Γ G2 (co + 3) by0 tv ∧ isRd Γ G2 (co + 5) gv ∧ isV Γ G2 (co + 7) Dv ∧ isRw Γ G2 (co + 23) lf ∧ isGs Γ G2 (co + 25) vs ∧ isCh Γ G2 (co + 27) cv ∧ isV Γ G2 (co + 28) V ∧ isV Γ G2 (co + 44) J0 ∧ isV Γ G2 (co + 60) J1 ∧ fr G G2 (co + 0) (co + 76)) ∨ (∃ jw : Nat, (jw ≤ 10) ∧ (what = nI jw) ∧ (z = nI (tlyC V tv jw)) ∧ isO Γ G2 co kp rf ∧ isT Γ G2 (co + 3) by0 tv ∧ isRd Γ G2 (co + 5) gv ∧ isV Γ G2 (co + 7) Dv ∧ isRw Γ G2 (co + 23) lf ∧ isGs Γ G2 (co + 25) vs ∧ isCh Γ G2 (co + 27) cv ∧ isV Γ G2 (co + 28) V ∧ isV Γ G2 (co + 44) J0 ∧ isV Γ G2 (co + 60) J1 ∧ fr G G2 (co + 0) (co + 76))) (p2 : ((¬ vRng 0 10 what) ∧ (z2 = -2) ∧ isM Γ G3 mo R K kp (bmp rf 0) ca rc hd fw tl by0 an vl iv ∧ fr G2 G3 mo (mo + 13)) ∨ (∃ jw : Nat, (jw ≤ 10) ∧ (what = nI jw) ∧ (z2 = nI (rTally R iv jw)) ∧ isM Γ G3 mo R K kp rf ca rc hd fw tl by0 an vl iv ∧ fr G2 G3 mo (mo + 13))) : z = z2 ∧ SI Γ G3 co mo := by
  have S0 := S
  obtain ⟨hv, hj0, hj1, ⟨ht, hL, hbt⟩, ⟨hD, hgv, hlf, hvs⟩, hkp, ⟨hhd, hfw, htl, hvl⟩, hAi, hKB, hc0, hc1⟩ := S
  have c := hv.2.2
  have hG := hv.1.1
  have hR := hv.2.1.1.1
  have e0 := c.1 0 (by omega)
  have e1 := c.1 1 (by omega)
  have e2 := c.1 2 (by omega)
  have e3 := c.1 3 (by omega)
  have e4 := c.1 4 (by omega)
  have e5 := c.1 5 (by omega)
  have e20 := c.2.1
  have e21 := c.2.2.1
  have i2 := hG.1.2.1
  have i3 := hG.1.2.2.1
  rcases p1 with ⟨n1, r1, qq⟩ | ⟨jw, a1, a2, ans, qq⟩
  · rcases p2 with ⟨n2, r2, m⟩ | ⟨jw2, b1, b2, ans2, m⟩
    · exact ⟨r1.trans r2.symm, mkSI hcm qq m S0⟩
    · exact absurd ⟨jw2, Nat.zero_le _, b1, b2⟩ n1
  · rcases p2 with ⟨n2, r2, m⟩ | ⟨jw2, b1, b2, ans2, m⟩
    · exact absurd ⟨jw, Nat.zero_le _, a1, a2⟩ n2
    · obtain rfl := nI_u a2 b2 (by omega) (by omega)
      exact ⟨by rw [ans, ans2, an_tally c ht a1], mkSI hcm qq m S0⟩

set_option maxHeartbeats 1000000 in
theorem op_digest {Γ : Gam} {G G2 G3 : Nat → va_E} {co mo : Nat} {by0 tv gv Dv lf vs cv V J0 J1 kp rf R K ca rc hd fw tl an vl iv : Nat → Nat} (hcm : co + 76 ≤ mo) (S : sR by0 tv gv Dv lf vs cv V J0 J1 kp R K hd fw tl an vl iv) {z z2 : Int64} (p1 : ((z = lN (31 * (31 * dgV V (dg (tlyC V tv) 1693 11) + cv 0) + cv 1)) ∧ isO Γ G2 co kp rf ∧ isT Γ G2 (co + 3) by0 tv ∧ isRd Γ G2 (co + 5) gv ∧ isV Γ G2 (co + 7) Dv ∧ isRw Γ G2 (co + 23) lf ∧ isGs Γ G2 (co + 25) vs ∧ isCh Γ G2 (co + 27) cv ∧ isV Γ G2 (co + 28) V ∧ isV Γ G2 (co + 44) J0 ∧ isV Γ G2 (co + 60) J1 ∧ fr G G2 (co + 0) (co + 76))) (p2 : (z2 = lN (31 * (31 * dg (fun j => R (104 + j)) (dg (fun j => R (80 + j)) (dg (fun j => R (60 + j)) (dgT R (dgP R (dg (rTally R iv) 1693 11) (R 0)) (R 1)) (4 * R 2)) (4 * R 3)) (4 * R 4) + iv 5) + iv 6)) ∧ isM Γ G3 mo R K kp rf ca rc hd fw tl by0 an vl iv ∧ fr G2 G3 mo (mo + 13)) : z = z2 ∧ SI Γ G3 co mo := by
  have S0 := S
  obtain ⟨hv, hj0, hj1, ⟨ht, hL, hbt⟩, ⟨hD, hgv, hlf, hvs⟩, hkp, ⟨hhd, hfw, htl, hvl⟩, hAi, hKB, hc0, hc1⟩ := S
  have c := hv.2.2
  have hG := hv.1.1
  have hR := hv.2.1.1.1
  have e0 := c.1 0 (by omega)
  have e1 := c.1 1 (by omega)
  have e2 := c.1 2 (by omega)
  have e3 := c.1 3 (by omega)
  have e4 := c.1 4 (by omega)
  have e5 := c.1 5 (by omega)
  have e20 := c.2.1
  have e21 := c.2.2.1
  have i2 := hG.1.2.1
  have i3 := hG.1.2.2.1
  obtain ⟨r1, qq⟩ := p1
  obtain ⟨r2, m⟩ := p2
  exact ⟨by rw [r1, r2, an_digest c hR ht, hc0, hc1], mkSI hcm qq m S0⟩

set_option maxHeartbeats 1000000 in
theorem op_rust {Γ : Gam} {G G2 G3 : Nat → va_E} {co mo : Nat} {by0 tv gv Dv lf vs cv V J0 J1 kp rf R K ca rc hd fw tl an vl iv : Nat → Nat} (hcm : co + 76 ≤ mo) (S : sR by0 tv gv Dv lf vs cv V J0 J1 kp R K hd fw tl an vl iv) {k ws c0 : Int32} {z z2 : Int32} (p1 : ((¬ (vBel (V 1) k ∧ vRng 0 (2 ^ V 1 - 1) ws ∧ vRng 0 10 c0 ∧ ∃ jk jw, k = nI jk ∧ jk < V 1 ∧ ws = nI jw ∧ jw < 256 ∧ ¬ bt jw jk)) ∧ (z = -2) ∧ isO Γ G2 co kp (bmp rf 0) ∧ isT Γ G2 (co + 3) by0 tv ∧ isRd Γ G2 (co + 5) gv ∧ isV Γ G2 (co + 7) Dv ∧ isRw Γ G2 (co + 23) lf ∧ isGs Γ G2 (co + 25) vs ∧ isCh Γ G2 (co + 27) cv ∧ isV Γ G2 (co + 28) V ∧ isV Γ G2 (co + 44) J0 ∧ isV Γ G2 (co + 60) J1 ∧ fr G G2 (co + 0) (co + 76)) ∨ (∃ jk jw jc : Nat, (jk < V 1) ∧ (k = nI jk) ∧ (jw ≤ 2 ^ V 1 - 1) ∧ (ws = nI jw) ∧ (jc ≤ 10) ∧ (c0 = nI jc) ∧ (¬ bt jw jk) ∧ (z = nI 1) ∧ isO Γ G2 co kp rf ∧ isT Γ G2 (co + 3) by0 tv ∧ isRd Γ G2 (co + 5) gv ∧ isV Γ G2 (co + 7) Dv ∧ isRw Γ G2 (co + 23) lf ∧ isGs Γ G2 (co + 25) vs ∧ isCh Γ G2 (co + 27) (fracC cv (sumC V jk jw jc (jw + 1)) (10 ^ pc8 jw)) ∧ isV Γ G2 (co + 28) V ∧ isV Γ G2 (co + 44) J0 ∧ isV Γ G2 (co + 60) J1 ∧ fr G G2 (co + 0) (co + 76))) (p2 : ((¬ (vBel (R 1) k ∧ vRng 0 (2 ^ R 1 - 1) ws ∧ (∀ a b : Nat, k = nI a → a < R 1 → ws = nI b → b < 256 → ¬ bt b a) ∧ vRng 0 10 c0)) ∧ (z2 = -2) ∧ isM Γ G3 mo R K kp (bmp rf 0) ca rc hd fw tl by0 an vl iv ∧ fr G2 G3 mo (mo + 13)) ∨ (∃ jk jw jc : Nat, (jk < R 1) ∧ (k = nI jk) ∧ (jw ≤ 2 ^ R 1 - 1) ∧ (ws = nI jw) ∧ (¬ bt jw jk) ∧ (jc ≤ 10) ∧ (c0 = nI jc) ∧ (z2 = nI 1) ∧ ∃ hd2 : Nat → Nat, (∀ j, hd2 j ≤ 1999) ∧ isM Γ G3 mo R K kp rf ca rc hd2 fw tl by0 an vl (fracI iv (sumF (cpyR hd R 60) jw jk jc (R 1) (2 ^ R 1)) (wholeF jw (R 1))) ∧ fr G2 G3 mo (mo + 13))) : z = z2 ∧ SI Γ G3 co mo := by
  have S0 := S
  obtain ⟨hv, hj0, hj1, ⟨ht, hL, hbt⟩, ⟨hD, hgv, hlf, hvs⟩, hkp, ⟨hhd, hfw, htl, hvl⟩, hAi, hKB, hc0, hc1⟩ := S
  have c := hv.2.2
  have hG := hv.1.1
  have hR := hv.2.1.1.1
  have e0 := c.1 0 (by omega)
  have e1 := c.1 1 (by omega)
  have e2 := c.1 2 (by omega)
  have e3 := c.1 3 (by omega)
  have e4 := c.1 4 (by omega)
  have e5 := c.1 5 (by omega)
  have e20 := c.2.1
  have e21 := c.2.2.1
  have i2 := hG.1.2.1
  have i3 := hG.1.2.2.1
  rcases p1 with ⟨n1, r1, qq⟩ | ⟨jk, jw, jc, a1, a2, a3, a4, a5, a6, a7, ans, qq⟩
  · rcases p2 with ⟨n2, r2, m⟩ | ⟨jk2, jw2, jc2, b1, b2, b3, b4, b5, b6, b7, ans2, hd2, y1, m⟩
    · exact ⟨r1.trans r2.symm, mkSI hcm qq m S0⟩
    · exact absurd ⟨⟨jk2, by omega, b2⟩, ⟨jw2, Nat.zero_le _, by rw [e1]; exact b3, b4⟩, ⟨jc2, Nat.zero_le _, b6, b7⟩, jk2, jw2, b2, by omega, b4, by have := p2_le (show R 1 ≤ 8 by omega); omega, b5⟩ n1
  · rcases p2 with ⟨n2, r2, m⟩ | ⟨jk2, jw2, jc2, b1, b2, b3, b4, b5, b6, b7, ans2, hd2, y1, m⟩
    · exact absurd ⟨⟨jk, by omega, a2⟩, ⟨jw, Nat.zero_le _, by rw [← e1]; exact a3, a4⟩, fun u v h1 h2 h3 h4 => by rw [← nI_u a2 h1 (by omega) (by omega), ← nI_u a4 h3 (by have := p2_le i3; omega) (by omega)]; exact a7, ⟨jc, Nat.zero_le _, a5, a6⟩⟩ n2
    · have p8 := p2_le i3
      have p8r := p2_le (show R 1 ≤ 8 by omega)
      obtain rfl := nI_u a2 b2 (by omega) (by omega)
      obtain rfl := nI_u a4 b4 (by omega) (by omega)
      obtain rfl := nI_u a6 b7 (by omega) (by omega)
      have hp := Nat.two_pow_pos (R 1)
      rw [an_rust c hG hR (fun j hj => cpyR_at hj) b1 (show jw < 2 ^ R 1 by omega) b5, an_whole (show R 1 ≤ 8 by omega) (show jw < 2 ^ R 1 by omega)] at m
      exact ⟨ans.trans ans2.symm, mkSI hcm qq m ⟨hv, hj0, hj1, ⟨by unfold fracI; rw [va_up_ne _ _ (by decide), va_up_ne _ _ (by decide)]; exact ht, hL, hbt⟩, ⟨hD, hgv, hlf, hvs⟩, hkp, ⟨y1, hfw, htl, hvl⟩, hAi, hKB, by unfold fracC fracI; rw [va_up_ne _ _ (by decide), va_up_self, va_up_ne _ _ (by decide), va_up_self], by unfold fracC fracI; rw [va_up_self, va_up_self]⟩⟩

set_option maxHeartbeats 1000000 in
theorem op_part {Γ : Gam} {G G2 G3 : Nat → va_E} {co mo : Nat} {by0 tv gv Dv lf vs cv V J0 J1 kp rf R K ca rc hd fw tl an vl iv : Nat → Nat} (hcm : co + 76 ≤ mo) (S : sR by0 tv gv Dv lf vs cv V J0 J1 kp R K hd fw tl an vl iv) {what : Int32} {z z2 : Int64} (p1 : ((¬ what = 0) ∧ (¬ what = nI 1) ∧ (z = (-2 : Int32).toInt64) ∧ isO Γ G2 co kp (bmp rf 0) ∧ isT Γ G2 (co + 3) by0 tv ∧ isRd Γ G2 (co + 5) gv ∧ isV Γ G2 (co + 7) Dv ∧ isRw Γ G2 (co + 23) lf ∧ isGs Γ G2 (co + 25) vs ∧ isCh Γ G2 (co + 27) cv ∧ isV Γ G2 (co + 28) V ∧ isV Γ G2 (co + 44) J0 ∧ isV Γ G2 (co + 60) J1 ∧ fr G G2 (co + 0) (co + 76)) ∨ (((what = 0 ∧ z = lN (cv 0)) ∨ (what = nI 1 ∧ z = lN (cv 1))) ∧ isO Γ G2 co kp rf ∧ isT Γ G2 (co + 3) by0 tv ∧ isRd Γ G2 (co + 5) gv ∧ isV Γ G2 (co + 7) Dv ∧ isRw Γ G2 (co + 23) lf ∧ isGs Γ G2 (co + 25) vs ∧ isCh Γ G2 (co + 27) cv ∧ isV Γ G2 (co + 28) V ∧ isV Γ G2 (co + 44) J0 ∧ isV Γ G2 (co + 60) J1 ∧ fr G G2 (co + 0) (co + 76))) (p2 : ((¬ what = 0) ∧ (¬ what = nI 1) ∧ (z2 = (-2 : Int32).toInt64) ∧ isM Γ G3 mo R K kp (bmp rf 0) ca rc hd fw tl by0 an vl iv ∧ fr G2 G3 mo (mo + 13)) ∨ (((what = 0 ∧ z2 = lN (iv 5)) ∨ (what = nI 1 ∧ ¬ what = 0 ∧ z2 = lN (iv 6))) ∧ isM Γ G3 mo R K kp rf ca rc hd fw tl by0 an vl iv ∧ fr G2 G3 mo (mo + 13))) : z = z2 ∧ SI Γ G3 co mo := by
  have S0 := S
  obtain ⟨hv, hj0, hj1, ⟨ht, hL, hbt⟩, ⟨hD, hgv, hlf, hvs⟩, hkp, ⟨hhd, hfw, htl, hvl⟩, hAi, hKB, hc0, hc1⟩ := S
  have c := hv.2.2
  have hG := hv.1.1
  have hR := hv.2.1.1.1
  have e0 := c.1 0 (by omega)
  have e1 := c.1 1 (by omega)
  have e2 := c.1 2 (by omega)
  have e3 := c.1 3 (by omega)
  have e4 := c.1 4 (by omega)
  have e5 := c.1 5 (by omega)
  have e20 := c.2.1
  have e21 := c.2.2.1
  have i2 := hG.1.2.1
  have i3 := hG.1.2.2.1
  rcases p1 with ⟨n1, n2, r1, qq⟩ | ⟨ans, qq⟩
  · rcases p2 with ⟨n3, n4, r2, m⟩ | ⟨ans2, m⟩
    · exact ⟨r1.trans r2.symm, mkSI hcm qq m S0⟩
    · rcases ans2 with ⟨y, _⟩ | ⟨y, _⟩
      · exact absurd y n1
      · exact absurd y n2
  · rcases p2 with ⟨n3, n4, r2, m⟩ | ⟨ans2, m⟩
    · rcases ans with ⟨y, _⟩ | ⟨y, _⟩
      · exact absurd y n3
      · exact absurd y n4
    · refine ⟨?_, mkSI hcm qq m S0⟩
      rcases ans with ⟨y, r1⟩ | ⟨y, r1⟩
      · rcases ans2 with ⟨_, r2⟩ | ⟨y2, y3, r2⟩
        · rw [r1, r2, hc0]
        · exact absurd y y3
      · rcases ans2 with ⟨y2, r2⟩ | ⟨y2, y3, r2⟩
        · rw [y] at y2; exact absurd y2 (by decide)
        · rw [r1, r2, hc1]

end SRM
