section SRO
theorem bad_no {T : Nat → Nat} {L P W : Nat} {can : Nat → Prop} {x its p : Nat} (h : itBad T L P W can x its p) : ¬ itOK T L P W can x its := by
  rintro ⟨a1, a2, a3, a4⟩
  rcases h with ⟨b, _⟩ | ⟨_, q, b1, _, b3, _⟩ | ⟨_, _, b3, _⟩
  · exact b ⟨a1, a2⟩
  · exact b3 (a3 q b1)
  · exact b3 a4
theorem bad_u {T : Nat → Nat} {L P W : Nat} {can : Nat → Prop} {x its p p2 : Nat} (h : itBad T L P W can x its p) (h2 : itBad T L P W can x its p2) : p = p2 := by
  rcases h with ⟨b, b1⟩ | ⟨b0, q, b1, b2, b3, b4⟩ | ⟨b0, b1, b2, b3⟩
  · rcases h2 with ⟨d, d1⟩ | ⟨d0, q2, d1, d2, d3, d4⟩ | ⟨d0, d1, d2, d3⟩
    · rw [b1, d1]
    · exact absurd d0 b
    · exact absurd d0 b
  · rcases h2 with ⟨d, d1⟩ | ⟨d0, q2, d1, d2, d3, d4⟩ | ⟨d0, d1, d2, d3⟩
    · exact absurd b0 d
    · have : q = q2 := by
        rcases Nat.lt_trichotomy q q2 with z | z | z
        · exact absurd (d2 q z) b3
        · exact z
        · exact absurd (b2 q2 z) d3
      rw [b4, d4, this]
    · exact absurd (d1 q b1) b3
  · rcases h2 with ⟨d, d1⟩ | ⟨d0, q2, d1, d2, d3, d4⟩ | ⟨d0, d1, d2, d3⟩
    · exact absurd b0 d
    · exact absurd (b1 q2 d1) d3
    · rw [b3, d3]
theorem rd_gg {T V : Nat → Nat} {L k k2 : Nat} (h : rdGood T L V k) (h2 : rdGood T L V k2) : k = k2 := by
  rcases Nat.lt_trichotomy k k2 with z | z | z
  · have := (h2.2.1 k z).1; have := h.2.2; omega
  · exact z
  · have := (h.2.1 k2 z).1; have := h2.2.2; omega
theorem rd_gb {T V : Nat → Nat} {L k p : Nat} (h : rdGood T L V k) (h2 : rdBad T L V p) : False := by
  obtain ⟨u, a1, a2, a3⟩ := h2
  rcases Nat.lt_trichotomy k u with z | z | z
  · have := (a1 k z).1; have := h.2.2; omega
  · rw [← z] at a2; exact a2 ⟨h.1, h.2.2⟩
  · exact bad_no a3 (h.2.1 u z)
theorem rd_bb {T V : Nat → Nat} {L p p2 : Nat} (h : rdBad T L V p) (h2 : rdBad T L V p2) : p = p2 := by
  obtain ⟨u, a1, a2, a3⟩ := h
  obtain ⟨w, b1, b2, b3⟩ := h2
  rcases Nat.lt_trichotomy u w with z | z | z
  · exact absurd (b1 u z) (bad_no a3)
  · subst z; exact bad_u a3 b3
  · exact absurd (a1 w z) (bad_no b3)
theorem cpy_le {R f : Nat → Nat} {q : Nat} (h1 : ∀ j, R j ≤ 1999) (h2 : ∀ j, f j ≤ 1999) (j : Nat) : cpyR R f q j ≤ 1999 := by
  unfold cpyR; split
  · exact h2 j
  · exact h1 j
set_option maxHeartbeats 1000000 in
theorem op_read {Γ : Gam} {G G2 G3 : Nat → va_E} {co mo : Nat} {by0 tv gv Dv lf vs cv V J0 J1 kp rf R K ca rc hd fw tl an vl iv : Nat → Nat} (hcm : co + 76 ≤ mo) (S : sR by0 tv gv Dv lf vs cv V J0 J1 kp R K hd fw tl an vl iv) {z z2 : Int32} (p1 : (∃ k : Nat, (rdGood by0 (tv 0) (emV Dv) k) ∧ (z = nI k) ∧ ∃ tv2 : Nat → Nat, ∃ gv2 : Nat → Nat, (tv2 0 = tv 0 ∧ ∀ j, gv2 j < 2000) ∧ isO Γ G2 co kp rf ∧ isT Γ G2 (co + 3) by0 tv2 ∧ isRd Γ G2 (co + 5) gv2 ∧ isV Γ G2 (co + 7) (rdV by0 (tv 0) (emV Dv) k) ∧ isRw Γ G2 (co + 23) lf ∧ isGs Γ G2 (co + 25) vs ∧ isCh Γ G2 (co + 27) cv ∧ isV Γ G2 (co + 28) (rdV by0 (tv 0) (emV Dv) k) ∧ isV Γ G2 (co + 44) J0 ∧ isV Γ G2 (co + 60) J1 ∧ fr G G2 (co + 0) (co + 76)) ∨ (∃ p : Nat, (rdBad by0 (tv 0) (emV Dv) p) ∧ (z = nI 0 - nI (10 + p)) ∧ ∃ tv2 : Nat → Nat, ∃ gv2 : Nat → Nat, ∃ Dv2 : Nat → Nat, (tv2 0 = tv 0 ∧ (∀ j, gv2 j < 2000) ∧ vI Dv2) ∧ isO Γ G2 co kp rf ∧ isT Γ G2 (co + 3) by0 tv2 ∧ isRd Γ G2 (co + 5) gv2 ∧ isV Γ G2 (co + 7) Dv2 ∧ isRw Γ G2 (co + 23) lf ∧ isGs Γ G2 (co + 25) vs ∧ isCh Γ G2 (co + 27) cv ∧ isV Γ G2 (co + 28) V ∧ isV Γ G2 (co + 44) J0 ∧ isV Γ G2 (co + 60) J1 ∧ fr G G2 (co + 0) (co + 76))) (p2 : (∃ k : Nat, (rdGood by0 (iv 0) (zeroR an 128) k) ∧ (z2 = nI k) ∧ ∃ iv2 : Nat → Nat, ∃ vl2 : Nat → Nat, (iv2 0 = iv 0 ∧ iv2 5 = iv 5 ∧ iv2 6 = iv 6 ∧ ∀ j, vl2 j < 2000) ∧ isM Γ G3 mo (cpyR R (rdV by0 (iv 0) (zeroR an 128) k) 128) K kp rf ca rc hd fw tl by0 (rdV by0 (iv 0) (zeroR an 128) k) vl2 iv2 ∧ fr G2 G3 mo (mo + 13)) ∨ (∃ p : Nat, (rdBad by0 (iv 0) (zeroR an 128) p) ∧ (z2 = nI 0 - nI (10 + p)) ∧ ∃ iv2 : Nat → Nat, ∃ vl2 : Nat → Nat, ∃ an2 : Nat → Nat, (iv2 0 = iv 0 ∧ iv2 5 = iv 5 ∧ iv2 6 = iv 6 ∧ (∀ j, vl2 j < 2000) ∧ aI an2) ∧ isM Γ G3 mo R K kp rf ca rc hd fw tl by0 an2 vl2 iv2 ∧ fr G2 G3 mo (mo + 13))) : z = z2 ∧ SI Γ G3 co mo := by
  have S0 := S
  obtain ⟨hv, hj0, hj1, ⟨ht, hL, hbt⟩, ⟨hD, hgv, hlf, hvs⟩, hkp, ⟨hhd, hfw, htl, hvl⟩, hAi, hKB, hc0, hc1⟩ := S
  have c := hv.2.2
  have hG := hv.1.1
  have hR := hv.2.1.1.1
  have e0 := c.1 0 (by omega)
  have e1 := c.1 1 (by omega)
  have e2 := c.1 2 (by omega)
  have e3 := c.1 3 (by omega)
  have e4 := c.1 4 (by omega)
  have e5 := c.1 5 (by omega)
  have e20 := c.2.1
  have e21 := c.2.2.1
  have i2 := hG.1.2.1
  have i3 := hG.1.2.2.1
  have hw0 := vr_em hD hAi.1
  have h50 : emV Dv 5 = 0 := em_at (by omega)
  rw [← ht] at p2
  rcases p1 with ⟨k, g1, r1, tv2, gv2, ⟨t0, t1⟩, qq⟩ | ⟨p, g1, r1, tv2, gv2, Dv2, ⟨t0, t1, t2⟩, qq⟩
  · rcases p2 with ⟨k2, g2, r2, iv2, vl2, ⟨u0, u5, u6, u1⟩, m⟩ | ⟨p2, g2, r2, iv2, vl2, an2, ⟨u0, u5, u6, u1, u2⟩, m⟩
    · obtain rfl := rd_gg ((rdGood_c hw0 h50 k).mp g1) g2
      obtain ⟨hr, hr5⟩ := vr_rd (T := by0) (L := tv 0) hw0 h50 k g1.2.1
      have hn := vr_same (X := cpyR R (rdV by0 (tv 0) (zeroR an 128) k) 128) hr (fun j hj => cpyR_at (by omega)) (cpy_le hR.1.1 hr.2.1.1.1.1.1)
      exact ⟨r1.trans r2.symm, mkSI hcm qq m ⟨hn, hj0, hj1, ⟨by rw [t0, u0]; try exact ht, by rw [t0]; exact hL, hbt⟩, ⟨hr.1.1.1, t1, hlf, hvs⟩, hkp, ⟨hhd, hfw, htl, u1⟩, vI_a hr.2.1.1.1.1, hKB, hc0.trans u5.symm, hc1.trans u6.symm⟩⟩
    · exact (rd_gb ((rdGood_c hw0 h50 k).mp g1) g2).elim
  · rcases p2 with ⟨k2, g2, r2, iv2, vl2, ⟨u0, u5, u6, u1⟩, m⟩ | ⟨p2, g2, r2, iv2, vl2, an2, ⟨u0, u5, u6, u1, u2⟩, m⟩
    · exact (rd_gb g2 (rdBad_c hw0 h50 p g1)).elim
    · obtain rfl := rd_bb (rdBad_c hw0 h50 p g1) g2
      exact ⟨r1.trans r2.symm, mkSI hcm qq m ⟨hv, hj0, hj1, ⟨by rw [t0, u0]; try exact ht, by rw [t0]; exact hL, hbt⟩, ⟨t2, t1, hlf, hvs⟩, hkp, ⟨hhd, hfw, htl, u1⟩, u2, hKB, hc0.trans u5.symm, hc1.trans u6.symm⟩⟩

set_option maxHeartbeats 1000000 in
theorem op_image {Γ : Gam} {G G2 G3 : Nat → va_E} {co mo : Nat} {by0 tv gv Dv lf vs cv V J0 J1 kp rf R K ca rc hd fw tl an vl iv : Nat → Nat} (hcm : co + 76 ≤ mo) (S : sR by0 tv gv Dv lf vs cv V J0 J1 kp R K hd fw tl an vl iv) {i : Int32} {z z2 : Int32} (p1 : ((¬ vRng 0 1 i) ∧ (z = -2) ∧ isO Γ G2 co kp (bmp rf 0) ∧ isT Γ G2 (co + 3) by0 tv ∧ isRd Γ G2 (co + 5) gv ∧ isV Γ G2 (co + 7) Dv ∧ isRw Γ G2 (co + 23) lf ∧ isGs Γ G2 (co + 25) vs ∧ isCh Γ G2 (co + 27) cv ∧ isV Γ G2 (co + 28) V ∧ isV Γ G2 (co + 44) J0 ∧ isV Γ G2 (co + 60) J1 ∧ fr G G2 (co + 0) (co + 76)) ∨ ((i = nI 0) ∧ (z = nI 1) ∧ isO Γ G2 co (va_up kp 0 1) rf ∧ isT Γ G2 (co + 3) by0 tv ∧ isRd Γ G2 (co + 5) gv ∧ isV Γ G2 (co + 7) Dv ∧ isRw Γ G2 (co + 23) lf ∧ isGs Γ G2 (co + 25) vs ∧ isCh Γ G2 (co + 27) cv ∧ isV Γ G2 (co + 28) V ∧ isV Γ G2 (co + 44) V ∧ isV Γ G2 (co + 60) J1 ∧ fr G G2 (co + 0) (co + 76)) ∨ ((i = nI 1) ∧ (z = nI 1) ∧ isO Γ G2 co (va_up kp 1 1) rf ∧ isT Γ G2 (co + 3) by0 tv ∧ isRd Γ G2 (co + 5) gv ∧ isV Γ G2 (co + 7) Dv ∧ isRw Γ G2 (co + 23) lf ∧ isGs Γ G2 (co + 25) vs ∧ isCh Γ G2 (co + 27) cv ∧ isV Γ G2 (co + 28) V ∧ isV Γ G2 (co + 44) J0 ∧ isV Γ G2 (co + 60) V ∧ fr G G2 (co + 0) (co + 76))) (p2 : ((¬ vRng 0 1 i) ∧ (z2 = -2) ∧ isM Γ G3 mo R K kp (bmp rf 0) ca rc hd fw tl by0 an vl iv ∧ fr G2 G3 mo (mo + 13)) ∨ (∃ ji : Nat, (ji ≤ 1) ∧ (i = nI ji) ∧ (z2 = nI 1) ∧ isM Γ G3 mo R (imgK K R ji 256) (va_up kp ji 1) rf ca rc hd fw tl by0 an vl iv ∧ fr G2 G3 mo (mo + 13))) : z = z2 ∧ SI Γ G3 co mo := by
  have S0 := S
  obtain ⟨hv, hj0, hj1, ⟨ht, hL, hbt⟩, ⟨hD, hgv, hlf, hvs⟩, hkp, ⟨hhd, hfw, htl, hvl⟩, hAi, hKB, hc0, hc1⟩ := S
  have c := hv.2.2
  have hG := hv.1.1
  have hR := hv.2.1.1.1
  have e0 := c.1 0 (by omega)
  have e1 := c.1 1 (by omega)
  have e2 := c.1 2 (by omega)
  have e3 := c.1 3 (by omega)
  have e4 := c.1 4 (by omega)
  have e5 := c.1 5 (by omega)
  have e20 := c.2.1
  have e21 := c.2.2.1
  have i2 := hG.1.2.1
  have i3 := hG.1.2.2.1
  have p5 := hG.1.2.2.2.2.2.2.1
  have q0 := hj0.1.1.1.2.2.2.2.2.2.1
  have q1 := hj1.1.1.1.2.2.2.2.2.2.1
  rcases p1 with ⟨n1, r1, qq⟩ | ⟨y, r1, qq⟩ | ⟨y, r1, qq⟩
  · rcases p2 with ⟨n2, r2, m⟩ | ⟨ji, b1, b2, r2, m⟩
    · exact ⟨r1.trans r2.symm, mkSI hcm qq m S0⟩
    · exact absurd ⟨ji, Nat.zero_le _, b1, b2⟩ n1
  · rcases p2 with ⟨n2, r2, m⟩ | ⟨ji, b1, b2, r2, m⟩
    · exact absurd ⟨0, by omega, by omega, y⟩ n2
    · obtain rfl := nI_u y b2 (by omega) (by omega)
      exact ⟨r1.trans r2.symm, mkSI hcm qq m ⟨hv, vr_same hv (fun j hj => img_i (by omega)) (fun j => img_le hKB hR.1.1 _), vr_same hj1 (fun j hj => img_o (by omega) (by decide)) (fun j => img_le hKB hR.1.1 _), ⟨ht, hL, hbt⟩, ⟨hD, hgv, hlf, hvs⟩, fun j => up_le hkp (by omega) j, ⟨hhd, hfw, htl, hvl⟩, hAi, fun j => img_le hKB hR.1.1 j, hc0, hc1⟩⟩
  · rcases p2 with ⟨n2, r2, m⟩ | ⟨ji, b1, b2, r2, m⟩
    · exact absurd ⟨1, by omega, by omega, y⟩ n2
    · obtain rfl := nI_u y b2 (by omega) (by omega)
      exact ⟨r1.trans r2.symm, mkSI hcm qq m ⟨hv, vr_same hj0 (fun j hj => img_o (by omega) (by decide)) (fun j => img_le hKB hR.1.1 _), vr_same hv (fun j hj => img_i (by omega)) (fun j => img_le hKB hR.1.1 _), ⟨ht, hL, hbt⟩, ⟨hD, hgv, hlf, hvs⟩, fun j => up_le hkp (by omega) j, ⟨hhd, hfw, htl, hvl⟩, hAi, fun j => img_le hKB hR.1.1 j, hc0, hc1⟩⟩

set_option maxHeartbeats 1000000 in
theorem op_from {Γ : Gam} {G G2 G3 : Nat → va_E} {co mo : Nat} {by0 tv gv Dv lf vs cv V J0 J1 kp rf R K ca rc hd fw tl an vl iv : Nat → Nat} (hcm : co + 76 ≤ mo) (S : sR by0 tv gv Dv lf vs cv V J0 J1 kp R K hd fw tl an vl iv) {i : Int32} {z z2 : Int32} (p1 : ((¬ vRng 0 1 i) ∧ (z = -2) ∧ isO Γ G2 co kp (bmp rf 0) ∧ isT Γ G2 (co + 3) by0 tv ∧ isRd Γ G2 (co + 5) gv ∧ isV Γ G2 (co + 7) Dv ∧ isRw Γ G2 (co + 23) lf ∧ isGs Γ G2 (co + 25) vs ∧ isCh Γ G2 (co + 27) cv ∧ isV Γ G2 (co + 28) V ∧ isV Γ G2 (co + 44) J0 ∧ isV Γ G2 (co + 60) J1 ∧ fr G G2 (co + 0) (co + 76)) ∨ ((i = nI 0) ∧ (kp 0 = 0) ∧ (z = -3) ∧ isO Γ G2 co kp (bmp rf 1) ∧ isT Γ G2 (co + 3) by0 tv ∧ isRd Γ G2 (co + 5) gv ∧ isV Γ G2 (co + 7) Dv ∧ isRw Γ G2 (co + 23) lf ∧ isGs Γ G2 (co + 25) vs ∧ isCh Γ G2 (co + 27) cv ∧ isV Γ G2 (co + 28) V ∧ isV Γ G2 (co + 44) J0 ∧ isV Γ G2 (co + 60) J1 ∧ fr G G2 (co + 0) (co + 76)) ∨ ((i = nI 1) ∧ (kp 1 = 0) ∧ (z = -3) ∧ isO Γ G2 co kp (bmp rf 1) ∧ isT Γ G2 (co + 3) by0 tv ∧ isRd Γ G2 (co + 5) gv ∧ isV Γ G2 (co + 7) Dv ∧ isRw Γ G2 (co + 23) lf ∧ isGs Γ G2 (co + 25) vs ∧ isCh Γ G2 (co + 27) cv ∧ isV Γ G2 (co + 28) V ∧ isV Γ G2 (co + 44) J0 ∧ isV Γ G2 (co + 60) J1 ∧ fr G G2 (co + 0) (co + 76)) ∨ ((i = nI 0) ∧ (¬ kp 0 = 0) ∧ (z = nI 1) ∧ isO Γ G2 co kp rf ∧ isT Γ G2 (co + 3) by0 tv ∧ isRd Γ G2 (co + 5) gv ∧ isV Γ G2 (co + 7) Dv ∧ isRw Γ G2 (co + 23) lf ∧ isGs Γ G2 (co + 25) vs ∧ isCh Γ G2 (co + 27) cv ∧ isV Γ G2 (co + 28) J0 ∧ isV Γ G2 (co + 44) J0 ∧ isV Γ G2 (co + 60) J1 ∧ fr G G2 (co + 0) (co + 76)) ∨ ((i = nI 1) ∧ (¬ kp 1 = 0) ∧ (z = nI 1) ∧ isO Γ G2 co kp rf ∧ isT Γ G2 (co + 3) by0 tv ∧ isRd Γ G2 (co + 5) gv ∧ isV Γ G2 (co + 7) Dv ∧ isRw Γ G2 (co + 23) lf ∧ isGs Γ G2 (co + 25) vs ∧ isCh Γ G2 (co + 27) cv ∧ isV Γ G2 (co + 28) J1 ∧ isV Γ G2 (co + 44) J0 ∧ isV Γ G2 (co + 60) J1 ∧ fr G G2 (co + 0) (co + 76))) (p2 : ((¬ vRng 0 1 i) ∧ (z2 = -2) ∧ isM Γ G3 mo R K kp (bmp rf 0) ca rc hd fw tl by0 an vl iv ∧ fr G2 G3 mo (mo + 13)) ∨ (∃ ji : Nat, (ji ≤ 1) ∧ (i = nI ji) ∧ (kp ji = 0) ∧ (z2 = -3) ∧ isM Γ G3 mo R K kp (bmp rf 1) ca rc hd fw tl by0 an vl iv ∧ fr G2 G3 mo (mo + 13)) ∨ (∃ ji : Nat, (ji ≤ 1) ∧ (i = nI ji) ∧ (¬ kp ji = 0) ∧ (z2 = nI 1) ∧ isM Γ G3 mo (cpyR R (fun j => K (256 * ji + j)) 256) K kp rf ca rc hd fw tl by0 an vl iv ∧ fr G2 G3 mo (mo + 13))) : z = z2 ∧ SI Γ G3 co mo := by
  have S0 := S
  obtain ⟨hv, hj0, hj1, ⟨ht, hL, hbt⟩, ⟨hD, hgv, hlf, hvs⟩, hkp, ⟨hhd, hfw, htl, hvl⟩, hAi, hKB, hc0, hc1⟩ := S
  have c := hv.2.2
  have hG := hv.1.1
  have hR := hv.2.1.1.1
  have e0 := c.1 0 (by omega)
  have e1 := c.1 1 (by omega)
  have e2 := c.1 2 (by omega)
  have e3 := c.1 3 (by omega)
  have e4 := c.1 4 (by omega)
  have e5 := c.1 5 (by omega)
  have e20 := c.2.1
  have e21 := c.2.2.1
  have i2 := hG.1.2.1
  have i3 := hG.1.2.2.1
  have p5 := hG.1.2.2.2.2.2.2.1
  have q0 := hj0.1.1.1.2.2.2.2.2.2.1
  have q1 := hj1.1.1.1.2.2.2.2.2.2.1
  rcases p1 with ⟨n1, r1, qq⟩ | ⟨y, y2, r1, qq⟩ | ⟨y, y2, r1, qq⟩ | ⟨y, y2, r1, qq⟩ | ⟨y, y2, r1, qq⟩
  · rcases p2 with ⟨n2, r2, m⟩ | ⟨ji, b1, b2, b3, r2, m⟩ | ⟨ji, b1, b2, b3, r2, m⟩
    · exact ⟨r1.trans r2.symm, mkSI hcm qq m S0⟩
    · exact absurd ⟨ji, Nat.zero_le _, b1, b2⟩ n1
    · exact absurd ⟨ji, Nat.zero_le _, b1, b2⟩ n1
  · rcases p2 with ⟨n2, r2, m⟩ | ⟨ji, b1, b2, b3, r2, m⟩ | ⟨ji, b1, b2, b3, r2, m⟩
    · exact absurd ⟨0, by omega, by omega, y⟩ n2
    · exact ⟨r1.trans r2.symm, mkSI hcm qq m S0⟩
    · obtain rfl := nI_u y b2 (by omega) (by omega)
      exact absurd y2 b3
  · rcases p2 with ⟨n2, r2, m⟩ | ⟨ji, b1, b2, b3, r2, m⟩ | ⟨ji, b1, b2, b3, r2, m⟩
    · exact absurd ⟨1, by omega, by omega, y⟩ n2
    · exact ⟨r1.trans r2.symm, mkSI hcm qq m S0⟩
    · obtain rfl := nI_u y b2 (by omega) (by omega)
      exact absurd y2 b3
  · rcases p2 with ⟨n2, r2, m⟩ | ⟨ji, b1, b2, b3, r2, m⟩ | ⟨ji, b1, b2, b3, r2, m⟩
    · exact absurd ⟨0, by omega, by omega, y⟩ n2
    · obtain rfl := nI_u y b2 (by omega) (by omega)
      exact absurd b3 y2
    · obtain rfl := nI_u y b2 (by omega) (by omega)
      exact ⟨r1.trans r2.symm, mkSI hcm qq m ⟨vr_same hj0 (fun j hj => cpyR_at (by omega)) (cpy_le hR.1.1 (fun j => hKB _)), hj0, hj1, ⟨ht, hL, hbt⟩, ⟨hD, hgv, hlf, hvs⟩, hkp, ⟨hhd, hfw, htl, hvl⟩, hAi, hKB, hc0, hc1⟩⟩
  · rcases p2 with ⟨n2, r2, m⟩ | ⟨ji, b1, b2, b3, r2, m⟩ | ⟨ji, b1, b2, b3, r2, m⟩
    · exact absurd ⟨1, by omega, by omega, y⟩ n2
    · obtain rfl := nI_u y b2 (by omega) (by omega)
      exact absurd b3 y2
    · obtain rfl := nI_u y b2 (by omega) (by omega)
      exact ⟨r1.trans r2.symm, mkSI hcm qq m ⟨vr_same hj1 (fun j hj => cpyR_at (by omega)) (cpy_le hR.1.1 (fun j => hKB _)), hj0, hj1, ⟨ht, hL, hbt⟩, ⟨hD, hgv, hlf, hvs⟩, hkp, ⟨hhd, hfw, htl, hvl⟩, hAi, hKB, hc0, hc1⟩⟩

end SRO
