section SRL
/-- how the numbers of the class and of the reference stand to each other -/
def sR (by0 tv gv Dv lf vs cv V J0 J1 kp R K hd fw tl an vl iv : Nat → Nat) : Prop :=
  vr V R ∧ vr J0 (fun j => K (256 * 0 + j)) ∧ vr J1 (fun j => K (256 * 1 + j)) ∧ (tv 0 = iv 0 ∧ tv 0 ≤ 150 ∧ ∀ j, by0 j ≤ 127) ∧ (vI Dv ∧ (∀ j, gv j < 2000) ∧ (∀ j, lf j ≤ 100) ∧ ∀ j, vs j < 2147483648) ∧ (∀ j, kp j ≤ 1) ∧ ((∀ j, hd j ≤ 1999) ∧ (∀ j, fw j ≤ 1000000) ∧ (∀ j, tl j < 2147483648) ∧ ∀ j, vl j < 2000) ∧ aI an ∧ (∀ j, K j ≤ 1999) ∧ cv 0 = iv 5 ∧ cv 1 = iv 6
/-- the class's part of a heap, behind a call -/
abbrev CLF (Γ : Gam) (G G2 : Nat → va_E) (co : Nat) (by0 tv gv Dv lf vs cv V J0 J1 kp rf : Nat → Nat) : Prop :=
  isO Γ G2 co kp rf ∧ isT Γ G2 (co + 3) by0 tv ∧ isRd Γ G2 (co + 5) gv ∧ isV Γ G2 (co + 7) Dv ∧ isRw Γ G2 (co + 23) lf ∧ isGs Γ G2 (co + 25) vs ∧ isCh Γ G2 (co + 27) cv ∧ isV Γ G2 (co + 28) V ∧ isV Γ G2 (co + 44) J0 ∧ isV Γ G2 (co + 60) J1 ∧ fr G G2 (co + 0) (co + 76)
/-- what stands between two steps of the law -/
def SI (Γ : Gam) (G : Nat → va_E) (co mo : Nat) : Prop := ∃ by0 tv gv Dv lf vs cv V J0 J1 kp rf R K ca rc hd fw tl an vl iv : Nat → Nat,
  CLF Γ G G co by0 tv gv Dv lf vs cv V J0 J1 kp rf ∧ isM Γ G mo R K kp rf ca rc hd fw tl by0 an vl iv ∧ sR by0 tv gv Dv lf vs cv V J0 J1 kp R K hd fw tl an vl iv
theorem mkSI {Γ : Gam} {G G2 G3 : Nat → va_E} {co mo : Nat} {by0 tv gv Dv lf vs cv V J0 J1 kp rf R K ca rc hd fw tl an vl iv : Nat → Nat} (hcm : co + 76 ≤ mo) (q : CLF Γ G G2 co by0 tv gv Dv lf vs cv V J0 J1 kp rf) (m : isM Γ G3 mo R K kp rf ca rc hd fw tl by0 an vl iv ∧ fr G2 G3 mo (mo + 13)) (S : sR by0 tv gv Dv lf vs cv V J0 J1 kp R K hd fw tl an vl iv) : SI Γ G3 co mo := by
  obtain ⟨q0, q1, q2, q3, q4, q5, q6, q7, q8, q9, -⟩ := q
  obtain ⟨m1, f⟩ := m
  exact ⟨by0, tv, gv, Dv, lf, vs, cv, V, J0, J1, kp, rf, R, K, ca, rc, hd, fw, tl, an, vl, iv, ⟨isO_fr q0 f (by omega), isT_fr q1 f (by omega), isRd_fr q2 f (by omega), isV_fr q3 f (by omega), isRw_fr q4 f (by omega), isGs_fr q5 f (by omega), isCh_fr q6 f (by omega), isV_fr q7 f (by omega), isV_fr q8 f (by omega), isV_fr q9 f (by omega), fr_rf _ _ _⟩, m1, S⟩
theorem nI_u {x : Int32} {a b : Nat} (h1 : x = nI a) (h2 : x = nI b) (ha : a < 2147483648) (hb : b < 2147483648) : a = b := (nI_eq ha hb).mp (h1.symm.trans h2)
end SRL
