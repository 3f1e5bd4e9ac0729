theorem hw_qa {Γ : Gam} {n : Nat} {G : Nat → va_E} {s : State} {H : Heap} (h : hw Γ n G s H) {i len : Nat} {f g : Nat → Option Nat} (hG : G i = qa Γ len f) (he : ∀ j, j < len → f j = g j) : hw Γ n (va_up G i (qa Γ len g)) s H := by
  refine ⟨fun k q hk => ?_, h.2⟩
  have hn : k < n := by
    have := (List.getElem?_eq_some_iff.mp hk).1
    simpa [wld] using this
  rw [wld_at Γ _ hn] at hk
  obtain rfl := Option.some.inj hk
  by_cases hki : k = i
  · subst hki
    rw [va_up_self]
    have h1 := h.1 k _ (wld_at Γ G hn)
    rw [hG] at h1
    have e : vp_cell Γ.2.1.2.2.2 (len, .inr (.inr (.inr (.inr f)))) = vp_cell Γ.2.1.2.2.2 (len, .inr (.inr (.inr (.inr g)))) := by
      rw [vp_cell_q, vp_cell_q]
      exact arrV_ext (fun j hj => by rw [he j hj])
    show H[ad Γ k]? = some (vp_cell Γ.2.1.2.2.2 (len, .inr (.inr (.inr (.inr g)))))
    rw [← e]
    exact h1
  · rw [va_up_ne _ _ hki]
    exact h.1 k _ (wld_at Γ G hn)
/-- a list of cells, put into places by a list of places -/
def gaP (D : va_G) (ids : ClassId × ClassId × ClassId × ClassId) (L : va_W) (pl : List Nat) : Gam := (D, ids, fun i => (L.getD (pl.getD i 0) (0, .inr (0, []))).1)
def geP (L : va_W) (pl : List Nat) : Nat → va_E := fun i => (L.getD (pl.getD i 0) (0, .inr (0, []))).2
theorem gd_at {L : va_W} {k : Nat} {d : Nat × va_E} (h : k < L.length) : L[k]? = some ((L.getD k d).1, (L.getD k d).2) := by
  rw [List.getD_eq_getElem?_getD, List.getElem?_eq_getElem h]
  rfl
theorem geP_at {L : va_W} {pl : List Nat} (D : va_G) (ids : ClassId × ClassId × ClassId × ClassId) {i : Nat} (h : pl.getD i 0 < L.length) : L[pl.getD i 0]? = some (ad (gaP D ids L pl) i, geP L pl i) := gd_at h
theorem geP_P {L : va_W} {pl : List Nat} {D : va_G} {ids : ClassId × ClassId × ClassId × ClassId} {n : Nat} {cl : List vw_C} {H : Heap} (hn : ∀ i, i < n → pl.getD i 0 < L.length) (hP : va_P D cl L H) : va_P D cl (wld (gaP D ids L pl) n (geP L pl)) H := by
  intro k q hk
  have h : k < n := by
    have := (List.getElem?_eq_some_iff.mp hk).1
    simpa [wld] using this
  rw [wld_at _ _ h] at hk
  obtain rfl := Option.some.inj hk
  exact hP _ _ (geP_at D ids (hn k h))
theorem geP_D {L : va_W} {pl : List Nat} {D : va_G} {ids : ClassId × ClassId × ClassId × ClassId} {n : Nat} {A : Nat → Prop} (hn : ∀ i, i < n → pl.getD i 0 < L.length) (hD : va_D A L) : ∀ q, wA (gaP D ids L pl) n q → A q := fun q ⟨i, hi, e⟩ => by
  rw [e]
  exact hD.2 _ _ (geP_at D ids (hn i hi))
theorem geP_j {L : va_W} {pl sl : List Nat} {D : va_G} {ids : ClassId × ClassId × ClassId × ClassId} {n : Nat} {A : Nat → Prop} (hn : ∀ i, i < n → pl.getD i 0 < L.length) (hs : ∀ i, i < n → sl.getD (pl.getD i 0) 0 = i) (hD : va_D A L) : winj (gaP D ids L pl) n := fun i j hi hj e => by
  have h := hD.1 _ _ _ _ (geP_at D ids (hn i hi)) (geP_at D ids (hn j hj)) e
  rw [← hs i hi, ← hs j hj, h]
theorem emV_z : emV (fun _ => 0) = fun _ => 0 := by
  funext j
  simp [emV, va_up]
theorem zeroR_z : zeroR (fun _ => 0) 128 = fun _ => 0 := by
  funext j
  simp [zeroR]
theorem vI_z : vI (fun _ => 0) := ⟨fun _ => Nat.zero_le _, by decide, by decide, by decide, by decide, by decide, by decide, fun _ _ => by show 0 < 6; decide, fun _ _ => by show 0 < 6; decide, by decide⟩
theorem vr_z : vr (fun _ => 0) (fun _ => 0) := by
  have h := vr_em vI_z (R := fun _ => 0) (fun _ => Nat.zero_le _)
  rw [emV_z, zeroR_z] at h
  exact h
def tvZ : Nat → Nat := fun j => if j = 4 then 1 else 0
def cvZ : Nat → Nat := fun j => if j = 1 then 1 else 0
def ivZ : Nat → Nat := fun j => if j = 6 then 1 else 0
theorem aI_z : aI (fun _ => 0) := ⟨fun _ => Nat.zero_le _, by decide, by decide, fun _ _ => by show 0 < 6; decide, fun _ _ => by show 0 < 6; decide, by decide⟩
theorem sR_z : sR (fun _ => 0) tvZ (fun _ => 0) (fun _ => 0) (fun _ => 0) (fun _ => 0) cvZ (fun _ => 0) (fun _ => 0) (fun _ => 0) (fun _ => 0) (fun _ => 0) (fun _ => 0) (fun _ => 0) (fun _ => 0) (fun _ => 0) (fun _ => 0) (fun _ => 0) ivZ :=
  ⟨vr_z, vr_z, vr_z, ⟨rfl, by decide, fun _ => Nat.zero_le _⟩, ⟨vI_z, fun _ => by show 0 < 2000; decide, fun _ => Nat.zero_le _, fun _ => by show 0 < 2147483648; decide⟩, fun _ => Nat.zero_le _, ⟨fun _ => Nat.zero_le _, fun _ => Nat.zero_le _, fun _ => by show 0 < 2147483648; decide, fun _ => by show 0 < 2000; decide⟩, aI_z, fun _ => Nat.zero_le _, rfl, rfl⟩
def plL : List Nat := [0, 17, 50, 51, 52, 53, 70, 54, 55, 56, 57, 58, 59, 60, 61, 62, 64, 66, 68, 63, 65, 67, 69, 71, 72, 73, 74, 75, 1, 2, 3, 4, 5, 6, 7, 8, 9, 11, 13, 15, 10, 12, 14, 16, 18, 19, 20, 21, 22, 23, 24, 25, 26, 28, 30, 32, 27, 29, 31, 33, 34, 35, 36, 37, 38, 39, 40, 41, 42, 44, 46, 48, 43, 45, 47, 49, 76, 77, 78, 79, 80, 81, 82, 83, 84, 85, 86, 87, 88]
def slL : List Nat := [0, 28, 29, 30, 31, 32, 33, 34, 35, 36, 40, 37, 41, 38, 42, 39, 43, 1, 44, 45, 46, 47, 48, 49, 50, 51, 52, 56, 53, 57, 54, 58, 55, 59, 60, 61, 62, 63, 64, 65, 66, 67, 68, 72, 69, 73, 70, 74, 71, 75, 2, 3, 4, 5, 7, 8, 9, 10, 11, 12, 13, 14, 15, 19, 16, 20, 17, 21, 18, 22, 6, 23, 24, 25, 26, 27, 76, 77, 78, 79, 80, 81, 82, 83, 84, 85, 86, 87, 88]
theorem plL_s : ∀ i, i < 89 → slL.getD (plL.getD i 0) 0 = i := by decide +kernel
theorem plL_b : ∀ i, i < 89 → plL.getD i 0 < 89 := by decide +kernel
