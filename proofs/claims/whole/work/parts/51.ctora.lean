/-! constructors: the world a list, the own object first -/
section CT
variable {p : Program} {l : Launch} {e : Env} {R : Room} {s : State} {m : MethodId} {args : Array Value} {below : List Frame} {meth : Method} {c : Code} {H : Heap} {locs : List Loc} {cells slots : Nat} {Q : State → Prop}
variable {cc : ByteArray} {pc : Nat} {ls : Array Slot} {rest : List Value} {Γ : Gam} {ws : va_W} {A : Nat → Prop} {H0 : Heap}
/-- what the tables say, as far as a constructor needs it -/
def cK (Γ : Gam) (U : State) : Prop := va_K Γ.1 vwCl (tysG Γ) U ∧ (∀ w ∈ nestL, va_Nw w U) ∧ va_AO "BellForgiven$Valley" U
theorem cK_to {U : State} (h : cK Γ s) (hW : s.WarmedH U.vm) : cK Γ U := ⟨va_K.moved hW.alike h.1, nest_warm hW h.2.1, va_AO.moved hW.alike h.2.2⟩
theorem cK_call {U : State} {g : _} {mk : _} {a : Array Value} (h : cK Γ U) : cK Γ (U.calling g mk a) := by
  refine ⟨va_K.moved (u := U) (U := U.calling g mk a) (Vm.Alike.refl U.vm) h.1, fun w hw => ?_, va_AO.moved (u := U) (U := U.calling g mk a) (Vm.Alike.refl U.vm) h.2.2⟩
  have h1 := h.2.1 w hw
  have e : (U.calling g mk a).vm = U.vm := rfl
  simp only [nestL, List.mem_cons, List.not_mem_nil, or_false] at hw
  rcases hw with rfl | rfl | rfl | rfl | rfl | rfl | rfl | rfl | rfl | rfl | rfl | rfl | rfl | rfl | rfl | rfl <;> exact va_Nw.same rfl e.symm h1
def ctP (Γ : Gam) (av : List Value) (h0 : Nat) (x : va_E) (sz : Nat) : Array Value → State → Prop := va_Pc av (fun U => U.heap.size = sz ∧ va_P Γ.1 vwCl [(h0, x)] U.heap ∧ cK Γ U ∧ va_D (fun _ => True) [(h0, x)])
def ctQ (Γ : Gam) (h0 : Nat) (x : va_E) (sz : Nat) (P : (Nat → Nat) → va_W) : Array Value → State → Outcome → State → Prop := va_Qv (S := Nat → Nat) (fun f => f 0 = h0) (fun f t => va_P Γ.1 vwCl (P f) t.heap ∧ va_D (va_A [(h0, x)] sz) (P f)) (va_A [(h0, x)] sz)
theorem ct_pre {h0 : Nat} {x : va_E} {As : List Value} (hP : va_P Γ.1 vwCl [(h0, x)] H) (hK : cK Γ s) (hD : va_D A [(h0, x)]) : PreS s H (ctP Γ As h0 x H.size) As :=
  ⟨fun a U g mk q => by
    obtain ⟨q0, q1, qP, qK, qD⟩ := q
    exact ⟨q0, q1, qP, cK_call qK, qD⟩, fun U hU hW => ⟨rfl, by rw [hU], by rw [hU]; exact hP, cK_to hK hW, hD.weaken (fun _ _ _ _ => trivial)⟩⟩
theorem va_lastP {D : va_G} {cl : List vw_C} {wr : va_W} {x : Nat × va_E} (hP : va_P D cl (wr ++ [x]) H) : va_P D cl [x] H := fun k q hk => by
  have h0 : k < 1 := (List.getElem?_eq_some_iff.mp hk).1
  have h1 : k = 0 := by omega
  subst h1
  obtain rfl : x = q := Option.some.inj hk
  exact hP wr.length x (by simp)
theorem va_lastD {wr : va_W} {x : Nat × va_E} (hD : va_D A (wr ++ [x])) : va_D A [x] := ⟨fun i j p q hi hj _ => by
  have h1 : i < 1 := (List.getElem?_eq_some_iff.mp hi).1
  have h2 : j < 1 := (List.getElem?_eq_some_iff.mp hj).1
  omega, fun k q hk => by
  have h0 : k < 1 := (List.getElem?_eq_some_iff.mp hk).1
  have h1 : k = 0 := by omega
  subst h1
  obtain rfl : x = q := Option.some.inj hk
  exact hD.2 wr.length x (by simp)⟩
theorem va_joinL {D : va_G} {cl : List vw_C} {wr w1 : va_W} {x : Nat × va_E} {H1 : Heap} (hP : va_P D cl (wr ++ [x]) H) (hD : va_D A (wr ++ [x])) (hF : ∀ q, va_A [x] H.size q → A q)
    (hk : ∀ q : Nat, q < H.size → ¬ va_A [x] H.size q → H1[q]? = H[q]?) (hP1 : va_P D cl w1 H1) (hD1 : va_D (va_A [x] H.size) w1) : va_P D cl (wr ++ w1) H1 ∧ va_D A (wr ++ w1) := by
  have hold : ∀ (k : Nat) (q : Nat × va_E), wr[k]? = some q → (wr ++ [x])[k]? = some q := fun k q h => by
    rw [List.getElem?_append_left (List.getElem?_eq_some_iff.mp h).1]
    exact h
  have hlast : (wr ++ [x])[wr.length]? = some x := by simp
  have hnot : ∀ (k : Nat) (q : Nat × va_E), wr[k]? = some q → q.1 < H.size ∧ ¬ va_A [x] H.size q.1 := fun k q h => by
    have hlt := (hP k q (hold k q h)).lt
    refine ⟨hlt, fun z => ?_⟩
    rcases z with ⟨j, e, hj⟩ | z
    · have h0 : j < 1 := (List.getElem?_eq_some_iff.mp hj).1
      have h1 : j = 0 := by omega
      subst h1
      have hx : x = (q.1, e) := Option.some.inj hj
      have h2 := hD.1 k wr.length q x (hold k q h) hlast (by rw [hx])
      have h3 := (List.getElem?_eq_some_iff.mp h).1
      omega
    · omega
  have hsp : ∀ (k : Nat) (q : Nat × va_E), (wr ++ w1)[k]? = some q → (k < wr.length ∧ wr[k]? = some q) ∨ (wr.length ≤ k ∧ w1[k - wr.length]? = some q) := fun k q h => by
    rcases Nat.lt_or_ge k wr.length with z | z
    · rw [List.getElem?_append_left z] at h
      exact Or.inl ⟨z, h⟩
    · rw [List.getElem?_append_right z] at h
      exact Or.inr ⟨z, h⟩
  refine ⟨fun k q h => ?_, fun i j p q hi hj hpq => ?_, fun k q h => ?_⟩
  · rcases hsp k q h with ⟨-, h1⟩ | ⟨-, h1⟩
    · obtain ⟨h2, h3⟩ := hnot k q h1
      exact (hP k q (hold k q h1)).kept (hk q.1 h2 h3)
    · exact hP1 _ q h1
  · rcases hsp i p hi with ⟨z1, h1⟩ | ⟨z1, h1⟩ <;> rcases hsp j q hj with ⟨z2, h2⟩ | ⟨z2, h2⟩
    · exact hD.1 i j p q (hold i p h1) (hold j q h2) hpq
    · exact absurd (hD1.2 _ q h2) (by rw [← hpq]; exact (hnot i p h1).2)
    · exact absurd (hD1.2 _ p h1) (by rw [hpq]; exact (hnot j q h2).2)
    · have := hD1.1 _ _ p q h1 h2 hpq
      omega
  · rcases hsp k q h with ⟨-, h1⟩ | ⟨-, h1⟩
    · exact hD.2 k q (hold k q h1)
    · exact hF _ (hD1.2 _ q h1)
theorem ct_go {h0 mc ms : Nat} {x : va_E} {a : Array Value} {st0 : List Value} {P : (Nat → Nat) → va_W} {wr : va_W} (hr : va_Run p l e R s m args below meth c H locs cells slots mc ms (F0 m pc ls st0) rest (ctQ Γ h0 x H.size P a) (va_A [(h0, x)] H.size)) (hP : va_P Γ.1 vwCl (wr ++ [(h0, x)]) H) (hD : va_D A (wr ++ [(h0, x)])) (hA : ∀ q, H0.size ≤ q → A q) (hS : va_S A H0 H locs)
    (kk : ∀ (f : Nat → Nat) (H1 : Heap) (locs1 : List Loc), f 0 = h0 → va_P Γ.1 vwCl (wr ++ P f) H1 → va_D A (wr ++ P f) → va_S A H0 H1 locs1 → W p l e R s m args below meth c H1 locs1 (cells + mc) (slots + ms) Q (F0 m (pc + 3) ls rest)) : W p l e R s m args below meth c H locs cells slots Q (F0 m pc ls st0) := by
  have hF : ∀ q, va_A [(h0, x)] H.size q → A q := fun q h => by
    rcases h with ⟨j, e, hj⟩ | z
    · have h0' : j < 1 := (List.getElem?_eq_some_iff.mp hj).1
      have h1 : j = 0 := by omega
      subst h1
      have hx : (h0, x) = (q, e) := Option.some.inj hj
      have := (va_lastD hD).2 0 (h0, x) rfl
      rw [hx] at this
      exact this
    · exact hA q (Nat.le_trans hS.1 z)
  refine va_callv hr hS (fun q _ h => hF q h) hF (fun u t H1 locs1 ht hvm h5 hB hz1 hk1 hS1 => ?_)
  obtain ⟨hP1, hD1⟩ := hB
  rw [ht] at hP1
  obtain ⟨hP2, hD2⟩ := va_joinL hP hD hF hk1 hP1 hD1
  exact kk u H1 locs1 h5 hP2 hD2 hS1
theorem ra_id {U : State} {cA cB : ClassId} {ty : FieldType} (h1 : va_RA U cA ty) (h2 : va_RA U cB ty) : cA = cB := by
  cases ty with
  | object C =>
    obtain ⟨_, _, -, -, -, h3⟩ := h1
    obtain ⟨_, _, -, -, -, h4⟩ := h2
    exact Option.some.inj (h3.symm.trans h4)
  | _ => exact Option.some.inj (Eq.trans (Eq.symm h1) h2)
theorem nI_n0 {N : Nat} (h : N < 2147483648) : ¬ nI N < 0 ∧ (nI N).toNatClampNeg = N := ⟨nI_pos h, nI_clamp h⟩
theorem ct_newi {N : Nat} (hx : p.tables.exec = Jvm.exec) (hb : c.code = cc) (harr : (Cond.arrayClass .int).before args s = true) (hK : cK Γ s) (hP : va_P Γ.1 vwCl ws H) (hD : va_D A ws) (hS : va_S A H0 H locs) (hA : ∀ q, H0.size ≤ q → A q) (hN : N ≤ 10000) (hcells : cells + 1 ≤ R.cells) (hslots : slots + N ≤ R.slots) (hdg : decode cc pc = .ok (.newarray .int, 2))
    (kk : ∀ (q : Nat) (H1 : Heap), va_P Γ.1 vwCl (ws ++ [(q, na Γ N (fun _ => 0))]) H1 → va_D A (ws ++ [(q, na Γ N (fun _ => 0))]) → va_S A H0 H1 locs → W p l e R s m args below meth c H1 locs (cells + 1) (slots + N) Q (F0 m (pc + 2) ls (.ref q :: rest))) : W p l e R s m args below meth c H locs cells slots Q (F0 m pc ls (.int (nI N) :: rest)) :=
  va_newa (atype := .int) (ty := .int) (a0 := (N, .inl (fun _ => nI 0))) (N' := N) hx hb harr rfl hK.1 hP hD hS hA (fun _ => rfl) (nI_n0 (by omega)).1 (nI_n0 (by omega)).2 (by show N * 4 ≤ 536870912; omega) hcells hslots hdg (fun q cA H1 hK1 hP1 hD1 hS1 => by
    have e : cA = Γ.2.1.1 := ra_id (hK1.2 4 (cA, .int) rfl).2 (hK1.2 0 _ rfl).2
    subst e
    exact kk q H1 hP1 hD1 hS1)
theorem ct_newb {N : Nat} (hx : p.tables.exec = Jvm.exec) (hb : c.code = cc) (harr : (Cond.arrayClass .byte).before args s = true) (hK : cK Γ s) (hP : va_P Γ.1 vwCl ws H) (hD : va_D A ws) (hS : va_S A H0 H locs) (hA : ∀ q, H0.size ≤ q → A q) (hN : N ≤ 10000) (hcells : cells + 1 ≤ R.cells) (hslots : slots + N ≤ R.slots) (hdg : decode cc pc = .ok (.newarray .byte, 2))
    (kk : ∀ (q : Nat) (H1 : Heap), va_P Γ.1 vwCl (ws ++ [(q, ba Γ N (fun _ => 0))]) H1 → va_D A (ws ++ [(q, ba Γ N (fun _ => 0))]) → va_S A H0 H1 locs → W p l e R s m args below meth c H1 locs (cells + 1) (slots + N) Q (F0 m (pc + 2) ls (.ref q :: rest))) : W p l e R s m args below meth c H locs cells slots Q (F0 m pc ls (.int (nI N) :: rest)) :=
  va_newa (atype := .byte) (ty := .byte) (a0 := (N, .inl (fun _ => nI 0))) (N' := N) hx hb harr rfl hK.1 hP hD hS hA (fun _ => rfl) (nI_n0 (by omega)).1 (nI_n0 (by omega)).2 (by show N * 1 ≤ 536870912; omega) hcells hslots hdg (fun q cA H1 hK1 hP1 hD1 hS1 => by
    have e : cA = Γ.2.1.2.1 := ra_id (hK1.2 4 (cA, .byte) rfl).2 (hK1.2 1 _ rfl).2
    subst e
    exact kk q H1 hP1 hD1 hS1)
theorem ct_newz {N : Nat} (hx : p.tables.exec = Jvm.exec) (hb : c.code = cc) (harr : (Cond.arrayClass .boolean).before args s = true) (hK : cK Γ s) (hP : va_P Γ.1 vwCl ws H) (hD : va_D A ws) (hS : va_S A H0 H locs) (hA : ∀ q, H0.size ≤ q → A q) (hN : N ≤ 10000) (hcells : cells + 1 ≤ R.cells) (hslots : slots + N ≤ R.slots) (hdg : decode cc pc = .ok (.newarray .boolean, 2))
    (kk : ∀ (q : Nat) (H1 : Heap), va_P Γ.1 vwCl (ws ++ [(q, za Γ N (fun _ => 0))]) H1 → va_D A (ws ++ [(q, za Γ N (fun _ => 0))]) → va_S A H0 H1 locs → W p l e R s m args below meth c H1 locs (cells + 1) (slots + N) Q (F0 m (pc + 2) ls (.ref q :: rest))) : W p l e R s m args below meth c H locs cells slots Q (F0 m pc ls (.int (nI N) :: rest)) :=
  va_newa (atype := .boolean) (ty := .boolean) (a0 := (N, .inl (fun _ => nI 0))) (N' := N) hx hb harr rfl hK.1 hP hD hS hA (fun _ => rfl) (nI_n0 (by omega)).1 (nI_n0 (by omega)).2 (by show N * 1 ≤ 536870912; omega) hcells hslots hdg (fun q cA H1 hK1 hP1 hD1 hS1 => by
    have e : cA = Γ.2.1.2.2.1 := ra_id (hK1.2 4 (cA, .boolean) rfl).2 (hK1.2 2 _ rfl).2
    subst e
    exact kk q H1 hP1 hD1 hS1)
theorem ct_newq {N : Nat} {own : String} {index : Nat} (hx : p.tables.exec = Jvm.exec) (hb : c.code = cc) (hown : s.vm.findClass own = some m.cls) (hcl : (Cond.classLink own index "BellForgiven$Valley").before args s = true) (hK : cK Γ s) (hP : va_P Γ.1 vwCl ws H) (hD : va_D A ws) (hS : va_S A H0 H locs) (hA : ∀ q, H0.size ≤ q → A q) (hN : N ≤ 10000) (hcells : cells + 1 ≤ R.cells) (hslots : slots + N ≤ R.slots) (hdg : decode cc pc = .ok (.anewarray index, 3))
    (kk : ∀ (q : Nat) (H1 : Heap), va_P Γ.1 vwCl (ws ++ [(q, qa Γ N (fun _ => none))]) H1 → va_D A (ws ++ [(q, qa Γ N (fun _ => none))]) → va_S A H0 H1 locs → W p l e R s m args below meth c H1 locs (cells + 1) (slots + N) Q (F0 m (pc + 3) ls (.ref q :: rest))) : W p l e R s m args below meth c H locs cells slots Q (F0 m pc ls (.int (nI N) :: rest)) :=
  va_newq (N' := N) hx hb hown hcl hK.2.2 hK.1 hP hD hS hA (nI_n0 (by omega)).1 (nI_n0 (by omega)).2 (by omega) hcells hslots hdg (fun q cA H1 hK1 hP1 hD1 hS1 => by
    have e : cA = Γ.2.1.2.2.2 := ra_id (hK1.2 4 (cA, .object "BellForgiven$Valley") rfl).2 (hK1.2 3 _ rfl).2
    subst e
    exact kk q H1 hP1 hD1 hS1)
end CT
theorem wld_inj {Γ : Gam} {n : Nat} {G : Nat → va_E} {A : Nat → Prop} (h : va_D A (wld Γ n G)) : winj Γ n := fun i j hi hj e => h.1 i j _ _ (wld_at Γ G hi) (wld_at Γ G hj) e
theorem wld_A {Γ : Gam} {n : Nat} {G : Nat → va_E} {A : Nat → Prop} (h : va_D A (wld Γ n G)) : ∀ q, wA Γ n q → A q := fun q ⟨i, hi, e⟩ => by rw [e]; exact h.2 i _ (wld_at Γ G hi)
