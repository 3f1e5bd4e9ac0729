section SG
def lenW (i : Nat) : Nat := ([6, 3, 5, 4, 4] : List Nat).getD i 0
def codW : List (List Nat) := [[118, 97, 108, 108, 101, 121], [111, 110, 101], [119, 114, 111, 110, 103], [114, 105, 110, 103], [100, 97, 121, 115]]
def bytW : List (List Int32) := codW.map (fun l => l.map nI)
def txtW : List String := ["valley", "one", "wrong", "ring", "days"]
def chW (i k : Nat) : Nat := (codW.getD i []).getD k 0
theorem chW_b : ∀ i, i < 5 → ∀ k, k < lenW i → (bytW.getD i []).getD k 0 = nI (chW i k) ∧ ((nI (chW i k) &&& nI 255).toUInt32 % 65536).toInt32 = nI (chW i k) ∧ narrow .char (.int (nI (chW i k))) = .int (nI (chW i k)) ∧ chW i k < 128 := by decide +kernel
theorem lenW_le : ∀ i, i < 5 → 1 ≤ lenW i ∧ lenW i ≤ 6 ∧ lenW i = ([6, 3, 5, 4, 4] : List Nat).getD i 0 := by decide +kernel
/-- the text's String constants, and the two statics that the JDK reads of them: outside A, as they were -/
def kSt (A : Nat → Prop) (ak av : Nat → Nat) (fr0 : Option Nat) (U : State) (H : Heap) : Prop :=
  vk_S 5 [6, 3, 5, 4, 4] bytW ak av A U H ∧ (∀ i, i < 5 → vk_R RX9 (61 + 2 * i) (txtW.getD i "") (ak i) U) ∧ va_Z "java/lang/String" "COMPACT_STRINGS" "Z" (.int (nI 1)) A U H ∧ va_Z "jdk/internal/util/Preconditions" "SIOOBE_FORMATTER" "Ljava/util/function/BiFunction;" (va_rf fr0) A U H
theorem kS_to {A : Nat → Prop} {ak av : Nat → Nat} {fr0 : Option Nat} {s U : State} {H : Heap} (h : kSt A ak av fr0 s H) (hU : U.heap = H) (hW : s.WarmedH U.vm) : kSt A ak av fr0 U U.heap := by
  rw [hU]
  exact ⟨h.1.moved hW.alike, fun i hi => (h.2.1 i hi).warm hW, h.2.2.1.moved hW.alike, h.2.2.2.moved hW.alike⟩
theorem kS_kept {A : Nat → Prop} {ak av : Nat → Nat} {fr0 : Option Nat} {s : State} {H : Heap} {locs : List Loc} (h : kSt A ak av fr0 s s.heap) (hS : va_S A s.heap H locs) : kSt A ak av fr0 s H :=
  ⟨h.1.kept hS.2.1, h.2.1, h.2.2.1.kept hS.2.1, h.2.2.2.kept hS.2.1⟩
theorem kS_blind (A : Nat → Prop) (ak av : Nat → Nat) (fr0 : Option Nat) (vs : List Value) : FrameBlind (va_Pc vs (fun U => kSt A ak av fr0 U U.heap)) := by
  intro a U g mk q
  obtain ⟨q0, h⟩ := q
  exact ⟨q0, h.1.moved (U := U.calling g mk a) (Vm.Alike.refl U.vm), fun i hi => (h.2.1 i hi).same rfl, h.2.2.1.moved (U := U.calling g mk a) (Vm.Alike.refl U.vm), h.2.2.2.moved (U := U.calling g mk a) (Vm.Alike.refl U.vm)⟩
theorem kS_pre {A : Nat → Prop} {ak av : Nat → Nat} {fr0 : Option Nat} {s : State} {H : Heap} {locs : List Loc} (h : kSt A ak av fr0 s s.heap) (hS : va_S A s.heap H locs) (As : List Value) : PreS s H (va_Pc As (fun U => kSt A ak av fr0 U U.heap)) As :=
  ⟨kS_blind A ak av fr0 As, fun _ hU hW => ⟨rfl, kS_to (kS_kept h hS) hU hW⟩⟩
theorem kS_preV {A : Nat → Prop} {ak av : Nat → Nat} {fr0 : Option Nat} {s : State} {H : Heap} {locs : List Loc} (h : kSt A ak av fr0 s s.heap) (hS : va_S A s.heap H locs) {i : Nat} (hi : i < 5) (As : List Value) : PreV s H "java/lang/String" (ak i) (va_Pc (.ref (ak i) :: As) (fun U => kSt A ak av fr0 U U.heap)) As :=
  ⟨kS_blind A ak av fr0 _, vk_recv h.1 hi hS, fun _ hU hW => ⟨rfl, kS_to (kS_kept h hS) hU hW⟩⟩
theorem hk_blind (Γ : Gam) (n : Nat) (G : Nat → va_E) (A : Nat → Prop) (ak av : Nat → Nat) (fr0 : Option Nat) (vs : List Value) : FrameBlind (va_Pc vs (fun U => hw Γ n G U U.heap ∧ kSt A ak av fr0 U U.heap)) := fun a U g mk q =>
  ⟨q.1, (hw_blind Γ n G vs a U g mk ⟨q.1, q.2.1⟩).2, (kS_blind A ak av fr0 vs a U g mk ⟨q.1, q.2.2⟩).2⟩
theorem hk_pre {Γ : Gam} {n : Nat} {G : Nat → va_E} {A : Nat → Prop} {ak av : Nat → Nat} {fr0 : Option Nat} {s : State} {H : Heap} {locs : List Loc} (hw1 : hw Γ n G s H) (h : kSt A ak av fr0 s s.heap) (hS : va_S A s.heap H locs) (As : List Value) : PreS s H (va_Pc As (fun U => hw Γ n G U U.heap ∧ kSt A ak av fr0 U U.heap)) As :=
  ⟨hk_blind Γ n G A ak av fr0 As, fun _ hU hW => ⟨rfl, hw_to hw1 hU hW, kS_to (kS_kept h hS) hU hW⟩⟩
theorem hk_preV {Γ : Gam} {n : Nat} {G : Nat → va_E} {A : Nat → Prop} {ak av : Nat → Nat} {fr0 : Option Nat} {s : State} {H : Heap} {locs : List Loc} (hw1 : hw Γ n G s H) (h : kSt A ak av fr0 s s.heap) (hS : va_S A s.heap H locs) (As : List Value) {i ci : Nat} (hi : i < n) {fs : List Value} (hG : G i = .inr (ci, fs)) {q : vw_C} (hc : vwCl[ci]? = some q) : PreV s H q.1 (ad Γ i) (va_Pc (.ref (ad Γ i) :: As) (fun U => hw Γ n G U U.heap ∧ kSt A ak av fr0 U U.heap)) As :=
  ⟨hk_blind Γ n G A ak av fr0 _, va_recv hw1.2.1 hw1.1 hc (q0 := i) (by rw [wld_at Γ _ hi, hG]), fun _ hU hW => ⟨rfl, hw_to hw1 hU hW, kS_to (kS_kept h hS) hU hW⟩⟩
section NK
variable {p : Program} {l : Launch} {e : Env} {R : Room} {s : State} {m : MethodId} {args : Array Value} {below : List Frame} {meth : Method} {c : Code} {H : Heap} {locs : List Loc} {cells slots : Nat} {Q : State → Prop}
variable {cc : ByteArray} {pc : Nat} {ls : Array Slot} {rest : List Value} {Γ : Gam} {n : Nat} {G : Nat → va_E}
variable {y : MethodName} {bytes : ByteArray} {maxL nL na0 index : Nat} {ret : Option FieldType} {ws : List Cond} {rm : Room} {Qc : Array Value → State → Outcome → State → Prop} {free : Addr → Prop} {Ts : List Cond} {own host : String} {As st0 : List Value} {A : Nat → Prop} {ak av : Nat → Nat} {fr0 : Option Nat}
theorem nk_runV (S : CallFix p m c cc nL s args Ts own) (h : hw Γ n G s H) (hE : kSt A ak av fr0 s s.heap) (hS : va_S A s.heap H locs) {i ci : Nat} (hi : i < n) {fs : List Value} (hG : G i = .inr (ci, fs)) {C : String} {T : u_T} {N : Nat} (hc : vwCl[ci]? = some (C, T, N)) (hM : Met l y ws rm (va_Pc (.ref (ad Γ i) :: As) (fun U => hw Γ n G U U.heap ∧ kSt A ak av fr0 U U.heap)) Qc 0 0 free) (cw : CallW R s args own C index y bytes maxL ret ws rm 0 0 na0) (hn : As.length = na0) (hsize : ls.size = nL) (hst : st0 = As.reverse ++ .ref (ad Γ i) :: rest) (hW : (rest.map fun v => v.category).sum ≤ 8) (hdg : decode cc pc = .ok (.invokevirtual index, 3)) (hf : cells + 0 ≤ R.cells ∧ slots + 0 ≤ R.slots) :
    va_Run p l e R s m args below meth c H locs cells slots 0 0 (F0 m pc ls st0) rest (Qc (Value.ref (ad Γ i) :: As).toArray) free :=
  va_runV S hM cw (hk_preV h hE hS As hi hG hc) rfl hn hsize hst (lv_room hW) hdg hf
theorem nk_runS (S : CallFix p m c cc nL s args Ts own) (h : hw Γ n G s H) (hE : kSt A ak av fr0 s s.heap) (hS : va_S A s.heap H locs) (hM : Met l y ws rm (va_Pc As (fun U => hw Γ n G U U.heap ∧ kSt A ak av fr0 U U.heap)) Qc 0 0 free) (cw : CallB R s args own index y bytes maxL ret ws rm 0 0 na0 ∧ (Cond.static y).before args s = true) (hn : As.length = na0) (hsize : ls.size = nL) (hst : st0 = As.reverse ++ rest) (hW : (rest.map fun v => v.category).sum ≤ 8) (hdg : decode cc pc = .ok (.invokestatic index, 3)) (hf : cells + 0 ≤ R.cells ∧ slots + 0 ≤ R.slots) :
    va_Run p l e R s m args below meth c H locs cells slots 0 0 (F0 m pc ls st0) rest (Qc As.toArray) free :=
  va_runS S hM cw (hk_pre h hE hS As) rfl hn hsize hst (lv_room hW) hdg hf
theorem nj_runS (S : CallFix p m c cc nL s args Ts own) (hE : kSt A ak av fr0 s s.heap) (hS : va_S A s.heap H locs) (hM : Met l y ws rm (va_Pc As (fun U => kSt A ak av fr0 U U.heap)) Qc 0 0 free) (cw : CallB R s args own index y bytes maxL ret ws rm 0 0 na0 ∧ (Cond.static y).before args s = true) (hn : As.length = na0) (hsize : ls.size = nL) (hst : st0 = As.reverse ++ rest) (hW : (rest.map fun v => v.category).sum ≤ 8) (hdg : decode cc pc = .ok (.invokestatic index, 3)) (hf : cells + 0 ≤ R.cells ∧ slots + 0 ≤ R.slots) :
    va_Run p l e R s m args below meth c H locs cells slots 0 0 (F0 m pc ls st0) rest (Qc As.toArray) free :=
  va_runS S hM cw (kS_pre hE hS As) rfl hn hsize hst (lv_room hW) hdg hf
theorem nj_runV (S : CallFix p m c cc nL s args Ts own) (hE : kSt A ak av fr0 s s.heap) (hS : va_S A s.heap H locs) {i : Nat} (hi : i < 5) (hM : Met l y ws rm (va_Pc (.ref (ak i) :: As) (fun U => kSt A ak av fr0 U U.heap)) Qc 0 0 free) (cw : CallW R s args own "java/lang/String" index y bytes maxL ret ws rm 0 0 na0) (hn : As.length = na0) (hsize : ls.size = nL) (hst : st0 = As.reverse ++ .ref (ak i) :: rest) (hW : (rest.map fun v => v.category).sum ≤ 8) (hdg : decode cc pc = .ok (.invokevirtual index, 3)) (hf : cells + 0 ≤ R.cells ∧ slots + 0 ≤ R.slots) :
    va_Run p l e R s m args below meth c H locs cells slots 0 0 (F0 m pc ls st0) rest (Qc (Value.ref (ak i) :: As).toArray) free :=
  va_runV S hM cw (kS_preV hE hS hi As) rfl hn hsize hst (lv_room hW) hdg hf
end NK
end SG
section SG2
set_option maxHeartbeats 4000000 in
set_option maxRecDepth 100000 in
theorem c_J0_coder_7d493 (l : Launch) (A : Nat → Prop) (ak av : Nat → Nat) (fr0 : Option Nat) (i : Nat) (hi : i < 5) : Met l yJ0_coder_7d493 wsJ0_coder_7d493 ({ frames := 0, cells := 0, slots := 0, locals := 0 }) (va_Pc [.ref (ak i)] (fun U => kSt A ak av fr0 U U.heap)) (vp_Si (fun z => z = nI 0)) 0 0 (fun _ => False) := by
  refine Met.ofW (cc := cJ0_coder_7d493) (maxL := 1) (ret := (some .byte)) (by decide) rfl ?_
  intro p e s m args below meth c s₁ B hml hv
  obtain ⟨rfl, hE⟩ := hv
  have hx := B.exec
  have hb := B.bytes
  have hr := B.returns
  have hts := atoms_spec (ws := wsJ0_coder_7d493) B.pre
  have hown : s.vm.findClass RJ0 = some m.cls := findClass_of_methodNamed B.named
  have hlocks := B.notSynchronized
  have hS : va_S A s.heap s.heap [] := va_S.rf
  have hl := lv_entry ([.ref (ak i)]) (n := 1) (Nat.le_of_ble_eq_true rfl)
  rw [lg_entry_eq]
  generalize (lg_sl ([.ref (ak i)]) ++ List.replicate (1 - (lg_sl ([.ref (ak i)])).length) Slot.unset).toArray = ls at hl ⊢
  have hl : lv_has ls 1 [(0, .ref (ak i))] := hl
  refine va_gets hx hb hE.2.2.1 hS hown (hts _ (List.mem_of_getElem? (i := 1) rfl)) (fun _ h => h) dJ0_coder_7d493_0 ?_
  refine nr_if_eq (tgt := 13) hx hb (by decide) dJ0_coder_7d493_3 (by decide) (fun c => absurd c (by decide)) (fun c => ?_)
  refine lv_aload_n hx hb dJ0_coder_7d493_6 rfl (lv_at hl 0 rfl) ?_
  refine vk_getf hx hb (hE.1.1 i hi).2.1 hS hown (hts _ (List.mem_of_getElem? (i := 2) rfl)) (fun _ h => h) dJ0_coder_7d493_7 ?_
  refine lv_goto (tgt := 14) hx hb dJ0_coder_7d493_10 (by decide) ?_
  exact W.zret hx hb hr rfl (fun t ht _ => ⟨0, rfl, rfl, by rw [ht]⟩) (fun _ h => by cases h) dJ0_coder_7d493_14 hlocks
set_option maxHeartbeats 4000000 in
set_option maxRecDepth 100000 in
theorem c_J0_isLatin1_aae02 (l : Launch) (A : Nat → Prop) (ak av : Nat → Nat) (fr0 : Option Nat) (i : Nat) (hi : i < 5) : Met l yJ0_isLatin1_aae02 wsJ0_isLatin1_aae02 ({ frames := 0, cells := 0, slots := 0, locals := 0 }) (va_Pc [.ref (ak i)] (fun U => kSt A ak av fr0 U U.heap)) (vp_Si (fun z => z = nI 1)) 0 0 (fun _ => False) := by
  refine Met.ofW (cc := cJ0_isLatin1_aae02) (maxL := 1) (ret := (some .boolean)) (by decide) rfl ?_
  intro p e s m args below meth c s₁ B hml hv
  obtain ⟨rfl, hE⟩ := hv
  have hx := B.exec
  have hb := B.bytes
  have hr := B.returns
  have hts := atoms_spec (ws := wsJ0_isLatin1_aae02) B.pre
  have hown : s.vm.findClass RJ0 = some m.cls := findClass_of_methodNamed B.named
  have hlocks := B.notSynchronized
  have hS : va_S A s.heap s.heap [] := va_S.rf
  have hl := lv_entry ([.ref (ak i)]) (n := 1) (Nat.le_of_ble_eq_true rfl)
  rw [lg_entry_eq]
  generalize (lg_sl ([.ref (ak i)]) ++ List.replicate (1 - (lg_sl ([.ref (ak i)])).length) Slot.unset).toArray = ls at hl ⊢
  have hl : lv_has ls 1 [(0, .ref (ak i))] := hl
  refine va_gets hx hb hE.2.2.1 hS hown (hts _ (List.mem_of_getElem? (i := 1) rfl)) (fun _ h => h) dJ0_isLatin1_aae02_0 ?_
  refine nr_if_eq (tgt := 17) hx hb (by decide) dJ0_isLatin1_aae02_3 (by decide) (fun c => absurd c (by decide)) (fun c => ?_)
  refine lv_aload_n hx hb dJ0_isLatin1_aae02_6 rfl (lv_at hl 0 rfl) ?_
  refine vk_getf hx hb (hE.1.1 i hi).2.1 hS hown (hts _ (List.mem_of_getElem? (i := 2) rfl)) (fun _ h => h) dJ0_isLatin1_aae02_7 ?_
  refine lv_if_ne (tgt := 17) hx hb dJ0_isLatin1_aae02_10 (by decide) (fun c => absurd rfl c) (fun c => ?_)
  refine lv_iconst (v := nI 1) hx hb dJ0_isLatin1_aae02_13 (by decide) ?_
  refine lv_goto (tgt := 18) hx hb dJ0_isLatin1_aae02_14 (by decide) ?_
  exact W.zret hx hb hr rfl (fun t ht _ => ⟨nI 1, rfl, rfl, by rw [ht]⟩) (fun _ h => by cases h) dJ0_isLatin1_aae02_18 hlocks
set_option maxHeartbeats 4000000 in
set_option maxRecDepth 100000 in
theorem c_J0_length_8abf5 (l : Launch) (A : Nat → Prop) (ak av : Nat → Nat) (fr0 : Option Nat) (i : Nat) (hi : i < 5) : Met l yJ0_length_8abf5 wsJ0_length_8abf5 ({ frames := 1, cells := 0, slots := 0, locals := 20 }) (va_Pc [.ref (ak i)] (fun U => kSt A ak av fr0 U U.heap)) (vp_Si (fun z => z = nI (lenW i))) 0 0 (fun _ => False) := by
  refine Met.ofW (cc := cJ0_length_8abf5) (maxL := 1) (ret := (some .int)) (by decide) rfl ?_
  intro p e s m args below meth c s₁ B hml hv
  obtain ⟨rfl, hE⟩ := hv
  have hx := B.exec
  have hb := B.bytes
  have hr := B.returns
  have hts := atoms_spec (ws := wsJ0_length_8abf5) B.pre
  have hown : s.vm.findClass RJ0 = some m.cls := findClass_of_methodNamed B.named
  have hlocks := B.notSynchronized
  have hS : va_S A s.heap s.heap [] := va_S.rf
  have hl := lv_entry ([.ref (ak i)]) (n := 1) (Nat.le_of_ble_eq_true rfl)
  rw [lg_entry_eq]
  generalize (lg_sl ([.ref (ak i)]) ++ List.replicate (1 - (lg_sl ([.ref (ak i)])).length) Slot.unset).toArray = ls at hl ⊢
  have hl : lv_has ls 1 [(0, .ref (ak i))] := hl
  have hlw := lenW_le i hi
  refine lv_aload_n hx hb dJ0_length_8abf5_0 rfl (lv_at hl 0 rfl) ?_
  refine vk_getf hx hb (hE.1.1 i hi).2.2.1 hS hown (hts _ (List.mem_of_getElem? (i := 1) rfl)) (fun _ h => h) dJ0_length_8abf5_1 ?_
  refine va_tlen (v := nI (lenW i)) hx hb (hE.1.1 i hi).2.2.2 hS rfl dJ0_length_8abf5_4 ?_
  refine lv_aload_n hx hb dJ0_length_8abf5_5 rfl (lv_at hl 0 rfl) ?_
  refine nr_goS (nj_runV (As := []) ⟨hx, hb, hml, hown, hts⟩ hE hS hi (c_J0_coder_7d493 l A ak av fr0 i hi) (cwV 0 hts gJ0_length_8abf5_J0_coder_7d493 rfl rfl rfl (by decide +kernel) ⟨Nat.le_of_ble_eq_true rfl, Nat.le_of_ble_eq_true rfl⟩) rfl hl.1 rfl (Nat.le_of_ble_eq_true rfl) dJ0_length_8abf5_6 ⟨Nat.zero_le _, Nat.zero_le _⟩) (fun r hr9 => ?_)
  subst hr9
  refine nr_ishr hx hb (by omega) (by decide) dJ0_length_8abf5_9 ?_
  exact nr_retS hx hb hr hlocks (by rw [Nat.pow_zero, Nat.div_one]) rfl dJ0_length_8abf5_10
set_option maxHeartbeats 4000000 in
set_option maxRecDepth 100000 in
theorem c_J3_checkIndex_8e157 (l : Launch) (A : Nat → Prop) (ak av : Nat → Nat) (fr0 : Option Nat) (i k : Nat) (hi : i < 100) (hk : k < i) : Met l yJ3_checkIndex_8e157 wsJ3_checkIndex_8e157 ({ frames := 0, cells := 0, slots := 0, locals := 0 }) (va_Pc [.int (nI k), .int (nI i), va_rf fr0] (fun U => kSt A ak av fr0 U U.heap)) (vp_Si (fun z => z = nI k)) 0 0 (fun _ => False) := by
  refine Met.ofW (cc := cJ3_checkIndex_8e157) (maxL := 3) (ret := (some .int)) (by decide) rfl ?_
  intro p e s m args below meth c s₁ B hml hv
  obtain ⟨rfl, hE⟩ := hv
  have hx := B.exec
  have hb := B.bytes
  have hr := B.returns
  have hts := atoms_spec (ws := wsJ3_checkIndex_8e157) B.pre
  have hown : s.vm.findClass RJ3 = some m.cls := findClass_of_methodNamed B.named
  have hlocks := B.notSynchronized
  have hS : va_S A s.heap s.heap [] := va_S.rf
  rcases fr0 with _ | q0
  · have hl := lv_entry ([.int (nI k), .int (nI i), va_rf none]) (n := 3) (Nat.le_of_ble_eq_true rfl)
    rw [lg_entry_eq]
    generalize (lg_sl ([.int (nI k), .int (nI i), va_rf none]) ++ List.replicate (3 - (lg_sl ([.int (nI k), .int (nI i), va_rf none])).length) Slot.unset).toArray = ls at hl ⊢
    have hl : lv_has ls 3 [(0, .int (nI k)), (1, .int (nI i)), (2, va_rf none)] := hl
    refine lv_iload_n hx hb dJ3_checkIndex_8e157_0 rfl (lv_at hl 0 rfl) ?_
    refine nr_if_lt (tgt := 9) hx hb (by omega) dJ3_checkIndex_8e157_1 (by decide) ?_
    refine lv_iload_n hx hb dJ3_checkIndex_8e157_4 rfl (lv_at hl 0 rfl) ?_
    refine lv_iload_n hx hb dJ3_checkIndex_8e157_5 rfl (lv_at hl 1 rfl) ?_
    refine nr_icmp_lt (tgt := 16) hx hb (by omega) (by omega) dJ3_checkIndex_8e157_6 (by decide) (fun c => ?_) (fun c => absurd c (by omega))
    refine lv_iload_n hx hb dJ3_checkIndex_8e157_16 rfl (lv_at hl 0 rfl) ?_
    exact nr_retS hx hb hr hlocks rfl rfl dJ3_checkIndex_8e157_17
  · have hl := lv_entry ([.int (nI k), .int (nI i), va_rf (some q0)]) (n := 3) (Nat.le_of_ble_eq_true rfl)
    rw [lg_entry_eq]
    generalize (lg_sl ([.int (nI k), .int (nI i), va_rf (some q0)]) ++ List.replicate (3 - (lg_sl ([.int (nI k), .int (nI i), va_rf (some q0)])).length) Slot.unset).toArray = ls at hl ⊢
    have hl : lv_has ls 3 [(0, .int (nI k)), (1, .int (nI i)), (2, va_rf (some q0))] := hl
    refine lv_iload_n hx hb dJ3_checkIndex_8e157_0 rfl (lv_at hl 0 rfl) ?_
    refine nr_if_lt (tgt := 9) hx hb (by omega) dJ3_checkIndex_8e157_1 (by decide) ?_
    refine lv_iload_n hx hb dJ3_checkIndex_8e157_4 rfl (lv_at hl 0 rfl) ?_
    refine lv_iload_n hx hb dJ3_checkIndex_8e157_5 rfl (lv_at hl 1 rfl) ?_
    refine nr_icmp_lt (tgt := 16) hx hb (by omega) (by omega) dJ3_checkIndex_8e157_6 (by decide) (fun c => ?_) (fun c => absurd c (by omega))
    refine lv_iload_n hx hb dJ3_checkIndex_8e157_16 rfl (lv_at hl 0 rfl) ?_
    exact nr_retS hx hb hr hlocks rfl rfl dJ3_checkIndex_8e157_17
set_option maxHeartbeats 4000000 in
set_option maxRecDepth 100000 in
theorem c_J0_checkIndex_df160 (l : Launch) (A : Nat → Prop) (ak av : Nat → Nat) (fr0 : Option Nat) (i k : Nat) (hi : i < 100) (hk : k < i) : Met l yJ0_checkIndex_df160 wsJ0_checkIndex_df160 ({ frames := 1, cells := 0, slots := 0, locals := 22 }) (va_Pc [.int (nI k), .int (nI i)] (fun U => kSt A ak av fr0 U U.heap)) (va_Sv (fun _ => True)) 0 0 (fun _ => False) := by
  refine Met.ofW (cc := cJ0_checkIndex_df160) (maxL := 2) (ret := none) (by decide) rfl ?_
  intro p e s m args below meth c s₁ B hml hv
  obtain ⟨rfl, hE⟩ := hv
  have hx := B.exec
  have hb := B.bytes
  have hr := B.returns
  have hts := atoms_spec (ws := wsJ0_checkIndex_df160) B.pre
  have hown : s.vm.findClass RJ0 = some m.cls := findClass_of_methodNamed B.named
  have hlocks := B.notSynchronized
  have hS : va_S A s.heap s.heap [] := va_S.rf
  have hl := lv_entry ([.int (nI k), .int (nI i)]) (n := 2) (Nat.le_of_ble_eq_true rfl)
  rw [lg_entry_eq]
  generalize (lg_sl ([.int (nI k), .int (nI i)]) ++ List.replicate (2 - (lg_sl ([.int (nI k), .int (nI i)])).length) Slot.unset).toArray = ls at hl ⊢
  have hl : lv_has ls 2 [(0, .int (nI k)), (1, .int (nI i))] := hl
  refine lv_iload_n hx hb dJ0_checkIndex_df160_0 rfl (lv_at hl 0 rfl) ?_
  refine lv_iload_n hx hb dJ0_checkIndex_df160_1 rfl (lv_at hl 1 rfl) ?_
  refine va_gets hx hb hE.2.2.2 hS hown (hts _ (List.mem_of_getElem? (i := 1) rfl)) (fun _ h => h) dJ0_checkIndex_df160_2 ?_
  refine nr_goS (nj_runS (As := [.int (nI k), .int (nI i), va_rf fr0]) ⟨hx, hb, hml, hown, hts⟩ hE hS (c_J3_checkIndex_8e157 l A ak av fr0 i k hi hk) (va_cwS 3 hts gJ0_checkIndex_df160_J3_checkIndex_8e157 rfl rfl rfl (by decide +kernel) ⟨Nat.le_of_ble_eq_true rfl, Nat.le_of_ble_eq_true rfl⟩) rfl hl.1 rfl (Nat.le_of_ble_eq_true rfl) dJ0_checkIndex_df160_5 ⟨Nat.zero_le _, Nat.zero_le _⟩) (fun r hr9 => ?_)
  refine lv_pop hx hb dJ0_checkIndex_df160_8 rfl ?_
  exact W.vret hx hb hr (fun t ht _ => ⟨rfl, trivial, by rw [ht]⟩) (fun _ h => by cases h) dJ0_checkIndex_df160_9 hlocks
set_option maxHeartbeats 4000000 in
set_option maxRecDepth 100000 in
theorem c_J1_charAt_3b067 (l : Launch) (A : Nat → Prop) (ak av : Nat → Nat) (fr0 : Option Nat) (i k : Nat) (hi : i < 5) (hk : k < lenW i) : Met l yJ1_charAt_3b067 wsJ1_charAt_3b067 ({ frames := 2, cells := 0, slots := 0, locals := 44 }) (va_Pc [.ref (av i), .int (nI k)] (fun U => kSt A ak av fr0 U U.heap)) (vp_Si (fun z => z = nI (chW i k))) 0 0 (fun _ => False) := by
  refine Met.ofW (cc := cJ1_charAt_3b067) (maxL := 2) (ret := (some .char)) (by decide) rfl ?_
  intro p e s m args below meth c s₁ B hml hv
  obtain ⟨rfl, hE⟩ := hv
  have hx := B.exec
  have hb := B.bytes
  have hr := B.returns
  have hts := atoms_spec (ws := wsJ1_charAt_3b067) B.pre
  have hown : s.vm.findClass RJ1 = some m.cls := findClass_of_methodNamed B.named
  have hlocks := B.notSynchronized
  have hS : va_S A s.heap s.heap [] := va_S.rf
  have hl := lv_entry ([.ref (av i), .int (nI k)]) (n := 2) (Nat.le_of_ble_eq_true rfl)
  rw [lg_entry_eq]
  generalize (lg_sl ([.ref (av i), .int (nI k)]) ++ List.replicate (2 - (lg_sl ([.ref (av i), .int (nI k)])).length) Slot.unset).toArray = ls at hl ⊢
  have hl : lv_has ls 2 [(0, .ref (av i)), (1, .int (nI k))] := hl
  have hlw := lenW_le i hi
  have hch := chW_b i hi k hk
  refine lv_iload_n hx hb dJ1_charAt_3b067_0 rfl (lv_at hl 1 rfl) ?_
  refine lv_aload_n hx hb dJ1_charAt_3b067_1 rfl (lv_at hl 0 rfl) ?_
  refine va_tlen (v := nI (lenW i)) hx hb (hE.1.1 i hi).2.2.2 hS rfl dJ1_charAt_3b067_2 ?_
  refine va_csv (va_Run.run (nj_runS (As := [.int (nI k), .int (nI (lenW i))]) ⟨hx, hb, hml, hown, hts⟩ hE hS (c_J0_checkIndex_df160 l A ak av fr0 (lenW i) k (by omega) hk) (va_cwS 2 hts gJ1_charAt_3b067_J0_checkIndex_df160 rfl rfl rfl (by decide +kernel) ⟨Nat.le_of_ble_eq_true rfl, Nat.le_of_ble_eq_true rfl⟩) rfl hl.1 rfl (Nat.le_of_ble_eq_true rfl) dJ1_charAt_3b067_3 ⟨Nat.zero_le _, Nat.zero_le _⟩)) (fun _ => ?_)
  refine lv_aload_n hx hb dJ1_charAt_3b067_6 rfl (lv_at hl 0 rfl) ?_
  refine lv_iload_n hx hb dJ1_charAt_3b067_7 rfl (lv_at hl 1 rfl) ?_
  refine va_tb (v := .int (nI (chW i k))) hx hb (hE.1.1 i hi).2.2.2 hS (vp_in_nI (by rw [← hlw.2.2]; exact hk) (by rw [← hlw.2.2]; omega)) (by rw [nI_clamp (by omega), hch.1]) dJ1_charAt_3b067_8 ?_
  refine lv_sipush (v := nI 255) hx hb dJ1_charAt_3b067_9 (by decide) ?_
  refine lv_iand hx hb dJ1_charAt_3b067_12 ?_
  refine lv_i2c (v := nI (chW i k)) hx hb dJ1_charAt_3b067_13 hch.2.1 ?_
  exact W.zret hx hb hr hch.2.2.1 (fun t ht _ => ⟨nI (chW i k), rfl, rfl, by rw [ht]⟩) (fun _ h => by cases h) dJ1_charAt_3b067_14 hlocks
set_option maxHeartbeats 4000000 in
set_option maxRecDepth 100000 in
theorem c_J0_charAt_5068e (l : Launch) (A : Nat → Prop) (ak av : Nat → Nat) (fr0 : Option Nat) (i k : Nat) (hi : i < 5) (hk : k < lenW i) : Met l yJ0_charAt_5068e wsJ0_charAt_5068e ({ frames := 3, cells := 0, slots := 0, locals := 65 }) (va_Pc [.ref (ak i), .int (nI k)] (fun U => kSt A ak av fr0 U U.heap)) (vp_Si (fun z => z = nI (chW i k))) 0 0 (fun _ => False) := by
  refine Met.ofW (cc := cJ0_charAt_5068e) (maxL := 2) (ret := (some .char)) (by decide) rfl ?_
  intro p e s m args below meth c s₁ B hml hv
  obtain ⟨rfl, hE⟩ := hv
  have hx := B.exec
  have hb := B.bytes
  have hr := B.returns
  have hts := atoms_spec (ws := wsJ0_charAt_5068e) B.pre
  have hown : s.vm.findClass RJ0 = some m.cls := findClass_of_methodNamed B.named
  have hlocks := B.notSynchronized
  have hS : va_S A s.heap s.heap [] := va_S.rf
  have hl := lv_entry ([.ref (ak i), .int (nI k)]) (n := 2) (Nat.le_of_ble_eq_true rfl)
  rw [lg_entry_eq]
  generalize (lg_sl ([.ref (ak i), .int (nI k)]) ++ List.replicate (2 - (lg_sl ([.ref (ak i), .int (nI k)])).length) Slot.unset).toArray = ls at hl ⊢
  have hl : lv_has ls 2 [(0, .ref (ak i)), (1, .int (nI k))] := hl
  have hch := chW_b i hi k hk
  refine lv_aload_n hx hb dJ0_charAt_5068e_0 rfl (lv_at hl 0 rfl) ?_
  refine nr_goS (nj_runV (As := []) ⟨hx, hb, hml, hown, hts⟩ hE hS hi (c_J0_isLatin1_aae02 l A ak av fr0 i hi) (cwV 0 hts gJ0_charAt_5068e_J0_isLatin1_aae02 rfl rfl rfl (by decide +kernel) ⟨Nat.le_of_ble_eq_true rfl, Nat.le_of_ble_eq_true rfl⟩) rfl hl.1 rfl (Nat.le_of_ble_eq_true rfl) dJ0_charAt_5068e_1 ⟨Nat.zero_le _, Nat.zero_le _⟩) (fun r hr9 => ?_)
  subst hr9
  refine nr_if_eq (tgt := 16) hx hb (by decide) dJ0_charAt_5068e_4 (by decide) (fun c => absurd c (by decide)) (fun c => ?_)
  refine lv_aload_n hx hb dJ0_charAt_5068e_7 rfl (lv_at hl 0 rfl) ?_
  refine vk_getf hx hb (hE.1.1 i hi).2.2.1 hS hown (hts _ (List.mem_of_getElem? (i := 1) rfl)) (fun _ h => h) dJ0_charAt_5068e_8 ?_
  refine lv_iload_n hx hb dJ0_charAt_5068e_11 rfl (lv_at hl 1 rfl) ?_
  refine nr_goS (nj_runS (As := [.ref (av i), .int (nI k)]) ⟨hx, hb, hml, hown, hts⟩ hE hS (c_J1_charAt_3b067 l A ak av fr0 i k hi hk) (va_cwS 2 hts gJ0_charAt_5068e_J1_charAt_3b067 rfl rfl rfl (by decide +kernel) ⟨Nat.le_of_ble_eq_true rfl, Nat.le_of_ble_eq_true rfl⟩) rfl hl.1 rfl (Nat.le_of_ble_eq_true rfl) dJ0_charAt_5068e_12 ⟨Nat.zero_le _, Nat.zero_le _⟩) (fun r hr9 => ?_)
  subst hr9
  exact W.zret hx hb hr hch.2.2.1 (fun t ht _ => ⟨nI (chW i k), rfl, rfl, by rw [ht]⟩) (fun _ h => by cases h) dJ0_charAt_5068e_15 hlocks
end SG2
