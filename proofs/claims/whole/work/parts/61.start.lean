set_option maxHeartbeats 8000000 in
set_option maxRecDepth 100000 in
/-- THE LAW, from its entry -/
theorem whole_start {p : Program} {e : Env} {s : State} {m : MethodId} {below : List Frame} {meth : Method} {c : Code} (l : Launch) (hflags : l.flags = flags0) {b L : Nat} {xs : Nat → Int32} (hL : L ≤ 2560) (C0 : lw_At p s m meth c b L xs) : W p l e room_1 s m #[Value.ref b] below meth c s.heap [] 0 0 (lw_Z below #[Value.ref b] s) (entryFrame m ([Value.ref b] : List Value).toArray 4) := by
  obtain ⟨hx, hb, hr, hml, hown, hts, hX, hbl, hlocks, hgv⟩ := id C0
  have hown : s.vm.findClass RL = some m.cls := hown
  have hgf := flat_of_before _ hgv
  obtain ⟨Γ0, hK⟩ := ls_K hts hgf
  obtain ⟨ak, av, fr0, hE⟩ := ls_S (A := fun q : Nat => s.heap.size ≤ q) hts hgf (fun a h1 h2 => absurd h1 (Nat.not_lt.mpr h2))
  have hA : ∀ q : Nat, s.heap.size ≤ q → (fun q : Nat => s.heap.size ≤ q) q := fun _ h => h
  have hS : va_S (fun q : Nat => s.heap.size ≤ q) s.heap s.heap [] := va_S.rf
  have hP : va_P Γ0.1 vwCl [] s.heap := fun k q h => by simp at h
  have hD : va_D (fun q : Nat => s.heap.size ≤ q) [] := ⟨fun i j p q h => by simp at h, fun k q h => by simp at h⟩
  have hl := lv_entry ([.ref b]) (n := 4) (Nat.le_of_ble_eq_true rfl)
  rw [lg_entry_eq]
  generalize (lg_sl ([.ref b]) ++ List.replicate (4 - (lg_sl ([.ref b])).length) Slot.unset).toArray = ls at hl ⊢
  have hl : lv_has ls 4 [(0, .ref b)] := hl
  refine va_new (ci := 8) (fs := [.null, .null, .null, .null, .null, .null, .null, .null, .int 0, .int 0, .int 0]) (C := RX11) (T := TX11) (N := 11) hx hb hts mw_wsX110 tyX11 tyX11_ok hown (hts (.classLink RL 7 RX11) (inT1 _ (lkC_mem (i := 21) rfl))) (hts (.instantiable RX11 11) (inT1 _ (lkC_mem (i := 22) rfl))) (hts (.initialized RX11) (inT1 _ (lkC_mem (i := 1) rfl))) hK.1 hP hD hS hA rfl (fun j hj => by rcases (show j = 0 ∨ j = 1 ∨ j = 2 ∨ j = 3 ∨ j = 4 ∨ j = 5 ∨ j = 6 ∨ j = 7 ∨ j = 8 ∨ j = 9 ∨ j = 10 by omega) with rfl | rfl | rfl | rfl | rfl | rfl | rfl | rfl | rfl | rfl | rfl <;> rfl) (Nat.le_of_ble_eq_true rfl) (Nat.le_of_ble_eq_true rfl) dL_law_0 (fun q0 H hP hD hS => ?_)
  refine lv_dup hx hb dL_law_3 rfl ?_
  refine ct_go (wr := []) (va_runI (As := []) (rest := [.ref q0]) ⟨hx, hb, hml, hown, hts⟩ (c_X11_init l Γ0 q0 H.size) (cwI 0 hts gL_law_X11_init rfl rfl rfl (hts (.initialized RX11) (inT1 _ (lkC_mem (i := 1) rfl))) (hts (.methodLink RL 9 yX11_init) (inT1 _ (lkC_mem (i := 23) rfl))) (hts (.instanceMethod yX11_init) (inT1 _ (lkC_mem (i := 24) rfl))) rfl (by decide +kernel) ⟨Nat.le_of_ble_eq_true rfl, Nat.le_of_ble_eq_true rfl⟩) (ct_pre (va_lastP (wr := []) hP) hK (va_lastD (wr := []) hD)) rfl rfl hl.1 rfl (lv_room (Nat.le_of_ble_eq_true rfl)) dL_law_4 ⟨Nat.le_of_ble_eq_true rfl, Nat.le_of_ble_eq_true rfl⟩) hP hD hA hS (fun f H locs ef hP1 hD1 hS => ?_)
  subst ef
  refine lv_astore_n (lv' := [(1, .ref (f 0)), (0, .ref b)]) hx hb dL_law_7 rfl hl (by decide) rfl (fun ls hl => ?_)
  refine va_new (ci := 9) (fs := [.null, .null, .null, .null, .long 0, .long 0, .null, .null, .null, .null, .null, .null, .int 0, .int 0, .int 0, .int 0, .int 0, .null, .null]) (C := RX12) (T := TX12) (N := 19) hx hb hts mw_wsX120 tyX12 tyX12_ok hown (hts (.classLink RL 10 RX12) (inT4 _ (lkC_mem (i := 102) rfl))) (hts (.instantiable RX12 19) (inT4 _ (lkC_mem (i := 103) rfl))) (hts (.initialized RX12) (inT1 _ (lkC_mem (i := 10) rfl))) hK.1 hP1 hD1 hS hA rfl (fun j hj => by rcases (show j = 0 ∨ j = 1 ∨ j = 2 ∨ j = 3 ∨ j = 4 ∨ j = 5 ∨ j = 6 ∨ j = 7 ∨ j = 8 ∨ j = 9 ∨ j = 10 ∨ j = 11 ∨ j = 12 ∨ j = 13 ∨ j = 14 ∨ j = 15 ∨ j = 16 ∨ j = 17 ∨ j = 18 by omega) with rfl | rfl | rfl | rfl | rfl | rfl | rfl | rfl | rfl | rfl | rfl | rfl | rfl | rfl | rfl | rfl | rfl | rfl | rfl <;> rfl) (Nat.le_of_ble_eq_true rfl) (Nat.le_of_ble_eq_true rfl) dL_law_8 (fun q8 H hP hD hS => ?_)
  refine lv_dup hx hb dL_law_11 rfl ?_
  refine ct_go (wr := ([] : va_W) ++ cl11 Γ0 f) (va_runI (As := []) (rest := [.ref q8]) ⟨hx, hb, hml, hown, hts⟩ (c_X12_init l Γ0 q8 H.size) (cwI 0 hts gL_law_X12_init rfl rfl rfl (hts (.initialized RX12) (inT1 _ (lkC_mem (i := 10) rfl))) (hts (.methodLink RL 12 yX12_init) (inT4 _ (lkC_mem (i := 104) rfl))) (hts (.instanceMethod yX12_init) (inT4 _ (lkC_mem (i := 105) rfl))) rfl (by decide +kernel) ⟨Nat.le_of_ble_eq_true rfl, Nat.le_of_ble_eq_true rfl⟩) (ct_pre (va_lastP (wr := ([] : va_W) ++ cl11 Γ0 f) hP) hK (va_lastD (wr := ([] : va_W) ++ cl11 Γ0 f) hD)) rfl rfl hl.1 rfl (lv_room (Nat.le_of_ble_eq_true rfl)) dL_law_12 ⟨Nat.le_of_ble_eq_true rfl, Nat.le_of_ble_eq_true rfl⟩) hP hD hA hS (fun g H locs ef hP1 hD1 hS => ?_)
  subst ef
  refine lv_astore_n (lv' := [(2, .ref (g 0)), (1, .ref (f 0)), (0, .ref b)]) hx hb dL_law_15 rfl hl (by decide) rfl (fun ls hl => ?_)
  refine lv_iconst (v := nI 0) hx hb dL_law_16 (by decide) ?_
  refine lv_istore_n (lv' := [(3, .int (nI 0)), (2, .ref (g 0)), (1, .ref (f 0)), (0, .ref b)]) hx hb dL_law_17 rfl hl (by decide) rfl (fun ls hl => ?_)
  rw [L89_eq] at hP1 hD1
  have hn : ∀ i, i < 89 → plL.getD i 0 < (L89 Γ0 f g).length := plL_b
  obtain ⟨q, hq1, hq2⟩ := ls_SI Γ0 f g
  have hw0 : hw (gaP Γ0.1 Γ0.2.1 (L89 Γ0 f g) plL) 89 (geP (L89 Γ0 f g) plL) s H := ⟨geP_P hn hP1, hK.1, hK.2.1⟩
  have hw1 := hw_qa (Γ := gaP Γ0.1 Γ0.2.1 (L89 Γ0 f g) plL) hw0 hq1 hq2
  have hl : lv_has ls 4 [(0, .ref b), (1, .ref (ad (gaP Γ0.1 Γ0.2.1 (L89 Γ0 f g) plL) 0)), (2, .ref (ad (gaP Γ0.1 Γ0.2.1 (L89 Γ0 f g) plL) 76)), (3, .int (nI 0))] := lv_sub hl [3, 2, 1, 0] rfl
  exact law_loop hL C0 (geP_j hn plL_s hD1) (geP_D hn hD1) ak av fr0 hE ⟨Nat.le_of_ble_eq_true rfl, Nat.le_of_ble_eq_true rfl⟩ (L + 6) 0 (by omega) (by omega) _ _ _ (ls_SI2 Γ0 f g) hw1 hS ls hl
