/-! THE CLAIM OUT OF ONE WALK OF THE LAW'S BODY. Your part is whole_start (and what it stands on); all else here is the same for every law, but numbers. -/
def R_law : String := "BellForgivenLaw"
def lw_P (b : Addr) (xs : List Int32) (args : Array Value) (s : State) : Prop := args = #[.ref b] ∧ s.IntsAt b xs ∧ xs.length ≤ 2560 ∧ (Jvm.Cond.and given_1 narrow_1).before args s = true
def lw_Q (_ : Array Value) (s : State) (o : Outcome) (t : State) : Prop := o = .returned (some (.int 1)) ∧ Framed s o t [] 600000 7302250
def lw_Z (below : List Frame) (a : Array Value) (s : State) : State → Prop := fun t => ∃ o, t.status = .running ∧ Ended t below o ∧ lw_Q a s o t
/-- the law's own end, with 1 on the stack, nothing written that was there before, its room as the claim has it -/
theorem lw_ret {p : Program} {l : Launch} {e : Env} {s : State} {m : MethodId} {below : List Frame} {meth : Method} {c : Code} {b : Nat} (hx : p.tables.exec = Jvm.exec) (hb : c.code = code) (hr : meth.sig.returnType = ret) (hlocks : meth.locks = false) {pc : Nat} {H : Heap} {ls : Array Slot} (hdg : decode code pc = .ok (.ireturn, 1)) : W p l e room_1 s m #[Value.ref b] below meth c H [] 600000 7302250 (lw_Z below #[Value.ref b] s) (F0 m pc ls [.int 1]) := by
  intro T hT X
  obtain ⟨fs, hret, hrun, hended, hW, hframe⟩ := X.leave (v := some (.int 1)) (hlocks := hlocks) (fun h => by rw [hr] at h; cases h)
  have hmeth' : T.vm.method? m = some meth := X.method'
  refine ⟨T.setFrames fs, ?_, .returned (some (.int 1)), hrun, hended, rfl, ⟨_, rfl⟩, hW, hframe⟩
  jvm_step X.here [X.here.top, hx, hb, hdg, hmeth', hr, ret, narrow_b1]
  (try refine ⟨rfl, ?_⟩); (try refine ⟨rfl, ?_⟩)
  first | (intro acts; rw [hret _ acts rfl rfl rfl]) | rw [hret _ _ rfl rfl rfl]
  exact Steps.refl _
/-- what holds at the law's entry: the machine, the code, the tables' words (any of lw_tbl by 'hts w (by decide +kernel)'), the script of L ints xs at the cell b, what the Statement gives of the start (any of its parts by flat_of_before) -/
def lw_At (p : Program) (s : State) (m : MethodId) (meth : Method) (c : Code) (b L : Nat) (xs : Nat → Int32) : Prop :=
  p.tables.exec = Jvm.exec ∧ c.code = code ∧ meth.sig.returnType = ret ∧ c.maxLocals = 4 ∧ s.vm.findClass R_law = some m.cls ∧ (∀ w ∈ lw_tbl, w.before #[Value.ref b] s = true) ∧ va_X b L xs s s.heap ∧ b < s.heap.size ∧ meth.locks = false ∧ (Jvm.Cond.and given_1 narrow_1).before #[Value.ref b] s = true
theorem and63 (x : Int32) : ∃ j, j < 64 ∧ x &&& nI 63 = nI j := by
  refine ⟨(x.toBitVec &&& 63#32).toNat, ?_, ?_⟩
  · rw [BitVec.toNat_and]
    exact Nat.lt_of_le_of_lt Nat.and_le_right (by decide)
  · apply Int32.toBitVec_inj.mp
    show x.toBitVec &&& BitVec.ofNat 32 63 = BitVec.ofNat 32 (x.toBitVec &&& 63#32).toNat
    rw [BitVec.ofNat_toNat, BitVec.setWidth_eq]
theorem sw_out : ∀ j, j < 64 → 36 ≤ j → (35 : Int) < (nI j).toInt := by decide +kernel
theorem len5 {i L : Nat} (hi : i < 1073741824) (hL : L < 1073741824) : (nI L - nI 5 < nI i) ↔ L < i + 5 := by
  have e1 : (nI i).toInt = i := by
    have := pk_sub_toInt (a := i) (b := 0) hi (by decide)
    rw [show nI i - nI 0 = nI i from pk_sub (Nat.zero_le i)] at this
    omega
  have e2 := pk_sub_toInt (a := L) (b := 5) hL (by decide)
  rw [Int32.lt_iff_toInt_lt, e1, e2]
  omega
set_option maxHeartbeats 8000000 in
set_option maxRecDepth 100000 in
theorem law_loop {p : Program} {l : Launch} {e : Env} {s : State} {m : MethodId} {below : List Frame} {meth : Method} {c : Code} {b L cells slots : Nat} {xs : Nat → Int32} {Γ : Gam} (hL : L ≤ 2560) (C0 : lw_At p s m meth c b L xs) (hj : winj Γ 89) (hA : ∀ q, wA Γ 89 q → s.heap.size ≤ q) (ak av : Nat → Nat) (fr0 : Option Nat) (hE : kSt (fun q : Nat => s.heap.size ≤ q) ak av fr0 s s.heap) (hroom : cells ≤ 600000 ∧ slots ≤ 7302250) :
    ∀ (n i : Nat), i ≤ L + 5 → L + 6 ≤ i + n → ∀ (G : Nat → va_E) (H : Heap) (locs : List Loc), SI Γ G 0 76 → hw Γ 89 G s H → va_S (fun q : Nat => s.heap.size ≤ q) s.heap H locs → ∀ (ls : Array Slot), lv_has ls 4 [(0, .ref b), (1, .ref (ad Γ 0)), (2, .ref (ad Γ 76)), (3, .int (nI i))] → W p l e room_1 s m #[Value.ref b] below meth c H locs cells slots (lw_Z below #[Value.ref b] s) (F0 m 18 ls []) := by
  obtain ⟨hx, hb, hr, hml, hown, hts, hX, hbl, hlocks, hgv⟩ := C0
  have hbA : ¬ (fun q : Nat => s.heap.size ≤ q) b := Nat.not_le.mpr hbl
  intro n
  induction n with
  | zero =>
    intro i h1 h2
    exact absurd h2 (by omega)
  | succ n ih =>
    intro i hi hin G H locs I hw1 hS ls hl
    refine lv_iload_n hx hb dL_law_18 rfl (lv_at hl 3 rfl) ?_
    refine lv_aload_n hx hb dL_law_19 rfl (lv_at hl 0 rfl) ?_
    refine va_slen hx hb hX hbl hbA hS dL_law_20 ?_
    refine lv_iconst (v := nI 5) hx hb dL_law_21 (by decide) ?_
    refine lv_isub hx hb dL_law_22 ?_
    refine lv_icmp_gt (tgt := 1158) hx hb dL_law_23 (by decide) (fun c1 => ?_) (fun c1 => ?_)
    · refine lv_iconst (v := 1) hx hb dL_law_1158 (by decide) ?_
      refine va_forget (fun q hq => hS.2.2 q hq) ?_
      refine W.widen (k := 600000) (n := 7302250) hroom.1 hroom.2 ?_
      exact lw_ret hx hb hr hlocks dL_law_1159
    · have hi5 : i + 5 ≤ L := Nat.le_of_not_lt fun q => c1 ((len5 (by omega) (by omega)).mpr q)
      have kk : ∀ (G3 : Nat → va_E) (H3 : Heap) (locs3 : List Loc), SI Γ G3 0 76 → hw Γ 89 G3 s H3 → va_S (fun q : Nat => s.heap.size ≤ q) s.heap H3 locs3 → W p l e room_1 s m #[Value.ref b] below meth c H3 locs3 cells slots (lw_Z below #[Value.ref b] s) (F0 m 1152 ls []) := fun G3 H3 locs3 I3 hw3 hS3 => by
        refine nr_inc (d := 5) (lv' := [(3, .int (nI (i + 5))), (0, .ref b), (1, .ref (ad Γ 0)), (2, .ref (ad Γ 76))]) hx hb dL_law_1152 hl (k := 3) rfl (by decide) (by decide) rfl (fun ls hl => ?_)
        refine lv_goto (tgt := 18) hx hb dL_law_1155 (by decide) ?_
        exact ih (i + 5) (by omega) (by omega) G3 H3 locs3 I3 hw3 hS3 ls (lv_sub hl [1, 2, 3, 0] rfl)
      refine lv_aload_n hx hb dL_law_26 rfl (lv_at hl 0 rfl) ?_
      refine lv_iload_n hx hb dL_law_27 rfl (lv_at hl 3 rfl) ?_
      refine va_sld hx hb hX hbl hbA hS (vp_in_nI (by omega) (by omega)) dL_law_28 ?_
      refine lv_bipush (v := nI 63) hx hb dL_law_29 (by decide) ?_
      refine lv_iand hx hb dL_law_31 ?_
      obtain ⟨j, hj64, ej⟩ := and63 (xs (nI i).toNatClampNeg)
      rw [ej]
      by_cases h36 : j < 36
      · have hc : j = 0 ∨ j = 1 ∨ j = 2 ∨ j = 3 ∨ j = 4 ∨ j = 5 ∨ j = 6 ∨ j = 7 ∨ j = 8 ∨ j = 9 ∨ j = 10 ∨ j = 11 ∨ j = 12 ∨ j = 13 ∨ j = 14 ∨ j = 15 ∨ j = 16 ∨ j = 17 ∨ j = 18 ∨ j = 19 ∨ j = 20 ∨ j = 21 ∨ j = 22 ∨ j = 23 ∨ j = 24 ∨ j = 25 ∨ j = 26 ∨ j = 27 ∨ j = 28 ∨ j = 29 ∨ j = 30 ∨ j = 31 ∨ j = 32 ∨ j = 33 ∨ j = 34 ∨ j = 35 := by omega
        rcases hc with rfl | rfl | rfl | rfl | rfl | rfl | rfl | rfl | rfl | rfl | rfl | rfl | rfl | rfl | rfl | rfl | rfl | rfl | rfl | rfl | rfl | rfl | rfl | rfl | rfl | rfl | rfl | rfl | rfl | rfl | rfl | rfl | rfl | rfl | rfl | rfl
        · exact lv_tableIn (x := nI 0) (off := 160) (tgt := 192) hx hb dL_law_32 (by decide) (by decide) rfl (by decide) (st_valley hL hx hb hml hown hts hX hbl hi5 hj hA hS hw1 I hroom hl kk)
        · exact lv_tableIn (x := nI 1) (off := 173) (tgt := 205) hx hb dL_law_32 (by decide) (by decide) rfl (by decide) (st_one hL hx hb hml hown hts hX hbl hi5 hj hA hS hw1 I hroom hl kk)
        · exact lv_tableIn (x := nI 2) (off := 196) (tgt := 228) hx hb dL_law_32 (by decide) (by decide) rfl (by decide) (st_wrong hL hx hb hml hown hts hX hbl hi5 hj hA hS hw1 I hroom hl kk)
        · exact lv_tableIn (x := nI 3) (off := 249) (tgt := 281) hx hb dL_law_32 (by decide) (by decide) rfl (by decide) (st_type hL hx hb hml hown hts hX hbl hi5 hj hA hS hw1 I hroom hl kk)
        · exact lv_tableIn (x := nI 4) (off := 272) (tgt := 304) hx hb dL_law_32 (by decide) (by decide) rfl (by decide) (st_clear hL hx hb hml hown hts hX hbl hi5 hj hA hS hw1 I hroom hl kk)
        · exact lv_tableIn (x := nI 5) (off := 285) (tgt := 317) hx hb dL_law_32 (by decide) (by decide) rfl (by decide) (st_read hL hx hb hml hown hts hX hbl hi5 hj hA hS hw1 I hroom hl ak av fr0 hE kk)
        · exact lv_tableIn (x := nI 6) (off := 298) (tgt := 330) hx hb dL_law_32 (by decide) (by decide) rfl (by decide) (st_days hL hx hb hml hown hts hX hbl hi5 hj hA hS hw1 I hroom hl kk)
        · exact lv_tableIn (x := nI 7) (off := 321) (tgt := 353) hx hb dL_law_32 (by decide) (by decide) rfl (by decide) (st_rings hL hx hb hml hown hts hX hbl hi5 hj hA hS hw1 I hroom hl kk)
        · exact lv_tableIn (x := nI 8) (off := 344) (tgt := 376) hx hb dL_law_32 (by decide) (by decide) rfl (by decide) (st_undo hL hx hb hml hown hts hX hbl hi5 hj hA hS hw1 I hroom hl kk)
        · exact lv_tableIn (x := nI 9) (off := 357) (tgt := 389) hx hb dL_law_32 (by decide) (by decide) rfl (by decide) (st_of hL hx hb hml hown hts hX hbl hi5 hj hA hS hw1 I hroom hl kk)
        · exact lv_tableIn (x := nI 10) (off := 390) (tgt := 422) hx hb dL_law_32 (by decide) (by decide) rfl (by decide) (st_about hL hx hb hml hown hts hX hbl hi5 hj hA hS hw1 I hroom hl kk)
        · exact lv_tableIn (x := nI 11) (off := 423) (tgt := 455) hx hb dL_law_32 (by decide) (by decide) rfl (by decide) (st_may hL hx hb hml hown hts hX hbl hi5 hj hA hS hw1 I hroom hl kk)
        · exact lv_tableIn (x := nI 12) (off := 436) (tgt := 468) hx hb dL_law_32 (by decide) (by decide) rfl (by decide) (st_peal hL hx hb hml hown hts hX hbl hi5 hj hA hS hw1 I hroom hl kk)
        · exact lv_tableIn (x := nI 13) (off := 449) (tgt := 481) hx hb dL_law_32 (by decide) (by decide) rfl (by decide) (st_when hL hx hb hml hown hts hX hbl hi5 hj hA hS hw1 I hroom hl kk)
        · exact lv_tableIn (x := nI 14) (off := 472) (tgt := 504) hx hb dL_law_32 (by decide) (by decide) rfl (by decide) (st_few hL hx hb hml hown hts hX hbl hi5 hj hA hS hw1 I hroom hl kk)
        · exact lv_tableIn (x := nI 15) (off := 505) (tgt := 537) hx hb dL_law_32 (by decide) (by decide) rfl (by decide) (st_hush hL hx hb hml hown hts hX hbl hi5 hj hA hS hw1 I hroom hl kk)
        · exact lv_tableIn (x := nI 16) (off := 528) (tgt := 560) hx hb dL_law_32 (by decide) (by decide) rfl (by decide) (st_round hL hx hb hml hown hts hX hbl hi5 hj hA hS hw1 I hroom hl kk)
        · exact lv_tableIn (x := nI 17) (off := 551) (tgt := 583) hx hb dL_law_32 (by decide) (by decide) rfl (by decide) (st_seen hL hx hb hml hown hts hX hbl hi5 hj hA hS hw1 I hroom hl kk)
        · exact lv_tableIn (x := nI 18) (off := 604) (tgt := 636) hx hb dL_law_32 (by decide) (by decide) rfl (by decide) (st_grave hL hx hb hml hown hts hX hbl hi5 hj hA hS hw1 I hroom hl kk)
        · exact lv_tableIn (x := nI 19) (off := 637) (tgt := 669) hx hb dL_law_32 (by decide) (by decide) rfl (by decide) (st_tell hL hx hb hml hown hts hX hbl hi5 hj hA hS hw1 I hroom hl kk)
        · exact lv_tableIn (x := nI 20) (off := 660) (tgt := 692) hx hb dL_law_32 (by decide) (by decide) rfl (by decide) (st_note hL hx hb hml hown hts hX hbl hi5 hj hA hS hw1 I hroom hl kk)
        · exact lv_tableIn (x := nI 21) (off := 713) (tgt := 745) hx hb dL_law_32 (by decide) (by decide) rfl (by decide) (st_mark hL hx hb hml hown hts hX hbl hi5 hj hA hS hw1 I hroom hl kk)
        · exact lv_tableIn (x := nI 22) (off := 766) (tgt := 798) hx hb dL_law_32 (by decide) (by decide) rfl (by decide) (st_forget hL hx hb hml hown hts hX hbl hi5 hj hA hS hw1 I hroom hl kk)
        · exact lv_tableIn (x := nI 23) (off := 789) (tgt := 821) hx hb dL_law_32 (by decide) (by decide) rfl (by decide) (st_is hL hx hb hml hown hts hX hbl hi5 hj hA hS hw1 I hroom hl kk)
        · exact lv_tableIn (x := nI 24) (off := 812) (tgt := 844) hx hb dL_law_32 (by decide) (by decide) rfl (by decide) (st_look hL hx hb hml hown hts hX hbl hi5 hj hA hS hw1 I hroom hl kk)
        · exact lv_tableIn (x := nI 25) (off := 835) (tgt := 867) hx hb dL_law_32 (by decide) (by decide) rfl (by decide) (st_kinds hL hx hb hml hown hts hX hbl hi5 hj hA hS hw1 I hroom hl kk)
        · exact lv_tableIn (x := nI 26) (off := 858) (tgt := 890) hx hb dL_law_32 (by decide) (by decide) rfl (by decide) (st_ask hL hx hb hml hown hts hX hbl hi5 hj hA hS hw1 I hroom hl kk)
        · exact lv_tableIn (x := nI 27) (off := 881) (tgt := 913) hx hb dL_law_32 (by decide) (by decide) rfl (by decide) (st_first hL hx hb hml hown hts hX hbl hi5 hj hA hS hw1 I hroom hl kk)
        · exact lv_tableIn (x := nI 28) (off := 914) (tgt := 946) hx hb dL_law_32 (by decide) (by decide) rfl (by decide) (st_rust hL hx hb hml hown hts hX hbl hi5 hj hA hS hw1 I hroom hl kk)
        · exact lv_tableIn (x := nI 29) (off := 957) (tgt := 989) hx hb dL_law_32 (by decide) (by decide) rfl (by decide) (st_easters hL hx hb hml hown hts hX hbl hi5 hj hA hS hw1 I hroom hl kk)
        · exact lv_tableIn (x := nI 30) (off := 990) (tgt := 1022) hx hb dL_law_32 (by decide) (by decide) rfl (by decide) (st_part hL hx hb hml hown hts hX hbl hi5 hj hA hS hw1 I hroom hl kk)
        · exact lv_tableIn (x := nI 31) (off := 1014) (tgt := 1046) hx hb dL_law_32 (by decide) (by decide) rfl (by decide) (st_image hL hx hb hml hown hts hX hbl hi5 hj hA hS hw1 I hroom hl kk)
        · exact lv_tableIn (x := nI 32) (off := 1037) (tgt := 1069) hx hb dL_law_32 (by decide) (by decide) rfl (by decide) (st_from hL hx hb hml hown hts hX hbl hi5 hj hA hS hw1 I hroom hl kk)
        · exact lv_tableIn (x := nI 33) (off := 1060) (tgt := 1092) hx hb dL_law_32 (by decide) (by decide) rfl (by decide) (st_status hL hx hb hml hown hts hX hbl hi5 hj hA hS hw1 I hroom hl kk)
        · exact lv_tableIn (x := nI 34) (off := 1083) (tgt := 1115) hx hb dL_law_32 (by decide) (by decide) rfl (by decide) (st_count hL hx hb hml hown hts hX hbl hi5 hj hA hS hw1 I hroom hl kk)
        · exact lv_tableIn (x := nI 35) (off := 1106) (tgt := 1138) hx hb dL_law_32 (by decide) (by decide) rfl (by decide) (st_digest hL hx hb hml hown hts hX hbl hi5 hj hA hS hw1 I hroom hl kk)
      · exact lv_tableOut (tgt := 1152) hx hb dL_law_32 (Or.inr (sw_out j hj64 (Nat.le_of_not_lt h36))) (by decide) (kk G H locs I hw1 hS)
