/-! THE CLAIM OUT OF ONE WALK OF THE LAW'S BODY. Your part is whole_start (and what it stands on); all else here is the same for every law, but numbers. -/
def R_law : String := "FourPartsLaw"
def lw_P (b : Addr) (xs : List Int32) (args : Array Value) (s : State) : Prop := args = #[.ref b] ∧ s.IntsAt b xs ∧ xs.length ≤ 3072 ∧ (Jvm.Cond.and given_1 narrow_1).before args s = true
def lw_Q (_ : Array Value) (s : State) (o : Outcome) (t : State) : Prop := o = .returned (some (.int 1)) ∧ Framed s o t [] 600000 7302250
def lw_Z (below : List Frame) (a : Array Value) (s : State) : State → Prop := fun t => ∃ o, t.status = .running ∧ Ended t below o ∧ lw_Q a s o t
/-- the law's own end, with 1 on the stack, nothing written that was there before, its room as the claim has it -/
theorem lw_ret {p : Program} {l : Launch} {e : Env} {s : State} {m : MethodId} {below : List Frame} {meth : Method} {c : Code} {b : Nat} (hx : p.tables.exec = Jvm.exec) (hb : c.code = code) (hr : meth.sig.returnType = ret) (hlocks : meth.locks = false) {pc : Nat} {H : Heap} {ls : Array Slot} (hdg : decode code pc = .ok (.ireturn, 1)) : W p l e room_1 s m #[Value.ref b] below meth c H [] 600000 7302250 (lw_Z below #[Value.ref b] s) (F0 m pc ls [.int 1]) := by
  intro T hT X
  obtain ⟨fs, hret, hrun, hended, hW, hframe⟩ := X.leave (v := some (.int 1)) (hlocks := hlocks) (fun h => by rw [hr] at h; cases h)
  have hmeth' : T.vm.method? m = some meth := X.method'
  refine ⟨T.setFrames fs, ?_, .returned (some (.int 1)), hrun, hended, rfl, ⟨_, rfl⟩, hW, hframe⟩
  jvm_step X.here [X.here.top, hx, hb, hdg, hmeth', hr, ret, narrow_b1]
  (try refine ⟨rfl, ?_⟩); (try refine ⟨rfl, ?_⟩)
  first | (intro acts; rw [hret _ acts rfl rfl rfl]) | rw [hret _ _ rfl rfl rfl]
  exact Steps.refl _
/-- what holds at the law's entry: the machine, the code, the tables' words (any of lw_tbl by 'hts w (by decide +kernel)'), the script of L ints xs at the cell b, what the Statement gives of the start (any of its parts by flat_of_before) -/
def lw_At (p : Program) (s : State) (m : MethodId) (meth : Method) (c : Code) (b L : Nat) (xs : Nat → Int32) : Prop :=
  p.tables.exec = Jvm.exec ∧ c.code = code ∧ meth.sig.returnType = ret ∧ c.maxLocals = 4 ∧ s.vm.findClass R_law = some m.cls ∧ (∀ w ∈ lw_tbl, w.before #[Value.ref b] s = true) ∧ va_X b L xs s s.heap ∧ b < s.heap.size ∧ meth.locks = false ∧ (Jvm.Cond.and given_1 narrow_1).before #[Value.ref b] s = true
theorem h_preLN {s : State} {H : Heap} {locs : List Loc} {G : GG} {A0 A1 : Nat → Prop} {L : List Nat} {F : FM} {b : Nat} (hE : en G A0 s) (hNw : va_Nw nw1 s ∧ va_Nw nw2 s ∧ va_Nw nw3 s ∧ va_Nw nw4 s ∧ va_Nw nw5 s) (hO : va_AO RX1 s ∧ va_AO RX3 s) (hS : va_S A0 s.heap H locs) (hA : ∀ q, A1 q → A0 q) (hA1 : ∀ q, H.size ≤ q → A1 q) (hw : wd G A1 L F H) : FrameBlind (va_Pc [.ref b] (fun U => wd G A1 L F U.heap ∧ ec G A1 U)) ∧ ∀ U : State, U.heap = H → s.WarmedH U.vm → va_Pc [.ref b] (fun U => wd G A1 L F U.heap ∧ ec G A1 U) [Value.ref b].toArray U := by
  refine ⟨fun a U g mk q => ?_, fun U hU hW => ?_⟩
  · obtain ⟨q0, q1, q2⟩ := q
    exact ⟨q0, q1, ec.call (s := U) (U := U.calling g mk a) q2 rfl rfl⟩
  · obtain ⟨a1, a2, a3, a4, a5⟩ := hNw
    obtain ⟨b1, b2⟩ := hO
    exact ⟨rfl, by rw [hU]; exact hw, (hE.move (fun q h1 h2 => by rw [hU]; exact hS.2.1 q h1 h2) hW).narrow hA, ⟨va_Nw.warmM hW a1, va_Nw.warmM hW a2, va_Nw.warmM hW a3, va_Nw.warmM hW a4, va_Nw.warmM hW a5⟩, ⟨b1.moved hW.alike, b2.moved hW.alike⟩, fun q hq => hA1 q (by rw [hU] at hq; exact hq)⟩
set_option maxRecDepth 100000 in
theorem st_U : ∀ j : Nat, j < 96 → Cond.eq (.elem (.static "FourParts" "UNIT_PARTS" "[I") (.int (Int32.ofNat j))) (.int (uPt.getD j 0)) ∈ flatC (Jvm.Cond.and given_1 narrow_1) := by decide +kernel
set_option maxRecDepth 100000 in
theorem st_S : ∀ j : Nat, j < 15 → Cond.eq (.elem (.static "FourParts$Norms" "SIGNS" "[I") (.int (Int32.ofNat j))) (.int (uSg.getD j 0)) ∈ flatC (Jvm.Cond.and given_1 narrow_1) := by decide +kernel
/-- the law's loop -/
theorem law_loop {p : Program} {e : Env} {s : State} {m : MethodId} {below : List Frame} {meth : Method} {c : Code} (l : Launch) {b N : Nat} {xs : Nat → Int32} {G : GG} {ad ma : Nat → Nat} (hN : N ≤ 3072) (C0 : lw_At p s m meth c b N xs) (hE : en G (fun q => s.heap.size ≤ q) s) : ∀ (n i : Nat) (S : SS) (H : Heap) (locs : List Loc) (ls : Array Slot), N < i + 6 * n → i ≤ 4000 → inv S → LWS G s ad ma S S H locs → lv_has ls 4 [(0, .ref b), (1, .ref (ad 51)), (2, .ref (ma 0)), (3, .int (nI i))] → W p l e room_1 s m #[Value.ref b] below meth c H locs 600000 7302250 (lw_Z below #[Value.ref b] s) (F0 m 18 ls []) := by
  obtain ⟨hx, hb, hr, hml, hown, hts0, hX, hbl, hlocks, hgv⟩ := id C0
  have hts : ∀ w ∈ wsL_law, w.before #[Value.ref b] s = true := fun w h => hts0 w (wsL_law_in w h)
  have hown : s.vm.findClass RL = some m.cls := hown
  have hb : c.code = cL_law := hb
  have hbA : ¬ (fun q : Nat => s.heap.size ≤ q) b := Nat.not_le.mpr hbl
  intro n
  induction n with
  | zero =>
    intro i S H locs ls hn hi hinv hw hl
    refine lv_iload_n hx hb dL_law_18 rfl (lv_at hl 3 rfl) ?_
    refine lv_aload_n hx hb dL_law_19 rfl (lv_at hl 0 rfl) ?_
    refine va_slen hx hb hX hbl hbA hw.2.2.1 dL_law_20 ?_
    refine lv_bipush (v := 6) hx hb dL_law_21 (by decide) ?_
    refine lv_isub hx hb dL_law_23 ?_
    refine lv_icmp_gt (tgt := 1021) hx hb dL_law_24 (by decide) (fun c_24 => ?_) (fun c_24 => ?_)
    · refine lv_iconst (v := 1) hx hb dL_law_1021 (by decide) ?_
      exact va_forget hw.2.2.1.2.2 (lw_ret hx hb hr hlocks dL_law_1022)
    · exact absurd ((lt6 hN hi).mpr (by omega)) c_24
  | succ n ih =>
    intro i S H locs ls hn hi hinv hw hl
    refine lv_iload_n hx hb dL_law_18 rfl (lv_at hl 3 rfl) ?_
    refine lv_aload_n hx hb dL_law_19 rfl (lv_at hl 0 rfl) ?_
    refine va_slen hx hb hX hbl hbA hw.2.2.1 dL_law_20 ?_
    refine lv_bipush (v := 6) hx hb dL_law_21 (by decide) ?_
    refine lv_isub hx hb dL_law_23 ?_
    refine lv_icmp_gt (tgt := 1021) hx hb dL_law_24 (by decide) (fun c_24 => ?_) (fun c_24 => ?_)
    · refine lv_iconst (v := 1) hx hb dL_law_1021 (by decide) ?_
      exact va_forget hw.2.2.1.2.2 (lw_ret hx hb hr hlocks dL_law_1022)
    have hi6 : i + 6 ≤ N := by
      have h9 : ¬ (N : Int) - 6 < i := fun w => c_24 ((lt6 hN hi).mpr w)
      omega
    have back : ∀ (S2 : SS) (H1 : Heap) (locs1 : List Loc), inv S2 → LWS G s ad ma S2 S2 H1 locs1 → W p l e room_1 s m #[Value.ref b] below meth c H1 locs1 600000 7302250 (lw_Z below #[Value.ref b] s) (F0 m 1015 ls []) := by
      intro S2 H1 locs1 h1 h2
      obtain ⟨y, ey⟩ : ∃ y : Int32, y = nI i + 6 := ⟨_, rfl⟩
      refine lv_iinc (v := y) (lv' := [(3, .int y), (0, .ref b), (1, .ref (ad 51)), (2, .ref (ma 0))]) hx hb dL_law_1015 hl (k := 3) rfl (by rw [ey, show Int32.ofInt (6) = 6 from by decide]) (by decide) rfl (fun ls hl => ?_)
      refine lv_goto (tgt := 18) hx hb dL_law_1018 (by decide) ?_
      exact ih (i + 6) S2 _ _ ls (by omega) (by omega) h1 h2 (lv_sub (l' := [(0, .ref b), (1, .ref (ad 51)), (2, .ref (ma 0)), (3, .int (nI (i + 6)))]) hl [1, 2, 3, 0] (by rw [show nI (i + 6) = y from by rw [ey]; exact (nI_add i 6).symm]; rfl))
    refine lv_aload_n hx hb dL_law_27 rfl (lv_at hl 0 rfl) ?_
    refine lv_iload_n hx hb dL_law_28 rfl (lv_at hl 3 rfl) ?_
    refine h_sld hx hb hX hbl hw.2.2.1 (i := i) (by omega) hN dL_law_29 ?_
    refine lv_bipush (v := 31) hx hb dL_law_30 (by decide) ?_
    refine lv_iand hx hb dL_law_32 ?_
    obtain ⟨j, hj, ej⟩ := pk_andE (xs i) (m := 31) 5 (by decide)
    refine W.eq (g2 := F0 m 33 ls [.int (nI j)]) (by rw [ej]) ?_
    obtain ⟨rg, kd, z, pl, cnt⟩ := S
    rcases (show 18 ≤ j ∨ j = 0 ∨ j = 1 ∨ j = 2 ∨ j = 3 ∨ j = 4 ∨ j = 5 ∨ j = 6 ∨ j = 7 ∨ j = 8 ∨ j = 9 ∨ j = 10 ∨ j = 11 ∨ j = 12 ∨ j = 13 ∨ j = 14 ∨ j = 15 ∨ j = 16 ∨ j = 17 by omega) with hj9 | rfl | rfl | rfl | rfl | rfl | rfl | rfl | rfl | rfl | rfl | rfl | rfl | rfl | rfl | rfl | rfl | rfl | rfl
    · exact lv_tableOut (tgt := 1015) hx hb dL_law_33 (Or.inr (by rw [nI_toInt (by omega)]; omega)) (by decide) (back _ _ _ hinv hw)
    · refine lv_tableIn (off := 87) (tgt := 120) hx hb dL_law_33 (by decide) (by decide) (by decide) (by decide) ?_
      exact law_0 l hx hb hml hown hts hE hX hbl hN hi6 hinv hw hl (fun H1 locs1 hw1 => back _ _ _ (inv_sheet hinv _ _ _) hw1)
    · refine lv_tableIn (off := 130) (tgt := 163) hx hb dL_law_33 (by decide) (by decide) (by decide) (by decide) ?_
      exact law_1 l hx hb hml hown hts hE hX hbl hN hi6 hinv hw hl (fun H1 locs1 hw1 => back _ _ _ (inv_put hinv _ _ _) hw1)
    · refine lv_tableIn (off := 203) (tgt := 236) hx hb dL_law_33 (by decide) (by decide) (by decide) (by decide) ?_
      exact law_2 l hx hb hml hown hts hE hX hbl hN hi6 hinv hw hl (fun H1 locs1 hw1 => back _ _ _ (inv_copy hinv _ _ _ _ _) hw1)
    · refine lv_tableIn (off := 266) (tgt := 299) hx hb dL_law_33 (by decide) (by decide) (by decide) (by decide) ?_
      exact law_3 l hx hb hml hown hts hE hX hbl hN hi6 hinv hw hl (fun H1 locs1 hw1 => back _ _ _ (inv_read hinv _ _ _) hw1)
    · refine lv_tableIn (off := 309) (tgt := 342) hx hb dL_law_33 (by decide) (by decide) (by decide) (by decide) ?_
      exact law_4 l hx hb hml hown hts hE hX hbl hN hi6 hinv hw hl (fun H1 locs1 hw1 => back _ _ _ (inv_write hinv _ _ _) hw1)
    · refine lv_tableIn (off := 352) (tgt := 385) hx hb dL_law_33 (by decide) (by decide) (by decide) (by decide) ?_
      exact law_5 l hx hb hml hown hts hE hX hbl hN hi6 hinv hw hl (fun H1 locs1 hw1 => back _ _ _ (inv_set hinv _ _ _ _ _) hw1)
    · refine lv_tableIn (off := 415) (tgt := 448) hx hb dL_law_33 (by decide) (by decide) (by decide) (by decide) ?_
      exact law_6 l hx hb hml hown hts hE hX hbl hN hi6 hinv hw hl (fun H1 locs1 hw1 => back _ _ _ (inv_part hinv _ _) hw1)
    · refine lv_tableIn (off := 448) (tgt := 481) hx hb dL_law_33 (by decide) (by decide) (by decide) (by decide) ?_
      exact law_7 l hx hb hml hown hts hE hX hbl hN hi6 hinv hw hl (fun H1 locs1 hw1 => back _ _ _ (inv_work hinv _ _ _ _) hw1)
    · refine lv_tableIn (off := 501) (tgt := 534) hx hb dL_law_33 (by decide) (by decide) (by decide) (by decide) ?_
      exact law_8 l hx hb hml hown hts hE hX hbl hN hi6 hinv hw hl (fun H1 locs1 hw1 => back _ _ _ (inv_unit hinv _ _ _ _) hw1)
    · refine lv_tableIn (off := 554) (tgt := 587) hx hb dL_law_33 (by decide) (by decide) (by decide) (by decide) ?_
      exact law_9 l hx hb hml hown hts hE hX hbl hN hi6 hinv hw hl (fun H1 locs1 hw1 => back _ _ _ (inv_divide hinv _ _ _ _ _) hw1)
    · refine lv_tableIn (off := 617) (tgt := 650) hx hb dL_law_33 (by decide) (by decide) (by decide) (by decide) ?_
      exact law_10 l hx hb hml hown hts hE hX hbl hN hi6 hinv hw hl (fun H1 locs1 hw1 => back _ _ _ (inv_divisor hinv _ _ _ _) hw1)
    · refine lv_tableIn (off := 670) (tgt := 703) hx hb dL_law_33 (by decide) (by decide) (by decide) (by decide) ?_
      exact law_11 l hx hb hml hown hts hE hX hbl hN hi6 hinv hw hl (fun H1 locs1 hw1 => back _ _ _ (inv_like hinv _ _ _) hw1)
    · refine lv_tableIn (off := 713) (tgt := 746) hx hb dL_law_33 (by decide) (by decide) (by decide) (by decide) ?_
      exact law_12 l hx hb hml hown hts hE hX hbl hN hi6 hinv hw hl (fun H1 locs1 hw1 => back _ _ _ (inv_way hinv _ _ _ _) hw1)
    · refine lv_tableIn (off := 766) (tgt := 799) hx hb dL_law_33 (by decide) (by decide) (by decide) (by decide) ?_
      exact law_13 l hx hb hml hown hts hE hX hbl hN hi6 hinv hw hl (fun H1 locs1 hw1 => back _ _ _ (inv_factor hinv _ _) hw1)
    · refine lv_tableIn (off := 799) (tgt := 832) hx hb dL_law_33 (by decide) (by decide) (by decide) (by decide) ?_
      exact law_14 l hx hb hml hown hts hE hX hbl hN hi6 hinv hw hl (fun H1 locs1 hw1 => back _ _ _ (inv_many hinv _ _) hw1)
    · refine lv_tableIn (off := 832) (tgt := 865) hx hb dL_law_33 (by decide) (by decide) (by decide) (by decide) ?_
      exact law_15 l hx hb hml hown hts hE hX hbl hN hi6 hinv hw hl (fun H1 locs1 hw1 => back _ _ _ (inv_listed hinv _ _ _) hw1)
    · refine lv_tableIn (off := 875) (tgt := 908) hx hb dL_law_33 (by decide) (by decide) (by decide) (by decide) ?_
      exact law_16 l hx hb hml hown hts hE hX hbl hN hi6 hinv hw hl (fun H1 locs1 hw1 => back _ _ _ (inv_turn hinv _ _ _) hw1)
    · refine lv_tableIn (off := 918) (tgt := 951) hx hb dL_law_33 (by decide) (by decide) (by decide) (by decide) ?_
      exact law_17 l hx hb hml hown hts hE hX hbl hN hi6 hinv hw hl (fun H1 locs1 hw1 => back _ _ _ (inv_turned hinv _ _ _ _ _) hw1)
set_option maxHeartbeats 8000000 in
set_option maxRecDepth 100000 in
theorem whole_start {p : Program} {e : Env} {s : State} {m : MethodId} {below : List Frame} {meth : Method} {c : Code} (l : Launch) {b L : Nat} {xs : Nat → Int32} (hL : L ≤ 3072) (C0 : lw_At p s m meth c b L xs) : W p l e room_1 s m #[Value.ref b] below meth c s.heap [] 0 0 (lw_Z below #[Value.ref b] s) (entryFrame m ([Value.ref b] : List Value).toArray 4) := by
  obtain ⟨hx, hb, hr, hml, hown, hts0, hX, hbl, hlocks, hgv⟩ := id C0
  have hts : ∀ w ∈ wsL_law, w.before #[Value.ref b] s = true := fun w h => hts0 w (wsL_law_in w h)
  have hown : s.vm.findClass RL = some m.cls := hown
  have hb : c.code = cL_law := hb
  have hA : ∀ q : Nat, s.heap.size ≤ q → (fun q : Nat => s.heap.size ≤ q) q := fun _ h => h
  have hout : ∀ a : Nat, a < s.heap.size → ¬ (fun q : Nat => s.heap.size ≤ q) a := fun a h => Nat.not_le.mpr h
  obtain ⟨c0, i0, hK0⟩ := u_known (C := RX0) (T := TX0) (N := 1) (n := 1) hts0 wsL_in_X00 (hts (.instantiable RX0 1) (by decide +kernel))
  obtain ⟨c1, i1, hK1⟩ := u_known (C := RX1) (T := TX1) (N := 4) (n := 4) hts0 wsL_in_X10 (hts (.instantiable RX1 4) (by decide +kernel))
  obtain ⟨c2, i2, hK2⟩ := u_known (C := RX2) (T := TX2) (N := 8) (n := 8) hts0 wsL_in_X20 (hts (.instantiable RX2 8) (by decide +kernel))
  obtain ⟨c3, i3, hK3⟩ := u_known (C := RX3) (T := TX3) (N := 3) (n := 3) hts0 wsL_in_X30 (hts (.instantiable RX3 3) (by decide +kernel))
  obtain ⟨c4, i4, hK4⟩ := u_known (C := RX4) (T := TX4) (N := 4) (n := 4) hts0 wsL_in_X40 (hts (.instantiable RX4 4) (by decide +kernel))
  obtain ⟨c5, i5, hK5⟩ := u_known (C := RX5) (T := TX5) (N := 6) (n := 6) hts0 wsL_in_X50 (hts (.instantiable RX5 6) (by decide +kernel))
  obtain ⟨c6, i6, hK6⟩ := u_known (C := RX6) (T := TX6) (N := 18) (n := 18) hts0 wsL_in_X60 (hts (.instantiable RX6 18) (by decide +kernel))
  obtain ⟨cI, kI, pI, f1, f2, f3⟩ := Cond.arrayClass_spec (hts (.arrayClass .int) (by decide +kernel))
  obtain ⟨cJ, kJ, pJ, g1, g2, g3⟩ := Cond.arrayClass_spec (hts (.arrayClass .long) (by decide +kernel))
  have hOQ : (Cond.arrayOver (.object RX1)).before #[Value.ref b] s = true := hts0 _ (by decide +kernel)
  have hOS : (Cond.arrayOver (.object RX3)).before #[Value.ref b] s = true := hts0 _ (by decide +kernel)
  obtain ⟨pQ, cQ, kQ, u1, -, u3, u4, u5⟩ := Cond.arrayOver_spec hOQ
  obtain ⟨pS, cS, kS, w1, -, w3, w4, w5⟩ := Cond.arrayOver_spec hOS
  obtain ⟨G, hG1, hG2, hG3⟩ : ∃ G : GG, (∀ (k : Nat) (q : vw_C), vwCl[k]? = some q → u_Kn s q.1 q.2.1 q.2.2 (G.1.1 k) (G.1.2 k)) ∧ G.2 = (cI, cJ, cQ, cS) ∧ True := by
    refine ⟨((fun k => if k = 0 then c0 else if k = 1 then c1 else if k = 2 then c2 else if k = 3 then c3 else if k = 4 then c4 else if k = 5 then c5 else c6, fun k => if k = 0 then i0 else if k = 1 then i1 else if k = 2 then i2 else if k = 3 then i3 else if k = 4 then i4 else if k = 5 then i5 else i6), (cI, cJ, cQ, cS)), ?_, rfl, trivial⟩
    intro k q hq
    match k, hq with
    | 0, hq => cases hq; exact hK0
    | 1, hq => cases hq; exact hK1
    | 2, hq => cases hq; exact hK2
    | 3, hq => cases hq; exact hK3
    | 4, hq => cases hq; exact hK4
    | 5, hq => cases hq; exact hK5
    | 6, hq => cases hq; exact hK6
    | k + 7, hq => simp [vwCl] at hq
  have hK : va_K G.1 vwCl (gty G) s := by
    refine ⟨hG1, fun k q hq => ?_⟩
    unfold gty at hq
    rw [hG2] at hq
    match k, hq with
    | 0, hq => cases hq; exact ⟨fun n z => ⟨(fun k h => by cases h), kI, f2, pI, f3⟩, f1⟩
    | 1, hq => cases hq; exact ⟨fun n z => ⟨(fun k h => by cases h), kJ, g2, pJ, g3⟩, g1⟩
    | 2, hq => cases hq; exact ⟨fun n z => ⟨(fun k h => by cases h), kQ, u3, pQ, u4⟩, kQ, pQ, u3, u4, u1, u5⟩
    | 3, hq => cases hq; exact ⟨fun n z => ⟨(fun k h => by cases h), kS, w3, pS, w4⟩, kS, pS, w3, w4, w1, w5⟩
    | k + 4, hq => simp at hq
  have hs := flat_of_before _ hgv
  obtain ⟨tU, eU, hTU⟩ := va_Tof (args := #[Value.ref b]) (s := s) (tm := .static "FourParts" "UNIT_PARTS" "[I") (ty := .int) (N := 96) (f := uU) (A := fun q : Nat => s.heap.size ≤ q) (by decide) (hs _ (by decide +kernel)) (va_eqt (z := 96) (hs _ (by decide +kernel))) (fun j hj => va_eqt (hs _ (st_U j hj))) hout
  obtain ⟨tS, eS, hTS⟩ := va_Tof (args := #[Value.ref b]) (s := s) (tm := .static "FourParts$Norms" "SIGNS" "[I") (ty := .int) (N := 15) (f := uS) (A := fun q : Nat => s.heap.size ≤ q) (by decide) (hs _ (by decide +kernel)) (va_eqt (z := 15) (hs _ (by decide +kernel))) (fun j hj => va_eqt (hs _ (st_S j hj))) hout
  have hE : en G (fun q : Nat => s.heap.size ≤ q) s := ⟨hK, ⟨tU, va_Zof (hts0 _ (by decide +kernel)) (hts0 _ (by decide +kernel)) eU hout, hTU⟩, ⟨tS, va_Zof (hts0 _ (by decide +kernel)) (hts0 _ (by decide +kernel)) eS hout, hTS⟩, va_Nw.of rfl (hts0 nwU (by decide +kernel))⟩
  have hNw : va_Nw nw1 s ∧ va_Nw nw2 s ∧ va_Nw nw3 s ∧ va_Nw nw4 s ∧ va_Nw nw5 s := ⟨va_Nw.of rfl (hts0 nw1 (by decide +kernel)), va_Nw.of rfl (hts0 nw2 (by decide +kernel)), va_Nw.of rfl (hts0 nw3 (by decide +kernel)), va_Nw.of rfl (hts0 nw4 (by decide +kernel)), va_Nw.of rfl (hts0 nw5 (by decide +kernel))⟩
  have hO : va_AO RX1 s ∧ va_AO RX3 s := ⟨va_AO.of hOQ, va_AO.of hOS⟩
  have hw0 : wo G (fun q : Nat => s.heap.size ≤ q) s.heap [] (fun _ => .inr (0, [])) s.heap [] := ⟨⟨fun k q h => by simp [va_pl] at h, fun i j p q h => by simp [va_pl] at h, fun k q h => by simp [va_pl] at h⟩, va_S.rf⟩
  have hl := lv_entry ([.ref b]) (n := 4) (Nat.le_of_ble_eq_true rfl)
  rw [lg_entry_eq]
  generalize (lg_sl ([.ref b]) ++ List.replicate (4 - (lg_sl ([.ref b])).length) Slot.unset).toArray = ls at hl ⊢
  have hl : lv_has ls 4 [(0, .ref b)] := hl
  refine h_new hx hb hK hw0 hA hts0 wsL_in_X50 tyX5 tyX5_ok hown (hts (.classLink RL 7 RX5) (by decide +kernel)) (hts (.instantiable RX5 6) (by decide +kernel)) (hts (.initialized RX5) (by decide +kernel)) (ci := 5) rfl (fs := [.null, .null, .null, .null, .null, .null]) (fun j hj => by rcases (show j = 0 ∨ j = 1 ∨ j = 2 ∨ j = 3 ∨ j = 4 ∨ j = 5 by omega) with rfl | rfl | rfl | rfl | rfl | rfl <;> rfl) (Nat.le_of_ble_eq_true rfl) (Nat.le_of_ble_eq_true rfl) dL_law_0 (fun o H ho hw => ?_)
  refine lv_dup hx hb dL_law_3 rfl ?_
  have hwo : wd G (fun q => q = o ∨ H.size ≤ q) [o] (va_up (fun _ => .inr (0, [])) o (.inr (5, [.null, .null, .null, .null, .null, .null]))) H := wd_self (sz := 0) (wd_in hw.1) (fun q hq => Or.inl (List.mem_singleton.mp hq))
  have hA1 : ∀ q, (q = o ∨ H.size ≤ q) → (fun q : Nat => s.heap.size ≤ q) q := fun q hq => hq.elim (fun w => by rw [w]; exact wd_A hw.1 (show o ∈ [o] from List.mem_singleton.mpr rfl)) (fun w => Nat.le_trans hw.2.1 w)
  have hpre := h_preLN (b := o) hE hNw hO hw.2 hA1 (fun q hq => Or.inr hq) hwo
  refine h_goLN (va_runI (b := o) (As := []) (rest := [.ref o]) ⟨hx, hb, hml, hown, hts⟩ (c_X5_init l G (fun q => q = o ∨ H.size ≤ q) (va_up (fun _ => .inr (0, [])) o (.inr (5, [.null, .null, .null, .null, .null, .null]))) o ⟨List.mem_singleton.mpr rfl, va_up_self _ _ _⟩) (cwI 0 hts gL_law_X5_init rfl rfl rfl (hts (.initialized RX5) (by decide +kernel)) (hts (.methodLink RL 9 yX5_init) (by decide +kernel)) (hts (.instanceMethod yX5_init) (by decide +kernel)) rfl (by decide +kernel) ⟨Nat.le_of_ble_eq_true rfl, Nat.le_of_ble_eq_true rfl⟩) hpre rfl rfl hl.1 rfl (lv_room (Nat.le_of_ble_eq_true rfl)) dL_law_4 ⟨Nat.le_of_ble_eq_true rfl, Nat.le_of_ble_eq_true rfl⟩) hw.2 hA1 (fun L2 Fc H1 locs1 hP hwd hk hS1 => ?_)
  obtain ⟨ad, had, rfl, hCW⟩ := hP
  subst had
  refine lv_astore_n (lv' := [(1, .ref (ad 51)), (0, .ref b)]) hx hb dL_law_7 rfl hl (by decide) rfl (fun ls hl => ?_)
  have hw1 : wo G (fun q : Nat => s.heap.size ≤ q) s.heap (CL ad) Fc H1 locs1 := ⟨wd_self (sz := 0) hwd hA1, hS1⟩
  refine h_new hx hb hK hw1 hA hts0 wsL_in_X60 tyX6 tyX6_ok hown (hts (.classLink RL 10 RX6) (by decide +kernel)) (hts (.instantiable RX6 18) (by decide +kernel)) (hts (.initialized RX6) (by decide +kernel)) (ci := 6) rfl (fs := [.null, .null, .null, .null, .null, .int 0, .null, .null, .null, .null, .null, .null, .null, .null, .null, .null, .null, .int 0]) (fun j hj => by rcases (show j = 0 ∨ j = 1 ∨ j = 2 ∨ j = 3 ∨ j = 4 ∨ j = 5 ∨ j = 6 ∨ j = 7 ∨ j = 8 ∨ j = 9 ∨ j = 10 ∨ j = 11 ∨ j = 12 ∨ j = 13 ∨ j = 14 ∨ j = 15 ∨ j = 16 ∨ j = 17 by omega) with rfl | rfl | rfl | rfl | rfl | rfl | rfl | rfl | rfl | rfl | rfl | rfl | rfl | rfl | rfl | rfl | rfl | rfl <;> rfl) (Nat.le_of_ble_eq_true rfl) (Nat.le_of_ble_eq_true rfl) dL_law_8 (fun m0 H2 hm0 hw2 => ?_)
  refine lv_dup hx hb dL_law_11 rfl ?_
  have hwc2 : wd G (fun q => q ∈ CL ad) (CL ad) Fc H2 := wd_in (wd_map (wd_sub hw2.1 (fun a ha => List.mem_append_left _ ha) (wd_nd hwd)) (fun a ha => (va_up_ne _ _ (nem ha hm0)).symm))
  have hwm2 : wd G (fun q => q = m0 ∨ H2.size ≤ q) [m0] (va_up Fc m0 (.inr (6, [.null, .null, .null, .null, .null, .int 0, .null, .null, .null, .null, .null, .null, .null, .null, .null, .null, .null, .int 0]))) H2 := wd_self (sz := 0) (wd_in (wd_sub hw2.1 (fun a ha => List.mem_append_right _ ha) (by simp))) (fun q hq => Or.inl (List.mem_singleton.mp hq))
  have hA2 : ∀ q, (q = m0 ∨ H2.size ≤ q) → (fun q : Nat => s.heap.size ≤ q) q := fun q hq => hq.elim (fun w => by rw [w]; exact wd_A hw2.1 (List.mem_append_right _ (List.mem_singleton.mpr rfl))) (fun w => Nat.le_trans hw2.2.1 w)
  have hpre2 := h_preLN (b := m0) hE hNw hO hw2.2 hA2 (fun q hq => Or.inr hq) hwm2
  refine h_goLN (va_runI (b := m0) (As := []) (rest := [.ref m0]) ⟨hx, hb, hml, hown, hts⟩ (c_X6_init l G (fun q => q = m0 ∨ H2.size ≤ q) (va_up Fc m0 (.inr (6, [.null, .null, .null, .null, .null, .int 0, .null, .null, .null, .null, .null, .null, .null, .null, .null, .null, .null, .int 0]))) m0 ⟨List.mem_singleton.mpr rfl, va_up_self _ _ _⟩) (cwI 0 hts gL_law_X6_init rfl rfl rfl (hts (.initialized RX6) (by decide +kernel)) (hts (.methodLink RL 12 yX6_init) (by decide +kernel)) (hts (.instanceMethod yX6_init) (by decide +kernel)) rfl (by decide +kernel) ⟨Nat.le_of_ble_eq_true rfl, Nat.le_of_ble_eq_true rfl⟩) hpre2 rfl rfl hl.1 rfl (lv_room (Nat.le_of_ble_eq_true rfl)) dL_law_12 ⟨Nat.le_of_ble_eq_true rfl, Nat.le_of_ble_eq_true rfl⟩) hw2.2 hA2 (fun L3 Fm H3 locs3 hP3 hwd3 hk3 hS3 => ?_)
  obtain ⟨ma, hma, rfl, hMW⟩ := hP3
  subst hma
  have hdis : ∀ q, q ∈ CL ad → ¬ (q = ma 0 ∨ H2.size ≤ q) := fun q hq w => w.elim (fun v => hm0 (by rw [← v]; exact hq)) (fun v => absurd (wd_lt hwc2 hq) (Nat.not_lt.mpr v))
  have hLS : LWS G s ad ma SS0 SS0 H3 locs3 := by
    refine ⟨⟨Fc, ⟨fun _ => (0, 0, 0, 0), hCW, fun k _ => rfl⟩, wd_kept hwc2 (fun a ha => hk3 a (wd_lt hwc2 ha) (hdis a ha))⟩, ⟨Fm, ⟨M0, hMW, fun k _ => rfl, fun k _ => rfl, fun k _ i _ => rfl, fun k _ => ?_, rfl, fun k hk => absurd hk (Nat.not_lt_zero k)⟩, wd_in hwd3⟩, hS3, fun q hq => hA1 q (wd_A hwd hq), fun q hq => hA2 q (wd_A hwd3 hq), fun q hq hq2 => hdis q hq (wd_A hwd3 hq2)⟩
    show (((0 : Int32).toInt64, (0 : Int32).toInt64, (0 : Int32).toInt64, (0 : Int32).toInt64) : Q4) = (0, 0, 0, 0)
    decide
  refine lv_astore_n (lv' := [(2, .ref (ma 0)), (1, .ref (ad 51)), (0, .ref b)]) hx hb dL_law_15 rfl hl (by decide) rfl (fun ls hl => ?_)
  refine lv_iconst (v := 0) hx hb dL_law_16 (by decide) ?_
  refine lv_istore_n (lv' := [(3, .int 0), (2, .ref (ma 0)), (1, .ref (ad 51)), (0, .ref b)]) hx hb dL_law_17 rfl hl (by decide) rfl (fun ls hl => ?_)
  refine W.widen (k := 600000) (n := 7302250) (by decide) (by decide) ?_
  exact law_loop l hL C0 hE (L + 1) 0 SS0 _ _ ls (by omega) (by decide) inv_0 hLS (lv_sub (l' := [(0, .ref b), (1, .ref (ad 51)), (2, .ref (ma 0)), (3, .int (nI 0))]) hl [3, 2, 1, 0] rfl)
set_option maxHeartbeats 4000000 in
theorem lw_walk (l : Launch) (b : Addr) (xs : List Int32) : MetFree l x (headSpec (Jvm.Cond.code x code maxLocals ret :: tables_1) room_1) (lw_P b xs) (fun _ _ _ _ _ => True) lw_Q := by
  refine MetFree.of_bodyS (code := code) (maxLocals := maxLocals) (ret := ret) (by decide) ?_ ?_
  · intro args s m h hn
    obtain ⟨meth, c, h1, h2, h3, h4, h5, h6, -, -⟩ := Cond.code_spec hn (atoms_spec (ws := Jvm.Cond.code x code maxLocals ret :: tables_1) h _ List.mem_cons_self)
    exact ⟨meth, c, h1, h2, h3, h4, h5, h6⟩
  · intro p e s m args below meth c s₁ B hml0 hP _
    obtain ⟨rfl, hx, hbd, hgv⟩ := hP
    obtain ⟨scr, harrAt, hlist, hof, hsmall⟩ := hx
    obtain ⟨hcb, hkn, -, -⟩ := State.arrayAt?_spec harrAt
    have hown : s.vm.findClass R_law = some m.cls := findClass_of_methodNamed B.named
    have hts0 : ∀ c ∈ (Jvm.Cond.code x code maxLocals ret :: tables_1), c.before #[Value.ref b] s = true := atoms_spec (ws := Jvm.Cond.code x code maxLocals ret :: tables_1) B.pre
    have hts : ∀ w ∈ lw_tbl, w.before #[Value.ref b] s = true := k2_hts_sels lw_privs (fun w hw => hts0 w (List.mem_cons_of_mem _ hw)) lw_privs_ok
    have hml : c.maxLocals = 4 := B.maxLocals_eq (hts0 _ List.mem_cons_self)
    have X₀ : Stand p l e room_1 s m #[Value.ref b] below meth c s₁ [] 0 0 := Stand.of_body B
    have hh0 : s₁.heap = s.heap := by rw [B.state]; rfl
    have hsz : scr.slots.size = xs.length := by rw [← Array.length_toList, hlist, List.length_map]
    have hval : ∀ j : Nat, j < xs.length → scr.slots[j]? = some (.int (xs.getD j 0)) := fun j hj => by
      rw [← Array.getElem?_toList, hlist]
      simp [hj]
    have hbl : b < s.heap.size := (Array.getElem?_eq_some_iff.mp hcb).1
    have hX : va_X b xs.length (fun j => xs.getD j 0) s s.heap := ⟨scr, hcb, hof, hkn, hsz, hval⟩
    have K : W p l e room_1 s m #[Value.ref b] below meth c s₁.heap [] 0 0 (lw_Z below #[Value.ref b] s) (entryFrame m ([Value.ref b] : List Value).toArray 4) := by
      rw [hh0]
      exact whole_start l hbd ⟨B.exec, B.bytes, B.returns, hml, hown, hts, hX, hbl, B.notSynchronized, hgv⟩
    obtain ⟨t, a1, o, b1, b2, b3⟩ := K s₁ rfl X₀
    exact ⟨t, o, a1, b1, b2, b3⟩
theorem lw_pre_spec {args : Array Value} {s : State} (h : (Jvm.Cond.and given_1 narrow_1).before args s = true) (hr : rest_1_c.before args s = true) : ∃ (b : Addr) (xs : List Int32), lw_P b xs args s := by
  have hs := flat_of_before _ h
  have hq := flat_of_before _ hr
  have hc : (Cond.count 1).before args s = true := hs _ (by decide +kernel)
  have harr : (Cond.arrayOf (.arg 0) .int).before args s = true := hs _ (by decide +kernel)
  have hle : (Cond.le (.length (.arg 0)) (.int 3072)).before args s = true := hs _ (by decide +kernel)
  have hlen : (Cond.isInt (.length (.arg 0))).before args s = true := hq _ (by decide +kernel)
  have hall : (Cond.all (.arg 0) (.isInt (.elem (.arg 0) (.index 0)))).before args s = true := hq _ (by decide +kernel)
  obtain ⟨b, xs, hb, hx⟩ := State.ints_of_pre rfl harr hlen hall
  have hsm : xs.length < 2 ^ 31 := hx.choose_spec.2.2.2
  have hev : (Term.length (.arg 0)).eval args s none [] s = some (.int xs.length.toInt32) := hx.length_eval hb
  have hv := Cond.le_ints hev (show (Term.int 3072).eval args s none [] s = some (.int 3072) from rfl)
  have hd : xs.length.toInt32 ≤ 3072 := by
    simpa [Cond.before, Cond.holds, hv] using hle
  have hN : xs.length ≤ 3072 := (Int32.ofNat_le_ofNat hsm (by decide)).mp (show Int32.ofNat xs.length ≤ Int32.ofNat 3072 from hd)
  exact ⟨b, xs, Cond.one_arg hc (show args[0]? = some (.ref b) from hb), hx, hN, h⟩
theorem lw_comes (l : Launch) : Comes l x (Jvm.Cond.code x code maxLocals ret :: tables_1) room_1 (fun tb e args s => Calls_1 tb e args s ∧ rest_1 tb e args s ∧ Pre_1 tb e args s)
    (fun _ _ args s o t => lw_Q args s o t) := by
  intro p e ha hc hk s m args below hf hfit hheap happ hpre
  obtain ⟨b, xs, hP⟩ := lw_pre_spec hpre.2.2 hpre.2.1
  obtain ⟨k, o, h1, h2, h3, hQ⟩ := lw_walk l b xs p e ha hc hk s m args below hf ((Spec.applies_iff_loose hf).mp happ).1 hP trivial
  exact ⟨k, o, h1, h2, h3, hQ⟩
theorem lw_frame {s t : State} {o : Outcome} {args : Array Value} (h : Framed s o t [] 600000 7302250) :
    Framed s o t (fieldLocs frame_1_writes args s ++ arrayLocs frame_1_arrays args s ++ staticLocs frame_1_statics s) 600000 7302250 := h
theorem lw_limb (L : Cond) (hL : ∀ (args : Array Value) (s t : State), L.after args s (.returned (some (.int 1))) t = true) :
    ArmFor flags0 classFile x code maxLocals ret World_1 tables_1 room_1 Calls_1 rest_1 Pre_1
      (fun tb e a s o t => postC L tb e a s o t ∧ Framed s o t (fieldLocs frame_1_writes a s ++ arrayLocs frame_1_arrays a s ++ staticLocs frame_1_statics s) 600000 7302250) := by
  intro l _ _ _ p e ha hc hk s m args below hf hfit hheap happ hpre
  obtain ⟨k, o, h1, h2, h3, rfl, hF⟩ := lw_comes l p e ha hc hk s m args below hf hfit hheap happ hpre
  exact ⟨k, _, h1, h2, h3, hL args s _, lw_frame hF⟩
theorem i_vc : Claimed_1_1 ∧ Claimed_1_2 := ⟨lw_limb limb_1_1 (fun args s t => by simp [limb_1_1, Cond.after, Cond.holds, Cond.value]), lw_limb limb_1_2 (fun args s t => Cond.after_iff.mpr (by
  first | (rw [show limb_1_2 = Cond.eq .result (.int 1) from rfl, Cond.eq_ints (x := 1) (y := 1) rfl rfl]; simp; done) | (simp [limb_1_2, Cond.value, Term.eval]; done)))⟩
