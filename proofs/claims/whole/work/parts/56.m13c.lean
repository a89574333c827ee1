set_option maxHeartbeats 40000000 in
set_option maxRecDepth 100000 in
theorem c_X6_goThrough_2 (l : Launch) (G : GG) (A : Nat → Prop) (ma : Nat → Nat) (F : FM) (mk msz : Nat → Int32) (msh : Nat → Int64) (mrg : Nat → Int32) (mfc mmd : Nat → Int64) (mv : Nat → Q4) (mcn : Int32) (hM : MW G ma (mk, msz, msh, mrg, mfc, mmd, mv, mcn) F) (N : Nat) (hN1 : 1 ≤ N) (hN : N ≤ 200) (vl Vr : Int32) (hno : (∀ i, i < (rA N 2).length → ¬ vl = nI i) → Vr = nI (rA N 2).length) (hyes : ∀ i, i < (rA N 2).length → vl = nI i → Vr = nI i) : PT l yX6_goThrough wsX6_goThrough { frames := 2, cells := 0, slots := 0, locals := 53 } G A (ML ma) [.ref (ma 0), .int (nI N), .int 2, .int vl] F (some (.int Vr)) (fun F2 => ∃ mv2 : Nat → Q4, MW G ma (mk, msz, msh, mrg, mfc, mmd, mv2, mcn) F2 ∧ ∀ i, i < (rA N 2).length → vl = nI i → some (mv2 8) = ((rA N 2)[i]?).map q4i) := by
  refine PT.ofW (cc := cX6_goThrough) (maxL := 14) (ret := (some .int)) (plainFor_of_name (by decide)) rfl (Nat.le_of_ble_eq_true rfl) ?_
  intro p e s m below meth c ls hx hb hr hml hown hts hlk hE hw hl
  have hl : lv_has ls 14 [(0, .ref (ma 0)), (1, .int (nI N)), (2, .int 2), (3, .int vl)] := hl
  have hown : s.vm.findClass RX6 = some m.cls := hown
  have lk_32 := hts (.fieldLink RX6 32 "FourPartsModel" "x" "[J") (by decide +kernel)
  have hinX6 : ∀ w ∈ u_ws RX6 TX6 18, w ∈ wsX6_goThrough := by decide +kernel
  have hLR : (rA N 2).length < 2 ^ 31 := len_rA hN
  have hm28 := rt_28 hN
  obtain ⟨hrt1, hrt2⟩ := rt_ok (4 * N)
  have lpA : ∀ (ka : Nat) (pre : List Z4) (F : FM) (mv2 : Nat → Q4) (H : Heap) (locs : List Loc) (ls : Array Slot), ka ≤ 2 * rt (4 * N) + 1 → gtI (rA N 2) vl pre (dwn (rB N 2) (rt (4 * N) : Int) ka) → MW G ma (mk, msz, msh, mrg, mfc, mmd, mv2, mcn) F → wo G A s.heap (ML ma) F H locs → lv_has ls 14 [(0, .ref (ma 0)), (1, .int (nI N)), (2, .int 2), (3, .int vl), (4, .int (nI (4 * N))), (5, .int (nI (rt (4 * N)))), (6, .int (nI pre.length)), (7, .int (iI ((ka : Int) - 1 - (rt (4 * N) : Int))))] → W p l e { frames := 2, cells := 0, slots := 0, locals := 53 } s m ([.ref (ma 0), .int (nI N), .int 2, .int vl].toArray) below meth c H locs 0 0 (MQ below (QP G A (ML ma) (some (.int Vr)) (fun F2 => ∃ mv2 : Nat → Q4, MW G ma (mk, msz, msh, mrg, mfc, mmd, mv2, mcn) F2 ∧ ∀ i, i < (rA N 2).length → vl = nI i → some (mv2 8) = ((rA N 2)[i]?).map q4i)) ([.ref (ma 0), .int (nI N), .int 2, .int vl].toArray) s 0 0 A) (F0 m 19 ls []) := by
    intro ka
    induction ka with
    | zero =>
      intro pre F mv2 H locs ls hka hg hM2 hw hl
      refine lv_iload hx hb dX6_goThrough_19 (lv_at hl 7 rfl) ?_
      refine lv_iload hx hb dX6_goThrough_21 (lv_at hl 5 rfl) ?_
      refine lv_ineg hx hb dX6_goThrough_23 ?_
      refine W.eq (g2 := F0 m 24 ls [.int (iI (-(rt (4 * N) : Int))), .int (iI (((0 : Nat) : Int) - 1 - (rt (4 * N) : Int)))]) (by rw [neg_nI]) ?_
      refine lv_icmp_lt (tgt := 297) hx hb dX6_goThrough_24 (by decide) (fun c_24 => ?_) (fun c_24 => ?_)
      · skip
        refine lv_iload hx hb dX6_goThrough_297 (lv_at hl 6 rfl) ?_
        exact h_iretP hx hb hlk hr hw dX6_goThrough_299 (congrArg (fun y => some (Value.int y)) (gt_end (show gtI (rA N 2) vl pre [] from hg) hno)) ⟨_, hM2, gt_endP (show gtI (rA N 2) vl pre [] from hg)⟩
      · skip
        exact absurd ((iI_lt (by omega) (by omega) (by omega) (by omega)).mpr (show (((0 : Nat) : Int) - 1 - (rt (4 * N) : Int)) < -(rt (4 * N) : Int) by omega)) c_24
    | succ ka iha =>
      intro pre F mv2 H locs ls hka hg hM2 hw hl
      obtain ⟨a9, ha9⟩ : ∃ a9 : Int, a9 = (ka : Int) - (rt (4 * N) : Int) := ⟨_, rfl⟩
      have hg : gtI (rA N 2) vl pre (rB N 2 a9 ++ dwn (rB N 2) (rt (4 * N) : Int) ka) := by rw [ha9]; exact hg
      have hl : lv_has ls 14 [(0, .ref (ma 0)), (1, .int (nI N)), (2, .int 2), (3, .int vl), (4, .int (nI (4 * N))), (5, .int (nI (rt (4 * N)))), (6, .int (nI pre.length)), (7, .int (iI a9))] := by rw [show (((ka + 1 : Nat) : Int) - 1 - (rt (4 * N) : Int)) = a9 by omega] at hl; exact hl
      have qa := sq_in hm28 (a := a9) (by omega) (by omega)
      have lpB : ∀ (kb : Nat) (pre : List Z4) (F : FM) (mv2 : Nat → Q4) (H : Heap) (locs : List Loc) (ls : Array Slot), kb ≤ 2 * rt (4 * N) + 1 → gtI (rA N 2) vl pre (dwn (rC N 2 a9) (rt (4 * N) : Int) kb ++ dwn (rB N 2) (rt (4 * N) : Int) ka) → MW G ma (mk, msz, msh, mrg, mfc, mmd, mv2, mcn) F → wo G A s.heap (ML ma) F H locs → lv_has ls 14 [(0, .ref (ma 0)), (1, .int (nI N)), (2, .int 2), (3, .int vl), (4, .int (nI (4 * N))), (5, .int (nI (rt (4 * N)))), (6, .int (nI pre.length)), (7, .int (iI a9)), (8, .int (iI ((kb : Int) - 1 - (rt (4 * N) : Int))))] → W p l e { frames := 2, cells := 0, slots := 0, locals := 53 } s m ([.ref (ma 0), .int (nI N), .int 2, .int vl].toArray) below meth c H locs 0 0 (MQ below (QP G A (ML ma) (some (.int Vr)) (fun F2 => ∃ mv2 : Nat → Q4, MW G ma (mk, msz, msh, mrg, mfc, mmd, mv2, mcn) F2 ∧ ∀ i, i < (rA N 2).length → vl = nI i → some (mv2 8) = ((rA N 2)[i]?).map q4i)) ([.ref (ma 0), .int (nI N), .int 2, .int vl].toArray) s 0 0 A) (F0 m 31 ls []) := by
        intro kb
        induction kb with
        | zero =>
          intro pre F mv2 H locs ls hkb hg hM2 hw hl
          refine lv_iload hx hb dX6_goThrough_31 (lv_at hl 8 rfl) ?_
          refine lv_iload hx hb dX6_goThrough_33 (lv_at hl 5 rfl) ?_
          refine lv_ineg hx hb dX6_goThrough_35 ?_
          refine W.eq (g2 := F0 m 36 ls [.int (iI (-(rt (4 * N) : Int))), .int (iI (((0 : Nat) : Int) - 1 - (rt (4 * N) : Int)))]) (by rw [neg_nI]) ?_
          refine lv_icmp_lt (tgt := 291) hx hb dX6_goThrough_36 (by decide) (fun c_36 => ?_) (fun c_36 => ?_)
          · skip
            obtain ⟨i9, ei9⟩ : ∃ y : Int32, y = (iI a9) + (-1) := ⟨_, rfl⟩
            refine lv_iinc (v := i9) (lv' := [(7, .int i9), (0, .ref (ma 0)), (1, .int (nI N)), (2, .int 2), (3, .int vl), (4, .int (nI (4 * N))), (5, .int (nI (rt (4 * N)))), (6, .int (nI pre.length)), (8, .int (iI (((0 : Nat) : Int) - 1 - (rt (4 * N) : Int))))]) hx hb dX6_goThrough_291 hl (k := 7) rfl (by rw [ei9, show Int32.ofInt (-1) = -1 from by decide]) (by decide) rfl (fun ls hl => ?_)
            refine lv_goto (tgt := 19) hx hb dX6_goThrough_294 (by decide) ?_
            exact iha pre _ _ _ _ ls (by omega) (show gtI (rA N 2) vl pre (dwn (rB N 2) (rt (4 * N) : Int) ka) from hg) hM2 hw (lv_sub (l' := [(0, .ref (ma 0)), (1, .int (nI N)), (2, .int 2), (3, .int vl), (4, .int (nI (4 * N))), (5, .int (nI (rt (4 * N)))), (6, .int (nI pre.length)), (7, .int (iI ((ka : Int) - 1 - (rt (4 * N) : Int))))]) hl [1, 2, 3, 4, 5, 6, 7, 0] (by rw [show iI ((ka : Int) - 1 - (rt (4 * N) : Int)) = i9 from by rw [ei9, show ((ka : Int) - 1 - (rt (4 * N) : Int)) = a9 + -1 by omega, ← iI_add]; rfl]; rfl))
          · skip
            exact absurd ((iI_lt (by omega) (by omega) (by omega) (by omega)).mpr (show (((0 : Nat) : Int) - 1 - (rt (4 * N) : Int)) < -(rt (4 * N) : Int) by omega)) c_36
        | succ kb ihb =>
          intro pre F mv2 H locs ls hkb hg hM2 hw hl
          obtain ⟨b9, hb9⟩ : ∃ b9 : Int, b9 = (kb : Int) - (rt (4 * N) : Int) := ⟨_, rfl⟩
          have hg : gtI (rA N 2) vl pre (rC N 2 a9 b9 ++ (dwn (rC N 2 a9) (rt (4 * N) : Int) kb ++ dwn (rB N 2) (rt (4 * N) : Int) ka)) := by rw [hb9]; exact gt_as hg
          have hl : lv_has ls 14 [(0, .ref (ma 0)), (1, .int (nI N)), (2, .int 2), (3, .int vl), (4, .int (nI (4 * N))), (5, .int (nI (rt (4 * N)))), (6, .int (nI pre.length)), (7, .int (iI a9)), (8, .int (iI b9))] := by rw [show (((kb + 1 : Nat) : Int) - 1 - (rt (4 * N) : Int)) = b9 by omega] at hl; exact hl
          have qb := sq_in hm28 (a := b9) (by omega) (by omega)
          by_cases hab : a9 * a9 + b9 * b9 ≤ 4 * (N : Int)
          · skip
            rw [rC_t hab] at hg
            have lpC : ∀ (kc : Nat) (pre : List Z4) (F : FM) (mv2 : Nat → Q4) (H : Heap) (locs : List Loc) (ls : Array Slot), kc ≤ 2 * rt (4 * N) + 1 → gtI (rA N 2) vl pre (dwn (rD N 2 a9 b9) (rt (4 * N) : Int) kc ++ (dwn (rC N 2 a9) (rt (4 * N) : Int) kb ++ dwn (rB N 2) (rt (4 * N) : Int) ka)) → MW G ma (mk, msz, msh, mrg, mfc, mmd, mv2, mcn) F → wo G A s.heap (ML ma) F H locs → lv_has ls 14 [(0, .ref (ma 0)), (1, .int (nI N)), (2, .int 2), (3, .int vl), (4, .int (nI (4 * N))), (5, .int (nI (rt (4 * N)))), (6, .int (nI pre.length)), (7, .int (iI a9)), (8, .int (iI b9)), (9, .int (iI ((kc : Int) - 1 - (rt (4 * N) : Int))))] → W p l e { frames := 2, cells := 0, slots := 0, locals := 53 } s m ([.ref (ma 0), .int (nI N), .int 2, .int vl].toArray) below meth c H locs 0 0 (MQ below (QP G A (ML ma) (some (.int Vr)) (fun F2 => ∃ mv2 : Nat → Q4, MW G ma (mk, msz, msh, mrg, mfc, mmd, mv2, mcn) F2 ∧ ∀ i, i < (rA N 2).length → vl = nI i → some (mv2 8) = ((rA N 2)[i]?).map q4i)) ([.ref (ma 0), .int (nI N), .int 2, .int vl].toArray) s 0 0 A) (F0 m 43 ls []) := by
              intro kc
              induction kc with
              | zero =>
                intro pre F mv2 H locs ls hkc hg hM2 hw hl
                refine lv_iload hx hb dX6_goThrough_43 (lv_at hl 9 rfl) ?_
                refine lv_iload hx hb dX6_goThrough_45 (lv_at hl 5 rfl) ?_
                refine lv_ineg hx hb dX6_goThrough_47 ?_
                refine W.eq (g2 := F0 m 48 ls [.int (iI (-(rt (4 * N) : Int))), .int (iI (((0 : Nat) : Int) - 1 - (rt (4 * N) : Int)))]) (by rw [neg_nI]) ?_
                refine lv_icmp_lt (tgt := 285) hx hb dX6_goThrough_48 (by decide) (fun c_48 => ?_) (fun c_48 => ?_)
                · skip
                  obtain ⟨i9, ei9⟩ : ∃ y : Int32, y = (iI b9) + (-1) := ⟨_, rfl⟩
                  refine lv_iinc (v := i9) (lv' := [(8, .int i9), (0, .ref (ma 0)), (1, .int (nI N)), (2, .int 2), (3, .int vl), (4, .int (nI (4 * N))), (5, .int (nI (rt (4 * N)))), (6, .int (nI pre.length)), (7, .int (iI a9)), (9, .int (iI (((0 : Nat) : Int) - 1 - (rt (4 * N) : Int))))]) hx hb dX6_goThrough_285 hl (k := 8) rfl (by rw [ei9, show Int32.ofInt (-1) = -1 from by decide]) (by decide) rfl (fun ls hl => ?_)
                  refine lv_goto (tgt := 31) hx hb dX6_goThrough_288 (by decide) ?_
                  exact ihb pre _ _ _ _ ls (by omega) (show gtI (rA N 2) vl pre (dwn (rC N 2 a9) (rt (4 * N) : Int) kb ++ dwn (rB N 2) (rt (4 * N) : Int) ka) from hg) hM2 hw (lv_sub (l' := [(0, .ref (ma 0)), (1, .int (nI N)), (2, .int 2), (3, .int vl), (4, .int (nI (4 * N))), (5, .int (nI (rt (4 * N)))), (6, .int (nI pre.length)), (7, .int (iI a9)), (8, .int (iI ((kb : Int) - 1 - (rt (4 * N) : Int))))]) hl [1, 2, 3, 4, 5, 6, 7, 8, 0] (by rw [show iI ((kb : Int) - 1 - (rt (4 * N) : Int)) = i9 from by rw [ei9, show ((kb : Int) - 1 - (rt (4 * N) : Int)) = b9 + -1 by omega, ← iI_add]; rfl]; rfl))
                · skip
                  exact absurd ((iI_lt (by omega) (by omega) (by omega) (by omega)).mpr (show (((0 : Nat) : Int) - 1 - (rt (4 * N) : Int)) < -(rt (4 * N) : Int) by omega)) c_48
              | succ kc ihc =>
                intro pre F mv2 H locs ls hkc hg hM2 hw hl
                obtain ⟨c9, hc9⟩ : ∃ c9 : Int, c9 = (kc : Int) - (rt (4 * N) : Int) := ⟨_, rfl⟩
                have hg : gtI (rA N 2) vl pre (rD N 2 a9 b9 c9 ++ (dwn (rD N 2 a9 b9) (rt (4 * N) : Int) kc ++ (dwn (rC N 2 a9) (rt (4 * N) : Int) kb ++ dwn (rB N 2) (rt (4 * N) : Int) ka))) := by rw [hc9]; exact gt_as hg
                have hl : lv_has ls 14 [(0, .ref (ma 0)), (1, .int (nI N)), (2, .int 2), (3, .int vl), (4, .int (nI (4 * N))), (5, .int (nI (rt (4 * N)))), (6, .int (nI pre.length)), (7, .int (iI a9)), (8, .int (iI b9)), (9, .int (iI c9))] := by rw [show (((kc + 1 : Nat) : Int) - 1 - (rt (4 * N) : Int)) = c9 by omega] at hl; exact hl
                have qc := sq_in hm28 (a := c9) (by omega) (by omega)
                obtain ⟨l0, hl0⟩ : ∃ l0 : Int, l0 = 4 * (N : Int) - a9 * a9 - b9 * b9 - c9 * c9 := ⟨_, rfl⟩
                refine lv_iload hx hb dX6_goThrough_43 (lv_at hl 9 rfl) ?_
                refine lv_iload hx hb dX6_goThrough_45 (lv_at hl 5 rfl) ?_
                refine lv_ineg hx hb dX6_goThrough_47 ?_
                refine W.eq (g2 := F0 m 48 ls [.int (iI (-(rt (4 * N) : Int))), .int (iI c9)]) (by rw [neg_nI]) ?_
                refine lv_icmp_lt (tgt := 285) hx hb dX6_goThrough_48 (by decide) (fun c_48 => ?_) (fun c_48 => ?_)
                · skip
                  exact absurd ((iI_lt (by omega) (by omega) (by omega) (by omega)).mp c_48) (show ¬ c9 < -(rt (4 * N) : Int) by omega)
                · skip
                  refine lv_iload hx hb dX6_goThrough_51 (lv_at hl 7 rfl) ?_
                  refine lv_iload hx hb dX6_goThrough_53 (lv_at hl 7 rfl) ?_
                  refine lv_imul hx hb dX6_goThrough_55 ?_
                  refine lv_iload hx hb dX6_goThrough_56 (lv_at hl 8 rfl) ?_
                  refine lv_iload hx hb dX6_goThrough_58 (lv_at hl 8 rfl) ?_
                  refine lv_imul hx hb dX6_goThrough_60 ?_
                  refine lv_iadd hx hb dX6_goThrough_61 ?_
                  refine lv_iload hx hb dX6_goThrough_62 (lv_at hl 4 rfl) ?_
                  refine W.eq (g2 := F0 m 64 ls [.int (iI (4 * (N : Int))), .int (iI (a9 * a9 + b9 * b9))]) (by rw [iI_mul, iI_mul, iI_add, iI_nat, Int.natCast_mul]; rfl) ?_
                  refine lv_icmp_gt (tgt := 285) hx hb dX6_goThrough_64 (by decide) (fun c_64 => ?_) (fun c_64 => ?_)
                  · skip
                    exact absurd ((iI_lt (by omega) (by omega) (by omega) (by omega)).mp c_64) (by omega)
                  · skip
                    refine lv_iload hx hb dX6_goThrough_67 (lv_at hl 4 rfl) ?_
                    refine lv_iload hx hb dX6_goThrough_69 (lv_at hl 7 rfl) ?_
                    refine lv_iload hx hb dX6_goThrough_71 (lv_at hl 7 rfl) ?_
                    refine lv_imul hx hb dX6_goThrough_73 ?_
                    refine lv_isub hx hb dX6_goThrough_74 ?_
                    refine lv_iload hx hb dX6_goThrough_75 (lv_at hl 8 rfl) ?_
                    refine lv_iload hx hb dX6_goThrough_77 (lv_at hl 8 rfl) ?_
                    refine lv_imul hx hb dX6_goThrough_79 ?_
                    refine lv_isub hx hb dX6_goThrough_80 ?_
                    refine lv_iload hx hb dX6_goThrough_81 (lv_at hl 9 rfl) ?_
                    refine lv_iload hx hb dX6_goThrough_83 (lv_at hl 9 rfl) ?_
                    refine lv_imul hx hb dX6_goThrough_85 ?_
                    refine lv_isub hx hb dX6_goThrough_86 ?_
                    refine W.eq (g2 := F0 m 87 ls [.int (iI l0)]) (by rw [hl0, iI_mul, iI_mul, iI_mul, iI_nat, iI_sub, iI_sub, iI_sub, Int.natCast_mul]; rfl) ?_
                    refine lv_istore (lv' := [(10, .int (iI l0)), (0, .ref (ma 0)), (1, .int (nI N)), (2, .int 2), (3, .int vl), (4, .int (nI (4 * N))), (5, .int (nI (rt (4 * N)))), (6, .int (nI pre.length)), (7, .int (iI a9)), (8, .int (iI b9)), (9, .int (iI c9))]) hx hb dX6_goThrough_87 hl (by decide) rfl (fun ls hl => ?_)
                    refine lv_iload hx hb dX6_goThrough_89 (lv_at hl 0 rfl) ?_
                    refine lv_if_ge (tgt := 98) hx hb dX6_goThrough_91 (by decide) (fun c_91 => ?_) (fun c_91 => ?_)
                    · skip
                      have hpos : 0 ≤ l0 := (iI_le (a := 0) (by omega) (by omega) (by omega) (by omega)).mp c_91
                      refine lv_iload hx hb dX6_goThrough_98 (lv_at hl 0 rfl) ?_
                      obtain ⟨l9, hll⟩ : ∃ l9 : Nat, (l9 : Int) = l0 := ⟨l0.toNat, by omega⟩
                      obtain ⟨r, hre⟩ : ∃ r : Nat, r = rt l9 := ⟨_, rfl⟩
                      obtain ⟨hr1, hr2⟩ := rt_ok l9
                      rw [← hre] at hr1 hr2
                      have hr28 : r ≤ 28 := by rw [hre]; exact rt_le (by omega)
                      have hrr := Nat.mul_le_mul hr28 hr28
                      refine W.eq (g2 := F0 m 100 ls [.int (nI l9)]) (by rw [← hll, ← iI_nat]) ?_
                      refine h_callS (st1 := [.int (nI r)]) [.int (nI l9)] [] ⟨hx, hb, hml, hown, hts⟩ hE hw (c_X6_rootOf l G A (ML ma) F l9 r hr1 hr2 (by omega)) (va_cwS 1 hts gX6_goThrough_X6_rootOf rfl rfl rfl (by decide +kernel) ⟨Nat.le_of_ble_eq_true rfl, Nat.le_of_ble_eq_true rfl⟩) rfl hl.1 rfl (Nat.le_of_ble_eq_true rfl) dX6_goThrough_100 ⟨Nat.le_of_ble_eq_true rfl, Nat.le_of_ble_eq_true rfl⟩ rfl (fun H locs hw => ?_)
                      refine W.eq (g2 := F0 m 103 ls [.int (iI (r : Int))]) (by rw [← iI_nat]) ?_
                      refine lv_istore (lv' := [(11, .int (iI (r : Int))), (10, .int (iI l0)), (0, .ref (ma 0)), (1, .int (nI N)), (2, .int 2), (3, .int vl), (4, .int (nI (4 * N))), (5, .int (nI (rt (4 * N)))), (6, .int (nI pre.length)), (7, .int (iI a9)), (8, .int (iI b9)), (9, .int (iI c9))]) hx hb dX6_goThrough_103 hl (by decide) rfl (fun ls hl => ?_)
                      refine lv_iconst (v := 0) hx hb dX6_goThrough_105 (by decide) ?_
                      refine lv_istore (lv' := [(12, .int 0), (11, .int (iI (r : Int))), (10, .int (iI l0)), (0, .ref (ma 0)), (1, .int (nI N)), (2, .int 2), (3, .int vl), (4, .int (nI (4 * N))), (5, .int (nI (rt (4 * N)))), (6, .int (nI pre.length)), (7, .int (iI a9)), (8, .int (iI b9)), (9, .int (iI c9))]) hx hb dX6_goThrough_106 hl (by decide) rfl (fun ls hl => ?_)
                      refine lv_iload hx hb dX6_goThrough_108 (lv_at hl 0 rfl) ?_
                      refine lv_iconst (v := 2) hx hb dX6_goThrough_110 (by decide) ?_
                      refine lv_icmp_ge (tgt := 279) hx hb dX6_goThrough_111 (by decide) (fun c_111 => ?_) (fun c_111 => ?_)
                      · skip
                        first | exact absurd c_111 (by decide) | exact absurd (by decide) c_111
                      · skip
                        refine lv_iload hx hb dX6_goThrough_114 (lv_at hl 1 rfl) ?_
                        refine lv_if_lt (tgt := 279) hx hb dX6_goThrough_116 (by decide) (fun c_116 => ?_) (fun c_116 => ?_)
                        · skip
                          exact absurd ((iI_lt (b := 0) (by omega) (by omega) (by omega) (by omega)).mp c_116) (by omega)
                        · skip
                          refine lv_iload hx hb dX6_goThrough_119 (lv_at hl 1 rfl) ?_
                          refine lv_iload hx hb dX6_goThrough_121 (lv_at hl 1 rfl) ?_
                          refine lv_imul hx hb dX6_goThrough_123 ?_
                          refine lv_iload hx hb dX6_goThrough_124 (lv_at hl 2 rfl) ?_
                          refine W.eq (g2 := F0 m 126 ls [.int (iI l0), .int (iI ((r : Int) * r))]) (by rw [iI_mul]) ?_
                          refine lv_icmp_ne (tgt := 279) hx hb dX6_goThrough_126 (by decide) (fun c_126 => ?_) (fun c_126 => ?_)
                          · skip
                            have hsq : ¬ (r : Int) * r = (l9 : Int) := fun q => c_126 (by rw [q, hll])
                            obtain ⟨i9, ei9⟩ : ∃ y : Int32, y = (iI c9) + (-1) := ⟨_, rfl⟩
                            refine lv_iinc (v := i9) (lv' := [(9, .int i9), (12, .int 0), (11, .int (iI (r : Int))), (10, .int (iI l0)), (0, .ref (ma 0)), (1, .int (nI N)), (2, .int 2), (3, .int vl), (4, .int (nI (4 * N))), (5, .int (nI (rt (4 * N)))), (6, .int (nI pre.length)), (7, .int (iI a9)), (8, .int (iI b9))]) hx hb dX6_goThrough_279 hl (k := 12) rfl (by rw [ei9, show Int32.ofInt (-1) = -1 from by decide]) (by decide) rfl (fun ls hl => ?_)
                            refine lv_goto (tgt := 43) hx hb dX6_goThrough_282 (by decide) ?_
                            have hg9 : gtI (rA N 2) vl pre (dwn (rD N 2 a9 b9) (rt (4 * N) : Int) kc ++ (dwn (rC N 2 a9) (rt (4 * N) : Int) kb ++ dwn (rB N 2) (rt (4 * N) : Int) ka)) := by rw [rD_f (N := N) (by rw [hll, hl0]) hre hsq] at hg; exact hg
                            exact ihc (pre) _ _ _ _ ls (by omega) hg9 hM2 hw (lv_sub (l' := [(0, .ref (ma 0)), (1, .int (nI N)), (2, .int 2), (3, .int vl), (4, .int (nI (4 * N))), (5, .int (nI (rt (4 * N)))), (6, .int (nI (pre).length)), (7, .int (iI a9)), (8, .int (iI b9)), (9, .int (iI ((kc : Int) - 1 - (rt (4 * N) : Int))))]) hl [4, 5, 6, 7, 8, 9, 10, 11, 12, 0] (by rw [show iI ((kc : Int) - 1 - (rt (4 * N) : Int)) = i9 from by rw [ei9, show ((kc : Int) - 1 - (rt (4 * N) : Int)) = c9 + -1 by omega, ← iI_add]; rfl]; first | rfl | (rw [List.length_append]; rfl) | (rw [List.length_append, List.length_append]; rfl)))
                          · skip
                            have hr0 : 0 ≤ (r : Int) * r ∧ (r : Int) * r ≤ 784 := by
                              have h7 : ((r * r : Nat) : Int) ≤ 784 := by omega
                              rw [Int.natCast_mul] at h7
                              exact ⟨sqnn _, h7⟩
                            have hsq : (r : Int) * r = l0 := (iI_eq (by omega) (by omega) (by omega) (by omega)).mp c_126
                            have hg0 : gtI (rA N 2) vl pre (rD1 2 a9 b9 c9 r ++ (dwn (rD N 2 a9 b9) (rt (4 * N) : Int) kc ++ (dwn (rC N 2 a9) (rt (4 * N) : Int) kb ++ dwn (rB N 2) (rt (4 * N) : Int) ka))) := by rw [← rD_t (N := N) (by rw [hll, hl0]) hre (by rw [hll]; exact hsq)]; exact hg
                            have h1i := one_i (a := a9) (b := b9) (c := c9) (r := r) (by omega) (by omega) (by omega) hr28
                            refine lv_aload_n hx hb dX6_goThrough_129 rfl (lv_at hl 3 rfl) ?_
                            refine h_get hx hb hE hw hts hinX6 hown (ci := 6) rfl 8 (by decide) lk_32 (fun _ h9 => h9) hM2.ob rfl dX6_goThrough_130 ?_
                            refine lv_iconst (v := 0) hx hb dX6_goThrough_133 (by decide) ?_
                            refine lv_iload hx hb dX6_goThrough_134 (lv_at hl 10 rfl) ?_
                            refine lv_i2l hx hb dX6_goThrough_136 rfl ?_
                            refine h_last hx hb hE hw (hM2.v (i := 8) (by decide) (by decide)) (n := 4) (vp_in_nI (n := 0) (N := 4) (by decide) (by decide)) (g := vp_updL (q4f (mv2 8)) 0 ((iI a9).toInt64)) rfl dX6_goThrough_137 (fun H locs hw => ?_)
                            have hw := wo_same hw (at_sameJ (G := G) (n := 4) (st4_0 (mv2 8) ((iI a9).toInt64)))
                            refine lv_aload_n hx hb dX6_goThrough_138 rfl (lv_at hl 3 rfl) ?_
                            refine h_get hx hb hE hw hts hinX6 hown (ci := 6) rfl 8 (by decide) lk_32 (fun _ h9 => h9) (pt_ne hM2.ob (hM.ne (i := 0) (j := 8) (by decide) (by decide) (by decide))) rfl dX6_goThrough_139 ?_
                            refine lv_iconst (v := 1) hx hb dX6_goThrough_142 (by decide) ?_
                            refine lv_iload hx hb dX6_goThrough_143 (lv_at hl 11 rfl) ?_
                            refine lv_i2l hx hb dX6_goThrough_145 rfl ?_
                            refine h_last hx hb hE hw (pt_up (hM2.v (i := 8) (by decide) (by decide))) (n := 4) (vp_in_nI (n := 1) (N := 4) (by decide) (by decide)) (g := vp_updL (q4f ((iI a9).toInt64, (mv2 8).2.1, (mv2 8).2.2.1, (mv2 8).2.2.2)) 1 ((iI b9).toInt64)) rfl dX6_goThrough_146 (fun H locs hw => ?_)
                            have hw := wo_same hw (at_sameJ (G := G) (n := 4) (st4_1 ((iI a9).toInt64, (mv2 8).2.1, (mv2 8).2.2.1, (mv2 8).2.2.2) ((iI b9).toInt64)))
                            refine lv_aload_n hx hb dX6_goThrough_147 rfl (lv_at hl 3 rfl) ?_
                            refine h_get hx hb hE hw hts hinX6 hown (ci := 6) rfl 8 (by decide) lk_32 (fun _ h9 => h9) (pt_ne (pt_ne hM2.ob (hM.ne (i := 0) (j := 8) (by decide) (by decide) (by decide))) (hM.ne (i := 0) (j := 8) (by decide) (by decide) (by decide))) rfl dX6_goThrough_148 ?_
                            refine lv_iconst (v := 2) hx hb dX6_goThrough_151 (by decide) ?_
                            refine lv_iload hx hb dX6_goThrough_152 (lv_at hl 12 rfl) ?_
                            refine lv_i2l hx hb dX6_goThrough_154 rfl ?_
                            refine h_last hx hb hE hw (pt_up (pt_up (hM2.v (i := 8) (by decide) (by decide)))) (n := 4) (vp_in_nI (n := 2) (N := 4) (by decide) (by decide)) (g := vp_updL (q4f ((iI a9).toInt64, (iI b9).toInt64, (mv2 8).2.2.1, (mv2 8).2.2.2)) 2 ((iI c9).toInt64)) rfl dX6_goThrough_155 (fun H locs hw => ?_)
                            have hw := wo_same hw (at_sameJ (G := G) (n := 4) (st4_2 ((iI a9).toInt64, (iI b9).toInt64, (mv2 8).2.2.1, (mv2 8).2.2.2) ((iI c9).toInt64)))
                            refine lv_aload_n hx hb dX6_goThrough_156 rfl (lv_at hl 3 rfl) ?_
                            refine h_get hx hb hE hw hts hinX6 hown (ci := 6) rfl 8 (by decide) lk_32 (fun _ h9 => h9) (pt_ne (pt_ne (pt_ne hM2.ob (hM.ne (i := 0) (j := 8) (by decide) (by decide) (by decide))) (hM.ne (i := 0) (j := 8) (by decide) (by decide) (by decide))) (hM.ne (i := 0) (j := 8) (by decide) (by decide) (by decide))) rfl dX6_goThrough_157 ?_
                            refine lv_iconst (v := 3) hx hb dX6_goThrough_160 (by decide) ?_
                            refine lv_iload hx hb dX6_goThrough_161 (lv_at hl 0 rfl) ?_
                            refine lv_if_ne (tgt := 172) hx hb dX6_goThrough_163 (by decide) (fun c_163 => ?_) (fun c_163 => ?_)
                            · skip
                              first | exact absurd c_163 (by decide) | exact absurd (by decide) c_163
                            · skip
                              refine lv_iload hx hb dX6_goThrough_166 (lv_at hl 1 rfl) ?_
                              refine lv_i2l hx hb dX6_goThrough_168 rfl ?_
                              refine lv_goto (tgt := 176) hx hb dX6_goThrough_169 (by decide) ?_
                              refine h_last hx hb hE hw (pt_up (pt_up (pt_up (hM2.v (i := 8) (by decide) (by decide))))) (n := 4) (vp_in_nI (n := 3) (N := 4) (by decide) (by decide)) (g := vp_updL (q4f ((iI a9).toInt64, (iI b9).toInt64, (iI c9).toInt64, (mv2 8).2.2.2)) 3 ((iI (r : Int)).toInt64)) rfl dX6_goThrough_176 (fun H locs hw => ?_)
                              have hw := wo_same hw (at_sameJ (G := G) (n := 4) (st4_3 ((iI a9).toInt64, (iI b9).toInt64, (iI c9).toInt64, (mv2 8).2.2.2) ((iI (r : Int)).toInt64)))
                              refine lv_iload hx hb dX6_goThrough_177 (lv_at hl 10 rfl) ?_
                              refine lv_i2l hx hb dX6_goThrough_179 rfl ?_
                              refine lv_iload hx hb dX6_goThrough_180 (lv_at hl 11 rfl) ?_
                              refine lv_i2l hx hb dX6_goThrough_182 rfl ?_
                              refine lv_iload hx hb dX6_goThrough_183 (lv_at hl 12 rfl) ?_
                              refine lv_i2l hx hb dX6_goThrough_185 rfl ?_
                              refine lv_iload hx hb dX6_goThrough_186 (lv_at hl 1 rfl) ?_
                              refine lv_i2l hx hb dX6_goThrough_188 rfl ?_
                              refine h_callS (st1 := [.int (bI (oneM ((iI a9).toInt64) ((iI b9).toInt64) ((iI c9).toInt64) ((iI (r : Int)).toInt64)))]) [.long ((iI a9).toInt64), .long ((iI b9).toInt64), .long ((iI c9).toInt64), .long ((iI (r : Int)).toInt64)] [] ⟨hx, hb, hml, hown, hts⟩ hE hw (c_X6_isOne l G A (ML ma) (va_up (va_up (va_up (va_up F (ma 8) (eJ4 G ((iI a9).toInt64, (mv2 8).2.1, (mv2 8).2.2.1, (mv2 8).2.2.2))) (ma 8) (eJ4 G ((iI a9).toInt64, (iI b9).toInt64, (mv2 8).2.2.1, (mv2 8).2.2.2))) (ma 8) (eJ4 G ((iI a9).toInt64, (iI b9).toInt64, (iI c9).toInt64, (mv2 8).2.2.2))) (ma 8) (eJ4 G ((iI a9).toInt64, (iI b9).toInt64, (iI c9).toInt64, (iI (r : Int)).toInt64))) ((iI a9).toInt64) ((iI b9).toInt64) ((iI c9).toInt64) ((iI (r : Int)).toInt64)) (va_cwS 4 hts gX6_goThrough_X6_isOne rfl rfl rfl (by decide +kernel) ⟨Nat.le_of_ble_eq_true rfl, Nat.le_of_ble_eq_true rfl⟩) rfl hl.1 rfl (Nat.le_of_ble_eq_true rfl) dX6_goThrough_189 ⟨Nat.le_of_ble_eq_true rfl, Nat.le_of_ble_eq_true rfl⟩ rfl (fun H locs hw => ?_)
                              refine lv_if_eq (tgt := 241) hx hb dX6_goThrough_192 (by decide) (fun c_192 => ?_) (fun c_192 => ?_)
                              · skip
                                have c_192 := bI_eq.mp c_192
                                have hz1 := c_192
                                refine lv_iconst (v := 0) hx hb dX6_goThrough_241 (by decide) ?_
                                have hg1 := gt_u0 hg0 (fun q => hz1 (h1i.1.mpr q.1))
                                refine lv_istore (lv' := [(13, .int 0), (12, .int 0), (11, .int (iI (r : Int))), (10, .int (iI l0)), (0, .ref (ma 0)), (1, .int (nI N)), (2, .int 2), (3, .int vl), (4, .int (nI (4 * N))), (5, .int (nI (rt (4 * N)))), (6, .int (nI pre.length)), (7, .int (iI a9)), (8, .int (iI b9)), (9, .int (iI c9))]) hx hb dX6_goThrough_242 hl (by decide) rfl (fun ls hl => ?_)
                                refine lv_iload hx hb dX6_goThrough_244 (lv_at hl 0 rfl) ?_
                                refine lv_if_eq (tgt := 258) hx hb dX6_goThrough_246 (by decide) (fun c_246 => ?_) (fun c_246 => ?_)
                                · skip
                                  refine lv_iload hx hb dX6_goThrough_258 (lv_at hl 10 rfl) ?_
                                  refine lv_iload hx hb dX6_goThrough_260 (lv_at hl 0 rfl) ?_
                                  refine lv_if_eq (tgt := 269) hx hb dX6_goThrough_262 (by decide) (fun c_262 => ?_) (fun c_262 => ?_)
                                  · skip
                                    refine lv_iconst (v := 0) hx hb dX6_goThrough_269 (by decide) ?_
                                    refine h_iaddN hx hb pre.length 0 dX6_goThrough_270 ?_
                                    refine lv_istore (lv' := [(6, .int (nI (pre.length + 0))), (13, .int 0), (12, .int 0), (11, .int (iI (r : Int))), (10, .int (iI l0)), (0, .ref (ma 0)), (1, .int (nI N)), (2, .int 2), (3, .int vl), (4, .int (nI (4 * N))), (5, .int (nI (rt (4 * N)))), (7, .int (iI a9)), (8, .int (iI b9)), (9, .int (iI c9))]) hx hb dX6_goThrough_271 hl (by decide) rfl (fun ls hl => ?_)
                                    refine lv_iinc (v := 1) (lv' := [(12, .int 1), (6, .int (nI (pre.length + 0))), (13, .int 0), (11, .int (iI (r : Int))), (10, .int (iI l0)), (0, .ref (ma 0)), (1, .int (nI N)), (2, .int 2), (3, .int vl), (4, .int (nI (4 * N))), (5, .int (nI (rt (4 * N)))), (7, .int (iI a9)), (8, .int (iI b9)), (9, .int (iI c9))]) hx hb dX6_goThrough_273 hl (k := 2) rfl (by decide) (by decide) rfl (fun ls hl => ?_)
                                    refine lv_goto (tgt := 108) hx hb dX6_goThrough_276 (by decide) ?_
                                    refine lv_iload hx hb dX6_goThrough_108 (lv_at hl 0 rfl) ?_
                                    refine lv_iconst (v := 2) hx hb dX6_goThrough_110 (by decide) ?_
                                    refine lv_icmp_ge (tgt := 279) hx hb dX6_goThrough_111 (by decide) (fun c_111 => ?_) (fun c_111 => ?_)
                                    · skip
                                      first | exact absurd c_111 (by decide) | exact absurd (by decide) c_111
                                    · skip
                                      refine lv_iload hx hb dX6_goThrough_114 (lv_at hl 3 rfl) ?_
                                      refine lv_if_lt (tgt := 279) hx hb dX6_goThrough_116 (by decide) (fun c_116 => ?_) (fun c_116 => ?_)
                                      · skip
                                        exact absurd ((iI_lt (b := 0) (by omega) (by omega) (by omega) (by omega)).mp c_116) (by omega)
                                      · skip
                                        refine lv_iload hx hb dX6_goThrough_119 (lv_at hl 3 rfl) ?_
                                        refine lv_iload hx hb dX6_goThrough_121 (lv_at hl 3 rfl) ?_
                                        refine lv_imul hx hb dX6_goThrough_123 ?_
                                        refine lv_iload hx hb dX6_goThrough_124 (lv_at hl 4 rfl) ?_
                                        refine W.eq (g2 := F0 m 126 ls [.int (iI l0), .int (iI ((r : Int) * r))]) (by rw [iI_mul]) ?_
                                        refine lv_icmp_ne (tgt := 279) hx hb dX6_goThrough_126 (by decide) (fun c_126 => ?_) (fun c_126 => ?_)
                                        · skip
                                          exact absurd (congrArg iI hsq) c_126
                                        · skip
                                          refine lv_aload_n hx hb dX6_goThrough_129 rfl (lv_at hl 5 rfl) ?_
                                          refine h_get hx hb hE hw hts hinX6 hown (ci := 6) rfl 8 (by decide) lk_32 (fun _ h9 => h9) (pt_ne (pt_ne (pt_ne (pt_ne hM2.ob (hM.ne (i := 0) (j := 8) (by decide) (by decide) (by decide))) (hM.ne (i := 0) (j := 8) (by decide) (by decide) (by decide))) (hM.ne (i := 0) (j := 8) (by decide) (by decide) (by decide))) (hM.ne (i := 0) (j := 8) (by decide) (by decide) (by decide))) rfl dX6_goThrough_130 ?_
                                          refine lv_iconst (v := 0) hx hb dX6_goThrough_133 (by decide) ?_
                                          refine lv_iload hx hb dX6_goThrough_134 (lv_at hl 11 rfl) ?_
                                          refine lv_i2l hx hb dX6_goThrough_136 rfl ?_
                                          refine h_last hx hb hE hw (pt_up (pt_up (pt_up (pt_up (hM2.v (i := 8) (by decide) (by decide)))))) (n := 4) (vp_in_nI (n := 0) (N := 4) (by decide) (by decide)) (g := vp_updL (q4f ((iI a9).toInt64, (iI b9).toInt64, (iI c9).toInt64, (iI (r : Int)).toInt64)) 0 ((iI a9).toInt64)) rfl dX6_goThrough_137 (fun H locs hw => ?_)
                                          have hw := wo_same hw (at_sameJ (G := G) (n := 4) (st4_0 ((iI a9).toInt64, (iI b9).toInt64, (iI c9).toInt64, (iI (r : Int)).toInt64) ((iI a9).toInt64)))
                                          refine lv_aload_n hx hb dX6_goThrough_138 rfl (lv_at hl 5 rfl) ?_
                                          refine h_get hx hb hE hw hts hinX6 hown (ci := 6) rfl 8 (by decide) lk_32 (fun _ h9 => h9) (pt_ne (pt_ne (pt_ne (pt_ne (pt_ne hM2.ob (hM.ne (i := 0) (j := 8) (by decide) (by decide) (by decide))) (hM.ne (i := 0) (j := 8) (by decide) (by decide) (by decide))) (hM.ne (i := 0) (j := 8) (by decide) (by decide) (by decide))) (hM.ne (i := 0) (j := 8) (by decide) (by decide) (by decide))) (hM.ne (i := 0) (j := 8) (by decide) (by decide) (by decide))) rfl dX6_goThrough_139 ?_
                                          refine lv_iconst (v := 1) hx hb dX6_goThrough_142 (by decide) ?_
                                          refine lv_iload hx hb dX6_goThrough_143 (lv_at hl 12 rfl) ?_
                                          refine lv_i2l hx hb dX6_goThrough_145 rfl ?_
                                          refine h_last hx hb hE hw (pt_up (pt_up (pt_up (pt_up (pt_up (hM2.v (i := 8) (by decide) (by decide))))))) (n := 4) (vp_in_nI (n := 1) (N := 4) (by decide) (by decide)) (g := vp_updL (q4f ((iI a9).toInt64, (iI b9).toInt64, (iI c9).toInt64, (iI (r : Int)).toInt64)) 1 ((iI b9).toInt64)) rfl dX6_goThrough_146 (fun H locs hw => ?_)
                                          have hw := wo_same hw (at_sameJ (G := G) (n := 4) (st4_1 ((iI a9).toInt64, (iI b9).toInt64, (iI c9).toInt64, (iI (r : Int)).toInt64) ((iI b9).toInt64)))
                                          refine lv_aload_n hx hb dX6_goThrough_147 rfl (lv_at hl 5 rfl) ?_
                                          refine h_get hx hb hE hw hts hinX6 hown (ci := 6) rfl 8 (by decide) lk_32 (fun _ h9 => h9) (pt_ne (pt_ne (pt_ne (pt_ne (pt_ne (pt_ne hM2.ob (hM.ne (i := 0) (j := 8) (by decide) (by decide) (by decide))) (hM.ne (i := 0) (j := 8) (by decide) (by decide) (by decide))) (hM.ne (i := 0) (j := 8) (by decide) (by decide) (by decide))) (hM.ne (i := 0) (j := 8) (by decide) (by decide) (by decide))) (hM.ne (i := 0) (j := 8) (by decide) (by decide) (by decide))) (hM.ne (i := 0) (j := 8) (by decide) (by decide) (by decide))) rfl dX6_goThrough_148 ?_
                                          refine lv_iconst (v := 2) hx hb dX6_goThrough_151 (by decide) ?_
                                          refine lv_iload hx hb dX6_goThrough_152 (lv_at hl 13 rfl) ?_
                                          refine lv_i2l hx hb dX6_goThrough_154 rfl ?_
                                          refine h_last hx hb hE hw (pt_up (pt_up (pt_up (pt_up (pt_up (pt_up (hM2.v (i := 8) (by decide) (by decide)))))))) (n := 4) (vp_in_nI (n := 2) (N := 4) (by decide) (by decide)) (g := vp_updL (q4f ((iI a9).toInt64, (iI b9).toInt64, (iI c9).toInt64, (iI (r : Int)).toInt64)) 2 ((iI c9).toInt64)) rfl dX6_goThrough_155 (fun H locs hw => ?_)
                                          have hw := wo_same hw (at_sameJ (G := G) (n := 4) (st4_2 ((iI a9).toInt64, (iI b9).toInt64, (iI c9).toInt64, (iI (r : Int)).toInt64) ((iI c9).toInt64)))
                                          refine lv_aload_n hx hb dX6_goThrough_156 rfl (lv_at hl 5 rfl) ?_
                                          refine h_get hx hb hE hw hts hinX6 hown (ci := 6) rfl 8 (by decide) lk_32 (fun _ h9 => h9) (pt_ne (pt_ne (pt_ne (pt_ne (pt_ne (pt_ne (pt_ne hM2.ob (hM.ne (i := 0) (j := 8) (by decide) (by decide) (by decide))) (hM.ne (i := 0) (j := 8) (by decide) (by decide) (by decide))) (hM.ne (i := 0) (j := 8) (by decide) (by decide) (by decide))) (hM.ne (i := 0) (j := 8) (by decide) (by decide) (by decide))) (hM.ne (i := 0) (j := 8) (by decide) (by decide) (by decide))) (hM.ne (i := 0) (j := 8) (by decide) (by decide) (by decide))) (hM.ne (i := 0) (j := 8) (by decide) (by decide) (by decide))) rfl dX6_goThrough_157 ?_
                                          refine lv_iconst (v := 3) hx hb dX6_goThrough_160 (by decide) ?_
                                          refine lv_iload hx hb dX6_goThrough_161 (lv_at hl 0 rfl) ?_
                                          refine lv_if_ne (tgt := 172) hx hb dX6_goThrough_163 (by decide) (fun c_163 => ?_) (fun c_163 => ?_)
                                          · skip
                                            refine lv_iload hx hb dX6_goThrough_172 (lv_at hl 3 rfl) ?_
                                            refine lv_ineg hx hb dX6_goThrough_174 ?_
                                            refine lv_i2l hx hb dX6_goThrough_175 rfl ?_
                                            refine W.eq (g2 := F0 m 176 ls [.long ((iI (-(r : Int))).toInt64), .int 3, .ref (ma 8)]) (by rw [neg_iI]) ?_
                                            refine h_last hx hb hE hw (pt_up (pt_up (pt_up (pt_up (pt_up (pt_up (pt_up (hM2.v (i := 8) (by decide) (by decide))))))))) (n := 4) (vp_in_nI (n := 3) (N := 4) (by decide) (by decide)) (g := vp_updL (q4f ((iI a9).toInt64, (iI b9).toInt64, (iI c9).toInt64, (iI (r : Int)).toInt64)) 3 ((iI (-(r : Int))).toInt64)) rfl dX6_goThrough_176 (fun H locs hw => ?_)
                                            have hw := wo_same hw (at_sameJ (G := G) (n := 4) (st4_3 ((iI a9).toInt64, (iI b9).toInt64, (iI c9).toInt64, (iI (r : Int)).toInt64) ((iI (-(r : Int))).toInt64)))
                                            refine lv_iload hx hb dX6_goThrough_177 (lv_at hl 11 rfl) ?_
                                            refine lv_i2l hx hb dX6_goThrough_179 rfl ?_
                                            refine lv_iload hx hb dX6_goThrough_180 (lv_at hl 12 rfl) ?_
                                            refine lv_i2l hx hb dX6_goThrough_182 rfl ?_
                                            refine lv_iload hx hb dX6_goThrough_183 (lv_at hl 13 rfl) ?_
                                            refine lv_i2l hx hb dX6_goThrough_185 rfl ?_
                                            refine lv_iload hx hb dX6_goThrough_186 (lv_at hl 3 rfl) ?_
                                            refine lv_i2l hx hb dX6_goThrough_188 rfl ?_
                                            refine h_callS (st1 := [.int (bI (oneM ((iI a9).toInt64) ((iI b9).toInt64) ((iI c9).toInt64) ((iI (r : Int)).toInt64)))]) [.long ((iI a9).toInt64), .long ((iI b9).toInt64), .long ((iI c9).toInt64), .long ((iI (r : Int)).toInt64)] [] ⟨hx, hb, hml, hown, hts⟩ hE hw (c_X6_isOne l G A (ML ma) (va_up (va_up (va_up (va_up (va_up (va_up (va_up (va_up F (ma 8) (eJ4 G ((iI a9).toInt64, (mv2 8).2.1, (mv2 8).2.2.1, (mv2 8).2.2.2))) (ma 8) (eJ4 G ((iI a9).toInt64, (iI b9).toInt64, (mv2 8).2.2.1, (mv2 8).2.2.2))) (ma 8) (eJ4 G ((iI a9).toInt64, (iI b9).toInt64, (iI c9).toInt64, (mv2 8).2.2.2))) (ma 8) (eJ4 G ((iI a9).toInt64, (iI b9).toInt64, (iI c9).toInt64, (iI (r : Int)).toInt64))) (ma 8) (eJ4 G ((iI a9).toInt64, (iI b9).toInt64, (iI c9).toInt64, (iI (r : Int)).toInt64))) (ma 8) (eJ4 G ((iI a9).toInt64, (iI b9).toInt64, (iI c9).toInt64, (iI (r : Int)).toInt64))) (ma 8) (eJ4 G ((iI a9).toInt64, (iI b9).toInt64, (iI c9).toInt64, (iI (r : Int)).toInt64))) (ma 8) (eJ4 G ((iI a9).toInt64, (iI b9).toInt64, (iI c9).toInt64, (iI (-(r : Int))).toInt64))) ((iI a9).toInt64) ((iI b9).toInt64) ((iI c9).toInt64) ((iI (r : Int)).toInt64)) (va_cwS 4 hts gX6_goThrough_X6_isOne rfl rfl rfl (by decide +kernel) ⟨Nat.le_of_ble_eq_true rfl, Nat.le_of_ble_eq_true rfl⟩) rfl hl.1 rfl (Nat.le_of_ble_eq_true rfl) dX6_goThrough_189 ⟨Nat.le_of_ble_eq_true rfl, Nat.le_of_ble_eq_true rfl⟩ rfl (fun H locs hw => ?_)
                                            refine lv_if_eq (tgt := 241) hx hb dX6_goThrough_192 (by decide) (fun c_192 => ?_) (fun c_192 => ?_)
                                            · skip
                                              have c_192 := bI_eq.mp c_192
                                              refine lv_iconst (v := 0) hx hb dX6_goThrough_241 (by decide) ?_
                                              have hg2 := gt_u1 hg1 (fun q => hz1 (h1i.2.mpr q.2.1))
                                              refine lv_istore (lv' := [(13, .int 0), (12, .int 1), (6, .int (nI (pre.length + 0))), (11, .int (iI (r : Int))), (10, .int (iI l0)), (0, .ref (ma 0)), (1, .int (nI N)), (2, .int 2), (3, .int vl), (4, .int (nI (4 * N))), (5, .int (nI (rt (4 * N)))), (7, .int (iI a9)), (8, .int (iI b9)), (9, .int (iI c9))]) hx hb dX6_goThrough_242 hl (by decide) rfl (fun ls hl => ?_)
                                              refine lv_iload hx hb dX6_goThrough_244 (lv_at hl 0 rfl) ?_
                                              refine lv_if_eq (tgt := 258) hx hb dX6_goThrough_246 (by decide) (fun c_246 => ?_) (fun c_246 => ?_)
                                              · skip
                                                refine lv_iload hx hb dX6_goThrough_258 (lv_at hl 2 rfl) ?_
                                                refine lv_iload hx hb dX6_goThrough_260 (lv_at hl 0 rfl) ?_
                                                refine lv_if_eq (tgt := 269) hx hb dX6_goThrough_262 (by decide) (fun c_262 => ?_) (fun c_262 => ?_)
                                                · skip
                                                  refine lv_iconst (v := 0) hx hb dX6_goThrough_269 (by decide) ?_
                                                  refine h_iaddN hx hb (pre.length + 0) 0 dX6_goThrough_270 ?_
                                                  refine lv_istore (lv' := [(6, .int (nI ((pre.length + 0) + 0))), (13, .int 0), (12, .int 1), (11, .int (iI (r : Int))), (10, .int (iI l0)), (0, .ref (ma 0)), (1, .int (nI N)), (2, .int 2), (3, .int vl), (4, .int (nI (4 * N))), (5, .int (nI (rt (4 * N)))), (7, .int (iI a9)), (8, .int (iI b9)), (9, .int (iI c9))]) hx hb dX6_goThrough_271 hl (by decide) rfl (fun ls hl => ?_)
                                                  refine lv_iinc (v := 2) (lv' := [(12, .int 2), (6, .int (nI ((pre.length + 0) + 0))), (13, .int 0), (11, .int (iI (r : Int))), (10, .int (iI l0)), (0, .ref (ma 0)), (1, .int (nI N)), (2, .int 2), (3, .int vl), (4, .int (nI (4 * N))), (5, .int (nI (rt (4 * N)))), (7, .int (iI a9)), (8, .int (iI b9)), (9, .int (iI c9))]) hx hb dX6_goThrough_273 hl (k := 2) rfl (by decide) (by decide) rfl (fun ls hl => ?_)
                                                  refine lv_goto (tgt := 108) hx hb dX6_goThrough_276 (by decide) ?_
                                                  refine lv_iload hx hb dX6_goThrough_108 (lv_at hl 0 rfl) ?_
                                                  refine lv_iconst (v := 2) hx hb dX6_goThrough_110 (by decide) ?_
                                                  refine lv_icmp_ge (tgt := 279) hx hb dX6_goThrough_111 (by decide) (fun c_111 => ?_) (fun c_111 => ?_)
                                                  · skip
                                                    obtain ⟨i9, ei9⟩ : ∃ y : Int32, y = (iI c9) + (-1) := ⟨_, rfl⟩
                                                    refine lv_iinc (v := i9) (lv' := [(9, .int i9), (12, .int 2), (6, .int (nI ((pre.length + 0) + 0))), (13, .int 0), (11, .int (iI (r : Int))), (10, .int (iI l0)), (0, .ref (ma 0)), (1, .int (nI N)), (2, .int 2), (3, .int vl), (4, .int (nI (4 * N))), (5, .int (nI (rt (4 * N)))), (7, .int (iI a9)), (8, .int (iI b9))]) hx hb dX6_goThrough_279 hl (k := 13) rfl (by rw [ei9, show Int32.ofInt (-1) = -1 from by decide]) (by decide) rfl (fun ls hl => ?_)
                                                    refine lv_goto (tgt := 43) hx hb dX6_goThrough_282 (by decide) ?_
                                                    exact ihc (pre) _ _ _ _ ls (by omega) hg2 (MW.setv (MW.setv (MW.setv (MW.setv (MW.setv (MW.setv (MW.setv (MW.setv hM2 (i := 8) (by decide) (by decide) ((iI a9).toInt64, (mv2 8).2.1, (mv2 8).2.2.1, (mv2 8).2.2.2)) (i := 8) (by decide) (by decide) ((iI a9).toInt64, (iI b9).toInt64, (mv2 8).2.2.1, (mv2 8).2.2.2)) (i := 8) (by decide) (by decide) ((iI a9).toInt64, (iI b9).toInt64, (iI c9).toInt64, (mv2 8).2.2.2)) (i := 8) (by decide) (by decide) ((iI a9).toInt64, (iI b9).toInt64, (iI c9).toInt64, (iI (r : Int)).toInt64)) (i := 8) (by decide) (by decide) ((iI a9).toInt64, (iI b9).toInt64, (iI c9).toInt64, (iI (r : Int)).toInt64)) (i := 8) (by decide) (by decide) ((iI a9).toInt64, (iI b9).toInt64, (iI c9).toInt64, (iI (r : Int)).toInt64)) (i := 8) (by decide) (by decide) ((iI a9).toInt64, (iI b9).toInt64, (iI c9).toInt64, (iI (r : Int)).toInt64)) (i := 8) (by decide) (by decide) ((iI a9).toInt64, (iI b9).toInt64, (iI c9).toInt64, (iI (-(r : Int))).toInt64)) hw (lv_sub (l' := [(0, .ref (ma 0)), (1, .int (nI N)), (2, .int 2), (3, .int vl), (4, .int (nI (4 * N))), (5, .int (nI (rt (4 * N)))), (6, .int (nI (pre).length)), (7, .int (iI a9)), (8, .int (iI b9)), (9, .int (iI ((kc : Int) - 1 - (rt (4 * N) : Int))))]) hl [6, 7, 8, 9, 10, 11, 2, 12, 13, 0] (by rw [show iI ((kc : Int) - 1 - (rt (4 * N) : Int)) = i9 from by rw [ei9, show ((kc : Int) - 1 - (rt (4 * N) : Int)) = c9 + -1 by omega, ← iI_add]; rfl]; first | rfl | (rw [List.length_append]; rfl) | (rw [List.length_append, List.length_append]; rfl)))
                                                  · skip
                                                    first | exact absurd c_111 (by decide) | exact absurd (by decide) c_111
                                                · skip
                                                  first | exact absurd c_262 (by decide) | exact absurd (by decide) c_262
                                              · skip
                                                first | exact absurd c_246 (by decide) | exact absurd (by decide) c_246
                                            · skip
                                              exact absurd (bI_ne.mp c_192) hz1
                                          · skip
                                            first | exact absurd c_163 (by decide) | exact absurd (by decide) c_163
                                  · skip
                                    first | exact absurd c_262 (by decide) | exact absurd (by decide) c_262
                                · skip
                                  first | exact absurd c_246 (by decide) | exact absurd (by decide) c_246
                              · skip
                                have c_192 := bI_ne.mp c_192
                                have hz1 := c_192
                                refine lv_iload hx hb dX6_goThrough_195 (lv_at hl 0 rfl) ?_
                                refine lv_if_eq (tgt := 205) hx hb dX6_goThrough_197 (by decide) (fun c_197 => ?_) (fun c_197 => ?_)
                                · skip
                                  refine lv_iload_n hx hb dX6_goThrough_205 rfl (lv_at hl 5 rfl) ?_
                                  refine lv_if_eq (tgt := 237) hx hb dX6_goThrough_206 (by decide) (fun c_206 => ?_) (fun c_206 => ?_)
                                  · skip
                                    first | exact absurd c_206 (by decide) | exact absurd (by decide) c_206
                                  · skip
                                    refine lv_iload_n hx hb dX6_goThrough_209 rfl (lv_at hl 5 rfl) ?_
                                    refine lv_iconst (v := 1) hx hb dX6_goThrough_210 (by decide) ?_
                                    refine lv_icmp_ne (tgt := 221) hx hb dX6_goThrough_211 (by decide) (fun c_211 => ?_) (fun c_211 => ?_)
                                    · skip
                                      refine lv_iload_n hx hb dX6_goThrough_221 rfl (lv_at hl 5 rfl) ?_
                                      refine lv_iconst (v := 2) hx hb dX6_goThrough_222 (by decide) ?_
                                      refine lv_icmp_ne (tgt := 241) hx hb dX6_goThrough_223 (by decide) (fun c_223 => ?_) (fun c_223 => ?_)
                                      · skip
                                        first | exact absurd c_223 (by decide) | exact absurd (by decide) c_223
                                      · skip
                                        refine lv_aload_n hx hb dX6_goThrough_226 rfl (lv_at hl 3 rfl) ?_
                                        refine lv_aload_n hx hb dX6_goThrough_227 rfl (lv_at hl 3 rfl) ?_
                                        refine h_get hx hb hE hw hts hinX6 hown (ci := 6) rfl 8 (by decide) lk_32 (fun _ h9 => h9) (pt_ne (pt_ne (pt_ne (pt_ne hM2.ob (hM.ne (i := 0) (j := 8) (by decide) (by decide) (by decide))) (hM.ne (i := 0) (j := 8) (by decide) (by decide) (by decide))) (hM.ne (i := 0) (j := 8) (by decide) (by decide) (by decide))) (hM.ne (i := 0) (j := 8) (by decide) (by decide) (by decide))) rfl dX6_goThrough_228 ?_
                                        refine h_callV (st1 := [.int (bI (qpi (a9, b9, c9, (r : Int))))]) [.ref (ma 8)] [] ⟨hx, hb, hml, hown, hts⟩ hE hw (HT.to (c_X6_isPrimitiveQ l G A ma (va_up (va_up (va_up (va_up F (ma 8) (eJ4 G ((iI a9).toInt64, (mv2 8).2.1, (mv2 8).2.2.1, (mv2 8).2.2.2))) (ma 8) (eJ4 G ((iI a9).toInt64, (iI b9).toInt64, (mv2 8).2.2.1, (mv2 8).2.2.2))) (ma 8) (eJ4 G ((iI a9).toInt64, (iI b9).toInt64, (iI c9).toInt64, (mv2 8).2.2.2))) (ma 8) (eJ4 G ((iI a9).toInt64, (iI b9).toInt64, (iI c9).toInt64, (iI (r : Int)).toInt64))) _ _ _ _ _ _ _ _ (MW.setv (MW.setv (MW.setv (MW.setv hM2 (i := 8) (by decide) (by decide) ((iI a9).toInt64, (mv2 8).2.1, (mv2 8).2.2.1, (mv2 8).2.2.2)) (i := 8) (by decide) (by decide) ((iI a9).toInt64, (iI b9).toInt64, (mv2 8).2.2.1, (mv2 8).2.2.2)) (i := 8) (by decide) (by decide) ((iI a9).toInt64, (iI b9).toInt64, (iI c9).toInt64, (mv2 8).2.2.2)) (i := 8) (by decide) (by decide) ((iI a9).toInt64, (iI b9).toInt64, (iI c9).toInt64, (iI (r : Int)).toInt64)) 8 (by decide) (by decide) (q4i (a9, b9, c9, (r : Int))) (pt_up (pt_up (pt_up (pt_up (hM2.v (i := 8) (by decide) (by decide)))))) (q4i_nh (t := (a9, b9, c9, (r : Int))) ⟨by dsimp only; omega, by dsimp only; omega, by dsimp only; omega, by dsimp only; omega⟩)) (V2 := some (.int (bI (qpi (a9, b9, c9, (r : Int)))))) (congrArg (fun y => some (Value.int (bI y))) (propext (qpi_iff (a9, b9, c9, (r : Int)))).symm) rfl) (cwV 1 hts gX6_goThrough_X6_isPrimitive rfl rfl rfl (by decide +kernel) ⟨Nat.le_of_ble_eq_true rfl, Nat.le_of_ble_eq_true rfl⟩) (pt_ne (pt_ne (pt_ne (pt_ne hM2.ob (hM.ne (i := 0) (j := 8) (by decide) (by decide) (by decide))) (hM.ne (i := 0) (j := 8) (by decide) (by decide) (by decide))) (hM.ne (i := 0) (j := 8) (by decide) (by decide) (by decide))) (hM.ne (i := 0) (j := 8) (by decide) (by decide) (by decide))) rfl rfl rfl hl.1 rfl (Nat.le_of_ble_eq_true rfl) dX6_goThrough_231 ⟨Nat.le_of_ble_eq_true rfl, Nat.le_of_ble_eq_true rfl⟩ rfl (fun H locs hw => ?_)
                                        refine lv_if_eq (tgt := 241) hx hb dX6_goThrough_234 (by decide) (fun c_234 => ?_) (fun c_234 => ?_)
                                        · skip
                                          have c_234 := bI_eq.mp c_234
                                          have hqp0 := c_234
                                          refine lv_iconst (v := 0) hx hb dX6_goThrough_241 (by decide) ?_
                                          have hg1 := gt_u0 hg0 (fun q => hqp0 ((selP_2 _).mp q.2))
                                          refine lv_istore (lv' := [(13, .int 0), (12, .int 0), (11, .int (iI (r : Int))), (10, .int (iI l0)), (0, .ref (ma 0)), (1, .int (nI N)), (2, .int 2), (3, .int vl), (4, .int (nI (4 * N))), (5, .int (nI (rt (4 * N)))), (6, .int (nI pre.length)), (7, .int (iI a9)), (8, .int (iI b9)), (9, .int (iI c9))]) hx hb dX6_goThrough_242 hl (by decide) rfl (fun ls hl => ?_)
                                          refine lv_iload hx hb dX6_goThrough_244 (lv_at hl 0 rfl) ?_
                                          refine lv_if_eq (tgt := 258) hx hb dX6_goThrough_246 (by decide) (fun c_246 => ?_) (fun c_246 => ?_)
                                          · skip
                                            refine lv_iload hx hb dX6_goThrough_258 (lv_at hl 10 rfl) ?_
                                            refine lv_iload hx hb dX6_goThrough_260 (lv_at hl 0 rfl) ?_
                                            refine lv_if_eq (tgt := 269) hx hb dX6_goThrough_262 (by decide) (fun c_262 => ?_) (fun c_262 => ?_)
                                            · skip
                                              refine lv_iconst (v := 0) hx hb dX6_goThrough_269 (by decide) ?_
                                              refine h_iaddN hx hb pre.length 0 dX6_goThrough_270 ?_
                                              refine lv_istore (lv' := [(6, .int (nI (pre.length + 0))), (13, .int 0), (12, .int 0), (11, .int (iI (r : Int))), (10, .int (iI l0)), (0, .ref (ma 0)), (1, .int (nI N)), (2, .int 2), (3, .int vl), (4, .int (nI (4 * N))), (5, .int (nI (rt (4 * N)))), (7, .int (iI a9)), (8, .int (iI b9)), (9, .int (iI c9))]) hx hb dX6_goThrough_271 hl (by decide) rfl (fun ls hl => ?_)
                                              refine lv_iinc (v := 1) (lv' := [(12, .int 1), (6, .int (nI (pre.length + 0))), (13, .int 0), (11, .int (iI (r : Int))), (10, .int (iI l0)), (0, .ref (ma 0)), (1, .int (nI N)), (2, .int 2), (3, .int vl), (4, .int (nI (4 * N))), (5, .int (nI (rt (4 * N)))), (7, .int (iI a9)), (8, .int (iI b9)), (9, .int (iI c9))]) hx hb dX6_goThrough_273 hl (k := 2) rfl (by decide) (by decide) rfl (fun ls hl => ?_)
                                              refine lv_goto (tgt := 108) hx hb dX6_goThrough_276 (by decide) ?_
                                              refine lv_iload hx hb dX6_goThrough_108 (lv_at hl 0 rfl) ?_
                                              refine lv_iconst (v := 2) hx hb dX6_goThrough_110 (by decide) ?_
                                              refine lv_icmp_ge (tgt := 279) hx hb dX6_goThrough_111 (by decide) (fun c_111 => ?_) (fun c_111 => ?_)
                                              · skip
                                                first | exact absurd c_111 (by decide) | exact absurd (by decide) c_111
                                              · skip
                                                refine lv_iload hx hb dX6_goThrough_114 (lv_at hl 3 rfl) ?_
                                                refine lv_if_lt (tgt := 279) hx hb dX6_goThrough_116 (by decide) (fun c_116 => ?_) (fun c_116 => ?_)
                                                · skip
                                                  exact absurd ((iI_lt (b := 0) (by omega) (by omega) (by omega) (by omega)).mp c_116) (by omega)
                                                · skip
                                                  refine lv_iload hx hb dX6_goThrough_119 (lv_at hl 3 rfl) ?_
                                                  refine lv_iload hx hb dX6_goThrough_121 (lv_at hl 3 rfl) ?_
                                                  refine lv_imul hx hb dX6_goThrough_123 ?_
                                                  refine lv_iload hx hb dX6_goThrough_124 (lv_at hl 4 rfl) ?_
                                                  refine W.eq (g2 := F0 m 126 ls [.int (iI l0), .int (iI ((r : Int) * r))]) (by rw [iI_mul]) ?_
                                                  refine lv_icmp_ne (tgt := 279) hx hb dX6_goThrough_126 (by decide) (fun c_126 => ?_) (fun c_126 => ?_)
                                                  · skip
                                                    exact absurd (congrArg iI hsq) c_126
                                                  · skip
                                                    refine lv_aload_n hx hb dX6_goThrough_129 rfl (lv_at hl 5 rfl) ?_
                                                    refine h_get hx hb hE hw hts hinX6 hown (ci := 6) rfl 8 (by decide) lk_32 (fun _ h9 => h9) (pt_ne (pt_ne (pt_ne (pt_ne hM2.ob (hM.ne (i := 0) (j := 8) (by decide) (by decide) (by decide))) (hM.ne (i := 0) (j := 8) (by decide) (by decide) (by decide))) (hM.ne (i := 0) (j := 8) (by decide) (by decide) (by decide))) (hM.ne (i := 0) (j := 8) (by decide) (by decide) (by decide))) rfl dX6_goThrough_130 ?_
                                                    refine lv_iconst (v := 0) hx hb dX6_goThrough_133 (by decide) ?_
                                                    refine lv_iload hx hb dX6_goThrough_134 (lv_at hl 11 rfl) ?_
                                                    refine lv_i2l hx hb dX6_goThrough_136 rfl ?_
                                                    refine h_last hx hb hE hw (pt_up (pt_up (pt_up (pt_up (hM2.v (i := 8) (by decide) (by decide)))))) (n := 4) (vp_in_nI (n := 0) (N := 4) (by decide) (by decide)) (g := vp_updL (q4f ((iI a9).toInt64, (iI b9).toInt64, (iI c9).toInt64, (iI (r : Int)).toInt64)) 0 ((iI a9).toInt64)) rfl dX6_goThrough_137 (fun H locs hw => ?_)
                                                    have hw := wo_same hw (at_sameJ (G := G) (n := 4) (st4_0 ((iI a9).toInt64, (iI b9).toInt64, (iI c9).toInt64, (iI (r : Int)).toInt64) ((iI a9).toInt64)))
                                                    refine lv_aload_n hx hb dX6_goThrough_138 rfl (lv_at hl 5 rfl) ?_
                                                    refine h_get hx hb hE hw hts hinX6 hown (ci := 6) rfl 8 (by decide) lk_32 (fun _ h9 => h9) (pt_ne (pt_ne (pt_ne (pt_ne (pt_ne hM2.ob (hM.ne (i := 0) (j := 8) (by decide) (by decide) (by decide))) (hM.ne (i := 0) (j := 8) (by decide) (by decide) (by decide))) (hM.ne (i := 0) (j := 8) (by decide) (by decide) (by decide))) (hM.ne (i := 0) (j := 8) (by decide) (by decide) (by decide))) (hM.ne (i := 0) (j := 8) (by decide) (by decide) (by decide))) rfl dX6_goThrough_139 ?_
                                                    refine lv_iconst (v := 1) hx hb dX6_goThrough_142 (by decide) ?_
                                                    refine lv_iload hx hb dX6_goThrough_143 (lv_at hl 12 rfl) ?_
                                                    refine lv_i2l hx hb dX6_goThrough_145 rfl ?_
                                                    refine h_last hx hb hE hw (pt_up (pt_up (pt_up (pt_up (pt_up (hM2.v (i := 8) (by decide) (by decide))))))) (n := 4) (vp_in_nI (n := 1) (N := 4) (by decide) (by decide)) (g := vp_updL (q4f ((iI a9).toInt64, (iI b9).toInt64, (iI c9).toInt64, (iI (r : Int)).toInt64)) 1 ((iI b9).toInt64)) rfl dX6_goThrough_146 (fun H locs hw => ?_)
                                                    have hw := wo_same hw (at_sameJ (G := G) (n := 4) (st4_1 ((iI a9).toInt64, (iI b9).toInt64, (iI c9).toInt64, (iI (r : Int)).toInt64) ((iI b9).toInt64)))
                                                    refine lv_aload_n hx hb dX6_goThrough_147 rfl (lv_at hl 5 rfl) ?_
                                                    refine h_get hx hb hE hw hts hinX6 hown (ci := 6) rfl 8 (by decide) lk_32 (fun _ h9 => h9) (pt_ne (pt_ne (pt_ne (pt_ne (pt_ne (pt_ne hM2.ob (hM.ne (i := 0) (j := 8) (by decide) (by decide) (by decide))) (hM.ne (i := 0) (j := 8) (by decide) (by decide) (by decide))) (hM.ne (i := 0) (j := 8) (by decide) (by decide) (by decide))) (hM.ne (i := 0) (j := 8) (by decide) (by decide) (by decide))) (hM.ne (i := 0) (j := 8) (by decide) (by decide) (by decide))) (hM.ne (i := 0) (j := 8) (by decide) (by decide) (by decide))) rfl dX6_goThrough_148 ?_
                                                    refine lv_iconst (v := 2) hx hb dX6_goThrough_151 (by decide) ?_
                                                    refine lv_iload hx hb dX6_goThrough_152 (lv_at hl 13 rfl) ?_
                                                    refine lv_i2l hx hb dX6_goThrough_154 rfl ?_
                                                    refine h_last hx hb hE hw (pt_up (pt_up (pt_up (pt_up (pt_up (pt_up (hM2.v (i := 8) (by decide) (by decide)))))))) (n := 4) (vp_in_nI (n := 2) (N := 4) (by decide) (by decide)) (g := vp_updL (q4f ((iI a9).toInt64, (iI b9).toInt64, (iI c9).toInt64, (iI (r : Int)).toInt64)) 2 ((iI c9).toInt64)) rfl dX6_goThrough_155 (fun H locs hw => ?_)
                                                    have hw := wo_same hw (at_sameJ (G := G) (n := 4) (st4_2 ((iI a9).toInt64, (iI b9).toInt64, (iI c9).toInt64, (iI (r : Int)).toInt64) ((iI c9).toInt64)))
                                                    refine lv_aload_n hx hb dX6_goThrough_156 rfl (lv_at hl 5 rfl) ?_
                                                    refine h_get hx hb hE hw hts hinX6 hown (ci := 6) rfl 8 (by decide) lk_32 (fun _ h9 => h9) (pt_ne (pt_ne (pt_ne (pt_ne (pt_ne (pt_ne (pt_ne hM2.ob (hM.ne (i := 0) (j := 8) (by decide) (by decide) (by decide))) (hM.ne (i := 0) (j := 8) (by decide) (by decide) (by decide))) (hM.ne (i := 0) (j := 8) (by decide) (by decide) (by decide))) (hM.ne (i := 0) (j := 8) (by decide) (by decide) (by decide))) (hM.ne (i := 0) (j := 8) (by decide) (by decide) (by decide))) (hM.ne (i := 0) (j := 8) (by decide) (by decide) (by decide))) (hM.ne (i := 0) (j := 8) (by decide) (by decide) (by decide))) rfl dX6_goThrough_157 ?_
                                                    refine lv_iconst (v := 3) hx hb dX6_goThrough_160 (by decide) ?_
                                                    refine lv_iload hx hb dX6_goThrough_161 (lv_at hl 0 rfl) ?_
                                                    refine lv_if_ne (tgt := 172) hx hb dX6_goThrough_163 (by decide) (fun c_163 => ?_) (fun c_163 => ?_)
                                                    · skip
                                                      refine lv_iload hx hb dX6_goThrough_172 (lv_at hl 3 rfl) ?_
                                                      refine lv_ineg hx hb dX6_goThrough_174 ?_
                                                      refine lv_i2l hx hb dX6_goThrough_175 rfl ?_
                                                      refine W.eq (g2 := F0 m 176 ls [.long ((iI (-(r : Int))).toInt64), .int 3, .ref (ma 8)]) (by rw [neg_iI]) ?_
                                                      refine h_last hx hb hE hw (pt_up (pt_up (pt_up (pt_up (pt_up (pt_up (pt_up (hM2.v (i := 8) (by decide) (by decide))))))))) (n := 4) (vp_in_nI (n := 3) (N := 4) (by decide) (by decide)) (g := vp_updL (q4f ((iI a9).toInt64, (iI b9).toInt64, (iI c9).toInt64, (iI (r : Int)).toInt64)) 3 ((iI (-(r : Int))).toInt64)) rfl dX6_goThrough_176 (fun H locs hw => ?_)
                                                      have hw := wo_same hw (at_sameJ (G := G) (n := 4) (st4_3 ((iI a9).toInt64, (iI b9).toInt64, (iI c9).toInt64, (iI (r : Int)).toInt64) ((iI (-(r : Int))).toInt64)))
                                                      refine lv_iload hx hb dX6_goThrough_177 (lv_at hl 11 rfl) ?_
                                                      refine lv_i2l hx hb dX6_goThrough_179 rfl ?_
                                                      refine lv_iload hx hb dX6_goThrough_180 (lv_at hl 12 rfl) ?_
                                                      refine lv_i2l hx hb dX6_goThrough_182 rfl ?_
                                                      refine lv_iload hx hb dX6_goThrough_183 (lv_at hl 13 rfl) ?_
                                                      refine lv_i2l hx hb dX6_goThrough_185 rfl ?_
                                                      refine lv_iload hx hb dX6_goThrough_186 (lv_at hl 3 rfl) ?_
                                                      refine lv_i2l hx hb dX6_goThrough_188 rfl ?_
                                                      refine h_callS (st1 := [.int (bI (oneM ((iI a9).toInt64) ((iI b9).toInt64) ((iI c9).toInt64) ((iI (r : Int)).toInt64)))]) [.long ((iI a9).toInt64), .long ((iI b9).toInt64), .long ((iI c9).toInt64), .long ((iI (r : Int)).toInt64)] [] ⟨hx, hb, hml, hown, hts⟩ hE hw (c_X6_isOne l G A (ML ma) (va_up (va_up (va_up (va_up (va_up (va_up (va_up (va_up F (ma 8) (eJ4 G ((iI a9).toInt64, (mv2 8).2.1, (mv2 8).2.2.1, (mv2 8).2.2.2))) (ma 8) (eJ4 G ((iI a9).toInt64, (iI b9).toInt64, (mv2 8).2.2.1, (mv2 8).2.2.2))) (ma 8) (eJ4 G ((iI a9).toInt64, (iI b9).toInt64, (iI c9).toInt64, (mv2 8).2.2.2))) (ma 8) (eJ4 G ((iI a9).toInt64, (iI b9).toInt64, (iI c9).toInt64, (iI (r : Int)).toInt64))) (ma 8) (eJ4 G ((iI a9).toInt64, (iI b9).toInt64, (iI c9).toInt64, (iI (r : Int)).toInt64))) (ma 8) (eJ4 G ((iI a9).toInt64, (iI b9).toInt64, (iI c9).toInt64, (iI (r : Int)).toInt64))) (ma 8) (eJ4 G ((iI a9).toInt64, (iI b9).toInt64, (iI c9).toInt64, (iI (r : Int)).toInt64))) (ma 8) (eJ4 G ((iI a9).toInt64, (iI b9).toInt64, (iI c9).toInt64, (iI (-(r : Int))).toInt64))) ((iI a9).toInt64) ((iI b9).toInt64) ((iI c9).toInt64) ((iI (r : Int)).toInt64)) (va_cwS 4 hts gX6_goThrough_X6_isOne rfl rfl rfl (by decide +kernel) ⟨Nat.le_of_ble_eq_true rfl, Nat.le_of_ble_eq_true rfl⟩) rfl hl.1 rfl (Nat.le_of_ble_eq_true rfl) dX6_goThrough_189 ⟨Nat.le_of_ble_eq_true rfl, Nat.le_of_ble_eq_true rfl⟩ rfl (fun H locs hw => ?_)
                                                      refine lv_if_eq (tgt := 241) hx hb dX6_goThrough_192 (by decide) (fun c_192 => ?_) (fun c_192 => ?_)
                                                      · skip
                                                        exact absurd hz1 (bI_eq.mp c_192)
                                                      · skip
                                                        have c_192 := bI_ne.mp c_192
                                                        refine lv_iload hx hb dX6_goThrough_195 (lv_at hl 0 rfl) ?_
                                                        refine lv_if_eq (tgt := 205) hx hb dX6_goThrough_197 (by decide) (fun c_197 => ?_) (fun c_197 => ?_)
                                                        · skip
                                                          first | exact absurd c_197 (by decide) | exact absurd (by decide) c_197
                                                        · skip
                                                          refine lv_iload hx hb dX6_goThrough_200 (lv_at hl 3 rfl) ?_
                                                          refine lv_if_le (tgt := 241) hx hb dX6_goThrough_202 (by decide) (fun c_202 => ?_) (fun c_202 => ?_)
                                                          · skip
                                                            have hd0 : ¬ 0 < r := fun q => absurd ((iI_le (b := 0) (by omega) (by omega) (by omega) (by omega)).mp c_202) (by omega)
                                                            refine lv_iconst (v := 0) hx hb dX6_goThrough_241 (by decide) ?_
                                                            have hg2 := gt_u1 hg1 (fun q => hd0 q.1)
                                                            refine lv_istore (lv' := [(13, .int 0), (12, .int 1), (6, .int (nI (pre.length + 0))), (11, .int (iI (r : Int))), (10, .int (iI l0)), (0, .ref (ma 0)), (1, .int (nI N)), (2, .int 2), (3, .int vl), (4, .int (nI (4 * N))), (5, .int (nI (rt (4 * N)))), (7, .int (iI a9)), (8, .int (iI b9)), (9, .int (iI c9))]) hx hb dX6_goThrough_242 hl (by decide) rfl (fun ls hl => ?_)
                                                            refine lv_iload hx hb dX6_goThrough_244 (lv_at hl 0 rfl) ?_
                                                            refine lv_if_eq (tgt := 258) hx hb dX6_goThrough_246 (by decide) (fun c_246 => ?_) (fun c_246 => ?_)
                                                            · skip
                                                              refine lv_iload hx hb dX6_goThrough_258 (lv_at hl 2 rfl) ?_
                                                              refine lv_iload hx hb dX6_goThrough_260 (lv_at hl 0 rfl) ?_
                                                              refine lv_if_eq (tgt := 269) hx hb dX6_goThrough_262 (by decide) (fun c_262 => ?_) (fun c_262 => ?_)
                                                              · skip
                                                                refine lv_iconst (v := 0) hx hb dX6_goThrough_269 (by decide) ?_
                                                                refine h_iaddN hx hb (pre.length + 0) 0 dX6_goThrough_270 ?_
                                                                refine lv_istore (lv' := [(6, .int (nI ((pre.length + 0) + 0))), (13, .int 0), (12, .int 1), (11, .int (iI (r : Int))), (10, .int (iI l0)), (0, .ref (ma 0)), (1, .int (nI N)), (2, .int 2), (3, .int vl), (4, .int (nI (4 * N))), (5, .int (nI (rt (4 * N)))), (7, .int (iI a9)), (8, .int (iI b9)), (9, .int (iI c9))]) hx hb dX6_goThrough_271 hl (by decide) rfl (fun ls hl => ?_)
                                                                refine lv_iinc (v := 2) (lv' := [(12, .int 2), (6, .int (nI ((pre.length + 0) + 0))), (13, .int 0), (11, .int (iI (r : Int))), (10, .int (iI l0)), (0, .ref (ma 0)), (1, .int (nI N)), (2, .int 2), (3, .int vl), (4, .int (nI (4 * N))), (5, .int (nI (rt (4 * N)))), (7, .int (iI a9)), (8, .int (iI b9)), (9, .int (iI c9))]) hx hb dX6_goThrough_273 hl (k := 2) rfl (by decide) (by decide) rfl (fun ls hl => ?_)
                                                                refine lv_goto (tgt := 108) hx hb dX6_goThrough_276 (by decide) ?_
                                                                refine lv_iload hx hb dX6_goThrough_108 (lv_at hl 0 rfl) ?_
                                                                refine lv_iconst (v := 2) hx hb dX6_goThrough_110 (by decide) ?_
                                                                refine lv_icmp_ge (tgt := 279) hx hb dX6_goThrough_111 (by decide) (fun c_111 => ?_) (fun c_111 => ?_)
                                                                · skip
                                                                  obtain ⟨i9, ei9⟩ : ∃ y : Int32, y = (iI c9) + (-1) := ⟨_, rfl⟩
                                                                  refine lv_iinc (v := i9) (lv' := [(9, .int i9), (12, .int 2), (6, .int (nI ((pre.length + 0) + 0))), (13, .int 0), (11, .int (iI (r : Int))), (10, .int (iI l0)), (0, .ref (ma 0)), (1, .int (nI N)), (2, .int 2), (3, .int vl), (4, .int (nI (4 * N))), (5, .int (nI (rt (4 * N)))), (7, .int (iI a9)), (8, .int (iI b9))]) hx hb dX6_goThrough_279 hl (k := 13) rfl (by rw [ei9, show Int32.ofInt (-1) = -1 from by decide]) (by decide) rfl (fun ls hl => ?_)
                                                                  refine lv_goto (tgt := 43) hx hb dX6_goThrough_282 (by decide) ?_
                                                                  exact ihc (pre) _ _ _ _ ls (by omega) hg2 (MW.setv (MW.setv (MW.setv (MW.setv (MW.setv (MW.setv (MW.setv (MW.setv hM2 (i := 8) (by decide) (by decide) ((iI a9).toInt64, (mv2 8).2.1, (mv2 8).2.2.1, (mv2 8).2.2.2)) (i := 8) (by decide) (by decide) ((iI a9).toInt64, (iI b9).toInt64, (mv2 8).2.2.1, (mv2 8).2.2.2)) (i := 8) (by decide) (by decide) ((iI a9).toInt64, (iI b9).toInt64, (iI c9).toInt64, (mv2 8).2.2.2)) (i := 8) (by decide) (by decide) ((iI a9).toInt64, (iI b9).toInt64, (iI c9).toInt64, (iI (r : Int)).toInt64)) (i := 8) (by decide) (by decide) ((iI a9).toInt64, (iI b9).toInt64, (iI c9).toInt64, (iI (r : Int)).toInt64)) (i := 8) (by decide) (by decide) ((iI a9).toInt64, (iI b9).toInt64, (iI c9).toInt64, (iI (r : Int)).toInt64)) (i := 8) (by decide) (by decide) ((iI a9).toInt64, (iI b9).toInt64, (iI c9).toInt64, (iI (r : Int)).toInt64)) (i := 8) (by decide) (by decide) ((iI a9).toInt64, (iI b9).toInt64, (iI c9).toInt64, (iI (-(r : Int))).toInt64)) hw (lv_sub (l' := [(0, .ref (ma 0)), (1, .int (nI N)), (2, .int 2), (3, .int vl), (4, .int (nI (4 * N))), (5, .int (nI (rt (4 * N)))), (6, .int (nI (pre).length)), (7, .int (iI a9)), (8, .int (iI b9)), (9, .int (iI ((kc : Int) - 1 - (rt (4 * N) : Int))))]) hl [6, 7, 8, 9, 10, 11, 2, 12, 13, 0] (by rw [show iI ((kc : Int) - 1 - (rt (4 * N) : Int)) = i9 from by rw [ei9, show ((kc : Int) - 1 - (rt (4 * N) : Int)) = c9 + -1 by omega, ← iI_add]; rfl]; first | rfl | (rw [List.length_append]; rfl) | (rw [List.length_append, List.length_append]; rfl)))
                                                                · skip
                                                                  first | exact absurd c_111 (by decide) | exact absurd (by decide) c_111
                                                              · skip
                                                                first | exact absurd c_262 (by decide) | exact absurd (by decide) c_262
                                                            · skip
                                                              first | exact absurd c_246 (by decide) | exact absurd (by decide) c_246
                                                          · skip
                                                            have hd0 : 0 < r := by
                                                              rcases Nat.eq_zero_or_pos r with q | q
                                                              · exact absurd ((iI_le (b := 0) (by omega) (by omega) (by omega) (by omega)).mpr (show (r : Int) ≤ 0 by omega)) c_202
                                                              · exact q
                                                            refine lv_iload_n hx hb dX6_goThrough_205 rfl (lv_at hl 7 rfl) ?_
                                                            refine lv_if_eq (tgt := 237) hx hb dX6_goThrough_206 (by decide) (fun c_206 => ?_) (fun c_206 => ?_)
                                                            · skip
                                                              first | exact absurd c_206 (by decide) | exact absurd (by decide) c_206
                                                            · skip
                                                              refine lv_iload_n hx hb dX6_goThrough_209 rfl (lv_at hl 7 rfl) ?_
                                                              refine lv_iconst (v := 1) hx hb dX6_goThrough_210 (by decide) ?_
                                                              refine lv_icmp_ne (tgt := 221) hx hb dX6_goThrough_211 (by decide) (fun c_211 => ?_) (fun c_211 => ?_)
                                                              · skip
                                                                refine lv_iload_n hx hb dX6_goThrough_221 rfl (lv_at hl 7 rfl) ?_
                                                                refine lv_iconst (v := 2) hx hb dX6_goThrough_222 (by decide) ?_
                                                                refine lv_icmp_ne (tgt := 241) hx hb dX6_goThrough_223 (by decide) (fun c_223 => ?_) (fun c_223 => ?_)
                                                                · skip
                                                                  first | exact absurd c_223 (by decide) | exact absurd (by decide) c_223
                                                                · skip
                                                                  refine lv_aload_n hx hb dX6_goThrough_226 rfl (lv_at hl 5 rfl) ?_
                                                                  refine lv_aload_n hx hb dX6_goThrough_227 rfl (lv_at hl 5 rfl) ?_
                                                                  refine h_get hx hb hE hw hts hinX6 hown (ci := 6) rfl 8 (by decide) lk_32 (fun _ h9 => h9) (pt_ne (pt_ne (pt_ne (pt_ne (pt_ne (pt_ne (pt_ne (pt_ne hM2.ob (hM.ne (i := 0) (j := 8) (by decide) (by decide) (by decide))) (hM.ne (i := 0) (j := 8) (by decide) (by decide) (by decide))) (hM.ne (i := 0) (j := 8) (by decide) (by decide) (by decide))) (hM.ne (i := 0) (j := 8) (by decide) (by decide) (by decide))) (hM.ne (i := 0) (j := 8) (by decide) (by decide) (by decide))) (hM.ne (i := 0) (j := 8) (by decide) (by decide) (by decide))) (hM.ne (i := 0) (j := 8) (by decide) (by decide) (by decide))) (hM.ne (i := 0) (j := 8) (by decide) (by decide) (by decide))) rfl dX6_goThrough_228 ?_
                                                                  refine h_callV (st1 := [.int (bI (qpi (a9, b9, c9, -(r : Int))))]) [.ref (ma 8)] [] ⟨hx, hb, hml, hown, hts⟩ hE hw (HT.to (c_X6_isPrimitiveQ l G A ma (va_up (va_up (va_up (va_up (va_up (va_up (va_up (va_up F (ma 8) (eJ4 G ((iI a9).toInt64, (mv2 8).2.1, (mv2 8).2.2.1, (mv2 8).2.2.2))) (ma 8) (eJ4 G ((iI a9).toInt64, (iI b9).toInt64, (mv2 8).2.2.1, (mv2 8).2.2.2))) (ma 8) (eJ4 G ((iI a9).toInt64, (iI b9).toInt64, (iI c9).toInt64, (mv2 8).2.2.2))) (ma 8) (eJ4 G ((iI a9).toInt64, (iI b9).toInt64, (iI c9).toInt64, (iI (r : Int)).toInt64))) (ma 8) (eJ4 G ((iI a9).toInt64, (iI b9).toInt64, (iI c9).toInt64, (iI (r : Int)).toInt64))) (ma 8) (eJ4 G ((iI a9).toInt64, (iI b9).toInt64, (iI c9).toInt64, (iI (r : Int)).toInt64))) (ma 8) (eJ4 G ((iI a9).toInt64, (iI b9).toInt64, (iI c9).toInt64, (iI (r : Int)).toInt64))) (ma 8) (eJ4 G ((iI a9).toInt64, (iI b9).toInt64, (iI c9).toInt64, (iI (-(r : Int))).toInt64))) _ _ _ _ _ _ _ _ (MW.setv (MW.setv (MW.setv (MW.setv (MW.setv (MW.setv (MW.setv (MW.setv hM2 (i := 8) (by decide) (by decide) ((iI a9).toInt64, (mv2 8).2.1, (mv2 8).2.2.1, (mv2 8).2.2.2)) (i := 8) (by decide) (by decide) ((iI a9).toInt64, (iI b9).toInt64, (mv2 8).2.2.1, (mv2 8).2.2.2)) (i := 8) (by decide) (by decide) ((iI a9).toInt64, (iI b9).toInt64, (iI c9).toInt64, (mv2 8).2.2.2)) (i := 8) (by decide) (by decide) ((iI a9).toInt64, (iI b9).toInt64, (iI c9).toInt64, (iI (r : Int)).toInt64)) (i := 8) (by decide) (by decide) ((iI a9).toInt64, (iI b9).toInt64, (iI c9).toInt64, (iI (r : Int)).toInt64)) (i := 8) (by decide) (by decide) ((iI a9).toInt64, (iI b9).toInt64, (iI c9).toInt64, (iI (r : Int)).toInt64)) (i := 8) (by decide) (by decide) ((iI a9).toInt64, (iI b9).toInt64, (iI c9).toInt64, (iI (r : Int)).toInt64)) (i := 8) (by decide) (by decide) ((iI a9).toInt64, (iI b9).toInt64, (iI c9).toInt64, (iI (-(r : Int))).toInt64)) 8 (by decide) (by decide) (q4i (a9, b9, c9, -(r : Int))) (pt_up (pt_up (pt_up (pt_up (pt_up (pt_up (pt_up (pt_up (hM2.v (i := 8) (by decide) (by decide)))))))))) (q4i_nh (t := (a9, b9, c9, -(r : Int))) ⟨by dsimp only; omega, by dsimp only; omega, by dsimp only; omega, by dsimp only; omega⟩)) (V2 := some (.int (bI (qpi (a9, b9, c9, -(r : Int)))))) (congrArg (fun y => some (Value.int (bI y))) (propext (qpi_iff (a9, b9, c9, -(r : Int)))).symm) rfl) (cwV 1 hts gX6_goThrough_X6_isPrimitive rfl rfl rfl (by decide +kernel) ⟨Nat.le_of_ble_eq_true rfl, Nat.le_of_ble_eq_true rfl⟩) (pt_ne (pt_ne (pt_ne (pt_ne (pt_ne (pt_ne (pt_ne (pt_ne hM2.ob (hM.ne (i := 0) (j := 8) (by decide) (by decide) (by decide))) (hM.ne (i := 0) (j := 8) (by decide) (by decide) (by decide))) (hM.ne (i := 0) (j := 8) (by decide) (by decide) (by decide))) (hM.ne (i := 0) (j := 8) (by decide) (by decide) (by decide))) (hM.ne (i := 0) (j := 8) (by decide) (by decide) (by decide))) (hM.ne (i := 0) (j := 8) (by decide) (by decide) (by decide))) (hM.ne (i := 0) (j := 8) (by decide) (by decide) (by decide))) (hM.ne (i := 0) (j := 8) (by decide) (by decide) (by decide))) rfl rfl rfl hl.1 rfl (Nat.le_of_ble_eq_true rfl) dX6_goThrough_231 ⟨Nat.le_of_ble_eq_true rfl, Nat.le_of_ble_eq_true rfl⟩ rfl (fun H locs hw => ?_)
                                                                  refine lv_if_eq (tgt := 241) hx hb dX6_goThrough_234 (by decide) (fun c_234 => ?_) (fun c_234 => ?_)
                                                                  · skip
                                                                    have c_234 := bI_eq.mp c_234
                                                                    have hqp1 := c_234
                                                                    refine lv_iconst (v := 0) hx hb dX6_goThrough_241 (by decide) ?_
                                                                    have hg2 := gt_u1 hg1 (fun q => hqp1 ((selP_2 _).mp q.2.2))
                                                                    refine lv_istore (lv' := [(13, .int 0), (12, .int 1), (6, .int (nI (pre.length + 0))), (11, .int (iI (r : Int))), (10, .int (iI l0)), (0, .ref (ma 0)), (1, .int (nI N)), (2, .int 2), (3, .int vl), (4, .int (nI (4 * N))), (5, .int (nI (rt (4 * N)))), (7, .int (iI a9)), (8, .int (iI b9)), (9, .int (iI c9))]) hx hb dX6_goThrough_242 hl (by decide) rfl (fun ls hl => ?_)
                                                                    refine lv_iload hx hb dX6_goThrough_244 (lv_at hl 0 rfl) ?_
                                                                    refine lv_if_eq (tgt := 258) hx hb dX6_goThrough_246 (by decide) (fun c_246 => ?_) (fun c_246 => ?_)
                                                                    · skip
                                                                      refine lv_iload hx hb dX6_goThrough_258 (lv_at hl 2 rfl) ?_
                                                                      refine lv_iload hx hb dX6_goThrough_260 (lv_at hl 0 rfl) ?_
                                                                      refine lv_if_eq (tgt := 269) hx hb dX6_goThrough_262 (by decide) (fun c_262 => ?_) (fun c_262 => ?_)
                                                                      · skip
                                                                        refine lv_iconst (v := 0) hx hb dX6_goThrough_269 (by decide) ?_
                                                                        refine h_iaddN hx hb (pre.length + 0) 0 dX6_goThrough_270 ?_
                                                                        refine lv_istore (lv' := [(6, .int (nI ((pre.length + 0) + 0))), (13, .int 0), (12, .int 1), (11, .int (iI (r : Int))), (10, .int (iI l0)), (0, .ref (ma 0)), (1, .int (nI N)), (2, .int 2), (3, .int vl), (4, .int (nI (4 * N))), (5, .int (nI (rt (4 * N)))), (7, .int (iI a9)), (8, .int (iI b9)), (9, .int (iI c9))]) hx hb dX6_goThrough_271 hl (by decide) rfl (fun ls hl => ?_)
                                                                        refine lv_iinc (v := 2) (lv' := [(12, .int 2), (6, .int (nI ((pre.length + 0) + 0))), (13, .int 0), (11, .int (iI (r : Int))), (10, .int (iI l0)), (0, .ref (ma 0)), (1, .int (nI N)), (2, .int 2), (3, .int vl), (4, .int (nI (4 * N))), (5, .int (nI (rt (4 * N)))), (7, .int (iI a9)), (8, .int (iI b9)), (9, .int (iI c9))]) hx hb dX6_goThrough_273 hl (k := 2) rfl (by decide) (by decide) rfl (fun ls hl => ?_)
                                                                        refine lv_goto (tgt := 108) hx hb dX6_goThrough_276 (by decide) ?_
                                                                        refine lv_iload hx hb dX6_goThrough_108 (lv_at hl 0 rfl) ?_
                                                                        refine lv_iconst (v := 2) hx hb dX6_goThrough_110 (by decide) ?_
                                                                        refine lv_icmp_ge (tgt := 279) hx hb dX6_goThrough_111 (by decide) (fun c_111 => ?_) (fun c_111 => ?_)
                                                                        · skip
                                                                          obtain ⟨i9, ei9⟩ : ∃ y : Int32, y = (iI c9) + (-1) := ⟨_, rfl⟩
                                                                          refine lv_iinc (v := i9) (lv' := [(9, .int i9), (12, .int 2), (6, .int (nI ((pre.length + 0) + 0))), (13, .int 0), (11, .int (iI (r : Int))), (10, .int (iI l0)), (0, .ref (ma 0)), (1, .int (nI N)), (2, .int 2), (3, .int vl), (4, .int (nI (4 * N))), (5, .int (nI (rt (4 * N)))), (7, .int (iI a9)), (8, .int (iI b9))]) hx hb dX6_goThrough_279 hl (k := 13) rfl (by rw [ei9, show Int32.ofInt (-1) = -1 from by decide]) (by decide) rfl (fun ls hl => ?_)
                                                                          refine lv_goto (tgt := 43) hx hb dX6_goThrough_282 (by decide) ?_
                                                                          exact ihc (pre) _ _ _ _ ls (by omega) hg2 (MW.setv (MW.setv (MW.setv (MW.setv (MW.setv (MW.setv (MW.setv (MW.setv hM2 (i := 8) (by decide) (by decide) ((iI a9).toInt64, (mv2 8).2.1, (mv2 8).2.2.1, (mv2 8).2.2.2)) (i := 8) (by decide) (by decide) ((iI a9).toInt64, (iI b9).toInt64, (mv2 8).2.2.1, (mv2 8).2.2.2)) (i := 8) (by decide) (by decide) ((iI a9).toInt64, (iI b9).toInt64, (iI c9).toInt64, (mv2 8).2.2.2)) (i := 8) (by decide) (by decide) ((iI a9).toInt64, (iI b9).toInt64, (iI c9).toInt64, (iI (r : Int)).toInt64)) (i := 8) (by decide) (by decide) ((iI a9).toInt64, (iI b9).toInt64, (iI c9).toInt64, (iI (r : Int)).toInt64)) (i := 8) (by decide) (by decide) ((iI a9).toInt64, (iI b9).toInt64, (iI c9).toInt64, (iI (r : Int)).toInt64)) (i := 8) (by decide) (by decide) ((iI a9).toInt64, (iI b9).toInt64, (iI c9).toInt64, (iI (r : Int)).toInt64)) (i := 8) (by decide) (by decide) ((iI a9).toInt64, (iI b9).toInt64, (iI c9).toInt64, (iI (-(r : Int))).toInt64)) hw (lv_sub (l' := [(0, .ref (ma 0)), (1, .int (nI N)), (2, .int 2), (3, .int vl), (4, .int (nI (4 * N))), (5, .int (nI (rt (4 * N)))), (6, .int (nI (pre).length)), (7, .int (iI a9)), (8, .int (iI b9)), (9, .int (iI ((kc : Int) - 1 - (rt (4 * N) : Int))))]) hl [6, 7, 8, 9, 10, 11, 2, 12, 13, 0] (by rw [show iI ((kc : Int) - 1 - (rt (4 * N) : Int)) = i9 from by rw [ei9, show ((kc : Int) - 1 - (rt (4 * N) : Int)) = c9 + -1 by omega, ← iI_add]; rfl]; first | rfl | (rw [List.length_append]; rfl) | (rw [List.length_append, List.length_append]; rfl)))
                                                                        · skip
                                                                          first | exact absurd c_111 (by decide) | exact absurd (by decide) c_111
                                                                      · skip
                                                                        first | exact absurd c_262 (by decide) | exact absurd (by decide) c_262
                                                                    · skip
                                                                      first | exact absurd c_246 (by decide) | exact absurd (by decide) c_246
                                                                  · skip
                                                                    have c_234 := bI_ne.mp c_234
                                                                    have hqp1 := c_234
                                                                    refine lv_iconst (v := 1) hx hb dX6_goThrough_237 (by decide) ?_
                                                                    refine lv_goto (tgt := 242) hx hb dX6_goThrough_238 (by decide) ?_
                                                                    have hg2 := gt_s1 hg1 (⟨hd0, h1i.2.mp hz1, (selP_2 _).mpr hqp1⟩)
                                                                    refine lv_istore (lv' := [(13, .int 1), (12, .int 1), (6, .int (nI (pre.length + 0))), (11, .int (iI (r : Int))), (10, .int (iI l0)), (0, .ref (ma 0)), (1, .int (nI N)), (2, .int 2), (3, .int vl), (4, .int (nI (4 * N))), (5, .int (nI (rt (4 * N)))), (7, .int (iI a9)), (8, .int (iI b9)), (9, .int (iI c9))]) hx hb dX6_goThrough_242 hl (by decide) rfl (fun ls hl => ?_)
                                                                    refine lv_iload hx hb dX6_goThrough_244 (lv_at hl 0 rfl) ?_
                                                                    refine lv_if_eq (tgt := 258) hx hb dX6_goThrough_246 (by decide) (fun c_246 => ?_) (fun c_246 => ?_)
                                                                    · skip
                                                                      first | exact absurd c_246 (by decide) | exact absurd (by decide) c_246
                                                                    · skip
                                                                      refine lv_iload hx hb dX6_goThrough_249 (lv_at hl 2 rfl) ?_
                                                                      refine lv_iload_n hx hb dX6_goThrough_251 rfl (lv_at hl 8 rfl) ?_
                                                                      refine lv_icmp_ne (tgt := 258) hx hb dX6_goThrough_252 (by decide) (fun c_252 => ?_) (fun c_252 => ?_)
                                                                      · skip
                                                                        have hg3 := gt_next hg2 (by first | exact c_252 | (rw [List.length_append]; exact c_252))
                                                                        refine lv_iload hx hb dX6_goThrough_258 (lv_at hl 2 rfl) ?_
                                                                        refine lv_iload hx hb dX6_goThrough_260 (lv_at hl 0 rfl) ?_
                                                                        refine lv_if_eq (tgt := 269) hx hb dX6_goThrough_262 (by decide) (fun c_262 => ?_) (fun c_262 => ?_)
                                                                        · skip
                                                                          first | exact absurd c_262 (by decide) | exact absurd (by decide) c_262
                                                                        · skip
                                                                          refine lv_iconst (v := 1) hx hb dX6_goThrough_265 (by decide) ?_
                                                                          refine lv_goto (tgt := 270) hx hb dX6_goThrough_266 (by decide) ?_
                                                                          refine h_iaddN hx hb (pre.length + 0) 1 dX6_goThrough_270 ?_
                                                                          refine lv_istore (lv' := [(6, .int (nI ((pre.length + 0) + 1))), (13, .int 1), (12, .int 1), (11, .int (iI (r : Int))), (10, .int (iI l0)), (0, .ref (ma 0)), (1, .int (nI N)), (2, .int 2), (3, .int vl), (4, .int (nI (4 * N))), (5, .int (nI (rt (4 * N)))), (7, .int (iI a9)), (8, .int (iI b9)), (9, .int (iI c9))]) hx hb dX6_goThrough_271 hl (by decide) rfl (fun ls hl => ?_)
                                                                          refine lv_iinc (v := 2) (lv' := [(12, .int 2), (6, .int (nI ((pre.length + 0) + 1))), (13, .int 1), (11, .int (iI (r : Int))), (10, .int (iI l0)), (0, .ref (ma 0)), (1, .int (nI N)), (2, .int 2), (3, .int vl), (4, .int (nI (4 * N))), (5, .int (nI (rt (4 * N)))), (7, .int (iI a9)), (8, .int (iI b9)), (9, .int (iI c9))]) hx hb dX6_goThrough_273 hl (k := 2) rfl (by decide) (by decide) rfl (fun ls hl => ?_)
                                                                          refine lv_goto (tgt := 108) hx hb dX6_goThrough_276 (by decide) ?_
                                                                          refine lv_iload hx hb dX6_goThrough_108 (lv_at hl 0 rfl) ?_
                                                                          refine lv_iconst (v := 2) hx hb dX6_goThrough_110 (by decide) ?_
                                                                          refine lv_icmp_ge (tgt := 279) hx hb dX6_goThrough_111 (by decide) (fun c_111 => ?_) (fun c_111 => ?_)
                                                                          · skip
                                                                            obtain ⟨i9, ei9⟩ : ∃ y : Int32, y = (iI c9) + (-1) := ⟨_, rfl⟩
                                                                            refine lv_iinc (v := i9) (lv' := [(9, .int i9), (12, .int 2), (6, .int (nI ((pre.length + 0) + 1))), (13, .int 1), (11, .int (iI (r : Int))), (10, .int (iI l0)), (0, .ref (ma 0)), (1, .int (nI N)), (2, .int 2), (3, .int vl), (4, .int (nI (4 * N))), (5, .int (nI (rt (4 * N)))), (7, .int (iI a9)), (8, .int (iI b9))]) hx hb dX6_goThrough_279 hl (k := 13) rfl (by rw [ei9, show Int32.ofInt (-1) = -1 from by decide]) (by decide) rfl (fun ls hl => ?_)
                                                                            refine lv_goto (tgt := 43) hx hb dX6_goThrough_282 (by decide) ?_
                                                                            exact ihc (pre ++ [(a9, b9, c9, -(r : Int))]) _ _ _ _ ls (by omega) hg3 (MW.setv (MW.setv (MW.setv (MW.setv (MW.setv (MW.setv (MW.setv (MW.setv hM2 (i := 8) (by decide) (by decide) ((iI a9).toInt64, (mv2 8).2.1, (mv2 8).2.2.1, (mv2 8).2.2.2)) (i := 8) (by decide) (by decide) ((iI a9).toInt64, (iI b9).toInt64, (mv2 8).2.2.1, (mv2 8).2.2.2)) (i := 8) (by decide) (by decide) ((iI a9).toInt64, (iI b9).toInt64, (iI c9).toInt64, (mv2 8).2.2.2)) (i := 8) (by decide) (by decide) ((iI a9).toInt64, (iI b9).toInt64, (iI c9).toInt64, (iI (r : Int)).toInt64)) (i := 8) (by decide) (by decide) ((iI a9).toInt64, (iI b9).toInt64, (iI c9).toInt64, (iI (r : Int)).toInt64)) (i := 8) (by decide) (by decide) ((iI a9).toInt64, (iI b9).toInt64, (iI c9).toInt64, (iI (r : Int)).toInt64)) (i := 8) (by decide) (by decide) ((iI a9).toInt64, (iI b9).toInt64, (iI c9).toInt64, (iI (r : Int)).toInt64)) (i := 8) (by decide) (by decide) ((iI a9).toInt64, (iI b9).toInt64, (iI c9).toInt64, (iI (-(r : Int))).toInt64)) hw (lv_sub (l' := [(0, .ref (ma 0)), (1, .int (nI N)), (2, .int 2), (3, .int vl), (4, .int (nI (4 * N))), (5, .int (nI (rt (4 * N)))), (6, .int (nI (pre ++ [(a9, b9, c9, -(r : Int))]).length)), (7, .int (iI a9)), (8, .int (iI b9)), (9, .int (iI ((kc : Int) - 1 - (rt (4 * N) : Int))))]) hl [6, 7, 8, 9, 10, 11, 2, 12, 13, 0] (by rw [show iI ((kc : Int) - 1 - (rt (4 * N) : Int)) = i9 from by rw [ei9, show ((kc : Int) - 1 - (rt (4 * N) : Int)) = c9 + -1 by omega, ← iI_add]; rfl]; first | rfl | (rw [List.length_append]; rfl) | (rw [List.length_append, List.length_append]; rfl)))
                                                                          · skip
                                                                            first | exact absurd c_111 (by decide) | exact absurd (by decide) c_111
                                                                      · skip
                                                                        have hlt := gt_len hg2
                                                                        have hvl : vl = nI (pre).length := by first | exact c_252.symm | (rw [List.length_append]; exact c_252.symm)
                                                                        refine lv_iload hx hb dX6_goThrough_255 (lv_at hl 2 rfl) ?_
                                                                        exact h_iretP hx hb hlk hr hw dX6_goThrough_257 (congrArg (fun y => some (Value.int y)) (by rw [hyes _ hlt hvl]; first | done | rfl | (rw [List.length_append]; first | done | rfl))) ⟨_, (MW.setv (MW.setv (MW.setv (MW.setv (MW.setv (MW.setv (MW.setv (MW.setv hM2 (i := 8) (by decide) (by decide) ((iI a9).toInt64, (mv2 8).2.1, (mv2 8).2.2.1, (mv2 8).2.2.2)) (i := 8) (by decide) (by decide) ((iI a9).toInt64, (iI b9).toInt64, (mv2 8).2.2.1, (mv2 8).2.2.2)) (i := 8) (by decide) (by decide) ((iI a9).toInt64, (iI b9).toInt64, (iI c9).toInt64, (mv2 8).2.2.2)) (i := 8) (by decide) (by decide) ((iI a9).toInt64, (iI b9).toInt64, (iI c9).toInt64, (iI (r : Int)).toInt64)) (i := 8) (by decide) (by decide) ((iI a9).toInt64, (iI b9).toInt64, (iI c9).toInt64, (iI (r : Int)).toInt64)) (i := 8) (by decide) (by decide) ((iI a9).toInt64, (iI b9).toInt64, (iI c9).toInt64, (iI (r : Int)).toInt64)) (i := 8) (by decide) (by decide) ((iI a9).toInt64, (iI b9).toInt64, (iI c9).toInt64, (iI (r : Int)).toInt64)) (i := 8) (by decide) (by decide) ((iI a9).toInt64, (iI b9).toInt64, (iI c9).toInt64, (iI (-(r : Int))).toInt64)), fun i hi hvi => by rw [gt_fnd hg2 hLR hvl i hi hvi]; rfl⟩
                                                              · skip
                                                                first | exact absurd c_211 (by decide) | exact absurd (by decide) c_211
                                                    · skip
                                                      first | exact absurd c_163 (by decide) | exact absurd (by decide) c_163
                                            · skip
                                              first | exact absurd c_262 (by decide) | exact absurd (by decide) c_262
                                          · skip
                                            first | exact absurd c_246 (by decide) | exact absurd (by decide) c_246
                                        · skip
                                          have c_234 := bI_ne.mp c_234
                                          have hqp0 := c_234
                                          refine lv_iconst (v := 1) hx hb dX6_goThrough_237 (by decide) ?_
                                          refine lv_goto (tgt := 242) hx hb dX6_goThrough_238 (by decide) ?_
                                          have hg1 := gt_s0 hg0 (⟨h1i.1.mp hz1, (selP_2 _).mpr hqp0⟩)
                                          refine lv_istore (lv' := [(13, .int 1), (12, .int 0), (11, .int (iI (r : Int))), (10, .int (iI l0)), (0, .ref (ma 0)), (1, .int (nI N)), (2, .int 2), (3, .int vl), (4, .int (nI (4 * N))), (5, .int (nI (rt (4 * N)))), (6, .int (nI pre.length)), (7, .int (iI a9)), (8, .int (iI b9)), (9, .int (iI c9))]) hx hb dX6_goThrough_242 hl (by decide) rfl (fun ls hl => ?_)
                                          refine lv_iload hx hb dX6_goThrough_244 (lv_at hl 0 rfl) ?_
                                          refine lv_if_eq (tgt := 258) hx hb dX6_goThrough_246 (by decide) (fun c_246 => ?_) (fun c_246 => ?_)
                                          · skip
                                            first | exact absurd c_246 (by decide) | exact absurd (by decide) c_246
                                          · skip
                                            refine lv_iload hx hb dX6_goThrough_249 (lv_at hl 10 rfl) ?_
                                            refine lv_iload_n hx hb dX6_goThrough_251 rfl (lv_at hl 7 rfl) ?_
                                            refine lv_icmp_ne (tgt := 258) hx hb dX6_goThrough_252 (by decide) (fun c_252 => ?_) (fun c_252 => ?_)
                                            · skip
                                              have hg2 := gt_next hg1 (by first | exact c_252 | (rw [List.length_append]; exact c_252))
                                              refine lv_iload hx hb dX6_goThrough_258 (lv_at hl 10 rfl) ?_
                                              refine lv_iload hx hb dX6_goThrough_260 (lv_at hl 0 rfl) ?_
                                              refine lv_if_eq (tgt := 269) hx hb dX6_goThrough_262 (by decide) (fun c_262 => ?_) (fun c_262 => ?_)
                                              · skip
                                                first | exact absurd c_262 (by decide) | exact absurd (by decide) c_262
                                              · skip
                                                refine lv_iconst (v := 1) hx hb dX6_goThrough_265 (by decide) ?_
                                                refine lv_goto (tgt := 270) hx hb dX6_goThrough_266 (by decide) ?_
                                                refine h_iaddN hx hb pre.length 1 dX6_goThrough_270 ?_
                                                refine lv_istore (lv' := [(6, .int (nI (pre.length + 1))), (13, .int 1), (12, .int 0), (11, .int (iI (r : Int))), (10, .int (iI l0)), (0, .ref (ma 0)), (1, .int (nI N)), (2, .int 2), (3, .int vl), (4, .int (nI (4 * N))), (5, .int (nI (rt (4 * N)))), (7, .int (iI a9)), (8, .int (iI b9)), (9, .int (iI c9))]) hx hb dX6_goThrough_271 hl (by decide) rfl (fun ls hl => ?_)
                                                refine lv_iinc (v := 1) (lv' := [(12, .int 1), (6, .int (nI (pre.length + 1))), (13, .int 1), (11, .int (iI (r : Int))), (10, .int (iI l0)), (0, .ref (ma 0)), (1, .int (nI N)), (2, .int 2), (3, .int vl), (4, .int (nI (4 * N))), (5, .int (nI (rt (4 * N)))), (7, .int (iI a9)), (8, .int (iI b9)), (9, .int (iI c9))]) hx hb dX6_goThrough_273 hl (k := 2) rfl (by decide) (by decide) rfl (fun ls hl => ?_)
                                                refine lv_goto (tgt := 108) hx hb dX6_goThrough_276 (by decide) ?_
                                                refine lv_iload hx hb dX6_goThrough_108 (lv_at hl 0 rfl) ?_
                                                refine lv_iconst (v := 2) hx hb dX6_goThrough_110 (by decide) ?_
                                                refine lv_icmp_ge (tgt := 279) hx hb dX6_goThrough_111 (by decide) (fun c_111 => ?_) (fun c_111 => ?_)
                                                · skip
                                                  first | exact absurd c_111 (by decide) | exact absurd (by decide) c_111
                                                · skip
                                                  refine lv_iload hx hb dX6_goThrough_114 (lv_at hl 3 rfl) ?_
                                                  refine lv_if_lt (tgt := 279) hx hb dX6_goThrough_116 (by decide) (fun c_116 => ?_) (fun c_116 => ?_)
                                                  · skip
                                                    exact absurd ((iI_lt (b := 0) (by omega) (by omega) (by omega) (by omega)).mp c_116) (by omega)
                                                  · skip
                                                    refine lv_iload hx hb dX6_goThrough_119 (lv_at hl 3 rfl) ?_
                                                    refine lv_iload hx hb dX6_goThrough_121 (lv_at hl 3 rfl) ?_
                                                    refine lv_imul hx hb dX6_goThrough_123 ?_
                                                    refine lv_iload hx hb dX6_goThrough_124 (lv_at hl 4 rfl) ?_
                                                    refine W.eq (g2 := F0 m 126 ls [.int (iI l0), .int (iI ((r : Int) * r))]) (by rw [iI_mul]) ?_
                                                    refine lv_icmp_ne (tgt := 279) hx hb dX6_goThrough_126 (by decide) (fun c_126 => ?_) (fun c_126 => ?_)
                                                    · skip
                                                      exact absurd (congrArg iI hsq) c_126
                                                    · skip
                                                      refine lv_aload_n hx hb dX6_goThrough_129 rfl (lv_at hl 5 rfl) ?_
                                                      refine h_get hx hb hE hw hts hinX6 hown (ci := 6) rfl 8 (by decide) lk_32 (fun _ h9 => h9) (pt_ne (pt_ne (pt_ne (pt_ne hM2.ob (hM.ne (i := 0) (j := 8) (by decide) (by decide) (by decide))) (hM.ne (i := 0) (j := 8) (by decide) (by decide) (by decide))) (hM.ne (i := 0) (j := 8) (by decide) (by decide) (by decide))) (hM.ne (i := 0) (j := 8) (by decide) (by decide) (by decide))) rfl dX6_goThrough_130 ?_
                                                      refine lv_iconst (v := 0) hx hb dX6_goThrough_133 (by decide) ?_
                                                      refine lv_iload hx hb dX6_goThrough_134 (lv_at hl 11 rfl) ?_
                                                      refine lv_i2l hx hb dX6_goThrough_136 rfl ?_
                                                      refine h_last hx hb hE hw (pt_up (pt_up (pt_up (pt_up (hM2.v (i := 8) (by decide) (by decide)))))) (n := 4) (vp_in_nI (n := 0) (N := 4) (by decide) (by decide)) (g := vp_updL (q4f ((iI a9).toInt64, (iI b9).toInt64, (iI c9).toInt64, (iI (r : Int)).toInt64)) 0 ((iI a9).toInt64)) rfl dX6_goThrough_137 (fun H locs hw => ?_)
                                                      have hw := wo_same hw (at_sameJ (G := G) (n := 4) (st4_0 ((iI a9).toInt64, (iI b9).toInt64, (iI c9).toInt64, (iI (r : Int)).toInt64) ((iI a9).toInt64)))
                                                      refine lv_aload_n hx hb dX6_goThrough_138 rfl (lv_at hl 5 rfl) ?_
                                                      refine h_get hx hb hE hw hts hinX6 hown (ci := 6) rfl 8 (by decide) lk_32 (fun _ h9 => h9) (pt_ne (pt_ne (pt_ne (pt_ne (pt_ne hM2.ob (hM.ne (i := 0) (j := 8) (by decide) (by decide) (by decide))) (hM.ne (i := 0) (j := 8) (by decide) (by decide) (by decide))) (hM.ne (i := 0) (j := 8) (by decide) (by decide) (by decide))) (hM.ne (i := 0) (j := 8) (by decide) (by decide) (by decide))) (hM.ne (i := 0) (j := 8) (by decide) (by decide) (by decide))) rfl dX6_goThrough_139 ?_
                                                      refine lv_iconst (v := 1) hx hb dX6_goThrough_142 (by decide) ?_
                                                      refine lv_iload hx hb dX6_goThrough_143 (lv_at hl 12 rfl) ?_
                                                      refine lv_i2l hx hb dX6_goThrough_145 rfl ?_
                                                      refine h_last hx hb hE hw (pt_up (pt_up (pt_up (pt_up (pt_up (hM2.v (i := 8) (by decide) (by decide))))))) (n := 4) (vp_in_nI (n := 1) (N := 4) (by decide) (by decide)) (g := vp_updL (q4f ((iI a9).toInt64, (iI b9).toInt64, (iI c9).toInt64, (iI (r : Int)).toInt64)) 1 ((iI b9).toInt64)) rfl dX6_goThrough_146 (fun H locs hw => ?_)
                                                      have hw := wo_same hw (at_sameJ (G := G) (n := 4) (st4_1 ((iI a9).toInt64, (iI b9).toInt64, (iI c9).toInt64, (iI (r : Int)).toInt64) ((iI b9).toInt64)))
                                                      refine lv_aload_n hx hb dX6_goThrough_147 rfl (lv_at hl 5 rfl) ?_
                                                      refine h_get hx hb hE hw hts hinX6 hown (ci := 6) rfl 8 (by decide) lk_32 (fun _ h9 => h9) (pt_ne (pt_ne (pt_ne (pt_ne (pt_ne (pt_ne hM2.ob (hM.ne (i := 0) (j := 8) (by decide) (by decide) (by decide))) (hM.ne (i := 0) (j := 8) (by decide) (by decide) (by decide))) (hM.ne (i := 0) (j := 8) (by decide) (by decide) (by decide))) (hM.ne (i := 0) (j := 8) (by decide) (by decide) (by decide))) (hM.ne (i := 0) (j := 8) (by decide) (by decide) (by decide))) (hM.ne (i := 0) (j := 8) (by decide) (by decide) (by decide))) rfl dX6_goThrough_148 ?_
                                                      refine lv_iconst (v := 2) hx hb dX6_goThrough_151 (by decide) ?_
                                                      refine lv_iload hx hb dX6_goThrough_152 (lv_at hl 13 rfl) ?_
                                                      refine lv_i2l hx hb dX6_goThrough_154 rfl ?_
                                                      refine h_last hx hb hE hw (pt_up (pt_up (pt_up (pt_up (pt_up (pt_up (hM2.v (i := 8) (by decide) (by decide)))))))) (n := 4) (vp_in_nI (n := 2) (N := 4) (by decide) (by decide)) (g := vp_updL (q4f ((iI a9).toInt64, (iI b9).toInt64, (iI c9).toInt64, (iI (r : Int)).toInt64)) 2 ((iI c9).toInt64)) rfl dX6_goThrough_155 (fun H locs hw => ?_)
                                                      have hw := wo_same hw (at_sameJ (G := G) (n := 4) (st4_2 ((iI a9).toInt64, (iI b9).toInt64, (iI c9).toInt64, (iI (r : Int)).toInt64) ((iI c9).toInt64)))
                                                      refine lv_aload_n hx hb dX6_goThrough_156 rfl (lv_at hl 5 rfl) ?_
                                                      refine h_get hx hb hE hw hts hinX6 hown (ci := 6) rfl 8 (by decide) lk_32 (fun _ h9 => h9) (pt_ne (pt_ne (pt_ne (pt_ne (pt_ne (pt_ne (pt_ne hM2.ob (hM.ne (i := 0) (j := 8) (by decide) (by decide) (by decide))) (hM.ne (i := 0) (j := 8) (by decide) (by decide) (by decide))) (hM.ne (i := 0) (j := 8) (by decide) (by decide) (by decide))) (hM.ne (i := 0) (j := 8) (by decide) (by decide) (by decide))) (hM.ne (i := 0) (j := 8) (by decide) (by decide) (by decide))) (hM.ne (i := 0) (j := 8) (by decide) (by decide) (by decide))) (hM.ne (i := 0) (j := 8) (by decide) (by decide) (by decide))) rfl dX6_goThrough_157 ?_
                                                      refine lv_iconst (v := 3) hx hb dX6_goThrough_160 (by decide) ?_
                                                      refine lv_iload hx hb dX6_goThrough_161 (lv_at hl 0 rfl) ?_
                                                      refine lv_if_ne (tgt := 172) hx hb dX6_goThrough_163 (by decide) (fun c_163 => ?_) (fun c_163 => ?_)
                                                      · skip
                                                        refine lv_iload hx hb dX6_goThrough_172 (lv_at hl 3 rfl) ?_
                                                        refine lv_ineg hx hb dX6_goThrough_174 ?_
                                                        refine lv_i2l hx hb dX6_goThrough_175 rfl ?_
                                                        refine W.eq (g2 := F0 m 176 ls [.long ((iI (-(r : Int))).toInt64), .int 3, .ref (ma 8)]) (by rw [neg_iI]) ?_
                                                        refine h_last hx hb hE hw (pt_up (pt_up (pt_up (pt_up (pt_up (pt_up (pt_up (hM2.v (i := 8) (by decide) (by decide))))))))) (n := 4) (vp_in_nI (n := 3) (N := 4) (by decide) (by decide)) (g := vp_updL (q4f ((iI a9).toInt64, (iI b9).toInt64, (iI c9).toInt64, (iI (r : Int)).toInt64)) 3 ((iI (-(r : Int))).toInt64)) rfl dX6_goThrough_176 (fun H locs hw => ?_)
                                                        have hw := wo_same hw (at_sameJ (G := G) (n := 4) (st4_3 ((iI a9).toInt64, (iI b9).toInt64, (iI c9).toInt64, (iI (r : Int)).toInt64) ((iI (-(r : Int))).toInt64)))
                                                        refine lv_iload hx hb dX6_goThrough_177 (lv_at hl 11 rfl) ?_
                                                        refine lv_i2l hx hb dX6_goThrough_179 rfl ?_
                                                        refine lv_iload hx hb dX6_goThrough_180 (lv_at hl 12 rfl) ?_
                                                        refine lv_i2l hx hb dX6_goThrough_182 rfl ?_
                                                        refine lv_iload hx hb dX6_goThrough_183 (lv_at hl 13 rfl) ?_
                                                        refine lv_i2l hx hb dX6_goThrough_185 rfl ?_
                                                        refine lv_iload hx hb dX6_goThrough_186 (lv_at hl 3 rfl) ?_
                                                        refine lv_i2l hx hb dX6_goThrough_188 rfl ?_
                                                        refine h_callS (st1 := [.int (bI (oneM ((iI a9).toInt64) ((iI b9).toInt64) ((iI c9).toInt64) ((iI (r : Int)).toInt64)))]) [.long ((iI a9).toInt64), .long ((iI b9).toInt64), .long ((iI c9).toInt64), .long ((iI (r : Int)).toInt64)] [] ⟨hx, hb, hml, hown, hts⟩ hE hw (c_X6_isOne l G A (ML ma) (va_up (va_up (va_up (va_up (va_up (va_up (va_up (va_up F (ma 8) (eJ4 G ((iI a9).toInt64, (mv2 8).2.1, (mv2 8).2.2.1, (mv2 8).2.2.2))) (ma 8) (eJ4 G ((iI a9).toInt64, (iI b9).toInt64, (mv2 8).2.2.1, (mv2 8).2.2.2))) (ma 8) (eJ4 G ((iI a9).toInt64, (iI b9).toInt64, (iI c9).toInt64, (mv2 8).2.2.2))) (ma 8) (eJ4 G ((iI a9).toInt64, (iI b9).toInt64, (iI c9).toInt64, (iI (r : Int)).toInt64))) (ma 8) (eJ4 G ((iI a9).toInt64, (iI b9).toInt64, (iI c9).toInt64, (iI (r : Int)).toInt64))) (ma 8) (eJ4 G ((iI a9).toInt64, (iI b9).toInt64, (iI c9).toInt64, (iI (r : Int)).toInt64))) (ma 8) (eJ4 G ((iI a9).toInt64, (iI b9).toInt64, (iI c9).toInt64, (iI (r : Int)).toInt64))) (ma 8) (eJ4 G ((iI a9).toInt64, (iI b9).toInt64, (iI c9).toInt64, (iI (-(r : Int))).toInt64))) ((iI a9).toInt64) ((iI b9).toInt64) ((iI c9).toInt64) ((iI (r : Int)).toInt64)) (va_cwS 4 hts gX6_goThrough_X6_isOne rfl rfl rfl (by decide +kernel) ⟨Nat.le_of_ble_eq_true rfl, Nat.le_of_ble_eq_true rfl⟩) rfl hl.1 rfl (Nat.le_of_ble_eq_true rfl) dX6_goThrough_189 ⟨Nat.le_of_ble_eq_true rfl, Nat.le_of_ble_eq_true rfl⟩ rfl (fun H locs hw => ?_)
                                                        refine lv_if_eq (tgt := 241) hx hb dX6_goThrough_192 (by decide) (fun c_192 => ?_) (fun c_192 => ?_)
                                                        · skip
                                                          exact absurd hz1 (bI_eq.mp c_192)
                                                        · skip
                                                          have c_192 := bI_ne.mp c_192
                                                          refine lv_iload hx hb dX6_goThrough_195 (lv_at hl 0 rfl) ?_
                                                          refine lv_if_eq (tgt := 205) hx hb dX6_goThrough_197 (by decide) (fun c_197 => ?_) (fun c_197 => ?_)
                                                          · skip
                                                            first | exact absurd c_197 (by decide) | exact absurd (by decide) c_197
                                                          · skip
                                                            refine lv_iload hx hb dX6_goThrough_200 (lv_at hl 3 rfl) ?_
                                                            refine lv_if_le (tgt := 241) hx hb dX6_goThrough_202 (by decide) (fun c_202 => ?_) (fun c_202 => ?_)
                                                            · skip
                                                              have hd0 : ¬ 0 < r := fun q => absurd ((iI_le (b := 0) (by omega) (by omega) (by omega) (by omega)).mp c_202) (by omega)
                                                              refine lv_iconst (v := 0) hx hb dX6_goThrough_241 (by decide) ?_
                                                              have hg3 := gt_u1 hg2 (fun q => hd0 q.1)
                                                              refine lv_istore (lv' := [(13, .int 0), (12, .int 1), (6, .int (nI (pre.length + 1))), (11, .int (iI (r : Int))), (10, .int (iI l0)), (0, .ref (ma 0)), (1, .int (nI N)), (2, .int 2), (3, .int vl), (4, .int (nI (4 * N))), (5, .int (nI (rt (4 * N)))), (7, .int (iI a9)), (8, .int (iI b9)), (9, .int (iI c9))]) hx hb dX6_goThrough_242 hl (by decide) rfl (fun ls hl => ?_)
                                                              refine lv_iload hx hb dX6_goThrough_244 (lv_at hl 0 rfl) ?_
                                                              refine lv_if_eq (tgt := 258) hx hb dX6_goThrough_246 (by decide) (fun c_246 => ?_) (fun c_246 => ?_)
                                                              · skip
                                                                refine lv_iload hx hb dX6_goThrough_258 (lv_at hl 2 rfl) ?_
                                                                refine lv_iload hx hb dX6_goThrough_260 (lv_at hl 0 rfl) ?_
                                                                refine lv_if_eq (tgt := 269) hx hb dX6_goThrough_262 (by decide) (fun c_262 => ?_) (fun c_262 => ?_)
                                                                · skip
                                                                  refine lv_iconst (v := 0) hx hb dX6_goThrough_269 (by decide) ?_
                                                                  refine h_iaddN hx hb (pre.length + 1) 0 dX6_goThrough_270 ?_
                                                                  refine lv_istore (lv' := [(6, .int (nI ((pre.length + 1) + 0))), (13, .int 0), (12, .int 1), (11, .int (iI (r : Int))), (10, .int (iI l0)), (0, .ref (ma 0)), (1, .int (nI N)), (2, .int 2), (3, .int vl), (4, .int (nI (4 * N))), (5, .int (nI (rt (4 * N)))), (7, .int (iI a9)), (8, .int (iI b9)), (9, .int (iI c9))]) hx hb dX6_goThrough_271 hl (by decide) rfl (fun ls hl => ?_)
                                                                  refine lv_iinc (v := 2) (lv' := [(12, .int 2), (6, .int (nI ((pre.length + 1) + 0))), (13, .int 0), (11, .int (iI (r : Int))), (10, .int (iI l0)), (0, .ref (ma 0)), (1, .int (nI N)), (2, .int 2), (3, .int vl), (4, .int (nI (4 * N))), (5, .int (nI (rt (4 * N)))), (7, .int (iI a9)), (8, .int (iI b9)), (9, .int (iI c9))]) hx hb dX6_goThrough_273 hl (k := 2) rfl (by decide) (by decide) rfl (fun ls hl => ?_)
                                                                  refine lv_goto (tgt := 108) hx hb dX6_goThrough_276 (by decide) ?_
                                                                  refine lv_iload hx hb dX6_goThrough_108 (lv_at hl 0 rfl) ?_
                                                                  refine lv_iconst (v := 2) hx hb dX6_goThrough_110 (by decide) ?_
                                                                  refine lv_icmp_ge (tgt := 279) hx hb dX6_goThrough_111 (by decide) (fun c_111 => ?_) (fun c_111 => ?_)
                                                                  · skip
                                                                    obtain ⟨i9, ei9⟩ : ∃ y : Int32, y = (iI c9) + (-1) := ⟨_, rfl⟩
                                                                    refine lv_iinc (v := i9) (lv' := [(9, .int i9), (12, .int 2), (6, .int (nI ((pre.length + 1) + 0))), (13, .int 0), (11, .int (iI (r : Int))), (10, .int (iI l0)), (0, .ref (ma 0)), (1, .int (nI N)), (2, .int 2), (3, .int vl), (4, .int (nI (4 * N))), (5, .int (nI (rt (4 * N)))), (7, .int (iI a9)), (8, .int (iI b9))]) hx hb dX6_goThrough_279 hl (k := 13) rfl (by rw [ei9, show Int32.ofInt (-1) = -1 from by decide]) (by decide) rfl (fun ls hl => ?_)
                                                                    refine lv_goto (tgt := 43) hx hb dX6_goThrough_282 (by decide) ?_
                                                                    exact ihc (pre ++ [(a9, b9, c9, (r : Int))]) _ _ _ _ ls (by omega) hg3 (MW.setv (MW.setv (MW.setv (MW.setv (MW.setv (MW.setv (MW.setv (MW.setv hM2 (i := 8) (by decide) (by decide) ((iI a9).toInt64, (mv2 8).2.1, (mv2 8).2.2.1, (mv2 8).2.2.2)) (i := 8) (by decide) (by decide) ((iI a9).toInt64, (iI b9).toInt64, (mv2 8).2.2.1, (mv2 8).2.2.2)) (i := 8) (by decide) (by decide) ((iI a9).toInt64, (iI b9).toInt64, (iI c9).toInt64, (mv2 8).2.2.2)) (i := 8) (by decide) (by decide) ((iI a9).toInt64, (iI b9).toInt64, (iI c9).toInt64, (iI (r : Int)).toInt64)) (i := 8) (by decide) (by decide) ((iI a9).toInt64, (iI b9).toInt64, (iI c9).toInt64, (iI (r : Int)).toInt64)) (i := 8) (by decide) (by decide) ((iI a9).toInt64, (iI b9).toInt64, (iI c9).toInt64, (iI (r : Int)).toInt64)) (i := 8) (by decide) (by decide) ((iI a9).toInt64, (iI b9).toInt64, (iI c9).toInt64, (iI (r : Int)).toInt64)) (i := 8) (by decide) (by decide) ((iI a9).toInt64, (iI b9).toInt64, (iI c9).toInt64, (iI (-(r : Int))).toInt64)) hw (lv_sub (l' := [(0, .ref (ma 0)), (1, .int (nI N)), (2, .int 2), (3, .int vl), (4, .int (nI (4 * N))), (5, .int (nI (rt (4 * N)))), (6, .int (nI (pre ++ [(a9, b9, c9, (r : Int))]).length)), (7, .int (iI a9)), (8, .int (iI b9)), (9, .int (iI ((kc : Int) - 1 - (rt (4 * N) : Int))))]) hl [6, 7, 8, 9, 10, 11, 2, 12, 13, 0] (by rw [show iI ((kc : Int) - 1 - (rt (4 * N) : Int)) = i9 from by rw [ei9, show ((kc : Int) - 1 - (rt (4 * N) : Int)) = c9 + -1 by omega, ← iI_add]; rfl]; first | rfl | (rw [List.length_append]; rfl) | (rw [List.length_append, List.length_append]; rfl)))
                                                                  · skip
                                                                    first | exact absurd c_111 (by decide) | exact absurd (by decide) c_111
                                                                · skip
                                                                  first | exact absurd c_262 (by decide) | exact absurd (by decide) c_262
                                                              · skip
                                                                first | exact absurd c_246 (by decide) | exact absurd (by decide) c_246
                                                            · skip
                                                              have hd0 : 0 < r := by
                                                                rcases Nat.eq_zero_or_pos r with q | q
                                                                · exact absurd ((iI_le (b := 0) (by omega) (by omega) (by omega) (by omega)).mpr (show (r : Int) ≤ 0 by omega)) c_202
                                                                · exact q
                                                              refine lv_iload_n hx hb dX6_goThrough_205 rfl (lv_at hl 7 rfl) ?_
                                                              refine lv_if_eq (tgt := 237) hx hb dX6_goThrough_206 (by decide) (fun c_206 => ?_) (fun c_206 => ?_)
                                                              · skip
                                                                first | exact absurd c_206 (by decide) | exact absurd (by decide) c_206
                                                              · skip
                                                                refine lv_iload_n hx hb dX6_goThrough_209 rfl (lv_at hl 7 rfl) ?_
                                                                refine lv_iconst (v := 1) hx hb dX6_goThrough_210 (by decide) ?_
                                                                refine lv_icmp_ne (tgt := 221) hx hb dX6_goThrough_211 (by decide) (fun c_211 => ?_) (fun c_211 => ?_)
                                                                · skip
                                                                  refine lv_iload_n hx hb dX6_goThrough_221 rfl (lv_at hl 7 rfl) ?_
                                                                  refine lv_iconst (v := 2) hx hb dX6_goThrough_222 (by decide) ?_
                                                                  refine lv_icmp_ne (tgt := 241) hx hb dX6_goThrough_223 (by decide) (fun c_223 => ?_) (fun c_223 => ?_)
                                                                  · skip
                                                                    first | exact absurd c_223 (by decide) | exact absurd (by decide) c_223
                                                                  · skip
                                                                    refine lv_aload_n hx hb dX6_goThrough_226 rfl (lv_at hl 5 rfl) ?_
                                                                    refine lv_aload_n hx hb dX6_goThrough_227 rfl (lv_at hl 5 rfl) ?_
                                                                    refine h_get hx hb hE hw hts hinX6 hown (ci := 6) rfl 8 (by decide) lk_32 (fun _ h9 => h9) (pt_ne (pt_ne (pt_ne (pt_ne (pt_ne (pt_ne (pt_ne (pt_ne hM2.ob (hM.ne (i := 0) (j := 8) (by decide) (by decide) (by decide))) (hM.ne (i := 0) (j := 8) (by decide) (by decide) (by decide))) (hM.ne (i := 0) (j := 8) (by decide) (by decide) (by decide))) (hM.ne (i := 0) (j := 8) (by decide) (by decide) (by decide))) (hM.ne (i := 0) (j := 8) (by decide) (by decide) (by decide))) (hM.ne (i := 0) (j := 8) (by decide) (by decide) (by decide))) (hM.ne (i := 0) (j := 8) (by decide) (by decide) (by decide))) (hM.ne (i := 0) (j := 8) (by decide) (by decide) (by decide))) rfl dX6_goThrough_228 ?_
                                                                    refine h_callV (st1 := [.int (bI (qpi (a9, b9, c9, -(r : Int))))]) [.ref (ma 8)] [] ⟨hx, hb, hml, hown, hts⟩ hE hw (HT.to (c_X6_isPrimitiveQ l G A ma (va_up (va_up (va_up (va_up (va_up (va_up (va_up (va_up F (ma 8) (eJ4 G ((iI a9).toInt64, (mv2 8).2.1, (mv2 8).2.2.1, (mv2 8).2.2.2))) (ma 8) (eJ4 G ((iI a9).toInt64, (iI b9).toInt64, (mv2 8).2.2.1, (mv2 8).2.2.2))) (ma 8) (eJ4 G ((iI a9).toInt64, (iI b9).toInt64, (iI c9).toInt64, (mv2 8).2.2.2))) (ma 8) (eJ4 G ((iI a9).toInt64, (iI b9).toInt64, (iI c9).toInt64, (iI (r : Int)).toInt64))) (ma 8) (eJ4 G ((iI a9).toInt64, (iI b9).toInt64, (iI c9).toInt64, (iI (r : Int)).toInt64))) (ma 8) (eJ4 G ((iI a9).toInt64, (iI b9).toInt64, (iI c9).toInt64, (iI (r : Int)).toInt64))) (ma 8) (eJ4 G ((iI a9).toInt64, (iI b9).toInt64, (iI c9).toInt64, (iI (r : Int)).toInt64))) (ma 8) (eJ4 G ((iI a9).toInt64, (iI b9).toInt64, (iI c9).toInt64, (iI (-(r : Int))).toInt64))) _ _ _ _ _ _ _ _ (MW.setv (MW.setv (MW.setv (MW.setv (MW.setv (MW.setv (MW.setv (MW.setv hM2 (i := 8) (by decide) (by decide) ((iI a9).toInt64, (mv2 8).2.1, (mv2 8).2.2.1, (mv2 8).2.2.2)) (i := 8) (by decide) (by decide) ((iI a9).toInt64, (iI b9).toInt64, (mv2 8).2.2.1, (mv2 8).2.2.2)) (i := 8) (by decide) (by decide) ((iI a9).toInt64, (iI b9).toInt64, (iI c9).toInt64, (mv2 8).2.2.2)) (i := 8) (by decide) (by decide) ((iI a9).toInt64, (iI b9).toInt64, (iI c9).toInt64, (iI (r : Int)).toInt64)) (i := 8) (by decide) (by decide) ((iI a9).toInt64, (iI b9).toInt64, (iI c9).toInt64, (iI (r : Int)).toInt64)) (i := 8) (by decide) (by decide) ((iI a9).toInt64, (iI b9).toInt64, (iI c9).toInt64, (iI (r : Int)).toInt64)) (i := 8) (by decide) (by decide) ((iI a9).toInt64, (iI b9).toInt64, (iI c9).toInt64, (iI (r : Int)).toInt64)) (i := 8) (by decide) (by decide) ((iI a9).toInt64, (iI b9).toInt64, (iI c9).toInt64, (iI (-(r : Int))).toInt64)) 8 (by decide) (by decide) (q4i (a9, b9, c9, -(r : Int))) (pt_up (pt_up (pt_up (pt_up (pt_up (pt_up (pt_up (pt_up (hM2.v (i := 8) (by decide) (by decide)))))))))) (q4i_nh (t := (a9, b9, c9, -(r : Int))) ⟨by dsimp only; omega, by dsimp only; omega, by dsimp only; omega, by dsimp only; omega⟩)) (V2 := some (.int (bI (qpi (a9, b9, c9, -(r : Int)))))) (congrArg (fun y => some (Value.int (bI y))) (propext (qpi_iff (a9, b9, c9, -(r : Int)))).symm) rfl) (cwV 1 hts gX6_goThrough_X6_isPrimitive rfl rfl rfl (by decide +kernel) ⟨Nat.le_of_ble_eq_true rfl, Nat.le_of_ble_eq_true rfl⟩) (pt_ne (pt_ne (pt_ne (pt_ne (pt_ne (pt_ne (pt_ne (pt_ne hM2.ob (hM.ne (i := 0) (j := 8) (by decide) (by decide) (by decide))) (hM.ne (i := 0) (j := 8) (by decide) (by decide) (by decide))) (hM.ne (i := 0) (j := 8) (by decide) (by decide) (by decide))) (hM.ne (i := 0) (j := 8) (by decide) (by decide) (by decide))) (hM.ne (i := 0) (j := 8) (by decide) (by decide) (by decide))) (hM.ne (i := 0) (j := 8) (by decide) (by decide) (by decide))) (hM.ne (i := 0) (j := 8) (by decide) (by decide) (by decide))) (hM.ne (i := 0) (j := 8) (by decide) (by decide) (by decide))) rfl rfl rfl hl.1 rfl (Nat.le_of_ble_eq_true rfl) dX6_goThrough_231 ⟨Nat.le_of_ble_eq_true rfl, Nat.le_of_ble_eq_true rfl⟩ rfl (fun H locs hw => ?_)
                                                                    refine lv_if_eq (tgt := 241) hx hb dX6_goThrough_234 (by decide) (fun c_234 => ?_) (fun c_234 => ?_)
                                                                    · skip
                                                                      have c_234 := bI_eq.mp c_234
                                                                      have hqp1 := c_234
                                                                      refine lv_iconst (v := 0) hx hb dX6_goThrough_241 (by decide) ?_
                                                                      have hg3 := gt_u1 hg2 (fun q => hqp1 ((selP_2 _).mp q.2.2))
                                                                      refine lv_istore (lv' := [(13, .int 0), (12, .int 1), (6, .int (nI (pre.length + 1))), (11, .int (iI (r : Int))), (10, .int (iI l0)), (0, .ref (ma 0)), (1, .int (nI N)), (2, .int 2), (3, .int vl), (4, .int (nI (4 * N))), (5, .int (nI (rt (4 * N)))), (7, .int (iI a9)), (8, .int (iI b9)), (9, .int (iI c9))]) hx hb dX6_goThrough_242 hl (by decide) rfl (fun ls hl => ?_)
                                                                      refine lv_iload hx hb dX6_goThrough_244 (lv_at hl 0 rfl) ?_
                                                                      refine lv_if_eq (tgt := 258) hx hb dX6_goThrough_246 (by decide) (fun c_246 => ?_) (fun c_246 => ?_)
                                                                      · skip
                                                                        refine lv_iload hx hb dX6_goThrough_258 (lv_at hl 2 rfl) ?_
                                                                        refine lv_iload hx hb dX6_goThrough_260 (lv_at hl 0 rfl) ?_
                                                                        refine lv_if_eq (tgt := 269) hx hb dX6_goThrough_262 (by decide) (fun c_262 => ?_) (fun c_262 => ?_)
                                                                        · skip
                                                                          refine lv_iconst (v := 0) hx hb dX6_goThrough_269 (by decide) ?_
                                                                          refine h_iaddN hx hb (pre.length + 1) 0 dX6_goThrough_270 ?_
                                                                          refine lv_istore (lv' := [(6, .int (nI ((pre.length + 1) + 0))), (13, .int 0), (12, .int 1), (11, .int (iI (r : Int))), (10, .int (iI l0)), (0, .ref (ma 0)), (1, .int (nI N)), (2, .int 2), (3, .int vl), (4, .int (nI (4 * N))), (5, .int (nI (rt (4 * N)))), (7, .int (iI a9)), (8, .int (iI b9)), (9, .int (iI c9))]) hx hb dX6_goThrough_271 hl (by decide) rfl (fun ls hl => ?_)
                                                                          refine lv_iinc (v := 2) (lv' := [(12, .int 2), (6, .int (nI ((pre.length + 1) + 0))), (13, .int 0), (11, .int (iI (r : Int))), (10, .int (iI l0)), (0, .ref (ma 0)), (1, .int (nI N)), (2, .int 2), (3, .int vl), (4, .int (nI (4 * N))), (5, .int (nI (rt (4 * N)))), (7, .int (iI a9)), (8, .int (iI b9)), (9, .int (iI c9))]) hx hb dX6_goThrough_273 hl (k := 2) rfl (by decide) (by decide) rfl (fun ls hl => ?_)
                                                                          refine lv_goto (tgt := 108) hx hb dX6_goThrough_276 (by decide) ?_
                                                                          refine lv_iload hx hb dX6_goThrough_108 (lv_at hl 0 rfl) ?_
                                                                          refine lv_iconst (v := 2) hx hb dX6_goThrough_110 (by decide) ?_
                                                                          refine lv_icmp_ge (tgt := 279) hx hb dX6_goThrough_111 (by decide) (fun c_111 => ?_) (fun c_111 => ?_)
                                                                          · skip
                                                                            obtain ⟨i9, ei9⟩ : ∃ y : Int32, y = (iI c9) + (-1) := ⟨_, rfl⟩
                                                                            refine lv_iinc (v := i9) (lv' := [(9, .int i9), (12, .int 2), (6, .int (nI ((pre.length + 1) + 0))), (13, .int 0), (11, .int (iI (r : Int))), (10, .int (iI l0)), (0, .ref (ma 0)), (1, .int (nI N)), (2, .int 2), (3, .int vl), (4, .int (nI (4 * N))), (5, .int (nI (rt (4 * N)))), (7, .int (iI a9)), (8, .int (iI b9))]) hx hb dX6_goThrough_279 hl (k := 13) rfl (by rw [ei9, show Int32.ofInt (-1) = -1 from by decide]) (by decide) rfl (fun ls hl => ?_)
                                                                            refine lv_goto (tgt := 43) hx hb dX6_goThrough_282 (by decide) ?_
                                                                            exact ihc (pre ++ [(a9, b9, c9, (r : Int))]) _ _ _ _ ls (by omega) hg3 (MW.setv (MW.setv (MW.setv (MW.setv (MW.setv (MW.setv (MW.setv (MW.setv hM2 (i := 8) (by decide) (by decide) ((iI a9).toInt64, (mv2 8).2.1, (mv2 8).2.2.1, (mv2 8).2.2.2)) (i := 8) (by decide) (by decide) ((iI a9).toInt64, (iI b9).toInt64, (mv2 8).2.2.1, (mv2 8).2.2.2)) (i := 8) (by decide) (by decide) ((iI a9).toInt64, (iI b9).toInt64, (iI c9).toInt64, (mv2 8).2.2.2)) (i := 8) (by decide) (by decide) ((iI a9).toInt64, (iI b9).toInt64, (iI c9).toInt64, (iI (r : Int)).toInt64)) (i := 8) (by decide) (by decide) ((iI a9).toInt64, (iI b9).toInt64, (iI c9).toInt64, (iI (r : Int)).toInt64)) (i := 8) (by decide) (by decide) ((iI a9).toInt64, (iI b9).toInt64, (iI c9).toInt64, (iI (r : Int)).toInt64)) (i := 8) (by decide) (by decide) ((iI a9).toInt64, (iI b9).toInt64, (iI c9).toInt64, (iI (r : Int)).toInt64)) (i := 8) (by decide) (by decide) ((iI a9).toInt64, (iI b9).toInt64, (iI c9).toInt64, (iI (-(r : Int))).toInt64)) hw (lv_sub (l' := [(0, .ref (ma 0)), (1, .int (nI N)), (2, .int 2), (3, .int vl), (4, .int (nI (4 * N))), (5, .int (nI (rt (4 * N)))), (6, .int (nI (pre ++ [(a9, b9, c9, (r : Int))]).length)), (7, .int (iI a9)), (8, .int (iI b9)), (9, .int (iI ((kc : Int) - 1 - (rt (4 * N) : Int))))]) hl [6, 7, 8, 9, 10, 11, 2, 12, 13, 0] (by rw [show iI ((kc : Int) - 1 - (rt (4 * N) : Int)) = i9 from by rw [ei9, show ((kc : Int) - 1 - (rt (4 * N) : Int)) = c9 + -1 by omega, ← iI_add]; rfl]; first | rfl | (rw [List.length_append]; rfl) | (rw [List.length_append, List.length_append]; rfl)))
                                                                          · skip
                                                                            first | exact absurd c_111 (by decide) | exact absurd (by decide) c_111
                                                                        · skip
                                                                          first | exact absurd c_262 (by decide) | exact absurd (by decide) c_262
                                                                      · skip
                                                                        first | exact absurd c_246 (by decide) | exact absurd (by decide) c_246
                                                                    · skip
                                                                      have c_234 := bI_ne.mp c_234
                                                                      have hqp1 := c_234
                                                                      refine lv_iconst (v := 1) hx hb dX6_goThrough_237 (by decide) ?_
                                                                      refine lv_goto (tgt := 242) hx hb dX6_goThrough_238 (by decide) ?_
                                                                      have hg3 := gt_s1 hg2 (⟨hd0, h1i.2.mp hz1, (selP_2 _).mpr hqp1⟩)
                                                                      refine lv_istore (lv' := [(13, .int 1), (12, .int 1), (6, .int (nI (pre.length + 1))), (11, .int (iI (r : Int))), (10, .int (iI l0)), (0, .ref (ma 0)), (1, .int (nI N)), (2, .int 2), (3, .int vl), (4, .int (nI (4 * N))), (5, .int (nI (rt (4 * N)))), (7, .int (iI a9)), (8, .int (iI b9)), (9, .int (iI c9))]) hx hb dX6_goThrough_242 hl (by decide) rfl (fun ls hl => ?_)
                                                                      refine lv_iload hx hb dX6_goThrough_244 (lv_at hl 0 rfl) ?_
                                                                      refine lv_if_eq (tgt := 258) hx hb dX6_goThrough_246 (by decide) (fun c_246 => ?_) (fun c_246 => ?_)
                                                                      · skip
                                                                        first | exact absurd c_246 (by decide) | exact absurd (by decide) c_246
                                                                      · skip
                                                                        refine lv_iload hx hb dX6_goThrough_249 (lv_at hl 2 rfl) ?_
                                                                        refine lv_iload_n hx hb dX6_goThrough_251 rfl (lv_at hl 8 rfl) ?_
                                                                        refine lv_icmp_ne (tgt := 258) hx hb dX6_goThrough_252 (by decide) (fun c_252 => ?_) (fun c_252 => ?_)
                                                                        · skip
                                                                          have hg4 := gt_next hg3 (by first | exact c_252 | (rw [List.length_append]; exact c_252))
                                                                          refine lv_iload hx hb dX6_goThrough_258 (lv_at hl 2 rfl) ?_
                                                                          refine lv_iload hx hb dX6_goThrough_260 (lv_at hl 0 rfl) ?_
                                                                          refine lv_if_eq (tgt := 269) hx hb dX6_goThrough_262 (by decide) (fun c_262 => ?_) (fun c_262 => ?_)
                                                                          · skip
                                                                            first | exact absurd c_262 (by decide) | exact absurd (by decide) c_262
                                                                          · skip
                                                                            refine lv_iconst (v := 1) hx hb dX6_goThrough_265 (by decide) ?_
                                                                            refine lv_goto (tgt := 270) hx hb dX6_goThrough_266 (by decide) ?_
                                                                            refine h_iaddN hx hb (pre.length + 1) 1 dX6_goThrough_270 ?_
                                                                            refine lv_istore (lv' := [(6, .int (nI ((pre.length + 1) + 1))), (13, .int 1), (12, .int 1), (11, .int (iI (r : Int))), (10, .int (iI l0)), (0, .ref (ma 0)), (1, .int (nI N)), (2, .int 2), (3, .int vl), (4, .int (nI (4 * N))), (5, .int (nI (rt (4 * N)))), (7, .int (iI a9)), (8, .int (iI b9)), (9, .int (iI c9))]) hx hb dX6_goThrough_271 hl (by decide) rfl (fun ls hl => ?_)
                                                                            refine lv_iinc (v := 2) (lv' := [(12, .int 2), (6, .int (nI ((pre.length + 1) + 1))), (13, .int 1), (11, .int (iI (r : Int))), (10, .int (iI l0)), (0, .ref (ma 0)), (1, .int (nI N)), (2, .int 2), (3, .int vl), (4, .int (nI (4 * N))), (5, .int (nI (rt (4 * N)))), (7, .int (iI a9)), (8, .int (iI b9)), (9, .int (iI c9))]) hx hb dX6_goThrough_273 hl (k := 2) rfl (by decide) (by decide) rfl (fun ls hl => ?_)
                                                                            refine lv_goto (tgt := 108) hx hb dX6_goThrough_276 (by decide) ?_
                                                                            refine lv_iload hx hb dX6_goThrough_108 (lv_at hl 0 rfl) ?_
                                                                            refine lv_iconst (v := 2) hx hb dX6_goThrough_110 (by decide) ?_
                                                                            refine lv_icmp_ge (tgt := 279) hx hb dX6_goThrough_111 (by decide) (fun c_111 => ?_) (fun c_111 => ?_)
                                                                            · skip
                                                                              obtain ⟨i9, ei9⟩ : ∃ y : Int32, y = (iI c9) + (-1) := ⟨_, rfl⟩
                                                                              refine lv_iinc (v := i9) (lv' := [(9, .int i9), (12, .int 2), (6, .int (nI ((pre.length + 1) + 1))), (13, .int 1), (11, .int (iI (r : Int))), (10, .int (iI l0)), (0, .ref (ma 0)), (1, .int (nI N)), (2, .int 2), (3, .int vl), (4, .int (nI (4 * N))), (5, .int (nI (rt (4 * N)))), (7, .int (iI a9)), (8, .int (iI b9))]) hx hb dX6_goThrough_279 hl (k := 13) rfl (by rw [ei9, show Int32.ofInt (-1) = -1 from by decide]) (by decide) rfl (fun ls hl => ?_)
                                                                              refine lv_goto (tgt := 43) hx hb dX6_goThrough_282 (by decide) ?_
                                                                              exact ihc (pre ++ [(a9, b9, c9, (r : Int))] ++ [(a9, b9, c9, -(r : Int))]) _ _ _ _ ls (by omega) hg4 (MW.setv (MW.setv (MW.setv (MW.setv (MW.setv (MW.setv (MW.setv (MW.setv hM2 (i := 8) (by decide) (by decide) ((iI a9).toInt64, (mv2 8).2.1, (mv2 8).2.2.1, (mv2 8).2.2.2)) (i := 8) (by decide) (by decide) ((iI a9).toInt64, (iI b9).toInt64, (mv2 8).2.2.1, (mv2 8).2.2.2)) (i := 8) (by decide) (by decide) ((iI a9).toInt64, (iI b9).toInt64, (iI c9).toInt64, (mv2 8).2.2.2)) (i := 8) (by decide) (by decide) ((iI a9).toInt64, (iI b9).toInt64, (iI c9).toInt64, (iI (r : Int)).toInt64)) (i := 8) (by decide) (by decide) ((iI a9).toInt64, (iI b9).toInt64, (iI c9).toInt64, (iI (r : Int)).toInt64)) (i := 8) (by decide) (by decide) ((iI a9).toInt64, (iI b9).toInt64, (iI c9).toInt64, (iI (r : Int)).toInt64)) (i := 8) (by decide) (by decide) ((iI a9).toInt64, (iI b9).toInt64, (iI c9).toInt64, (iI (r : Int)).toInt64)) (i := 8) (by decide) (by decide) ((iI a9).toInt64, (iI b9).toInt64, (iI c9).toInt64, (iI (-(r : Int))).toInt64)) hw (lv_sub (l' := [(0, .ref (ma 0)), (1, .int (nI N)), (2, .int 2), (3, .int vl), (4, .int (nI (4 * N))), (5, .int (nI (rt (4 * N)))), (6, .int (nI (pre ++ [(a9, b9, c9, (r : Int))] ++ [(a9, b9, c9, -(r : Int))]).length)), (7, .int (iI a9)), (8, .int (iI b9)), (9, .int (iI ((kc : Int) - 1 - (rt (4 * N) : Int))))]) hl [6, 7, 8, 9, 10, 11, 2, 12, 13, 0] (by rw [show iI ((kc : Int) - 1 - (rt (4 * N) : Int)) = i9 from by rw [ei9, show ((kc : Int) - 1 - (rt (4 * N) : Int)) = c9 + -1 by omega, ← iI_add]; rfl]; first | rfl | (rw [List.length_append]; rfl) | (rw [List.length_append, List.length_append]; rfl)))
                                                                            · skip
                                                                              first | exact absurd c_111 (by decide) | exact absurd (by decide) c_111
                                                                        · skip
                                                                          have hlt := gt_len hg3
                                                                          have hvl : vl = nI (pre ++ [(a9, b9, c9, (r : Int))]).length := by first | exact c_252.symm | (rw [List.length_append]; exact c_252.symm)
                                                                          refine lv_iload hx hb dX6_goThrough_255 (lv_at hl 2 rfl) ?_
                                                                          exact h_iretP hx hb hlk hr hw dX6_goThrough_257 (congrArg (fun y => some (Value.int y)) (by rw [hyes _ hlt hvl]; first | done | rfl | (rw [List.length_append]; first | done | rfl))) ⟨_, (MW.setv (MW.setv (MW.setv (MW.setv (MW.setv (MW.setv (MW.setv (MW.setv hM2 (i := 8) (by decide) (by decide) ((iI a9).toInt64, (mv2 8).2.1, (mv2 8).2.2.1, (mv2 8).2.2.2)) (i := 8) (by decide) (by decide) ((iI a9).toInt64, (iI b9).toInt64, (mv2 8).2.2.1, (mv2 8).2.2.2)) (i := 8) (by decide) (by decide) ((iI a9).toInt64, (iI b9).toInt64, (iI c9).toInt64, (mv2 8).2.2.2)) (i := 8) (by decide) (by decide) ((iI a9).toInt64, (iI b9).toInt64, (iI c9).toInt64, (iI (r : Int)).toInt64)) (i := 8) (by decide) (by decide) ((iI a9).toInt64, (iI b9).toInt64, (iI c9).toInt64, (iI (r : Int)).toInt64)) (i := 8) (by decide) (by decide) ((iI a9).toInt64, (iI b9).toInt64, (iI c9).toInt64, (iI (r : Int)).toInt64)) (i := 8) (by decide) (by decide) ((iI a9).toInt64, (iI b9).toInt64, (iI c9).toInt64, (iI (r : Int)).toInt64)) (i := 8) (by decide) (by decide) ((iI a9).toInt64, (iI b9).toInt64, (iI c9).toInt64, (iI (-(r : Int))).toInt64)), fun i hi hvi => by rw [gt_fnd hg3 hLR hvl i hi hvi]; rfl⟩
                                                                · skip
                                                                  first | exact absurd c_211 (by decide) | exact absurd (by decide) c_211
                                                      · skip
                                                        first | exact absurd c_163 (by decide) | exact absurd (by decide) c_163
                                            · skip
                                              have hlt := gt_len hg1
                                              have hvl : vl = nI (pre).length := by first | exact c_252.symm | (rw [List.length_append]; exact c_252.symm)
                                              refine lv_iload hx hb dX6_goThrough_255 (lv_at hl 10 rfl) ?_
                                              exact h_iretP hx hb hlk hr hw dX6_goThrough_257 (congrArg (fun y => some (Value.int y)) (by rw [hyes _ hlt hvl]; first | done | rfl | (rw [List.length_append]; first | done | rfl))) ⟨_, (MW.setv (MW.setv (MW.setv (MW.setv hM2 (i := 8) (by decide) (by decide) ((iI a9).toInt64, (mv2 8).2.1, (mv2 8).2.2.1, (mv2 8).2.2.2)) (i := 8) (by decide) (by decide) ((iI a9).toInt64, (iI b9).toInt64, (mv2 8).2.2.1, (mv2 8).2.2.2)) (i := 8) (by decide) (by decide) ((iI a9).toInt64, (iI b9).toInt64, (iI c9).toInt64, (mv2 8).2.2.2)) (i := 8) (by decide) (by decide) ((iI a9).toInt64, (iI b9).toInt64, (iI c9).toInt64, (iI (r : Int)).toInt64)), fun i hi hvi => by rw [gt_fnd hg1 hLR hvl i hi hvi]; rfl⟩
                                    · skip
                                      first | exact absurd c_211 (by decide) | exact absurd (by decide) c_211
                                · skip
                                  first | exact absurd c_197 (by decide) | exact absurd (by decide) c_197
                    · skip
                      have hneg : l0 < 0 := by
                        rcases (show l0 < 0 ∨ 0 ≤ l0 by omega) with q | q
                        · exact q
                        · exact absurd ((iI_le (a := 0) (by omega) (by omega) (by omega) (by omega)).mpr q) c_91
                      refine lv_iconst (v := (-1)) hx hb dX6_goThrough_94 (by decide) ?_
                      refine lv_goto (tgt := 103) hx hb dX6_goThrough_95 (by decide) ?_
                      refine lv_istore (lv' := [(11, .int (-1)), (10, .int (iI l0)), (0, .ref (ma 0)), (1, .int (nI N)), (2, .int 2), (3, .int vl), (4, .int (nI (4 * N))), (5, .int (nI (rt (4 * N)))), (6, .int (nI pre.length)), (7, .int (iI a9)), (8, .int (iI b9)), (9, .int (iI c9))]) hx hb dX6_goThrough_103 hl (by decide) rfl (fun ls hl => ?_)
                      refine lv_iconst (v := 0) hx hb dX6_goThrough_105 (by decide) ?_
                      refine lv_istore (lv' := [(12, .int 0), (11, .int (-1)), (10, .int (iI l0)), (0, .ref (ma 0)), (1, .int (nI N)), (2, .int 2), (3, .int vl), (4, .int (nI (4 * N))), (5, .int (nI (rt (4 * N)))), (6, .int (nI pre.length)), (7, .int (iI a9)), (8, .int (iI b9)), (9, .int (iI c9))]) hx hb dX6_goThrough_106 hl (by decide) rfl (fun ls hl => ?_)
                      refine lv_iload hx hb dX6_goThrough_108 (lv_at hl 0 rfl) ?_
                      refine lv_iconst (v := 2) hx hb dX6_goThrough_110 (by decide) ?_
                      refine lv_icmp_ge (tgt := 279) hx hb dX6_goThrough_111 (by decide) (fun c_111 => ?_) (fun c_111 => ?_)
                      · skip
                        first | exact absurd c_111 (by decide) | exact absurd (by decide) c_111
                      · skip
                        refine lv_iload hx hb dX6_goThrough_114 (lv_at hl 1 rfl) ?_
                        refine lv_if_lt (tgt := 279) hx hb dX6_goThrough_116 (by decide) (fun c_116 => ?_) (fun c_116 => ?_)
                        · skip
                          obtain ⟨i9, ei9⟩ : ∃ y : Int32, y = (iI c9) + (-1) := ⟨_, rfl⟩
                          refine lv_iinc (v := i9) (lv' := [(9, .int i9), (12, .int 0), (11, .int (-1)), (10, .int (iI l0)), (0, .ref (ma 0)), (1, .int (nI N)), (2, .int 2), (3, .int vl), (4, .int (nI (4 * N))), (5, .int (nI (rt (4 * N)))), (6, .int (nI pre.length)), (7, .int (iI a9)), (8, .int (iI b9))]) hx hb dX6_goThrough_279 hl (k := 12) rfl (by rw [ei9, show Int32.ofInt (-1) = -1 from by decide]) (by decide) rfl (fun ls hl => ?_)
                          refine lv_goto (tgt := 43) hx hb dX6_goThrough_282 (by decide) ?_
                          have hg9 : gtI (rA N 2) vl pre (dwn (rD N 2 a9 b9) (rt (4 * N) : Int) kc ++ (dwn (rC N 2 a9) (rt (4 * N) : Int) kb ++ dwn (rB N 2) (rt (4 * N) : Int) ka)) := by rw [rD_n (by rw [← hl0]; exact hneg)] at hg; exact hg
                          exact ihc (pre) _ _ _ _ ls (by omega) hg9 hM2 hw (lv_sub (l' := [(0, .ref (ma 0)), (1, .int (nI N)), (2, .int 2), (3, .int vl), (4, .int (nI (4 * N))), (5, .int (nI (rt (4 * N)))), (6, .int (nI (pre).length)), (7, .int (iI a9)), (8, .int (iI b9)), (9, .int (iI ((kc : Int) - 1 - (rt (4 * N) : Int))))]) hl [4, 5, 6, 7, 8, 9, 10, 11, 12, 0] (by rw [show iI ((kc : Int) - 1 - (rt (4 * N) : Int)) = i9 from by rw [ei9, show ((kc : Int) - 1 - (rt (4 * N) : Int)) = c9 + -1 by omega, ← iI_add]; rfl]; first | rfl | (rw [List.length_append]; rfl) | (rw [List.length_append, List.length_append]; rfl)))
                        · skip
                          first | exact absurd c_116 (by decide) | exact absurd (by decide) c_116
            refine lv_iload hx hb dX6_goThrough_31 (lv_at hl 8 rfl) ?_
            refine lv_iload hx hb dX6_goThrough_33 (lv_at hl 5 rfl) ?_
            refine lv_ineg hx hb dX6_goThrough_35 ?_
            refine W.eq (g2 := F0 m 36 ls [.int (iI (-(rt (4 * N) : Int))), .int (iI b9)]) (by rw [neg_nI]) ?_
            refine lv_icmp_lt (tgt := 291) hx hb dX6_goThrough_36 (by decide) (fun c_36 => ?_) (fun c_36 => ?_)
            · skip
              exact absurd ((iI_lt (by omega) (by omega) (by omega) (by omega)).mp c_36) (show ¬ b9 < -(rt (4 * N) : Int) by omega)
            · skip
              refine lv_iload hx hb dX6_goThrough_39 (lv_at hl 5 rfl) ?_
              refine lv_istore (lv' := [(9, .int (nI (rt (4 * N)))), (0, .ref (ma 0)), (1, .int (nI N)), (2, .int 2), (3, .int vl), (4, .int (nI (4 * N))), (5, .int (nI (rt (4 * N)))), (6, .int (nI pre.length)), (7, .int (iI a9)), (8, .int (iI b9))]) hx hb dX6_goThrough_41 hl (by decide) rfl (fun ls hl => ?_)
              exact lpC (2 * rt (4 * N) + 1) pre _ _ _ _ ls (Nat.le_refl _) hg hM2 hw (lv_sub (l' := [(0, .ref (ma 0)), (1, .int (nI N)), (2, .int 2), (3, .int vl), (4, .int (nI (4 * N))), (5, .int (nI (rt (4 * N)))), (6, .int (nI pre.length)), (7, .int (iI a9)), (8, .int (iI b9)), (9, .int (iI (((2 * rt (4 * N) + 1 : Nat) : Int) - 1 - (rt (4 * N) : Int))))]) hl [1, 2, 3, 4, 5, 6, 7, 8, 9, 0] (by rw [show ((2 * rt (4 * N) + 1 : Nat) : Int) - 1 - (rt (4 * N) : Int) = (rt (4 * N) : Int) by omega, ← iI_nat]; rfl))
          · skip
            rw [rC_f hab] at hg
            refine lv_iload hx hb dX6_goThrough_31 (lv_at hl 8 rfl) ?_
            refine lv_iload hx hb dX6_goThrough_33 (lv_at hl 5 rfl) ?_
            refine lv_ineg hx hb dX6_goThrough_35 ?_
            refine W.eq (g2 := F0 m 36 ls [.int (iI (-(rt (4 * N) : Int))), .int (iI b9)]) (by rw [neg_nI]) ?_
            refine lv_icmp_lt (tgt := 291) hx hb dX6_goThrough_36 (by decide) (fun c_36 => ?_) (fun c_36 => ?_)
            · skip
              exact absurd ((iI_lt (by omega) (by omega) (by omega) (by omega)).mp c_36) (show ¬ b9 < -(rt (4 * N) : Int) by omega)
            · skip
              refine lv_iload hx hb dX6_goThrough_39 (lv_at hl 5 rfl) ?_
              refine lv_istore (lv' := [(9, .int (nI (rt (4 * N)))), (0, .ref (ma 0)), (1, .int (nI N)), (2, .int 2), (3, .int vl), (4, .int (nI (4 * N))), (5, .int (nI (rt (4 * N)))), (6, .int (nI pre.length)), (7, .int (iI a9)), (8, .int (iI b9))]) hx hb dX6_goThrough_41 hl (by decide) rfl (fun ls hl => ?_)
              refine lv_iload hx hb dX6_goThrough_43 (lv_at hl 0 rfl) ?_
              refine lv_iload hx hb dX6_goThrough_45 (lv_at hl 6 rfl) ?_
              refine lv_ineg hx hb dX6_goThrough_47 ?_
              refine W.eq (g2 := F0 m 48 ls [.int (iI (-(rt (4 * N) : Int))), .int (iI (rt (4 * N) : Int))]) (by rw [neg_nI, ← iI_nat]) ?_
              refine lv_icmp_lt (tgt := 285) hx hb dX6_goThrough_48 (by decide) (fun c_48 => ?_) (fun c_48 => ?_)
              · skip
                exact absurd ((iI_lt (by omega) (by omega) (by omega) (by omega)).mp c_48) (show ¬ (rt (4 * N) : Int) < -(rt (4 * N) : Int) by omega)
              · skip
                refine lv_iload hx hb dX6_goThrough_51 (lv_at hl 8 rfl) ?_
                refine lv_iload hx hb dX6_goThrough_53 (lv_at hl 8 rfl) ?_
                refine lv_imul hx hb dX6_goThrough_55 ?_
                refine lv_iload hx hb dX6_goThrough_56 (lv_at hl 9 rfl) ?_
                refine lv_iload hx hb dX6_goThrough_58 (lv_at hl 9 rfl) ?_
                refine lv_imul hx hb dX6_goThrough_60 ?_
                refine lv_iadd hx hb dX6_goThrough_61 ?_
                refine lv_iload hx hb dX6_goThrough_62 (lv_at hl 5 rfl) ?_
                refine W.eq (g2 := F0 m 64 ls [.int (iI (4 * (N : Int))), .int (iI (a9 * a9 + b9 * b9))]) (by rw [iI_mul, iI_mul, iI_add, iI_nat, Int.natCast_mul]; rfl) ?_
                refine lv_icmp_gt (tgt := 285) hx hb dX6_goThrough_64 (by decide) (fun c_64 => ?_) (fun c_64 => ?_)
                · skip
                  obtain ⟨i9, ei9⟩ : ∃ y : Int32, y = (iI b9) + (-1) := ⟨_, rfl⟩
                  refine lv_iinc (v := i9) (lv' := [(8, .int i9), (9, .int (nI (rt (4 * N)))), (0, .ref (ma 0)), (1, .int (nI N)), (2, .int 2), (3, .int vl), (4, .int (nI (4 * N))), (5, .int (nI (rt (4 * N)))), (6, .int (nI pre.length)), (7, .int (iI a9))]) hx hb dX6_goThrough_285 hl (k := 9) rfl (by rw [ei9, show Int32.ofInt (-1) = -1 from by decide]) (by decide) rfl (fun ls hl => ?_)
                  refine lv_goto (tgt := 31) hx hb dX6_goThrough_288 (by decide) ?_
                  exact ihb pre _ _ _ _ ls (by omega) (show gtI (rA N 2) vl pre (dwn (rC N 2 a9) (rt (4 * N) : Int) kb ++ dwn (rB N 2) (rt (4 * N) : Int) ka) from hg) hM2 hw (lv_sub (l' := [(0, .ref (ma 0)), (1, .int (nI N)), (2, .int 2), (3, .int vl), (4, .int (nI (4 * N))), (5, .int (nI (rt (4 * N)))), (6, .int (nI pre.length)), (7, .int (iI a9)), (8, .int (iI ((kb : Int) - 1 - (rt (4 * N) : Int))))]) hl [2, 3, 4, 5, 6, 7, 8, 9, 0] (by rw [show iI ((kb : Int) - 1 - (rt (4 * N) : Int)) = i9 from by rw [ei9, show ((kb : Int) - 1 - (rt (4 * N) : Int)) = b9 + -1 by omega, ← iI_add]; rfl]; rfl))
                · skip
                  exact absurd ((iI_lt (by omega) (by omega) (by omega) (by omega)).mpr (by omega)) c_64
      refine lv_iload hx hb dX6_goThrough_19 (lv_at hl 7 rfl) ?_
      refine lv_iload hx hb dX6_goThrough_21 (lv_at hl 5 rfl) ?_
      refine lv_ineg hx hb dX6_goThrough_23 ?_
      refine W.eq (g2 := F0 m 24 ls [.int (iI (-(rt (4 * N) : Int))), .int (iI a9)]) (by rw [neg_nI]) ?_
      refine lv_icmp_lt (tgt := 297) hx hb dX6_goThrough_24 (by decide) (fun c_24 => ?_) (fun c_24 => ?_)
      · skip
        exact absurd ((iI_lt (by omega) (by omega) (by omega) (by omega)).mp c_24) (show ¬ a9 < -(rt (4 * N) : Int) by omega)
      · skip
        refine lv_iload hx hb dX6_goThrough_27 (lv_at hl 5 rfl) ?_
        refine lv_istore (lv' := [(8, .int (nI (rt (4 * N)))), (0, .ref (ma 0)), (1, .int (nI N)), (2, .int 2), (3, .int vl), (4, .int (nI (4 * N))), (5, .int (nI (rt (4 * N)))), (6, .int (nI pre.length)), (7, .int (iI a9))]) hx hb dX6_goThrough_29 hl (by decide) rfl (fun ls hl => ?_)
        exact lpB (2 * rt (4 * N) + 1) pre _ _ _ _ ls (Nat.le_refl _) (show gtI (rA N 2) vl pre (dwn (rC N 2 a9) (rt (4 * N) : Int) (2 * rt (4 * N) + 1) ++ dwn (rB N 2) (rt (4 * N) : Int) ka) from hg) hM2 hw (lv_sub (l' := [(0, .ref (ma 0)), (1, .int (nI N)), (2, .int 2), (3, .int vl), (4, .int (nI (4 * N))), (5, .int (nI (rt (4 * N)))), (6, .int (nI pre.length)), (7, .int (iI a9)), (8, .int (iI (((2 * rt (4 * N) + 1 : Nat) : Int) - 1 - (rt (4 * N) : Int))))]) hl [1, 2, 3, 4, 5, 6, 7, 8, 0] (by rw [show ((2 * rt (4 * N) + 1 : Nat) : Int) - 1 - (rt (4 * N) : Int) = (rt (4 * N) : Int) by omega, ← iI_nat]; rfl))
  refine lv_iconst (v := 4) hx hb dX6_goThrough_0 (by decide) ?_
  refine lv_iload_n hx hb dX6_goThrough_1 rfl (lv_at hl 1 rfl) ?_
  refine h_imulN hx hb 4 N dX6_goThrough_2 ?_
  refine lv_istore (lv' := [(4, .int (nI (4 * N))), (0, .ref (ma 0)), (1, .int (nI N)), (2, .int 2), (3, .int vl)]) hx hb dX6_goThrough_3 hl (by decide) rfl (fun ls hl => ?_)
  refine lv_iload hx hb dX6_goThrough_5 (lv_at hl 0 rfl) ?_
  refine h_callS (st1 := [.int (nI (rt (4 * N)))]) [.int (nI (4 * N))] [] ⟨hx, hb, hml, hown, hts⟩ hE hw (c_X6_rootOf l G A (ML ma) F (4 * N) (rt (4 * N)) hrt1 hrt2 (by omega)) (va_cwS 1 hts gX6_goThrough_X6_rootOf rfl rfl rfl (by decide +kernel) ⟨Nat.le_of_ble_eq_true rfl, Nat.le_of_ble_eq_true rfl⟩) rfl hl.1 rfl (Nat.le_of_ble_eq_true rfl) dX6_goThrough_7 ⟨Nat.le_of_ble_eq_true rfl, Nat.le_of_ble_eq_true rfl⟩ rfl (fun H locs hw => ?_)
  refine lv_istore (lv' := [(5, .int (nI (rt (4 * N)))), (4, .int (nI (4 * N))), (0, .ref (ma 0)), (1, .int (nI N)), (2, .int 2), (3, .int vl)]) hx hb dX6_goThrough_10 hl (by decide) rfl (fun ls hl => ?_)
  refine lv_iconst (v := 0) hx hb dX6_goThrough_12 (by decide) ?_
  refine lv_istore (lv' := [(6, .int 0), (5, .int (nI (rt (4 * N)))), (4, .int (nI (4 * N))), (0, .ref (ma 0)), (1, .int (nI N)), (2, .int 2), (3, .int vl)]) hx hb dX6_goThrough_13 hl (by decide) rfl (fun ls hl => ?_)
  refine lv_iload hx hb dX6_goThrough_15 (lv_at hl 1 rfl) ?_
  refine lv_istore (lv' := [(7, .int (nI (rt (4 * N)))), (6, .int 0), (5, .int (nI (rt (4 * N)))), (4, .int (nI (4 * N))), (0, .ref (ma 0)), (1, .int (nI N)), (2, .int 2), (3, .int vl)]) hx hb dX6_goThrough_17 hl (by decide) rfl (fun ls hl => ?_)
  exact lpA (2 * rt (4 * N) + 1) [] _ _ _ _ ls (Nat.le_refl _) (show gtI (rA N 2) vl [] (dwn (rB N 2) (rt (4 * N) : Int) (2 * rt (4 * N) + 1)) from gt_0 _ _) hM hw (lv_sub (l' := [(0, .ref (ma 0)), (1, .int (nI N)), (2, .int 2), (3, .int vl), (4, .int (nI (4 * N))), (5, .int (nI (rt (4 * N)))), (6, .int (nI ([] : List Z4).length)), (7, .int (iI (((2 * rt (4 * N) + 1 : Nat) : Int) - 1 - (rt (4 * N) : Int))))]) hl [4, 5, 6, 7, 3, 2, 1, 0] (by rw [show ((2 * rt (4 * N) + 1 : Nat) : Int) - 1 - (rt (4 * N) : Int) = (rt (4 * N) : Int) by omega, ← iI_nat]; rfl))
