/-! The reference's part, divide, divisor -/
theorem zsq_20 {x : Z4} (h : zb 20000 x) : zsq x ≤ 1600000000 := by
  obtain ⟨h0, h1, h2, h3⟩ := h
  have p0 := (prod_le h0.1 h0.2 h0.1 h0.2).2
  have p1 := (prod_le h1.1 h1.2 h1.1 h1.2).2
  have p2 := (prod_le h2.1 h2.2 h2.1 h2.2).2
  have p3 := (prod_le h3.1 h3.2 h3.1 h3.2).2
  unfold zsq
  omega
/-- what a register holds -/
def rok (x : Q4) : Prop := zb 20000 (tz x) ∧ zok (tz x)
theorem rok.nh {x : Q4} (h : rok x) : ¬ qhigh x := low_z.mpr h.1
theorem rok.sq {x : Q4} (h : rok x) : zsq (tz x) ≤ 1600000000 := zsq_20 h.1
theorem rok.b8 {x : Q4} (h : rok x) : zb 800000000 (tz x) := zb_mono h.1 (by decide)
theorem rok.n0 {x : Q4} (h : rok x) : qnorm x = 0 ↔ qzero x := qn_0 h.2 h.sq
theorem rok.ne {x : Q4} (h : rok x) (hz : ¬ qzero x) : ¬ 2 * qnorm x = 0 := (qn_pos h.2 h.sq hz).2.2.1
theorem rok.st {sd : Int32} {x y : Q4} (hx : rok x) (hy : rok y) (hz : ¬ qzero y) : rstM sd x y = rst sd x y ∧ quoM sd x y = quo sd x y := by
  have h := stp (sd := sd) hx.2 hy.2 hx.b8 hy.sq hz
  exact ⟨h.1, h.2.1⟩
theorem rok.dT {sd : Int32} {x y : Q4} (hx : rok x) (hy : rok y) : dvT sd 100 x y := (dvT_100 hx.2 hy.2 hx.b8 hy.sq).1
theorem rok.dR {sd : Int32} {x y : Q4} (hx : rok x) (hy : rok y) : grl (osd sd) (dvR sd 100 x y) 24 = divi sd x y := by
  rw [(dvT_100 hx.2 hy.2 hx.b8 hy.sq).2]; rfl
theorem cif_same {α : Type} {p : Prop} {a : α} : cif p a a = a := by
  by_cases h : p
  · exact cif_t h
  · exact cif_f h
theorem in_6 (v : Int32) : (¬ inL v.toInt64 0 6 ∧ ¬ v = 0 ∧ ¬ v = 1 ∧ ¬ v = 2 ∧ ¬ v = 3 ∧ ¬ v = 4 ∧ ¬ v = 5 ∧ ¬ v = 6) ∨ v = 0 ∨ v = 1 ∨ v = 2 ∨ v = 3 ∨ v = 4 ∨ v = 5 ∨ v = 6 := by
  rw [inL_iff, show (0 : Int64).toInt = 0 from by decide, show (6 : Int64).toInt = 6 from by decide]
  by_cases h : 0 ≤ v.toInt ∧ v.toInt ≤ 6
  · exact Or.inr (int_lt7 h.1 h.2)
  · refine Or.inl ⟨h, ?_, ?_, ?_, ?_, ?_, ?_, ?_⟩ <;> (rintro rfl; exact h (by decide))
theorem sp_part_bad {S : SS} {s v : Int32} (h : ¬ v = 0 ∧ ¬ v = 1 ∧ ¬ v = 2 ∧ ¬ v = 3 ∧ ¬ v = 4 ∧ ¬ v = 5 ∧ ¬ v = 6) : sp_part S s v = (-1000000000, S) := by
  obtain ⟨h0, h1, h2, h3, h4, h5, h6⟩ := h
  unfold sp_part
  cases ix 16 s with
  | none => rfl
  | some j =>
    dsimp only
    rw [if_neg h0, if_neg h1, if_neg h2, if_neg h3, if_neg h4, if_neg h5, if_neg h6]
theorem sp_part_v {S : SS} {s : Int32} {k : Nat} (hx : ix 16 s = some k) : sp_part S s 0 = ((S.1 k).1.toInt32, S) ∧ sp_part S s 1 = ((S.1 k).2.1.toInt32, S) ∧ sp_part S s 2 = ((S.1 k).2.2.1.toInt32, S) ∧ sp_part S s 3 = ((S.1 k).2.2.2.toInt32, S) ∧ sp_part S s 4 = ((qnorm (S.1 k)).toInt32, S) ∧ sp_part S s 5 = (bI (qpr (S.1 k)), S) ∧ sp_part S s 6 = (fuN (S.1 k) 24 0, S) := by
  unfold sp_part
  rw [hx]
  dsimp only
  refine ⟨?_, ?_, ?_, ?_, ?_, ?_, ?_⟩
  · rw [if_pos rfl]
  · rw [if_neg (by decide), if_pos rfl]
  · rw [if_neg (by decide), if_neg (by decide), if_pos rfl]
  · rw [if_neg (by decide), if_neg (by decide), if_neg (by decide), if_pos rfl]
  · rw [if_neg (by decide), if_neg (by decide), if_neg (by decide), if_neg (by decide), if_pos rfl]
  · rw [if_neg (by decide), if_neg (by decide), if_neg (by decide), if_neg (by decide), if_neg (by decide), if_pos rfl]
  · rw [if_neg (by decide), if_neg (by decide), if_neg (by decide), if_neg (by decide), if_neg (by decide), if_neg (by decide), if_pos rfl]
theorem part_r {mrg : Nat → Int32} {k : Nat} {x : Q4} (h : rgq mrg k = x) : mrg (4 * k + 0) = x.1.toInt32 ∧ mrg (4 * k + 1) = x.2.1.toInt32 ∧ mrg (4 * k + 2) = x.2.2.1.toInt32 ∧ mrg (4 * k + 3) = x.2.2.2.toInt32 := by
  rw [← h]
  unfold rgq
  dsimp only
  refine ⟨?_, ?_, ?_, ?_⟩ <;> simp
theorem c_X6_isPrimitiveQ (l : Launch) (G : GG) (A : Nat → Prop) (ma : Nat → Nat) (F : FM) (mk msz : Nat → Int32) (msh : Nat → Int64) (mrg : Nat → Int32) (mfc mmd : Nat → Int64) (mv : Nat → Q4) (mcn : Int32) (hM : MW G ma (mk, msz, msh, mrg, mfc, mmd, mv, mcn) F) (t : Nat) (ht : 8 ≤ t) (ht2 : t < 17) (x : Q4) (e0 : pt (ML ma) F (ma t) (eJ4 G x)) (hx : ¬ qhigh x) : HT l yX6_isPrimitive wsX6_isPrimitive { frames := 1, cells := 0, slots := 0, locals := 29 } G A (ML ma) [.ref (ma 0), .ref (ma t)] F (some (.int (bI (qpr x)))) F := by
  obtain ⟨b0, b1, b2, b3⟩ := low_z.mp hx
  have l0 : x.1.toInt.natAbs < 2 ^ 31 := by unfold tz at b0; dsimp only at b0; omega
  have l1 : x.2.1.toInt.natAbs < 2 ^ 31 := by unfold tz at b1; dsimp only at b1; omega
  have l2 : x.2.2.1.toInt.natAbs < 2 ^ 31 := by unfold tz at b2; dsimp only at b2; omega
  have l3 : x.2.2.2.toInt.natAbs < 2 ^ 31 := by unfold tz at b3; dsimp only at b3; omega
  have h := c_X6_isPrimitive l G A ma F _ _ _ _ _ _ _ _ hM t ht ht2 x e0 _ _ _ _ (gk x) (abL_na b0.1 b0.2) (abL_na b1.1 b1.2) (abL_na b2.1 b2.2) (abL_na b3.1 b3.2) l0 l1 l2 l3 rfl (fun hz => Nat.pos_of_ne_zero (fun w => hz (gk_0.mp w)))
  rw [propext (qpr_M hx).1] at h
  exact h
set_option maxHeartbeats 4000000 in
set_option maxRecDepth 100000 in
theorem c_X6_part (l : Launch) (G : GG) (A : Nat → Prop) (ma : Nat → Nat) (F : FM) (rg : Nat → Q4) (kd : Nat → Int32) (z : Nat → Nat) (pl : Nat → Nat → Int64) (cnt : Nat) (hR : MR G ma (rg, kd, z, pl, cnt) F) (hz : ∀ k, k < 6 → z k ≤ 16) (hkd : ∀ k, k < 6 → kd k = -1 ∨ 0 ≤ kd k) (hc12 : cnt ≤ 12) (hq : ∀ k, k < 16 → rok (rg k)) (vs : Int32) (vw : Int32) : PT l yX6_part wsX6_part { frames := 2, cells := 0, slots := 0, locals := 53 } G A (ML ma) [.ref (ma 0), .int vs, .int vw] F (some (.int (sp_part (rg, kd, z, pl, cnt) vs vw).1)) (MR G ma (sp_part (rg, kd, z, pl, cnt) vs vw).2) := by
  refine PT.ofW (cc := cX6_part) (maxL := 3) (ret := (some .int)) (plainFor_of_name (by decide)) rfl (Nat.le_of_ble_eq_true rfl) ?_
  intro p e s m below meth c ls hx hb hr hml hown hts hlk hE hw hl
  have hl : lv_has ls 3 [(0, .ref (ma 0)), (1, .int vs), (2, .int vw)] := hl
  have hown : s.vm.findClass RX6 = some m.cls := hown
  have cl_119 := hts (.constantLong RX6 119 (6)) (by decide +kernel)
  have lk_20 := hts (.fieldLink RX6 20 "FourPartsModel" "registers" "[I") (by decide +kernel)
  have hinX6 : ∀ w ∈ u_ws RX6 TX6 18, w ∈ wsX6_part := by decide +kernel
  have lk_32 := hts (.fieldLink RX6 32 "FourPartsModel" "x" "[J") (by decide +kernel)
  obtain ⟨⟨mk, msz, msh, mrg, mfc, mmd, mv, mcn⟩, hM, hrel⟩ := hR
  obtain ⟨hk1, hk2, hk3, hk4, hk5, hk6⟩ := id hrel
  refine lv_iload_n hx hb dX6_part_0 rfl (lv_at hl 1 rfl) ?_
  rcases ix_cases 16 (by decide) vs with hvs | ⟨kvs, hkvs, rfl⟩
  · skip
    have xvs := ix_none hvs
    refine h_callS (st1 := [.int 0]) [.int vs] [] ⟨hx, hb, hml, hown, hts⟩ hE hw (HT.to (c_X6_isRegister l G A (ML ma) F vs) (V2 := some (.int 0)) (congrArg (fun y => some (Value.int y)) (bI_f (show ¬ inL vs.toInt64 0 15 from inL_out (n := 15) (by decide) hvs))) rfl) (va_cwS 1 hts gX6_part_X6_isRegister rfl rfl rfl (by decide +kernel) ⟨Nat.le_of_ble_eq_true rfl, Nat.le_of_ble_eq_true rfl⟩) rfl hl.1 rfl (Nat.le_of_ble_eq_true rfl) dX6_part_1 ⟨Nat.le_of_ble_eq_true rfl, Nat.le_of_ble_eq_true rfl⟩ rfl (fun H locs hw => ?_)
    refine lv_if_eq (tgt := 19) hx hb dX6_part_4 (by decide) (fun c_4 => ?_) (fun c_4 => ?_)
    · skip
      refine lv_ldc hx hb (v := (-1000000000)) hown (hts (.constant RX6 121 (-1000000000)) (by decide +kernel)) dX6_part_19 ?_
      exact h_iretP hx hb hlk hr hw dX6_part_21 (by simp only [sp_part, xvs]) (by simp only [sp_part, xvs]; exact ⟨_, hM, rel_v hrel⟩)
    · skip
      first | exact absurd c_4 (by decide) | exact absurd (by decide) c_4
  · skip
    have xvs := ix_in (n := 16) hkvs (by decide)
    refine h_callS (st1 := [.int 1]) [.int (nI kvs)] [] ⟨hx, hb, hml, hown, hts⟩ hE hw (HT.to (c_X6_isRegister l G A (ML ma) F (nI kvs)) (V2 := some (.int 1)) (congrArg (fun y => some (Value.int y)) (bI_t (show inL (nI kvs).toInt64 0 15 from inL_in (n := 15) (by decide) hkvs))) rfl) (va_cwS 1 hts gX6_part_X6_isRegister rfl rfl rfl (by decide +kernel) ⟨Nat.le_of_ble_eq_true rfl, Nat.le_of_ble_eq_true rfl⟩) rfl hl.1 rfl (Nat.le_of_ble_eq_true rfl) dX6_part_1 ⟨Nat.le_of_ble_eq_true rfl, Nat.le_of_ble_eq_true rfl⟩ rfl (fun H locs hw => ?_)
    refine lv_if_eq (tgt := 19) hx hb dX6_part_4 (by decide) (fun c_4 => ?_) (fun c_4 => ?_)
    · skip
      first | exact absurd c_4 (by decide) | exact absurd (by decide) c_4
    · skip
      refine lv_iload_n hx hb dX6_part_7 rfl (lv_at hl 2 rfl) ?_
      refine lv_i2l hx hb dX6_part_8 rfl ?_
      refine lv_lconst (v := 0) hx hb dX6_part_9 (by decide) ?_
      refine lv_ldc2 hx hb (v := (6)) hown cl_119 dX6_part_10 ?_
      rcases in_6 vw with hovw | rfl | rfl | rfl | rfl | rfl | rfl | rfl
      · skip
        refine h_callS (st1 := [.int 0]) [.long vw.toInt64, .long 0, .long (6)] [] ⟨hx, hb, hml, hown, hts⟩ hE hw (HT.to (c_X6_in l G A (ML ma) F vw.toInt64 0 6) (V2 := some (.int 0)) (congrArg (fun y => some (Value.int y)) (bI_f hovw.1)) rfl) (va_cwS 3 hts gX6_part_X6_in rfl rfl rfl (by decide +kernel) ⟨Nat.le_of_ble_eq_true rfl, Nat.le_of_ble_eq_true rfl⟩) rfl hl.1 rfl (Nat.le_of_ble_eq_true rfl) dX6_part_13 ⟨Nat.le_of_ble_eq_true rfl, Nat.le_of_ble_eq_true rfl⟩ rfl (fun H locs hw => ?_)
        refine lv_if_ne (tgt := 22) hx hb dX6_part_16 (by decide) (fun c_16 => ?_) (fun c_16 => ?_)
        · skip
          first | exact absurd c_16 (by decide) | exact absurd (by decide) c_16
        · skip
          refine lv_ldc hx hb (v := (-1000000000)) hown (hts (.constant RX6 121 (-1000000000)) (by decide +kernel)) dX6_part_19 ?_
          exact h_iretP hx hb hlk hr hw dX6_part_21 (by rw [sp_part_bad hovw.2]) (by rw [sp_part_bad hovw.2]; exact ⟨_, hM, rel_v hrel⟩)
      · skip
        refine h_callS (st1 := [.int 1]) [.long ((0 : Int32).toInt64), .long 0, .long (6)] [] ⟨hx, hb, hml, hown, hts⟩ hE hw (HT.to (c_X6_in l G A (ML ma) F (0 : Int32).toInt64 0 6) (V2 := some (.int 1)) (congrArg (fun y => some (Value.int y)) (bI_t (show inL (0 : Int32).toInt64 0 6 from ⟨by decide, by decide⟩))) rfl) (va_cwS 3 hts gX6_part_X6_in rfl rfl rfl (by decide +kernel) ⟨Nat.le_of_ble_eq_true rfl, Nat.le_of_ble_eq_true rfl⟩) rfl hl.1 rfl (Nat.le_of_ble_eq_true rfl) dX6_part_13 ⟨Nat.le_of_ble_eq_true rfl, Nat.le_of_ble_eq_true rfl⟩ rfl (fun H locs hw => ?_)
        refine lv_if_ne (tgt := 22) hx hb dX6_part_16 (by decide) (fun c_16 => ?_) (fun c_16 => ?_)
        · skip
          refine lv_iload_n hx hb dX6_part_22 rfl (lv_at hl 2 rfl) ?_
          refine lv_iconst (v := 4) hx hb dX6_part_23 (by decide) ?_
          refine lv_icmp_ge (tgt := 38) hx hb dX6_part_24 (by decide) (fun c_24 => ?_) (fun c_24 => ?_)
          · skip
            first | exact absurd c_24 (by decide) | exact absurd (by decide) c_24
          · skip
            refine lv_aload_n hx hb dX6_part_27 rfl (lv_at hl 0 rfl) ?_
            refine h_get hx hb hE hw hts hinX6 hown (ci := 6) rfl 3 (by decide) lk_20 (fun _ h9 => h9) hM.ob rfl dX6_part_28 ?_
            refine lv_iconst (v := 4) hx hb dX6_part_31 (by decide) ?_
            refine lv_iload_n hx hb dX6_part_32 rfl (lv_at hl 1 rfl) ?_
            refine h_imulN hx hb 4 kvs dX6_part_33 ?_
            refine lv_iload_n hx hb dX6_part_34 rfl (lv_at hl 2 rfl) ?_
            refine h_iaddN hx hb (4 * kvs) 0 dX6_part_35 ?_
            refine h_iald hx hb hE hw hM.rg (vp_in_nI (n := ((4 * kvs) + 0)) (N := 64) (by omega) (by decide)) (v := mrg ((4 * kvs) + 0)) (by rw [nI_clamp (by omega)]) dX6_part_36 ?_
            exact h_iretP hx hb hlk hr hw dX6_part_37 (by rw [(sp_part_v xvs).1]; exact congrArg (fun y => some (Value.int y)) (part_r (hk4 kvs hkvs)).1) (by rw [(sp_part_v xvs).1]; exact ⟨_, hM, rel_v hrel⟩)
        · skip
          first | exact absurd c_16 (by decide) | exact absurd (by decide) c_16
      · skip
        refine h_callS (st1 := [.int 1]) [.long ((1 : Int32).toInt64), .long 0, .long (6)] [] ⟨hx, hb, hml, hown, hts⟩ hE hw (HT.to (c_X6_in l G A (ML ma) F (1 : Int32).toInt64 0 6) (V2 := some (.int 1)) (congrArg (fun y => some (Value.int y)) (bI_t (show inL (1 : Int32).toInt64 0 6 from ⟨by decide, by decide⟩))) rfl) (va_cwS 3 hts gX6_part_X6_in rfl rfl rfl (by decide +kernel) ⟨Nat.le_of_ble_eq_true rfl, Nat.le_of_ble_eq_true rfl⟩) rfl hl.1 rfl (Nat.le_of_ble_eq_true rfl) dX6_part_13 ⟨Nat.le_of_ble_eq_true rfl, Nat.le_of_ble_eq_true rfl⟩ rfl (fun H locs hw => ?_)
        refine lv_if_ne (tgt := 22) hx hb dX6_part_16 (by decide) (fun c_16 => ?_) (fun c_16 => ?_)
        · skip
          refine lv_iload_n hx hb dX6_part_22 rfl (lv_at hl 2 rfl) ?_
          refine lv_iconst (v := 4) hx hb dX6_part_23 (by decide) ?_
          refine lv_icmp_ge (tgt := 38) hx hb dX6_part_24 (by decide) (fun c_24 => ?_) (fun c_24 => ?_)
          · skip
            first | exact absurd c_24 (by decide) | exact absurd (by decide) c_24
          · skip
            refine lv_aload_n hx hb dX6_part_27 rfl (lv_at hl 0 rfl) ?_
            refine h_get hx hb hE hw hts hinX6 hown (ci := 6) rfl 3 (by decide) lk_20 (fun _ h9 => h9) hM.ob rfl dX6_part_28 ?_
            refine lv_iconst (v := 4) hx hb dX6_part_31 (by decide) ?_
            refine lv_iload_n hx hb dX6_part_32 rfl (lv_at hl 1 rfl) ?_
            refine h_imulN hx hb 4 kvs dX6_part_33 ?_
            refine lv_iload_n hx hb dX6_part_34 rfl (lv_at hl 2 rfl) ?_
            refine h_iaddN hx hb (4 * kvs) 1 dX6_part_35 ?_
            refine h_iald hx hb hE hw hM.rg (vp_in_nI (n := ((4 * kvs) + 1)) (N := 64) (by omega) (by decide)) (v := mrg ((4 * kvs) + 1)) (by rw [nI_clamp (by omega)]) dX6_part_36 ?_
            exact h_iretP hx hb hlk hr hw dX6_part_37 (by rw [(sp_part_v xvs).2.1]; exact congrArg (fun y => some (Value.int y)) (part_r (hk4 kvs hkvs)).2.1) (by rw [(sp_part_v xvs).2.1]; exact ⟨_, hM, rel_v hrel⟩)
        · skip
          first | exact absurd c_16 (by decide) | exact absurd (by decide) c_16
      · skip
        refine h_callS (st1 := [.int 1]) [.long ((2 : Int32).toInt64), .long 0, .long (6)] [] ⟨hx, hb, hml, hown, hts⟩ hE hw (HT.to (c_X6_in l G A (ML ma) F (2 : Int32).toInt64 0 6) (V2 := some (.int 1)) (congrArg (fun y => some (Value.int y)) (bI_t (show inL (2 : Int32).toInt64 0 6 from ⟨by decide, by decide⟩))) rfl) (va_cwS 3 hts gX6_part_X6_in rfl rfl rfl (by decide +kernel) ⟨Nat.le_of_ble_eq_true rfl, Nat.le_of_ble_eq_true rfl⟩) rfl hl.1 rfl (Nat.le_of_ble_eq_true rfl) dX6_part_13 ⟨Nat.le_of_ble_eq_true rfl, Nat.le_of_ble_eq_true rfl⟩ rfl (fun H locs hw => ?_)
        refine lv_if_ne (tgt := 22) hx hb dX6_part_16 (by decide) (fun c_16 => ?_) (fun c_16 => ?_)
        · skip
          refine lv_iload_n hx hb dX6_part_22 rfl (lv_at hl 2 rfl) ?_
          refine lv_iconst (v := 4) hx hb dX6_part_23 (by decide) ?_
          refine lv_icmp_ge (tgt := 38) hx hb dX6_part_24 (by decide) (fun c_24 => ?_) (fun c_24 => ?_)
          · skip
            first | exact absurd c_24 (by decide) | exact absurd (by decide) c_24
          · skip
            refine lv_aload_n hx hb dX6_part_27 rfl (lv_at hl 0 rfl) ?_
            refine h_get hx hb hE hw hts hinX6 hown (ci := 6) rfl 3 (by decide) lk_20 (fun _ h9 => h9) hM.ob rfl dX6_part_28 ?_
            refine lv_iconst (v := 4) hx hb dX6_part_31 (by decide) ?_
            refine lv_iload_n hx hb dX6_part_32 rfl (lv_at hl 1 rfl) ?_
            refine h_imulN hx hb 4 kvs dX6_part_33 ?_
            refine lv_iload_n hx hb dX6_part_34 rfl (lv_at hl 2 rfl) ?_
            refine h_iaddN hx hb (4 * kvs) 2 dX6_part_35 ?_
            refine h_iald hx hb hE hw hM.rg (vp_in_nI (n := ((4 * kvs) + 2)) (N := 64) (by omega) (by decide)) (v := mrg ((4 * kvs) + 2)) (by rw [nI_clamp (by omega)]) dX6_part_36 ?_
            exact h_iretP hx hb hlk hr hw dX6_part_37 (by rw [(sp_part_v xvs).2.2.1]; exact congrArg (fun y => some (Value.int y)) (part_r (hk4 kvs hkvs)).2.2.1) (by rw [(sp_part_v xvs).2.2.1]; exact ⟨_, hM, rel_v hrel⟩)
        · skip
          first | exact absurd c_16 (by decide) | exact absurd (by decide) c_16
      · skip
        refine h_callS (st1 := [.int 1]) [.long ((3 : Int32).toInt64), .long 0, .long (6)] [] ⟨hx, hb, hml, hown, hts⟩ hE hw (HT.to (c_X6_in l G A (ML ma) F (3 : Int32).toInt64 0 6) (V2 := some (.int 1)) (congrArg (fun y => some (Value.int y)) (bI_t (show inL (3 : Int32).toInt64 0 6 from ⟨by decide, by decide⟩))) rfl) (va_cwS 3 hts gX6_part_X6_in rfl rfl rfl (by decide +kernel) ⟨Nat.le_of_ble_eq_true rfl, Nat.le_of_ble_eq_true rfl⟩) rfl hl.1 rfl (Nat.le_of_ble_eq_true rfl) dX6_part_13 ⟨Nat.le_of_ble_eq_true rfl, Nat.le_of_ble_eq_true rfl⟩ rfl (fun H locs hw => ?_)
        refine lv_if_ne (tgt := 22) hx hb dX6_part_16 (by decide) (fun c_16 => ?_) (fun c_16 => ?_)
        · skip
          refine lv_iload_n hx hb dX6_part_22 rfl (lv_at hl 2 rfl) ?_
          refine lv_iconst (v := 4) hx hb dX6_part_23 (by decide) ?_
          refine lv_icmp_ge (tgt := 38) hx hb dX6_part_24 (by decide) (fun c_24 => ?_) (fun c_24 => ?_)
          · skip
            first | exact absurd c_24 (by decide) | exact absurd (by decide) c_24
          · skip
            refine lv_aload_n hx hb dX6_part_27 rfl (lv_at hl 0 rfl) ?_
            refine h_get hx hb hE hw hts hinX6 hown (ci := 6) rfl 3 (by decide) lk_20 (fun _ h9 => h9) hM.ob rfl dX6_part_28 ?_
            refine lv_iconst (v := 4) hx hb dX6_part_31 (by decide) ?_
            refine lv_iload_n hx hb dX6_part_32 rfl (lv_at hl 1 rfl) ?_
            refine h_imulN hx hb 4 kvs dX6_part_33 ?_
            refine lv_iload_n hx hb dX6_part_34 rfl (lv_at hl 2 rfl) ?_
            refine h_iaddN hx hb (4 * kvs) 3 dX6_part_35 ?_
            refine h_iald hx hb hE hw hM.rg (vp_in_nI (n := ((4 * kvs) + 3)) (N := 64) (by omega) (by decide)) (v := mrg ((4 * kvs) + 3)) (by rw [nI_clamp (by omega)]) dX6_part_36 ?_
            exact h_iretP hx hb hlk hr hw dX6_part_37 (by rw [(sp_part_v xvs).2.2.2.1]; exact congrArg (fun y => some (Value.int y)) (part_r (hk4 kvs hkvs)).2.2.2) (by rw [(sp_part_v xvs).2.2.2.1]; exact ⟨_, hM, rel_v hrel⟩)
        · skip
          first | exact absurd c_16 (by decide) | exact absurd (by decide) c_16
      · skip
        refine h_callS (st1 := [.int 1]) [.long ((4 : Int32).toInt64), .long 0, .long (6)] [] ⟨hx, hb, hml, hown, hts⟩ hE hw (HT.to (c_X6_in l G A (ML ma) F (4 : Int32).toInt64 0 6) (V2 := some (.int 1)) (congrArg (fun y => some (Value.int y)) (bI_t (show inL (4 : Int32).toInt64 0 6 from ⟨by decide, by decide⟩))) rfl) (va_cwS 3 hts gX6_part_X6_in rfl rfl rfl (by decide +kernel) ⟨Nat.le_of_ble_eq_true rfl, Nat.le_of_ble_eq_true rfl⟩) rfl hl.1 rfl (Nat.le_of_ble_eq_true rfl) dX6_part_13 ⟨Nat.le_of_ble_eq_true rfl, Nat.le_of_ble_eq_true rfl⟩ rfl (fun H locs hw => ?_)
        refine lv_if_ne (tgt := 22) hx hb dX6_part_16 (by decide) (fun c_16 => ?_) (fun c_16 => ?_)
        · skip
          refine lv_iload_n hx hb dX6_part_22 rfl (lv_at hl 2 rfl) ?_
          refine lv_iconst (v := 4) hx hb dX6_part_23 (by decide) ?_
          refine lv_icmp_ge (tgt := 38) hx hb dX6_part_24 (by decide) (fun c_24 => ?_) (fun c_24 => ?_)
          · skip
            refine lv_aload_n hx hb dX6_part_38 rfl (lv_at hl 0 rfl) ?_
            refine lv_aload_n hx hb dX6_part_39 rfl (lv_at hl 0 rfl) ?_
            refine h_get hx hb hE hw hts hinX6 hown (ci := 6) rfl 8 (by decide) lk_32 (fun _ h9 => h9) hM.ob rfl dX6_part_40 ?_
            refine lv_iload_n hx hb dX6_part_43 rfl (lv_at hl 1 rfl) ?_
            refine h_callV (st1 := []) [.ref (ma 8), .int (nI kvs)] [] ⟨hx, hb, hml, hown, hts⟩ hE hw (HT.to (c_X6_load l G A ma F _ _ _ _ _ _ _ _ hM 8 kvs (by decide) (by decide) hkvs) rfl (F3 := va_up F (ma 8) (eJ4 G (rg kvs))) (by rw [show rgq mrg kvs = rg kvs from hk4 kvs hkvs])) (cwV 2 hts gX6_part_X6_load rfl rfl rfl (by decide +kernel) ⟨Nat.le_of_ble_eq_true rfl, Nat.le_of_ble_eq_true rfl⟩) hM.ob rfl rfl rfl hl.1 rfl (Nat.le_of_ble_eq_true rfl) dX6_part_44 ⟨Nat.le_of_ble_eq_true rfl, Nat.le_of_ble_eq_true rfl⟩ rfl (fun H locs hw => ?_)
            refine lv_iload_n hx hb dX6_part_47 rfl (lv_at hl 2 rfl) ?_
            refine lv_iconst (v := 4) hx hb dX6_part_48 (by decide) ?_
            refine lv_icmp_ne (tgt := 63) hx hb dX6_part_49 (by decide) (fun c_49 => ?_) (fun c_49 => ?_)
            · skip
              first | exact absurd c_49 (by decide) | exact absurd (by decide) c_49
            · skip
              refine lv_aload_n hx hb dX6_part_52 rfl (lv_at hl 0 rfl) ?_
              refine h_get hx hb hE hw hts hinX6 hown (ci := 6) rfl 8 (by decide) lk_32 (fun _ h9 => h9) (pt_ne hM.ob (hM.ne (i := 0) (j := 8) (by decide) (by decide) (by decide))) rfl dX6_part_53 ?_
              refine h_callS (st1 := [.long (qnorm (rg kvs))]) [.ref (ma 8)] [] ⟨hx, hb, hml, hown, hts⟩ hE hw (c_X6_norm l G A (ML ma) (va_up F (ma 8) (eJ4 G (rg kvs))) (ma 8) (rg kvs) (pt_up (hM.v (i := 8) (by decide) (by decide)))) (va_cwS 1 hts gX6_part_X6_norm rfl rfl rfl (by decide +kernel) ⟨Nat.le_of_ble_eq_true rfl, Nat.le_of_ble_eq_true rfl⟩) rfl hl.1 rfl (Nat.le_of_ble_eq_true rfl) dX6_part_56 ⟨Nat.le_of_ble_eq_true rfl, Nat.le_of_ble_eq_true rfl⟩ rfl (fun H locs hw => ?_)
              refine lv_l2i hx hb dX6_part_59 rfl ?_
              refine lv_goto (tgt := 95) hx hb dX6_part_60 (by decide) ?_
              exact h_iretP hx hb hlk hr hw dX6_part_95 (by rw [(sp_part_v xvs).2.2.2.2.1]) (by rw [(sp_part_v xvs).2.2.2.2.1]; exact ⟨_, (MW.setv hM (i := 8) (by decide) (by decide) (rg kvs)), rel_v hrel⟩)
          · skip
            first | exact absurd c_24 (by decide) | exact absurd (by decide) c_24
        · skip
          first | exact absurd c_16 (by decide) | exact absurd (by decide) c_16
      · skip
        refine h_callS (st1 := [.int 1]) [.long ((5 : Int32).toInt64), .long 0, .long (6)] [] ⟨hx, hb, hml, hown, hts⟩ hE hw (HT.to (c_X6_in l G A (ML ma) F (5 : Int32).toInt64 0 6) (V2 := some (.int 1)) (congrArg (fun y => some (Value.int y)) (bI_t (show inL (5 : Int32).toInt64 0 6 from ⟨by decide, by decide⟩))) rfl) (va_cwS 3 hts gX6_part_X6_in rfl rfl rfl (by decide +kernel) ⟨Nat.le_of_ble_eq_true rfl, Nat.le_of_ble_eq_true rfl⟩) rfl hl.1 rfl (Nat.le_of_ble_eq_true rfl) dX6_part_13 ⟨Nat.le_of_ble_eq_true rfl, Nat.le_of_ble_eq_true rfl⟩ rfl (fun H locs hw => ?_)
        refine lv_if_ne (tgt := 22) hx hb dX6_part_16 (by decide) (fun c_16 => ?_) (fun c_16 => ?_)
        · skip
          refine lv_iload_n hx hb dX6_part_22 rfl (lv_at hl 2 rfl) ?_
          refine lv_iconst (v := 4) hx hb dX6_part_23 (by decide) ?_
          refine lv_icmp_ge (tgt := 38) hx hb dX6_part_24 (by decide) (fun c_24 => ?_) (fun c_24 => ?_)
          · skip
            refine lv_aload_n hx hb dX6_part_38 rfl (lv_at hl 0 rfl) ?_
            refine lv_aload_n hx hb dX6_part_39 rfl (lv_at hl 0 rfl) ?_
            refine h_get hx hb hE hw hts hinX6 hown (ci := 6) rfl 8 (by decide) lk_32 (fun _ h9 => h9) hM.ob rfl dX6_part_40 ?_
            refine lv_iload_n hx hb dX6_part_43 rfl (lv_at hl 1 rfl) ?_
            refine h_callV (st1 := []) [.ref (ma 8), .int (nI kvs)] [] ⟨hx, hb, hml, hown, hts⟩ hE hw (HT.to (c_X6_load l G A ma F _ _ _ _ _ _ _ _ hM 8 kvs (by decide) (by decide) hkvs) rfl (F3 := va_up F (ma 8) (eJ4 G (rg kvs))) (by rw [show rgq mrg kvs = rg kvs from hk4 kvs hkvs])) (cwV 2 hts gX6_part_X6_load rfl rfl rfl (by decide +kernel) ⟨Nat.le_of_ble_eq_true rfl, Nat.le_of_ble_eq_true rfl⟩) hM.ob rfl rfl rfl hl.1 rfl (Nat.le_of_ble_eq_true rfl) dX6_part_44 ⟨Nat.le_of_ble_eq_true rfl, Nat.le_of_ble_eq_true rfl⟩ rfl (fun H locs hw => ?_)
            refine lv_iload_n hx hb dX6_part_47 rfl (lv_at hl 2 rfl) ?_
            refine lv_iconst (v := 4) hx hb dX6_part_48 (by decide) ?_
            refine lv_icmp_ne (tgt := 63) hx hb dX6_part_49 (by decide) (fun c_49 => ?_) (fun c_49 => ?_)
            · skip
              refine lv_iload_n hx hb dX6_part_63 rfl (lv_at hl 2 rfl) ?_
              refine lv_iconst (v := 5) hx hb dX6_part_64 (by decide) ?_
              refine lv_icmp_ne (tgt := 87) hx hb dX6_part_65 (by decide) (fun c_65 => ?_) (fun c_65 => ?_)
              · skip
                first | exact absurd c_65 (by decide) | exact absurd (by decide) c_65
              · skip
                refine lv_aload_n hx hb dX6_part_68 rfl (lv_at hl 0 rfl) ?_
                refine lv_aload_n hx hb dX6_part_69 rfl (lv_at hl 0 rfl) ?_
                refine h_get hx hb hE hw hts hinX6 hown (ci := 6) rfl 8 (by decide) lk_32 (fun _ h9 => h9) (pt_ne hM.ob (hM.ne (i := 0) (j := 8) (by decide) (by decide) (by decide))) rfl dX6_part_70 ?_
                refine h_callV (st1 := [.int (bI (qpr (rg kvs)))]) [.ref (ma 8)] [] ⟨hx, hb, hml, hown, hts⟩ hE hw (c_X6_isPrimitiveQ l G A ma (va_up F (ma 8) (eJ4 G (rg kvs))) _ _ _ _ _ _ _ _ (MW.setv hM (i := 8) (by decide) (by decide) (rg kvs)) 8 (by decide) (by decide) (rg kvs) (pt_up (hM.v (i := 8) (by decide) (by decide))) (hq kvs hkvs).nh) (cwV 1 hts gX6_part_X6_isPrimitive rfl rfl rfl (by decide +kernel) ⟨Nat.le_of_ble_eq_true rfl, Nat.le_of_ble_eq_true rfl⟩) (pt_ne hM.ob (hM.ne (i := 0) (j := 8) (by decide) (by decide) (by decide))) rfl rfl rfl hl.1 rfl (Nat.le_of_ble_eq_true rfl) dX6_part_73 ⟨Nat.le_of_ble_eq_true rfl, Nat.le_of_ble_eq_true rfl⟩ rfl (fun H locs hw => ?_)
                refine lv_if_eq (tgt := 83) hx hb dX6_part_76 (by decide) (fun c_76 => ?_) (fun c_76 => ?_)
                · skip
                  have c_76 := bI_eq.mp c_76
                  refine lv_iconst (v := 0) hx hb dX6_part_83 (by decide) ?_
                  refine lv_goto (tgt := 95) hx hb dX6_part_84 (by decide) ?_
                  exact h_iretP hx hb hlk hr hw dX6_part_95 (by rw [(sp_part_v xvs).2.2.2.2.2.1]; exact congrArg (fun y => some (Value.int y)) (bI_f c_76).symm) (by rw [(sp_part_v xvs).2.2.2.2.2.1]; exact ⟨_, (MW.setv hM (i := 8) (by decide) (by decide) (rg kvs)), rel_v hrel⟩)
                · skip
                  have c_76 := bI_ne.mp c_76
                  refine lv_iconst (v := 1) hx hb dX6_part_79 (by decide) ?_
                  refine lv_goto (tgt := 95) hx hb dX6_part_80 (by decide) ?_
                  exact h_iretP hx hb hlk hr hw dX6_part_95 (by rw [(sp_part_v xvs).2.2.2.2.2.1]; exact congrArg (fun y => some (Value.int y)) (bI_t c_76).symm) (by rw [(sp_part_v xvs).2.2.2.2.2.1]; exact ⟨_, (MW.setv hM (i := 8) (by decide) (by decide) (rg kvs)), rel_v hrel⟩)
            · skip
              first | exact absurd c_49 (by decide) | exact absurd (by decide) c_49
          · skip
            first | exact absurd c_24 (by decide) | exact absurd (by decide) c_24
        · skip
          first | exact absurd c_16 (by decide) | exact absurd (by decide) c_16
      · skip
        refine h_callS (st1 := [.int 1]) [.long ((6 : Int32).toInt64), .long 0, .long (6)] [] ⟨hx, hb, hml, hown, hts⟩ hE hw (HT.to (c_X6_in l G A (ML ma) F (6 : Int32).toInt64 0 6) (V2 := some (.int 1)) (congrArg (fun y => some (Value.int y)) (bI_t (show inL (6 : Int32).toInt64 0 6 from ⟨by decide, by decide⟩))) rfl) (va_cwS 3 hts gX6_part_X6_in rfl rfl rfl (by decide +kernel) ⟨Nat.le_of_ble_eq_true rfl, Nat.le_of_ble_eq_true rfl⟩) rfl hl.1 rfl (Nat.le_of_ble_eq_true rfl) dX6_part_13 ⟨Nat.le_of_ble_eq_true rfl, Nat.le_of_ble_eq_true rfl⟩ rfl (fun H locs hw => ?_)
        refine lv_if_ne (tgt := 22) hx hb dX6_part_16 (by decide) (fun c_16 => ?_) (fun c_16 => ?_)
        · skip
          refine lv_iload_n hx hb dX6_part_22 rfl (lv_at hl 2 rfl) ?_
          refine lv_iconst (v := 4) hx hb dX6_part_23 (by decide) ?_
          refine lv_icmp_ge (tgt := 38) hx hb dX6_part_24 (by decide) (fun c_24 => ?_) (fun c_24 => ?_)
          · skip
            refine lv_aload_n hx hb dX6_part_38 rfl (lv_at hl 0 rfl) ?_
            refine lv_aload_n hx hb dX6_part_39 rfl (lv_at hl 0 rfl) ?_
            refine h_get hx hb hE hw hts hinX6 hown (ci := 6) rfl 8 (by decide) lk_32 (fun _ h9 => h9) hM.ob rfl dX6_part_40 ?_
            refine lv_iload_n hx hb dX6_part_43 rfl (lv_at hl 1 rfl) ?_
            refine h_callV (st1 := []) [.ref (ma 8), .int (nI kvs)] [] ⟨hx, hb, hml, hown, hts⟩ hE hw (HT.to (c_X6_load l G A ma F _ _ _ _ _ _ _ _ hM 8 kvs (by decide) (by decide) hkvs) rfl (F3 := va_up F (ma 8) (eJ4 G (rg kvs))) (by rw [show rgq mrg kvs = rg kvs from hk4 kvs hkvs])) (cwV 2 hts gX6_part_X6_load rfl rfl rfl (by decide +kernel) ⟨Nat.le_of_ble_eq_true rfl, Nat.le_of_ble_eq_true rfl⟩) hM.ob rfl rfl rfl hl.1 rfl (Nat.le_of_ble_eq_true rfl) dX6_part_44 ⟨Nat.le_of_ble_eq_true rfl, Nat.le_of_ble_eq_true rfl⟩ rfl (fun H locs hw => ?_)
            refine lv_iload_n hx hb dX6_part_47 rfl (lv_at hl 2 rfl) ?_
            refine lv_iconst (v := 4) hx hb dX6_part_48 (by decide) ?_
            refine lv_icmp_ne (tgt := 63) hx hb dX6_part_49 (by decide) (fun c_49 => ?_) (fun c_49 => ?_)
            · skip
              refine lv_iload_n hx hb dX6_part_63 rfl (lv_at hl 2 rfl) ?_
              refine lv_iconst (v := 5) hx hb dX6_part_64 (by decide) ?_
              refine lv_icmp_ne (tgt := 87) hx hb dX6_part_65 (by decide) (fun c_65 => ?_) (fun c_65 => ?_)
              · skip
                refine lv_aload_n hx hb dX6_part_87 rfl (lv_at hl 0 rfl) ?_
                refine lv_aload_n hx hb dX6_part_88 rfl (lv_at hl 0 rfl) ?_
                refine h_get hx hb hE hw hts hinX6 hown (ci := 6) rfl 8 (by decide) lk_32 (fun _ h9 => h9) (pt_ne hM.ob (hM.ne (i := 0) (j := 8) (by decide) (by decide) (by decide))) rfl dX6_part_89 ?_
                refine h_callV (st1 := [.int (fuN (rg kvs) 24 0)]) [.ref (ma 8)] [] ⟨hx, hb, hml, hown, hts⟩ hE hw (c_X6_unitOf l G A ma (va_up F (ma 8) (eJ4 G (rg kvs))) _ _ _ _ _ _ _ _ (MW.setv hM (i := 8) (by decide) (by decide) (rg kvs)) (rg kvs) (pt_up (hM.v (i := 8) (by decide) (by decide)))) (cwV 1 hts gX6_part_X6_unitOf rfl rfl rfl (by decide +kernel) ⟨Nat.le_of_ble_eq_true rfl, Nat.le_of_ble_eq_true rfl⟩) (pt_ne hM.ob (hM.ne (i := 0) (j := 8) (by decide) (by decide) (by decide))) rfl rfl rfl hl.1 rfl (Nat.le_of_ble_eq_true rfl) dX6_part_92 ⟨Nat.le_of_ble_eq_true rfl, Nat.le_of_ble_eq_true rfl⟩ rfl (fun H locs hw => ?_)
                exact h_iretP hx hb hlk hr hw dX6_part_95 (by rw [(sp_part_v xvs).2.2.2.2.2.2]) (by rw [(sp_part_v xvs).2.2.2.2.2.2]; exact ⟨_, (MW.setv hM (i := 8) (by decide) (by decide) (rg kvs)), rel_v hrel⟩)
              · skip
                first | exact absurd c_65 (by decide) | exact absurd (by decide) c_65
            · skip
              first | exact absurd c_49 (by decide) | exact absurd (by decide) c_49
          · skip
            first | exact absurd c_24 (by decide) | exact absurd (by decide) c_24
        · skip
          first | exact absurd c_16 (by decide) | exact absurd (by decide) c_16

set_option maxHeartbeats 4000000 in
set_option maxRecDepth 100000 in
theorem c_X6_divide (l : Launch) (G : GG) (A : Nat → Prop) (ma : Nat → Nat) (F : FM) (rg : Nat → Q4) (kd : Nat → Int32) (z : Nat → Nat) (pl : Nat → Nat → Int64) (cnt : Nat) (hR : MR G ma (rg, kd, z, pl, cnt) F) (hz : ∀ k, k < 6 → z k ≤ 16) (hkd : ∀ k, k < 6 → kd k = -1 ∨ 0 ≤ kd k) (hc12 : cnt ≤ 12) (hq : ∀ k, k < 16 → rok (rg k)) (vs : Int32) (vr : Int32) (vt : Int32) (vu : Int32) (vd : Int32) : PT l yX6_divide wsX6_divide { frames := 3, cells := 0, slots := 0, locals := 66 } G A (ML ma) [.ref (ma 0), .int vs, .int vr, .int vt, .int vu, .int vd] F (some (.int (sp_divide (rg, kd, z, pl, cnt) vs vr vt vu vd).1)) (MR G ma (sp_divide (rg, kd, z, pl, cnt) vs vr vt vu vd).2) := by
  refine PT.ofW (cc := cX6_divide) (maxL := 6) (ret := (some .int)) (plainFor_of_name (by decide)) rfl (Nat.le_of_ble_eq_true rfl) ?_
  intro p e s m below meth c ls hx hb hr hml hown hts hlk hE hw hl
  have hl : lv_has ls 6 [(0, .ref (ma 0)), (1, .int vs), (2, .int vr), (3, .int vt), (4, .int vu), (5, .int vd)] := hl
  have hown : s.vm.findClass RX6 = some m.cls := hown
  have lk_32 := hts (.fieldLink RX6 32 "FourPartsModel" "x" "[J") (by decide +kernel)
  have hinX6 : ∀ w ∈ u_ws RX6 TX6 18, w ∈ wsX6_divide := by decide +kernel
  have lk_35 := hts (.fieldLink RX6 35 "FourPartsModel" "y" "[J") (by decide +kernel)
  have lk_47 := hts (.fieldLink RX6 47 "FourPartsModel" "quotient" "[J") (by decide +kernel)
  have lk_41 := hts (.fieldLink RX6 41 "FourPartsModel" "rest" "[J") (by decide +kernel)
  obtain ⟨⟨mk, msz, msh, mrg, mfc, mmd, mv, mcn⟩, hM, hrel⟩ := hR
  obtain ⟨hk1, hk2, hk3, hk4, hk5, hk6⟩ := id hrel
  refine lv_iload_n hx hb dX6_divide_0 rfl (lv_at hl 1 rfl) ?_
  rcases ix_cases 16 (by decide) vs with hvs | ⟨kvs, hkvs, rfl⟩
  · skip
    have xvs := ix_none hvs
    refine h_callS (st1 := [.int 0]) [.int vs] [] ⟨hx, hb, hml, hown, hts⟩ hE hw (HT.to (c_X6_isRegister l G A (ML ma) F vs) (V2 := some (.int 0)) (congrArg (fun y => some (Value.int y)) (bI_f (show ¬ inL vs.toInt64 0 15 from inL_out (n := 15) (by decide) hvs))) rfl) (va_cwS 1 hts gX6_divide_X6_isRegister rfl rfl rfl (by decide +kernel) ⟨Nat.le_of_ble_eq_true rfl, Nat.le_of_ble_eq_true rfl⟩) rfl hl.1 rfl (Nat.le_of_ble_eq_true rfl) dX6_divide_1 ⟨Nat.le_of_ble_eq_true rfl, Nat.le_of_ble_eq_true rfl⟩ rfl (fun H locs hw => ?_)
    refine lv_if_eq (tgt := 45) hx hb dX6_divide_4 (by decide) (fun c_4 => ?_) (fun c_4 => ?_)
    · skip
      refine lv_iconst (v := (-1)) hx hb dX6_divide_45 (by decide) ?_
      exact h_iretP hx hb hlk hr hw dX6_divide_46 (by simp only [sp_divide, xvs, cif_same]) (by simp only [sp_divide, xvs, cif_same]; exact ⟨_, hM, rel_v hrel⟩)
    · skip
      first | exact absurd c_4 (by decide) | exact absurd (by decide) c_4
  · skip
    have xvs := ix_in (n := 16) hkvs (by decide)
    refine h_callS (st1 := [.int 1]) [.int (nI kvs)] [] ⟨hx, hb, hml, hown, hts⟩ hE hw (HT.to (c_X6_isRegister l G A (ML ma) F (nI kvs)) (V2 := some (.int 1)) (congrArg (fun y => some (Value.int y)) (bI_t (show inL (nI kvs).toInt64 0 15 from inL_in (n := 15) (by decide) hkvs))) rfl) (va_cwS 1 hts gX6_divide_X6_isRegister rfl rfl rfl (by decide +kernel) ⟨Nat.le_of_ble_eq_true rfl, Nat.le_of_ble_eq_true rfl⟩) rfl hl.1 rfl (Nat.le_of_ble_eq_true rfl) dX6_divide_1 ⟨Nat.le_of_ble_eq_true rfl, Nat.le_of_ble_eq_true rfl⟩ rfl (fun H locs hw => ?_)
    refine lv_if_eq (tgt := 45) hx hb dX6_divide_4 (by decide) (fun c_4 => ?_) (fun c_4 => ?_)
    · skip
      first | exact absurd c_4 (by decide) | exact absurd (by decide) c_4
    · skip
      refine lv_iload_n hx hb dX6_divide_7 rfl (lv_at hl 2 rfl) ?_
      rcases ix_cases 16 (by decide) vr with hvr | ⟨kvr, hkvr, rfl⟩
      · skip
        have xvr := ix_none hvr
        refine h_callS (st1 := [.int 0]) [.int vr] [] ⟨hx, hb, hml, hown, hts⟩ hE hw (HT.to (c_X6_isRegister l G A (ML ma) F vr) (V2 := some (.int 0)) (congrArg (fun y => some (Value.int y)) (bI_f (show ¬ inL vr.toInt64 0 15 from inL_out (n := 15) (by decide) hvr))) rfl) (va_cwS 1 hts gX6_divide_X6_isRegister rfl rfl rfl (by decide +kernel) ⟨Nat.le_of_ble_eq_true rfl, Nat.le_of_ble_eq_true rfl⟩) rfl hl.1 rfl (Nat.le_of_ble_eq_true rfl) dX6_divide_8 ⟨Nat.le_of_ble_eq_true rfl, Nat.le_of_ble_eq_true rfl⟩ rfl (fun H locs hw => ?_)
        refine lv_if_eq (tgt := 45) hx hb dX6_divide_11 (by decide) (fun c_11 => ?_) (fun c_11 => ?_)
        · skip
          refine lv_iconst (v := (-1)) hx hb dX6_divide_45 (by decide) ?_
          exact h_iretP hx hb hlk hr hw dX6_divide_46 (by simp only [sp_divide, xvs, xvr, cif_same]) (by simp only [sp_divide, xvs, xvr, cif_same]; exact ⟨_, hM, rel_v hrel⟩)
        · skip
          first | exact absurd c_11 (by decide) | exact absurd (by decide) c_11
      · skip
        have xvr := ix_in (n := 16) hkvr (by decide)
        refine h_callS (st1 := [.int 1]) [.int (nI kvr)] [] ⟨hx, hb, hml, hown, hts⟩ hE hw (HT.to (c_X6_isRegister l G A (ML ma) F (nI kvr)) (V2 := some (.int 1)) (congrArg (fun y => some (Value.int y)) (bI_t (show inL (nI kvr).toInt64 0 15 from inL_in (n := 15) (by decide) hkvr))) rfl) (va_cwS 1 hts gX6_divide_X6_isRegister rfl rfl rfl (by decide +kernel) ⟨Nat.le_of_ble_eq_true rfl, Nat.le_of_ble_eq_true rfl⟩) rfl hl.1 rfl (Nat.le_of_ble_eq_true rfl) dX6_divide_8 ⟨Nat.le_of_ble_eq_true rfl, Nat.le_of_ble_eq_true rfl⟩ rfl (fun H locs hw => ?_)
        refine lv_if_eq (tgt := 45) hx hb dX6_divide_11 (by decide) (fun c_11 => ?_) (fun c_11 => ?_)
        · skip
          first | exact absurd c_11 (by decide) | exact absurd (by decide) c_11
        · skip
          refine lv_iload_n hx hb dX6_divide_14 rfl (lv_at hl 3 rfl) ?_
          rcases ix_cases 16 (by decide) vt with hvt | ⟨kvt, hkvt, rfl⟩
          · skip
            have xvt := ix_none hvt
            refine h_callS (st1 := [.int 0]) [.int vt] [] ⟨hx, hb, hml, hown, hts⟩ hE hw (HT.to (c_X6_isRegister l G A (ML ma) F vt) (V2 := some (.int 0)) (congrArg (fun y => some (Value.int y)) (bI_f (show ¬ inL vt.toInt64 0 15 from inL_out (n := 15) (by decide) hvt))) rfl) (va_cwS 1 hts gX6_divide_X6_isRegister rfl rfl rfl (by decide +kernel) ⟨Nat.le_of_ble_eq_true rfl, Nat.le_of_ble_eq_true rfl⟩) rfl hl.1 rfl (Nat.le_of_ble_eq_true rfl) dX6_divide_15 ⟨Nat.le_of_ble_eq_true rfl, Nat.le_of_ble_eq_true rfl⟩ rfl (fun H locs hw => ?_)
            refine lv_if_eq (tgt := 45) hx hb dX6_divide_18 (by decide) (fun c_18 => ?_) (fun c_18 => ?_)
            · skip
              refine lv_iconst (v := (-1)) hx hb dX6_divide_45 (by decide) ?_
              exact h_iretP hx hb hlk hr hw dX6_divide_46 (by simp only [sp_divide, xvs, xvr, xvt, cif_same]) (by simp only [sp_divide, xvs, xvr, xvt, cif_same]; exact ⟨_, hM, rel_v hrel⟩)
            · skip
              first | exact absurd c_18 (by decide) | exact absurd (by decide) c_18
          · skip
            have xvt := ix_in (n := 16) hkvt (by decide)
            refine h_callS (st1 := [.int 1]) [.int (nI kvt)] [] ⟨hx, hb, hml, hown, hts⟩ hE hw (HT.to (c_X6_isRegister l G A (ML ma) F (nI kvt)) (V2 := some (.int 1)) (congrArg (fun y => some (Value.int y)) (bI_t (show inL (nI kvt).toInt64 0 15 from inL_in (n := 15) (by decide) hkvt))) rfl) (va_cwS 1 hts gX6_divide_X6_isRegister rfl rfl rfl (by decide +kernel) ⟨Nat.le_of_ble_eq_true rfl, Nat.le_of_ble_eq_true rfl⟩) rfl hl.1 rfl (Nat.le_of_ble_eq_true rfl) dX6_divide_15 ⟨Nat.le_of_ble_eq_true rfl, Nat.le_of_ble_eq_true rfl⟩ rfl (fun H locs hw => ?_)
            refine lv_if_eq (tgt := 45) hx hb dX6_divide_18 (by decide) (fun c_18 => ?_) (fun c_18 => ?_)
            · skip
              first | exact absurd c_18 (by decide) | exact absurd (by decide) c_18
            · skip
              refine lv_iload hx hb dX6_divide_21 (lv_at hl 4 rfl) ?_
              rcases ix_cases 16 (by decide) vu with hvu | ⟨kvu, hkvu, rfl⟩
              · skip
                have xvu := ix_none hvu
                refine h_callS (st1 := [.int 0]) [.int vu] [] ⟨hx, hb, hml, hown, hts⟩ hE hw (HT.to (c_X6_isRegister l G A (ML ma) F vu) (V2 := some (.int 0)) (congrArg (fun y => some (Value.int y)) (bI_f (show ¬ inL vu.toInt64 0 15 from inL_out (n := 15) (by decide) hvu))) rfl) (va_cwS 1 hts gX6_divide_X6_isRegister rfl rfl rfl (by decide +kernel) ⟨Nat.le_of_ble_eq_true rfl, Nat.le_of_ble_eq_true rfl⟩) rfl hl.1 rfl (Nat.le_of_ble_eq_true rfl) dX6_divide_23 ⟨Nat.le_of_ble_eq_true rfl, Nat.le_of_ble_eq_true rfl⟩ rfl (fun H locs hw => ?_)
                refine lv_if_eq (tgt := 45) hx hb dX6_divide_26 (by decide) (fun c_26 => ?_) (fun c_26 => ?_)
                · skip
                  refine lv_iconst (v := (-1)) hx hb dX6_divide_45 (by decide) ?_
                  exact h_iretP hx hb hlk hr hw dX6_divide_46 (by simp only [sp_divide, xvs, xvr, xvt, xvu, cif_same]) (by simp only [sp_divide, xvs, xvr, xvt, xvu, cif_same]; exact ⟨_, hM, rel_v hrel⟩)
                · skip
                  first | exact absurd c_26 (by decide) | exact absurd (by decide) c_26
              · skip
                have xvu := ix_in (n := 16) hkvu (by decide)
                refine h_callS (st1 := [.int 1]) [.int (nI kvu)] [] ⟨hx, hb, hml, hown, hts⟩ hE hw (HT.to (c_X6_isRegister l G A (ML ma) F (nI kvu)) (V2 := some (.int 1)) (congrArg (fun y => some (Value.int y)) (bI_t (show inL (nI kvu).toInt64 0 15 from inL_in (n := 15) (by decide) hkvu))) rfl) (va_cwS 1 hts gX6_divide_X6_isRegister rfl rfl rfl (by decide +kernel) ⟨Nat.le_of_ble_eq_true rfl, Nat.le_of_ble_eq_true rfl⟩) rfl hl.1 rfl (Nat.le_of_ble_eq_true rfl) dX6_divide_23 ⟨Nat.le_of_ble_eq_true rfl, Nat.le_of_ble_eq_true rfl⟩ rfl (fun H locs hw => ?_)
                refine lv_if_eq (tgt := 45) hx hb dX6_divide_26 (by decide) (fun c_26 => ?_) (fun c_26 => ?_)
                · skip
                  first | exact absurd c_26 (by decide) | exact absurd (by decide) c_26
                · skip
                  refine lv_iload hx hb dX6_divide_29 (lv_at hl 5 rfl) ?_
                  refine lv_i2l hx hb dX6_divide_31 rfl ?_
                  refine lv_lconst (v := 0) hx hb dX6_divide_32 (by decide) ?_
                  refine lv_lconst (v := 1) hx hb dX6_divide_33 (by decide) ?_
                  rcases in_1 vd with hovd | rfl | rfl
                  · skip
                    refine h_callS (st1 := [.int 0]) [.long vd.toInt64, .long 0, .long 1] [] ⟨hx, hb, hml, hown, hts⟩ hE hw (HT.to (c_X6_in l G A (ML ma) F vd.toInt64 0 1) (V2 := some (.int 0)) (congrArg (fun y => some (Value.int y)) (bI_f hovd.1)) rfl) (va_cwS 3 hts gX6_divide_X6_in rfl rfl rfl (by decide +kernel) ⟨Nat.le_of_ble_eq_true rfl, Nat.le_of_ble_eq_true rfl⟩) rfl hl.1 rfl (Nat.le_of_ble_eq_true rfl) dX6_divide_34 ⟨Nat.le_of_ble_eq_true rfl, Nat.le_of_ble_eq_true rfl⟩ rfl (fun H locs hw => ?_)
                    refine lv_if_eq (tgt := 45) hx hb dX6_divide_37 (by decide) (fun c_37 => ?_) (fun c_37 => ?_)
                    · skip
                      refine lv_iconst (v := (-1)) hx hb dX6_divide_45 (by decide) ?_
                      exact h_iretP hx hb hlk hr hw dX6_divide_46 (by simp only [sp_divide, xvs, xvr, xvt, xvu, cif_f hovd.2, cif_same]) (by simp only [sp_divide, xvs, xvr, xvt, xvu, cif_f hovd.2, cif_same]; exact ⟨_, hM, rel_v hrel⟩)
                    · skip
                      first | exact absurd c_37 (by decide) | exact absurd (by decide) c_37
                  · skip
                    refine h_callS (st1 := [.int 1]) [.long ((0 : Int32).toInt64), .long 0, .long 1] [] ⟨hx, hb, hml, hown, hts⟩ hE hw (HT.to (c_X6_in l G A (ML ma) F (0 : Int32).toInt64 0 1) (V2 := some (.int 1)) (congrArg (fun y => some (Value.int y)) (bI_t (show inL (0 : Int32).toInt64 0 1 from ⟨by decide, by decide⟩))) rfl) (va_cwS 3 hts gX6_divide_X6_in rfl rfl rfl (by decide +kernel) ⟨Nat.le_of_ble_eq_true rfl, Nat.le_of_ble_eq_true rfl⟩) rfl hl.1 rfl (Nat.le_of_ble_eq_true rfl) dX6_divide_34 ⟨Nat.le_of_ble_eq_true rfl, Nat.le_of_ble_eq_true rfl⟩ rfl (fun H locs hw => ?_)
                    refine lv_if_eq (tgt := 45) hx hb dX6_divide_37 (by decide) (fun c_37 => ?_) (fun c_37 => ?_)
                    · skip
                      first | exact absurd c_37 (by decide) | exact absurd (by decide) c_37
                    · skip
                      refine lv_iload_n hx hb dX6_divide_40 rfl (lv_at hl 1 rfl) ?_
                      refine lv_iload_n hx hb dX6_divide_41 rfl (lv_at hl 2 rfl) ?_
                      refine lv_icmp_ne (tgt := 47) hx hb dX6_divide_42 (by decide) (fun c_42 => ?_) (fun c_42 => ?_)
                      · skip
                        refine lv_aload_n hx hb dX6_divide_47 rfl (lv_at hl 0 rfl) ?_
                        refine lv_aload_n hx hb dX6_divide_48 rfl (lv_at hl 0 rfl) ?_
                        refine h_get hx hb hE hw hts hinX6 hown (ci := 6) rfl 8 (by decide) lk_32 (fun _ h9 => h9) hM.ob rfl dX6_divide_49 ?_
                        refine lv_iload_n hx hb dX6_divide_52 rfl (lv_at hl 3 rfl) ?_
                        refine h_callV (st1 := []) [.ref (ma 8), .int (nI kvt)] [] ⟨hx, hb, hml, hown, hts⟩ hE hw (HT.to (c_X6_load l G A ma F _ _ _ _ _ _ _ _ hM 8 kvt (by decide) (by decide) hkvt) rfl (F3 := va_up F (ma 8) (eJ4 G (rg kvt))) (by rw [show rgq mrg kvt = rg kvt from hk4 kvt hkvt])) (cwV 2 hts gX6_divide_X6_load rfl rfl rfl (by decide +kernel) ⟨Nat.le_of_ble_eq_true rfl, Nat.le_of_ble_eq_true rfl⟩) hM.ob rfl rfl rfl hl.1 rfl (Nat.le_of_ble_eq_true rfl) dX6_divide_53 ⟨Nat.le_of_ble_eq_true rfl, Nat.le_of_ble_eq_true rfl⟩ rfl (fun H locs hw => ?_)
                        refine lv_aload_n hx hb dX6_divide_56 rfl (lv_at hl 0 rfl) ?_
                        refine lv_aload_n hx hb dX6_divide_57 rfl (lv_at hl 0 rfl) ?_
                        refine h_get hx hb hE hw hts hinX6 hown (ci := 6) rfl 9 (by decide) lk_35 (fun _ h9 => h9) (pt_ne hM.ob (hM.ne (i := 0) (j := 8) (by decide) (by decide) (by decide))) rfl dX6_divide_58 ?_
                        refine lv_iload hx hb dX6_divide_61 (lv_at hl 4 rfl) ?_
                        refine h_callV (st1 := []) [.ref (ma 9), .int (nI kvu)] [] ⟨hx, hb, hml, hown, hts⟩ hE hw (HT.to (c_X6_load l G A ma (va_up F (ma 8) (eJ4 G (rg kvt))) _ _ _ _ _ _ _ _ (MW.setv hM (i := 8) (by decide) (by decide) (rg kvt)) 9 kvu (by decide) (by decide) hkvu) rfl (F3 := va_up (va_up F (ma 8) (eJ4 G (rg kvt))) (ma 9) (eJ4 G (rg kvu))) (by rw [show rgq mrg kvu = rg kvu from hk4 kvu hkvu])) (cwV 2 hts gX6_divide_X6_load rfl rfl rfl (by decide +kernel) ⟨Nat.le_of_ble_eq_true rfl, Nat.le_of_ble_eq_true rfl⟩) (pt_ne hM.ob (hM.ne (i := 0) (j := 8) (by decide) (by decide) (by decide))) rfl rfl rfl hl.1 rfl (Nat.le_of_ble_eq_true rfl) dX6_divide_63 ⟨Nat.le_of_ble_eq_true rfl, Nat.le_of_ble_eq_true rfl⟩ rfl (fun H locs hw => ?_)
                        refine lv_aload_n hx hb dX6_divide_66 rfl (lv_at hl 0 rfl) ?_
                        refine h_get hx hb hE hw hts hinX6 hown (ci := 6) rfl 9 (by decide) lk_35 (fun _ h9 => h9) (pt_ne (pt_ne hM.ob (hM.ne (i := 0) (j := 8) (by decide) (by decide) (by decide))) (hM.ne (i := 0) (j := 9) (by decide) (by decide) (by decide))) rfl dX6_divide_67 ?_
                        refine h_callS (st1 := [.int (bI (qzero (rg kvu)))]) [.ref (ma 9)] [] ⟨hx, hb, hml, hown, hts⟩ hE hw (c_X6_isNull l G A (ML ma) (va_up (va_up F (ma 8) (eJ4 G (rg kvt))) (ma 9) (eJ4 G (rg kvu))) (ma 9) (rg kvu) (pt_up (pt_ne (hM.v (i := 9) (by decide) (by decide)) (hM.ne (i := 9) (j := 8) (by decide) (by decide) (by decide))))) (va_cwS 1 hts gX6_divide_X6_isNull rfl rfl rfl (by decide +kernel) ⟨Nat.le_of_ble_eq_true rfl, Nat.le_of_ble_eq_true rfl⟩) rfl hl.1 rfl (Nat.le_of_ble_eq_true rfl) dX6_divide_70 ⟨Nat.le_of_ble_eq_true rfl, Nat.le_of_ble_eq_true rfl⟩ rfl (fun H locs hw => ?_)
                        refine lv_if_eq (tgt := 79) hx hb dX6_divide_73 (by decide) (fun c_73 => ?_) (fun c_73 => ?_)
                        · skip
                          have c_73 := bI_eq.mp c_73
                          refine lv_aload_n hx hb dX6_divide_79 rfl (lv_at hl 0 rfl) ?_
                          refine lv_aload_n hx hb dX6_divide_80 rfl (lv_at hl 0 rfl) ?_
                          refine h_get hx hb hE hw hts hinX6 hown (ci := 6) rfl 8 (by decide) lk_32 (fun _ h9 => h9) (pt_ne (pt_ne hM.ob (hM.ne (i := 0) (j := 8) (by decide) (by decide) (by decide))) (hM.ne (i := 0) (j := 9) (by decide) (by decide) (by decide))) rfl dX6_divide_81 ?_
                          refine lv_aload_n hx hb dX6_divide_84 rfl (lv_at hl 0 rfl) ?_
                          refine h_get hx hb hE hw hts hinX6 hown (ci := 6) rfl 9 (by decide) lk_35 (fun _ h9 => h9) (pt_ne (pt_ne hM.ob (hM.ne (i := 0) (j := 8) (by decide) (by decide) (by decide))) (hM.ne (i := 0) (j := 9) (by decide) (by decide) (by decide))) rfl dX6_divide_85 ?_
                          refine lv_iload hx hb dX6_divide_88 (lv_at hl 5 rfl) ?_
                          refine h_callVP (st1 := []) [.ref (ma 8), .ref (ma 9), .int 0] [] ⟨hx, hb, hml, hown, hts⟩ hE hw (c_X6_divideBy l G A ma (va_up (va_up F (ma 8) (eJ4 G (rg kvt))) (ma 9) (eJ4 G (rg kvu))) _ _ _ _ _ _ _ _ (MW.setv (MW.setv hM (i := 8) (by decide) (by decide) (rg kvt)) (i := 9) (by decide) (by decide) (rg kvu)) (rg kvt) (rg kvu) rfl rfl 0 ((hq kvu hkvu).ne c_73)) (cwV 3 hts gX6_divide_X6_divideBy rfl rfl rfl (by decide +kernel) ⟨Nat.le_of_ble_eq_true rfl, Nat.le_of_ble_eq_true rfl⟩) (pt_ne (pt_ne hM.ob (hM.ne (i := 0) (j := 8) (by decide) (by decide) (by decide))) (hM.ne (i := 0) (j := 9) (by decide) (by decide) (by decide))) rfl rfl rfl hl.1 rfl (Nat.le_of_ble_eq_true rfl) dX6_divide_90 ⟨Nat.le_of_ble_eq_true rfl, Nat.le_of_ble_eq_true rfl⟩ rfl (fun F H locs hP hw => ?_)
                          obtain ⟨mv3, hM3, h313, h311, hk3b⟩ := hP
                          have hst := (hq kvt hkvt).st (sd := 0) (hq kvu hkvu) c_73
                          have e313 : mv3 13 = quo 0 (rg kvt) (rg kvu) := h313.trans hst.2
                          have e311 : mv3 11 = rst 0 (rg kvt) (rg kvu) := h311.trans hst.1
                          refine lv_aload_n hx hb dX6_divide_93 rfl (lv_at hl 0 rfl) ?_
                          refine h_get hx hb hE hw hts hinX6 hown (ci := 6) rfl 13 (by decide) lk_47 (fun _ h9 => h9) hM3.ob rfl dX6_divide_94 ?_
                          refine h_callS (st1 := [.int (bI (qlow (quo 0 (rg kvt) (rg kvu))))]) [.ref (ma 13)] [] ⟨hx, hb, hml, hown, hts⟩ hE hw (c_X6_isLow l G A (ML ma) F (ma 13) (quo 0 (rg kvt) (rg kvu)) (pt_eq (hM3.v (i := 13) (by decide) (by decide)) (by rw [show ((mk, msz, msh, mrg, mfc, mmd, mv3, mcn) : MS).2.2.2.2.2.2.1 13 = (quo 0 (rg kvt) (rg kvu)) from e313]))) (va_cwS 1 hts gX6_divide_X6_isLow rfl rfl rfl (by decide +kernel) ⟨Nat.le_of_ble_eq_true rfl, Nat.le_of_ble_eq_true rfl⟩) rfl hl.1 rfl (Nat.le_of_ble_eq_true rfl) dX6_divide_97 ⟨Nat.le_of_ble_eq_true rfl, Nat.le_of_ble_eq_true rfl⟩ rfl (fun H locs hw => ?_)
                          refine lv_if_eq (tgt := 113) hx hb dX6_divide_100 (by decide) (fun c_100 => ?_) (fun c_100 => ?_)
                          · skip
                            have c_100 := bI_eq.mp c_100
                            have h100 := Classical.not_not.mp (fun w => c_100 (low_hi.mpr w))
                            refine lv_bipush (v := (-3)) hx hb dX6_divide_113 (by decide) ?_
                            exact h_iretP hx hb hlk hr hw dX6_divide_115 (by simp only [sp_divide, xvs, xvr, xvt, xvu, cif_t (show ((0 : Int32) = 0 ∨ (0 : Int32) = 1) by decide), cif_T, or_true, true_or, cif_f c_42, cif_f (fun w => c_73 ((hq kvu hkvu).n0.mp w)), cif_t h100, cif_same]) (by simp only [sp_divide, xvs, xvr, xvt, xvu, cif_t (show ((0 : Int32) = 0 ∨ (0 : Int32) = 1) by decide), cif_T, or_true, true_or, cif_f c_42, cif_f (fun w => c_73 ((hq kvu hkvu).n0.mp w)), cif_t h100, cif_same]; exact ⟨_, hM3, rel_v hrel⟩)
                          · skip
                            have c_100 := bI_ne.mp c_100
                            have h100 := low_hi.mp c_100
                            refine lv_aload_n hx hb dX6_divide_103 rfl (lv_at hl 0 rfl) ?_
                            refine h_get hx hb hE hw hts hinX6 hown (ci := 6) rfl 11 (by decide) lk_41 (fun _ h9 => h9) hM3.ob rfl dX6_divide_104 ?_
                            refine h_callS (st1 := [.int (bI (qlow (rst 0 (rg kvt) (rg kvu))))]) [.ref (ma 11)] [] ⟨hx, hb, hml, hown, hts⟩ hE hw (c_X6_isLow l G A (ML ma) F (ma 11) (rst 0 (rg kvt) (rg kvu)) (pt_eq (hM3.v (i := 11) (by decide) (by decide)) (by rw [show ((mk, msz, msh, mrg, mfc, mmd, mv3, mcn) : MS).2.2.2.2.2.2.1 11 = (rst 0 (rg kvt) (rg kvu)) from e311]))) (va_cwS 1 hts gX6_divide_X6_isLow rfl rfl rfl (by decide +kernel) ⟨Nat.le_of_ble_eq_true rfl, Nat.le_of_ble_eq_true rfl⟩) rfl hl.1 rfl (Nat.le_of_ble_eq_true rfl) dX6_divide_107 ⟨Nat.le_of_ble_eq_true rfl, Nat.le_of_ble_eq_true rfl⟩ rfl (fun H locs hw => ?_)
                            refine lv_if_ne (tgt := 116) hx hb dX6_divide_110 (by decide) (fun c_110 => ?_) (fun c_110 => ?_)
                            · skip
                              have c_110 := bI_ne.mp c_110
                              have h110 := low_hi.mp c_110
                              refine lv_aload_n hx hb dX6_divide_116 rfl (lv_at hl 0 rfl) ?_
                              refine lv_iload_n hx hb dX6_divide_117 rfl (lv_at hl 1 rfl) ?_
                              refine lv_aload_n hx hb dX6_divide_118 rfl (lv_at hl 0 rfl) ?_
                              refine h_get hx hb hE hw hts hinX6 hown (ci := 6) rfl 13 (by decide) lk_47 (fun _ h9 => h9) hM3.ob rfl dX6_divide_119 ?_
                              refine h_callV (st1 := []) [.int (nI kvs), .ref (ma 13)] [] ⟨hx, hb, hml, hown, hts⟩ hE hw (c_X6_store l G A ma F _ _ _ _ _ _ _ _ hM3 13 kvs (quo 0 (rg kvt) (rg kvu)) (by decide) (by decide) (pt_eq (hM3.v (i := 13) (by decide) (by decide)) (by rw [show ((mk, msz, msh, mrg, mfc, mmd, mv3, mcn) : MS).2.2.2.2.2.2.1 13 = (quo 0 (rg kvt) (rg kvu)) from e313])) hkvs) (cwV 2 hts gX6_divide_X6_store rfl rfl rfl (by decide +kernel) ⟨Nat.le_of_ble_eq_true rfl, Nat.le_of_ble_eq_true rfl⟩) hM3.ob rfl rfl rfl hl.1 rfl (Nat.le_of_ble_eq_true rfl) dX6_divide_122 ⟨Nat.le_of_ble_eq_true rfl, Nat.le_of_ble_eq_true rfl⟩ rfl (fun H locs hw => ?_)
                              refine lv_aload_n hx hb dX6_divide_125 rfl (lv_at hl 0 rfl) ?_
                              refine lv_iload_n hx hb dX6_divide_126 rfl (lv_at hl 2 rfl) ?_
                              refine lv_aload_n hx hb dX6_divide_127 rfl (lv_at hl 0 rfl) ?_
                              refine h_get hx hb hE hw hts hinX6 hown (ci := 6) rfl 11 (by decide) lk_41 (fun _ h9 => h9) (pt_ne hM3.ob (hM.ne (i := 0) (j := 4) (by decide) (by decide) (by decide))) rfl dX6_divide_128 ?_
                              refine h_callV (st1 := []) [.int (nI kvr), .ref (ma 11)] [] ⟨hx, hb, hml, hown, hts⟩ hE hw (c_X6_store l G A ma (va_up F (ma 4) (eI G 64 (stq mrg kvs (quo 0 (rg kvt) (rg kvu))))) _ _ _ _ _ _ _ _ (MW.setr hM3 (stq mrg kvs (quo 0 (rg kvt) (rg kvu)))) 11 kvr (rst 0 (rg kvt) (rg kvu)) (by decide) (by decide) (pt_ne (pt_eq (hM3.v (i := 11) (by decide) (by decide)) (by rw [show ((mk, msz, msh, mrg, mfc, mmd, mv3, mcn) : MS).2.2.2.2.2.2.1 11 = (rst 0 (rg kvt) (rg kvu)) from e311])) (hM.ne (i := 11) (j := 4) (by decide) (by decide) (by decide))) hkvr) (cwV 2 hts gX6_divide_X6_store rfl rfl rfl (by decide +kernel) ⟨Nat.le_of_ble_eq_true rfl, Nat.le_of_ble_eq_true rfl⟩) (pt_ne hM3.ob (hM.ne (i := 0) (j := 4) (by decide) (by decide) (by decide))) rfl rfl rfl hl.1 rfl (Nat.le_of_ble_eq_true rfl) dX6_divide_131 ⟨Nat.le_of_ble_eq_true rfl, Nat.le_of_ble_eq_true rfl⟩ rfl (fun H locs hw => ?_)
                              refine lv_iconst (v := 0) hx hb dX6_divide_134 (by decide) ?_
                              exact h_iretP hx hb hlk hr hw dX6_divide_135 (by simp only [sp_divide, xvs, xvr, xvt, xvu, cif_t (show ((0 : Int32) = 0 ∨ (0 : Int32) = 1) by decide), cif_T, or_true, true_or, cif_f c_42, cif_f (fun w => c_73 ((hq kvu hkvu).n0.mp w)), cif_f h100, cif_f h110, cif_same]) (by simp only [sp_divide, xvs, xvr, xvt, xvu, cif_t (show ((0 : Int32) = 0 ∨ (0 : Int32) = 1) by decide), cif_T, or_true, true_or, cif_f c_42, cif_f (fun w => c_73 ((hq kvu hkvu).n0.mp w)), cif_f h100, cif_f h110, cif_same]; exact ⟨_, (MW.setr (MW.setr hM3 (stq mrg kvs (quo 0 (rg kvt) (rg kvu)))) (stq (stq mrg kvs (quo 0 (rg kvt) (rg kvu))) kvr (rst 0 (rg kvt) (rg kvu)))), rel_rg (rel_rg (rel_v hrel) hkvs h100) hkvr h110⟩)
                            · skip
                              have c_110 := bI_eq.mp c_110
                              have h110 := Classical.not_not.mp (fun w => c_110 (low_hi.mpr w))
                              refine lv_bipush (v := (-3)) hx hb dX6_divide_113 (by decide) ?_
                              exact h_iretP hx hb hlk hr hw dX6_divide_115 (by simp only [sp_divide, xvs, xvr, xvt, xvu, cif_t (show ((0 : Int32) = 0 ∨ (0 : Int32) = 1) by decide), cif_T, or_true, true_or, cif_f c_42, cif_f (fun w => c_73 ((hq kvu hkvu).n0.mp w)), cif_f h100, cif_t h110, cif_same]) (by simp only [sp_divide, xvs, xvr, xvt, xvu, cif_t (show ((0 : Int32) = 0 ∨ (0 : Int32) = 1) by decide), cif_T, or_true, true_or, cif_f c_42, cif_f (fun w => c_73 ((hq kvu hkvu).n0.mp w)), cif_f h100, cif_t h110, cif_same]; exact ⟨_, hM3, rel_v hrel⟩)
                        · skip
                          have c_73 := bI_ne.mp c_73
                          refine lv_bipush (v := (-2)) hx hb dX6_divide_76 (by decide) ?_
                          exact h_iretP hx hb hlk hr hw dX6_divide_78 (by simp only [sp_divide, xvs, xvr, xvt, xvu, cif_t (show ((0 : Int32) = 0 ∨ (0 : Int32) = 1) by decide), cif_T, or_true, true_or, cif_f c_42, cif_t ((hq kvu hkvu).n0.mpr c_73), cif_same]) (by simp only [sp_divide, xvs, xvr, xvt, xvu, cif_t (show ((0 : Int32) = 0 ∨ (0 : Int32) = 1) by decide), cif_T, or_true, true_or, cif_f c_42, cif_t ((hq kvu hkvu).n0.mpr c_73), cif_same]; exact ⟨_, (MW.setv (MW.setv hM (i := 8) (by decide) (by decide) (rg kvt)) (i := 9) (by decide) (by decide) (rg kvu)), rel_v hrel⟩)
                      · skip
                        refine lv_iconst (v := (-1)) hx hb dX6_divide_45 (by decide) ?_
                        exact h_iretP hx hb hlk hr hw dX6_divide_46 (by simp only [sp_divide, xvs, xvr, xvt, xvu, cif_t (show ((0 : Int32) = 0 ∨ (0 : Int32) = 1) by decide), cif_T, or_true, true_or, cif_t c_42, cif_same]) (by simp only [sp_divide, xvs, xvr, xvt, xvu, cif_t (show ((0 : Int32) = 0 ∨ (0 : Int32) = 1) by decide), cif_T, or_true, true_or, cif_t c_42, cif_same]; exact ⟨_, hM, rel_v hrel⟩)
                  · skip
                    refine h_callS (st1 := [.int 1]) [.long ((1 : Int32).toInt64), .long 0, .long 1] [] ⟨hx, hb, hml, hown, hts⟩ hE hw (HT.to (c_X6_in l G A (ML ma) F (1 : Int32).toInt64 0 1) (V2 := some (.int 1)) (congrArg (fun y => some (Value.int y)) (bI_t (show inL (1 : Int32).toInt64 0 1 from ⟨by decide, by decide⟩))) rfl) (va_cwS 3 hts gX6_divide_X6_in rfl rfl rfl (by decide +kernel) ⟨Nat.le_of_ble_eq_true rfl, Nat.le_of_ble_eq_true rfl⟩) rfl hl.1 rfl (Nat.le_of_ble_eq_true rfl) dX6_divide_34 ⟨Nat.le_of_ble_eq_true rfl, Nat.le_of_ble_eq_true rfl⟩ rfl (fun H locs hw => ?_)
                    refine lv_if_eq (tgt := 45) hx hb dX6_divide_37 (by decide) (fun c_37 => ?_) (fun c_37 => ?_)
                    · skip
                      first | exact absurd c_37 (by decide) | exact absurd (by decide) c_37
                    · skip
                      refine lv_iload_n hx hb dX6_divide_40 rfl (lv_at hl 1 rfl) ?_
                      refine lv_iload_n hx hb dX6_divide_41 rfl (lv_at hl 2 rfl) ?_
                      refine lv_icmp_ne (tgt := 47) hx hb dX6_divide_42 (by decide) (fun c_42 => ?_) (fun c_42 => ?_)
                      · skip
                        refine lv_aload_n hx hb dX6_divide_47 rfl (lv_at hl 0 rfl) ?_
                        refine lv_aload_n hx hb dX6_divide_48 rfl (lv_at hl 0 rfl) ?_
                        refine h_get hx hb hE hw hts hinX6 hown (ci := 6) rfl 8 (by decide) lk_32 (fun _ h9 => h9) hM.ob rfl dX6_divide_49 ?_
                        refine lv_iload_n hx hb dX6_divide_52 rfl (lv_at hl 3 rfl) ?_
                        refine h_callV (st1 := []) [.ref (ma 8), .int (nI kvt)] [] ⟨hx, hb, hml, hown, hts⟩ hE hw (HT.to (c_X6_load l G A ma F _ _ _ _ _ _ _ _ hM 8 kvt (by decide) (by decide) hkvt) rfl (F3 := va_up F (ma 8) (eJ4 G (rg kvt))) (by rw [show rgq mrg kvt = rg kvt from hk4 kvt hkvt])) (cwV 2 hts gX6_divide_X6_load rfl rfl rfl (by decide +kernel) ⟨Nat.le_of_ble_eq_true rfl, Nat.le_of_ble_eq_true rfl⟩) hM.ob rfl rfl rfl hl.1 rfl (Nat.le_of_ble_eq_true rfl) dX6_divide_53 ⟨Nat.le_of_ble_eq_true rfl, Nat.le_of_ble_eq_true rfl⟩ rfl (fun H locs hw => ?_)
                        refine lv_aload_n hx hb dX6_divide_56 rfl (lv_at hl 0 rfl) ?_
                        refine lv_aload_n hx hb dX6_divide_57 rfl (lv_at hl 0 rfl) ?_
                        refine h_get hx hb hE hw hts hinX6 hown (ci := 6) rfl 9 (by decide) lk_35 (fun _ h9 => h9) (pt_ne hM.ob (hM.ne (i := 0) (j := 8) (by decide) (by decide) (by decide))) rfl dX6_divide_58 ?_
                        refine lv_iload hx hb dX6_divide_61 (lv_at hl 4 rfl) ?_
                        refine h_callV (st1 := []) [.ref (ma 9), .int (nI kvu)] [] ⟨hx, hb, hml, hown, hts⟩ hE hw (HT.to (c_X6_load l G A ma (va_up F (ma 8) (eJ4 G (rg kvt))) _ _ _ _ _ _ _ _ (MW.setv hM (i := 8) (by decide) (by decide) (rg kvt)) 9 kvu (by decide) (by decide) hkvu) rfl (F3 := va_up (va_up F (ma 8) (eJ4 G (rg kvt))) (ma 9) (eJ4 G (rg kvu))) (by rw [show rgq mrg kvu = rg kvu from hk4 kvu hkvu])) (cwV 2 hts gX6_divide_X6_load rfl rfl rfl (by decide +kernel) ⟨Nat.le_of_ble_eq_true rfl, Nat.le_of_ble_eq_true rfl⟩) (pt_ne hM.ob (hM.ne (i := 0) (j := 8) (by decide) (by decide) (by decide))) rfl rfl rfl hl.1 rfl (Nat.le_of_ble_eq_true rfl) dX6_divide_63 ⟨Nat.le_of_ble_eq_true rfl, Nat.le_of_ble_eq_true rfl⟩ rfl (fun H locs hw => ?_)
                        refine lv_aload_n hx hb dX6_divide_66 rfl (lv_at hl 0 rfl) ?_
                        refine h_get hx hb hE hw hts hinX6 hown (ci := 6) rfl 9 (by decide) lk_35 (fun _ h9 => h9) (pt_ne (pt_ne hM.ob (hM.ne (i := 0) (j := 8) (by decide) (by decide) (by decide))) (hM.ne (i := 0) (j := 9) (by decide) (by decide) (by decide))) rfl dX6_divide_67 ?_
                        refine h_callS (st1 := [.int (bI (qzero (rg kvu)))]) [.ref (ma 9)] [] ⟨hx, hb, hml, hown, hts⟩ hE hw (c_X6_isNull l G A (ML ma) (va_up (va_up F (ma 8) (eJ4 G (rg kvt))) (ma 9) (eJ4 G (rg kvu))) (ma 9) (rg kvu) (pt_up (pt_ne (hM.v (i := 9) (by decide) (by decide)) (hM.ne (i := 9) (j := 8) (by decide) (by decide) (by decide))))) (va_cwS 1 hts gX6_divide_X6_isNull rfl rfl rfl (by decide +kernel) ⟨Nat.le_of_ble_eq_true rfl, Nat.le_of_ble_eq_true rfl⟩) rfl hl.1 rfl (Nat.le_of_ble_eq_true rfl) dX6_divide_70 ⟨Nat.le_of_ble_eq_true rfl, Nat.le_of_ble_eq_true rfl⟩ rfl (fun H locs hw => ?_)
                        refine lv_if_eq (tgt := 79) hx hb dX6_divide_73 (by decide) (fun c_73 => ?_) (fun c_73 => ?_)
                        · skip
                          have c_73 := bI_eq.mp c_73
                          refine lv_aload_n hx hb dX6_divide_79 rfl (lv_at hl 0 rfl) ?_
                          refine lv_aload_n hx hb dX6_divide_80 rfl (lv_at hl 0 rfl) ?_
                          refine h_get hx hb hE hw hts hinX6 hown (ci := 6) rfl 8 (by decide) lk_32 (fun _ h9 => h9) (pt_ne (pt_ne hM.ob (hM.ne (i := 0) (j := 8) (by decide) (by decide) (by decide))) (hM.ne (i := 0) (j := 9) (by decide) (by decide) (by decide))) rfl dX6_divide_81 ?_
                          refine lv_aload_n hx hb dX6_divide_84 rfl (lv_at hl 0 rfl) ?_
                          refine h_get hx hb hE hw hts hinX6 hown (ci := 6) rfl 9 (by decide) lk_35 (fun _ h9 => h9) (pt_ne (pt_ne hM.ob (hM.ne (i := 0) (j := 8) (by decide) (by decide) (by decide))) (hM.ne (i := 0) (j := 9) (by decide) (by decide) (by decide))) rfl dX6_divide_85 ?_
                          refine lv_iload hx hb dX6_divide_88 (lv_at hl 5 rfl) ?_
                          refine h_callVP (st1 := []) [.ref (ma 8), .ref (ma 9), .int 1] [] ⟨hx, hb, hml, hown, hts⟩ hE hw (c_X6_divideBy l G A ma (va_up (va_up F (ma 8) (eJ4 G (rg kvt))) (ma 9) (eJ4 G (rg kvu))) _ _ _ _ _ _ _ _ (MW.setv (MW.setv hM (i := 8) (by decide) (by decide) (rg kvt)) (i := 9) (by decide) (by decide) (rg kvu)) (rg kvt) (rg kvu) rfl rfl 1 ((hq kvu hkvu).ne c_73)) (cwV 3 hts gX6_divide_X6_divideBy rfl rfl rfl (by decide +kernel) ⟨Nat.le_of_ble_eq_true rfl, Nat.le_of_ble_eq_true rfl⟩) (pt_ne (pt_ne hM.ob (hM.ne (i := 0) (j := 8) (by decide) (by decide) (by decide))) (hM.ne (i := 0) (j := 9) (by decide) (by decide) (by decide))) rfl rfl rfl hl.1 rfl (Nat.le_of_ble_eq_true rfl) dX6_divide_90 ⟨Nat.le_of_ble_eq_true rfl, Nat.le_of_ble_eq_true rfl⟩ rfl (fun F H locs hP hw => ?_)
                          obtain ⟨mv3, hM3, h313, h311, hk3b⟩ := hP
                          have hst := (hq kvt hkvt).st (sd := 1) (hq kvu hkvu) c_73
                          have e313 : mv3 13 = quo 1 (rg kvt) (rg kvu) := h313.trans hst.2
                          have e311 : mv3 11 = rst 1 (rg kvt) (rg kvu) := h311.trans hst.1
                          refine lv_aload_n hx hb dX6_divide_93 rfl (lv_at hl 0 rfl) ?_
                          refine h_get hx hb hE hw hts hinX6 hown (ci := 6) rfl 13 (by decide) lk_47 (fun _ h9 => h9) hM3.ob rfl dX6_divide_94 ?_
                          refine h_callS (st1 := [.int (bI (qlow (quo 1 (rg kvt) (rg kvu))))]) [.ref (ma 13)] [] ⟨hx, hb, hml, hown, hts⟩ hE hw (c_X6_isLow l G A (ML ma) F (ma 13) (quo 1 (rg kvt) (rg kvu)) (pt_eq (hM3.v (i := 13) (by decide) (by decide)) (by rw [show ((mk, msz, msh, mrg, mfc, mmd, mv3, mcn) : MS).2.2.2.2.2.2.1 13 = (quo 1 (rg kvt) (rg kvu)) from e313]))) (va_cwS 1 hts gX6_divide_X6_isLow rfl rfl rfl (by decide +kernel) ⟨Nat.le_of_ble_eq_true rfl, Nat.le_of_ble_eq_true rfl⟩) rfl hl.1 rfl (Nat.le_of_ble_eq_true rfl) dX6_divide_97 ⟨Nat.le_of_ble_eq_true rfl, Nat.le_of_ble_eq_true rfl⟩ rfl (fun H locs hw => ?_)
                          refine lv_if_eq (tgt := 113) hx hb dX6_divide_100 (by decide) (fun c_100 => ?_) (fun c_100 => ?_)
                          · skip
                            have c_100 := bI_eq.mp c_100
                            have h100 := Classical.not_not.mp (fun w => c_100 (low_hi.mpr w))
                            refine lv_bipush (v := (-3)) hx hb dX6_divide_113 (by decide) ?_
                            exact h_iretP hx hb hlk hr hw dX6_divide_115 (by simp only [sp_divide, xvs, xvr, xvt, xvu, cif_t (show ((1 : Int32) = 0 ∨ (1 : Int32) = 1) by decide), cif_T, or_true, true_or, cif_f c_42, cif_f (fun w => c_73 ((hq kvu hkvu).n0.mp w)), cif_t h100, cif_same]) (by simp only [sp_divide, xvs, xvr, xvt, xvu, cif_t (show ((1 : Int32) = 0 ∨ (1 : Int32) = 1) by decide), cif_T, or_true, true_or, cif_f c_42, cif_f (fun w => c_73 ((hq kvu hkvu).n0.mp w)), cif_t h100, cif_same]; exact ⟨_, hM3, rel_v hrel⟩)
                          · skip
                            have c_100 := bI_ne.mp c_100
                            have h100 := low_hi.mp c_100
                            refine lv_aload_n hx hb dX6_divide_103 rfl (lv_at hl 0 rfl) ?_
                            refine h_get hx hb hE hw hts hinX6 hown (ci := 6) rfl 11 (by decide) lk_41 (fun _ h9 => h9) hM3.ob rfl dX6_divide_104 ?_
                            refine h_callS (st1 := [.int (bI (qlow (rst 1 (rg kvt) (rg kvu))))]) [.ref (ma 11)] [] ⟨hx, hb, hml, hown, hts⟩ hE hw (c_X6_isLow l G A (ML ma) F (ma 11) (rst 1 (rg kvt) (rg kvu)) (pt_eq (hM3.v (i := 11) (by decide) (by decide)) (by rw [show ((mk, msz, msh, mrg, mfc, mmd, mv3, mcn) : MS).2.2.2.2.2.2.1 11 = (rst 1 (rg kvt) (rg kvu)) from e311]))) (va_cwS 1 hts gX6_divide_X6_isLow rfl rfl rfl (by decide +kernel) ⟨Nat.le_of_ble_eq_true rfl, Nat.le_of_ble_eq_true rfl⟩) rfl hl.1 rfl (Nat.le_of_ble_eq_true rfl) dX6_divide_107 ⟨Nat.le_of_ble_eq_true rfl, Nat.le_of_ble_eq_true rfl⟩ rfl (fun H locs hw => ?_)
                            refine lv_if_ne (tgt := 116) hx hb dX6_divide_110 (by decide) (fun c_110 => ?_) (fun c_110 => ?_)
                            · skip
                              have c_110 := bI_ne.mp c_110
                              have h110 := low_hi.mp c_110
                              refine lv_aload_n hx hb dX6_divide_116 rfl (lv_at hl 0 rfl) ?_
                              refine lv_iload_n hx hb dX6_divide_117 rfl (lv_at hl 1 rfl) ?_
                              refine lv_aload_n hx hb dX6_divide_118 rfl (lv_at hl 0 rfl) ?_
                              refine h_get hx hb hE hw hts hinX6 hown (ci := 6) rfl 13 (by decide) lk_47 (fun _ h9 => h9) hM3.ob rfl dX6_divide_119 ?_
                              refine h_callV (st1 := []) [.int (nI kvs), .ref (ma 13)] [] ⟨hx, hb, hml, hown, hts⟩ hE hw (c_X6_store l G A ma F _ _ _ _ _ _ _ _ hM3 13 kvs (quo 1 (rg kvt) (rg kvu)) (by decide) (by decide) (pt_eq (hM3.v (i := 13) (by decide) (by decide)) (by rw [show ((mk, msz, msh, mrg, mfc, mmd, mv3, mcn) : MS).2.2.2.2.2.2.1 13 = (quo 1 (rg kvt) (rg kvu)) from e313])) hkvs) (cwV 2 hts gX6_divide_X6_store rfl rfl rfl (by decide +kernel) ⟨Nat.le_of_ble_eq_true rfl, Nat.le_of_ble_eq_true rfl⟩) hM3.ob rfl rfl rfl hl.1 rfl (Nat.le_of_ble_eq_true rfl) dX6_divide_122 ⟨Nat.le_of_ble_eq_true rfl, Nat.le_of_ble_eq_true rfl⟩ rfl (fun H locs hw => ?_)
                              refine lv_aload_n hx hb dX6_divide_125 rfl (lv_at hl 0 rfl) ?_
                              refine lv_iload_n hx hb dX6_divide_126 rfl (lv_at hl 2 rfl) ?_
                              refine lv_aload_n hx hb dX6_divide_127 rfl (lv_at hl 0 rfl) ?_
                              refine h_get hx hb hE hw hts hinX6 hown (ci := 6) rfl 11 (by decide) lk_41 (fun _ h9 => h9) (pt_ne hM3.ob (hM.ne (i := 0) (j := 4) (by decide) (by decide) (by decide))) rfl dX6_divide_128 ?_
                              refine h_callV (st1 := []) [.int (nI kvr), .ref (ma 11)] [] ⟨hx, hb, hml, hown, hts⟩ hE hw (c_X6_store l G A ma (va_up F (ma 4) (eI G 64 (stq mrg kvs (quo 1 (rg kvt) (rg kvu))))) _ _ _ _ _ _ _ _ (MW.setr hM3 (stq mrg kvs (quo 1 (rg kvt) (rg kvu)))) 11 kvr (rst 1 (rg kvt) (rg kvu)) (by decide) (by decide) (pt_ne (pt_eq (hM3.v (i := 11) (by decide) (by decide)) (by rw [show ((mk, msz, msh, mrg, mfc, mmd, mv3, mcn) : MS).2.2.2.2.2.2.1 11 = (rst 1 (rg kvt) (rg kvu)) from e311])) (hM.ne (i := 11) (j := 4) (by decide) (by decide) (by decide))) hkvr) (cwV 2 hts gX6_divide_X6_store rfl rfl rfl (by decide +kernel) ⟨Nat.le_of_ble_eq_true rfl, Nat.le_of_ble_eq_true rfl⟩) (pt_ne hM3.ob (hM.ne (i := 0) (j := 4) (by decide) (by decide) (by decide))) rfl rfl rfl hl.1 rfl (Nat.le_of_ble_eq_true rfl) dX6_divide_131 ⟨Nat.le_of_ble_eq_true rfl, Nat.le_of_ble_eq_true rfl⟩ rfl (fun H locs hw => ?_)
                              refine lv_iconst (v := 0) hx hb dX6_divide_134 (by decide) ?_
                              exact h_iretP hx hb hlk hr hw dX6_divide_135 (by simp only [sp_divide, xvs, xvr, xvt, xvu, cif_t (show ((1 : Int32) = 0 ∨ (1 : Int32) = 1) by decide), cif_T, or_true, true_or, cif_f c_42, cif_f (fun w => c_73 ((hq kvu hkvu).n0.mp w)), cif_f h100, cif_f h110, cif_same]) (by simp only [sp_divide, xvs, xvr, xvt, xvu, cif_t (show ((1 : Int32) = 0 ∨ (1 : Int32) = 1) by decide), cif_T, or_true, true_or, cif_f c_42, cif_f (fun w => c_73 ((hq kvu hkvu).n0.mp w)), cif_f h100, cif_f h110, cif_same]; exact ⟨_, (MW.setr (MW.setr hM3 (stq mrg kvs (quo 1 (rg kvt) (rg kvu)))) (stq (stq mrg kvs (quo 1 (rg kvt) (rg kvu))) kvr (rst 1 (rg kvt) (rg kvu)))), rel_rg (rel_rg (rel_v hrel) hkvs h100) hkvr h110⟩)
                            · skip
                              have c_110 := bI_eq.mp c_110
                              have h110 := Classical.not_not.mp (fun w => c_110 (low_hi.mpr w))
                              refine lv_bipush (v := (-3)) hx hb dX6_divide_113 (by decide) ?_
                              exact h_iretP hx hb hlk hr hw dX6_divide_115 (by simp only [sp_divide, xvs, xvr, xvt, xvu, cif_t (show ((1 : Int32) = 0 ∨ (1 : Int32) = 1) by decide), cif_T, or_true, true_or, cif_f c_42, cif_f (fun w => c_73 ((hq kvu hkvu).n0.mp w)), cif_f h100, cif_t h110, cif_same]) (by simp only [sp_divide, xvs, xvr, xvt, xvu, cif_t (show ((1 : Int32) = 0 ∨ (1 : Int32) = 1) by decide), cif_T, or_true, true_or, cif_f c_42, cif_f (fun w => c_73 ((hq kvu hkvu).n0.mp w)), cif_f h100, cif_t h110, cif_same]; exact ⟨_, hM3, rel_v hrel⟩)
                        · skip
                          have c_73 := bI_ne.mp c_73
                          refine lv_bipush (v := (-2)) hx hb dX6_divide_76 (by decide) ?_
                          exact h_iretP hx hb hlk hr hw dX6_divide_78 (by simp only [sp_divide, xvs, xvr, xvt, xvu, cif_t (show ((1 : Int32) = 0 ∨ (1 : Int32) = 1) by decide), cif_T, or_true, true_or, cif_f c_42, cif_t ((hq kvu hkvu).n0.mpr c_73), cif_same]) (by simp only [sp_divide, xvs, xvr, xvt, xvu, cif_t (show ((1 : Int32) = 0 ∨ (1 : Int32) = 1) by decide), cif_T, or_true, true_or, cif_f c_42, cif_t ((hq kvu hkvu).n0.mpr c_73), cif_same]; exact ⟨_, (MW.setv (MW.setv hM (i := 8) (by decide) (by decide) (rg kvt)) (i := 9) (by decide) (by decide) (rg kvu)), rel_v hrel⟩)
                      · skip
                        refine lv_iconst (v := (-1)) hx hb dX6_divide_45 (by decide) ?_
                        exact h_iretP hx hb hlk hr hw dX6_divide_46 (by simp only [sp_divide, xvs, xvr, xvt, xvu, cif_t (show ((1 : Int32) = 0 ∨ (1 : Int32) = 1) by decide), cif_T, or_true, true_or, cif_t c_42, cif_same]) (by simp only [sp_divide, xvs, xvr, xvt, xvu, cif_t (show ((1 : Int32) = 0 ∨ (1 : Int32) = 1) by decide), cif_T, or_true, true_or, cif_t c_42, cif_same]; exact ⟨_, hM, rel_v hrel⟩)

set_option maxHeartbeats 4000000 in
set_option maxRecDepth 100000 in
theorem c_X6_divisor (l : Launch) (G : GG) (A : Nat → Prop) (ma : Nat → Nat) (F : FM) (rg : Nat → Q4) (kd : Nat → Int32) (z : Nat → Nat) (pl : Nat → Nat → Int64) (cnt : Nat) (hR : MR G ma (rg, kd, z, pl, cnt) F) (hz : ∀ k, k < 6 → z k ≤ 16) (hkd : ∀ k, k < 6 → kd k = -1 ∨ 0 ≤ kd k) (hc12 : cnt ≤ 12) (hq : ∀ k, k < 16 → rok (rg k)) (vs : Int32) (vt : Int32) (vu : Int32) (vd : Int32) : PT l yX6_divisor wsX6_divisor { frames := 4, cells := 0, slots := 0, locals := 88 } G A (ML ma) [.ref (ma 0), .int vs, .int vt, .int vu, .int vd] F (some (.int (sp_divisor (rg, kd, z, pl, cnt) vs vt vu vd).1)) (MR G ma (sp_divisor (rg, kd, z, pl, cnt) vs vt vu vd).2) := by
  refine PT.ofW (cc := cX6_divisor) (maxL := 5) (ret := (some .int)) (plainFor_of_name (by decide)) rfl (Nat.le_of_ble_eq_true rfl) ?_
  intro p e s m below meth c ls hx hb hr hml hown hts hlk hE hw hl
  have hl : lv_has ls 5 [(0, .ref (ma 0)), (1, .int vs), (2, .int vt), (3, .int vu), (4, .int vd)] := hl
  have hown : s.vm.findClass RX6 = some m.cls := hown
  have lk_32 := hts (.fieldLink RX6 32 "FourPartsModel" "x" "[J") (by decide +kernel)
  have hinX6 : ∀ w ∈ u_ws RX6 TX6 18, w ∈ wsX6_divisor := by decide +kernel
  have lk_35 := hts (.fieldLink RX6 35 "FourPartsModel" "y" "[J") (by decide +kernel)
  have lk_44 := hts (.fieldLink RX6 44 "FourPartsModel" "best" "[J") (by decide +kernel)
  obtain ⟨⟨mk, msz, msh, mrg, mfc, mmd, mv, mcn⟩, hM, hrel⟩ := hR
  obtain ⟨hk1, hk2, hk3, hk4, hk5, hk6⟩ := id hrel
  refine lv_iload_n hx hb dX6_divisor_0 rfl (lv_at hl 1 rfl) ?_
  rcases ix_cases 16 (by decide) vs with hvs | ⟨kvs, hkvs, rfl⟩
  · skip
    have xvs := ix_none hvs
    refine h_callS (st1 := [.int 0]) [.int vs] [] ⟨hx, hb, hml, hown, hts⟩ hE hw (HT.to (c_X6_isRegister l G A (ML ma) F vs) (V2 := some (.int 0)) (congrArg (fun y => some (Value.int y)) (bI_f (show ¬ inL vs.toInt64 0 15 from inL_out (n := 15) (by decide) hvs))) rfl) (va_cwS 1 hts gX6_divisor_X6_isRegister rfl rfl rfl (by decide +kernel) ⟨Nat.le_of_ble_eq_true rfl, Nat.le_of_ble_eq_true rfl⟩) rfl hl.1 rfl (Nat.le_of_ble_eq_true rfl) dX6_divisor_1 ⟨Nat.le_of_ble_eq_true rfl, Nat.le_of_ble_eq_true rfl⟩ rfl (fun H locs hw => ?_)
    refine lv_if_eq (tgt := 32) hx hb dX6_divisor_4 (by decide) (fun c_4 => ?_) (fun c_4 => ?_)
    · skip
      refine lv_iconst (v := (-1)) hx hb dX6_divisor_32 (by decide) ?_
      exact h_iretP hx hb hlk hr hw dX6_divisor_33 (by simp only [sp_divisor, xvs, hldN, cif_same]) (by simp only [sp_divisor, xvs, hldN, cif_same]; exact ⟨_, hM, rel_v hrel⟩)
    · skip
      first | exact absurd c_4 (by decide) | exact absurd (by decide) c_4
  · skip
    have xvs := ix_in (n := 16) hkvs (by decide)
    refine h_callS (st1 := [.int 1]) [.int (nI kvs)] [] ⟨hx, hb, hml, hown, hts⟩ hE hw (HT.to (c_X6_isRegister l G A (ML ma) F (nI kvs)) (V2 := some (.int 1)) (congrArg (fun y => some (Value.int y)) (bI_t (show inL (nI kvs).toInt64 0 15 from inL_in (n := 15) (by decide) hkvs))) rfl) (va_cwS 1 hts gX6_divisor_X6_isRegister rfl rfl rfl (by decide +kernel) ⟨Nat.le_of_ble_eq_true rfl, Nat.le_of_ble_eq_true rfl⟩) rfl hl.1 rfl (Nat.le_of_ble_eq_true rfl) dX6_divisor_1 ⟨Nat.le_of_ble_eq_true rfl, Nat.le_of_ble_eq_true rfl⟩ rfl (fun H locs hw => ?_)
    refine lv_if_eq (tgt := 32) hx hb dX6_divisor_4 (by decide) (fun c_4 => ?_) (fun c_4 => ?_)
    · skip
      first | exact absurd c_4 (by decide) | exact absurd (by decide) c_4
    · skip
      refine lv_iload_n hx hb dX6_divisor_7 rfl (lv_at hl 2 rfl) ?_
      rcases ix_cases 16 (by decide) vt with hvt | ⟨kvt, hkvt, rfl⟩
      · skip
        have xvt := ix_none hvt
        refine h_callS (st1 := [.int 0]) [.int vt] [] ⟨hx, hb, hml, hown, hts⟩ hE hw (HT.to (c_X6_isRegister l G A (ML ma) F vt) (V2 := some (.int 0)) (congrArg (fun y => some (Value.int y)) (bI_f (show ¬ inL vt.toInt64 0 15 from inL_out (n := 15) (by decide) hvt))) rfl) (va_cwS 1 hts gX6_divisor_X6_isRegister rfl rfl rfl (by decide +kernel) ⟨Nat.le_of_ble_eq_true rfl, Nat.le_of_ble_eq_true rfl⟩) rfl hl.1 rfl (Nat.le_of_ble_eq_true rfl) dX6_divisor_8 ⟨Nat.le_of_ble_eq_true rfl, Nat.le_of_ble_eq_true rfl⟩ rfl (fun H locs hw => ?_)
        refine lv_if_eq (tgt := 32) hx hb dX6_divisor_11 (by decide) (fun c_11 => ?_) (fun c_11 => ?_)
        · skip
          refine lv_iconst (v := (-1)) hx hb dX6_divisor_32 (by decide) ?_
          exact h_iretP hx hb hlk hr hw dX6_divisor_33 (by simp only [sp_divisor, xvs, xvt, hldN, cif_same]) (by simp only [sp_divisor, xvs, xvt, hldN, cif_same]; exact ⟨_, hM, rel_v hrel⟩)
        · skip
          first | exact absurd c_11 (by decide) | exact absurd (by decide) c_11
      · skip
        have xvt := ix_in (n := 16) hkvt (by decide)
        refine h_callS (st1 := [.int 1]) [.int (nI kvt)] [] ⟨hx, hb, hml, hown, hts⟩ hE hw (HT.to (c_X6_isRegister l G A (ML ma) F (nI kvt)) (V2 := some (.int 1)) (congrArg (fun y => some (Value.int y)) (bI_t (show inL (nI kvt).toInt64 0 15 from inL_in (n := 15) (by decide) hkvt))) rfl) (va_cwS 1 hts gX6_divisor_X6_isRegister rfl rfl rfl (by decide +kernel) ⟨Nat.le_of_ble_eq_true rfl, Nat.le_of_ble_eq_true rfl⟩) rfl hl.1 rfl (Nat.le_of_ble_eq_true rfl) dX6_divisor_8 ⟨Nat.le_of_ble_eq_true rfl, Nat.le_of_ble_eq_true rfl⟩ rfl (fun H locs hw => ?_)
        refine lv_if_eq (tgt := 32) hx hb dX6_divisor_11 (by decide) (fun c_11 => ?_) (fun c_11 => ?_)
        · skip
          first | exact absurd c_11 (by decide) | exact absurd (by decide) c_11
        · skip
          refine lv_iload_n hx hb dX6_divisor_14 rfl (lv_at hl 3 rfl) ?_
          rcases ix_cases 16 (by decide) vu with hvu | ⟨kvu, hkvu, rfl⟩
          · skip
            have xvu := ix_none hvu
            refine h_callS (st1 := [.int 0]) [.int vu] [] ⟨hx, hb, hml, hown, hts⟩ hE hw (HT.to (c_X6_isRegister l G A (ML ma) F vu) (V2 := some (.int 0)) (congrArg (fun y => some (Value.int y)) (bI_f (show ¬ inL vu.toInt64 0 15 from inL_out (n := 15) (by decide) hvu))) rfl) (va_cwS 1 hts gX6_divisor_X6_isRegister rfl rfl rfl (by decide +kernel) ⟨Nat.le_of_ble_eq_true rfl, Nat.le_of_ble_eq_true rfl⟩) rfl hl.1 rfl (Nat.le_of_ble_eq_true rfl) dX6_divisor_15 ⟨Nat.le_of_ble_eq_true rfl, Nat.le_of_ble_eq_true rfl⟩ rfl (fun H locs hw => ?_)
            refine lv_if_eq (tgt := 32) hx hb dX6_divisor_18 (by decide) (fun c_18 => ?_) (fun c_18 => ?_)
            · skip
              refine lv_iconst (v := (-1)) hx hb dX6_divisor_32 (by decide) ?_
              exact h_iretP hx hb hlk hr hw dX6_divisor_33 (by simp only [sp_divisor, xvs, xvt, xvu, hldN, cif_same]) (by simp only [sp_divisor, xvs, xvt, xvu, hldN, cif_same]; exact ⟨_, hM, rel_v hrel⟩)
            · skip
              first | exact absurd c_18 (by decide) | exact absurd (by decide) c_18
          · skip
            have xvu := ix_in (n := 16) hkvu (by decide)
            refine h_callS (st1 := [.int 1]) [.int (nI kvu)] [] ⟨hx, hb, hml, hown, hts⟩ hE hw (HT.to (c_X6_isRegister l G A (ML ma) F (nI kvu)) (V2 := some (.int 1)) (congrArg (fun y => some (Value.int y)) (bI_t (show inL (nI kvu).toInt64 0 15 from inL_in (n := 15) (by decide) hkvu))) rfl) (va_cwS 1 hts gX6_divisor_X6_isRegister rfl rfl rfl (by decide +kernel) ⟨Nat.le_of_ble_eq_true rfl, Nat.le_of_ble_eq_true rfl⟩) rfl hl.1 rfl (Nat.le_of_ble_eq_true rfl) dX6_divisor_15 ⟨Nat.le_of_ble_eq_true rfl, Nat.le_of_ble_eq_true rfl⟩ rfl (fun H locs hw => ?_)
            refine lv_if_eq (tgt := 32) hx hb dX6_divisor_18 (by decide) (fun c_18 => ?_) (fun c_18 => ?_)
            · skip
              first | exact absurd c_18 (by decide) | exact absurd (by decide) c_18
            · skip
              refine lv_iload hx hb dX6_divisor_21 (lv_at hl 4 rfl) ?_
              refine lv_i2l hx hb dX6_divisor_23 rfl ?_
              refine lv_lconst (v := 0) hx hb dX6_divisor_24 (by decide) ?_
              refine lv_lconst (v := 1) hx hb dX6_divisor_25 (by decide) ?_
              rcases in_1 vd with hovd | rfl | rfl
              · skip
                refine h_callS (st1 := [.int 0]) [.long vd.toInt64, .long 0, .long 1] [] ⟨hx, hb, hml, hown, hts⟩ hE hw (HT.to (c_X6_in l G A (ML ma) F vd.toInt64 0 1) (V2 := some (.int 0)) (congrArg (fun y => some (Value.int y)) (bI_f hovd.1)) rfl) (va_cwS 3 hts gX6_divisor_X6_in rfl rfl rfl (by decide +kernel) ⟨Nat.le_of_ble_eq_true rfl, Nat.le_of_ble_eq_true rfl⟩) rfl hl.1 rfl (Nat.le_of_ble_eq_true rfl) dX6_divisor_26 ⟨Nat.le_of_ble_eq_true rfl, Nat.le_of_ble_eq_true rfl⟩ rfl (fun H locs hw => ?_)
                refine lv_if_ne (tgt := 34) hx hb dX6_divisor_29 (by decide) (fun c_29 => ?_) (fun c_29 => ?_)
                · skip
                  first | exact absurd c_29 (by decide) | exact absurd (by decide) c_29
                · skip
                  refine lv_iconst (v := (-1)) hx hb dX6_divisor_32 (by decide) ?_
                  exact h_iretP hx hb hlk hr hw dX6_divisor_33 (by simp only [sp_divisor, xvs, xvt, xvu, cif_f hovd.2, hldN, cif_same]) (by simp only [sp_divisor, xvs, xvt, xvu, cif_f hovd.2, hldN, cif_same]; exact ⟨_, hM, rel_v hrel⟩)
              · skip
                refine h_callS (st1 := [.int 1]) [.long ((0 : Int32).toInt64), .long 0, .long 1] [] ⟨hx, hb, hml, hown, hts⟩ hE hw (HT.to (c_X6_in l G A (ML ma) F (0 : Int32).toInt64 0 1) (V2 := some (.int 1)) (congrArg (fun y => some (Value.int y)) (bI_t (show inL (0 : Int32).toInt64 0 1 from ⟨by decide, by decide⟩))) rfl) (va_cwS 3 hts gX6_divisor_X6_in rfl rfl rfl (by decide +kernel) ⟨Nat.le_of_ble_eq_true rfl, Nat.le_of_ble_eq_true rfl⟩) rfl hl.1 rfl (Nat.le_of_ble_eq_true rfl) dX6_divisor_26 ⟨Nat.le_of_ble_eq_true rfl, Nat.le_of_ble_eq_true rfl⟩ rfl (fun H locs hw => ?_)
                refine lv_if_ne (tgt := 34) hx hb dX6_divisor_29 (by decide) (fun c_29 => ?_) (fun c_29 => ?_)
                · skip
                  refine lv_aload_n hx hb dX6_divisor_34 rfl (lv_at hl 0 rfl) ?_
                  refine lv_aload_n hx hb dX6_divisor_35 rfl (lv_at hl 0 rfl) ?_
                  refine h_get hx hb hE hw hts hinX6 hown (ci := 6) rfl 8 (by decide) lk_32 (fun _ h9 => h9) hM.ob rfl dX6_divisor_36 ?_
                  refine lv_iload_n hx hb dX6_divisor_39 rfl (lv_at hl 2 rfl) ?_
                  refine h_callV (st1 := []) [.ref (ma 8), .int (nI kvt)] [] ⟨hx, hb, hml, hown, hts⟩ hE hw (HT.to (c_X6_load l G A ma F _ _ _ _ _ _ _ _ hM 8 kvt (by decide) (by decide) hkvt) rfl (F3 := va_up F (ma 8) (eJ4 G (rg kvt))) (by rw [show rgq mrg kvt = rg kvt from hk4 kvt hkvt])) (cwV 2 hts gX6_divisor_X6_load rfl rfl rfl (by decide +kernel) ⟨Nat.le_of_ble_eq_true rfl, Nat.le_of_ble_eq_true rfl⟩) hM.ob rfl rfl rfl hl.1 rfl (Nat.le_of_ble_eq_true rfl) dX6_divisor_40 ⟨Nat.le_of_ble_eq_true rfl, Nat.le_of_ble_eq_true rfl⟩ rfl (fun H locs hw => ?_)
                  refine lv_aload_n hx hb dX6_divisor_43 rfl (lv_at hl 0 rfl) ?_
                  refine lv_aload_n hx hb dX6_divisor_44 rfl (lv_at hl 0 rfl) ?_
                  refine h_get hx hb hE hw hts hinX6 hown (ci := 6) rfl 9 (by decide) lk_35 (fun _ h9 => h9) (pt_ne hM.ob (hM.ne (i := 0) (j := 8) (by decide) (by decide) (by decide))) rfl dX6_divisor_45 ?_
                  refine lv_iload_n hx hb dX6_divisor_48 rfl (lv_at hl 3 rfl) ?_
                  refine h_callV (st1 := []) [.ref (ma 9), .int (nI kvu)] [] ⟨hx, hb, hml, hown, hts⟩ hE hw (HT.to (c_X6_load l G A ma (va_up F (ma 8) (eJ4 G (rg kvt))) _ _ _ _ _ _ _ _ (MW.setv hM (i := 8) (by decide) (by decide) (rg kvt)) 9 kvu (by decide) (by decide) hkvu) rfl (F3 := va_up (va_up F (ma 8) (eJ4 G (rg kvt))) (ma 9) (eJ4 G (rg kvu))) (by rw [show rgq mrg kvu = rg kvu from hk4 kvu hkvu])) (cwV 2 hts gX6_divisor_X6_load rfl rfl rfl (by decide +kernel) ⟨Nat.le_of_ble_eq_true rfl, Nat.le_of_ble_eq_true rfl⟩) (pt_ne hM.ob (hM.ne (i := 0) (j := 8) (by decide) (by decide) (by decide))) rfl rfl rfl hl.1 rfl (Nat.le_of_ble_eq_true rfl) dX6_divisor_49 ⟨Nat.le_of_ble_eq_true rfl, Nat.le_of_ble_eq_true rfl⟩ rfl (fun H locs hw => ?_)
                  refine lv_aload_n hx hb dX6_divisor_52 rfl (lv_at hl 0 rfl) ?_
                  refine h_get hx hb hE hw hts hinX6 hown (ci := 6) rfl 8 (by decide) lk_32 (fun _ h9 => h9) (pt_ne (pt_ne hM.ob (hM.ne (i := 0) (j := 8) (by decide) (by decide) (by decide))) (hM.ne (i := 0) (j := 9) (by decide) (by decide) (by decide))) rfl dX6_divisor_53 ?_
                  refine h_callS (st1 := [.int (bI (qzero (rg kvt)))]) [.ref (ma 8)] [] ⟨hx, hb, hml, hown, hts⟩ hE hw (c_X6_isNull l G A (ML ma) (va_up (va_up F (ma 8) (eJ4 G (rg kvt))) (ma 9) (eJ4 G (rg kvu))) (ma 8) (rg kvt) (pt_ne (pt_up (hM.v (i := 8) (by decide) (by decide))) (hM.ne (i := 8) (j := 9) (by decide) (by decide) (by decide)))) (va_cwS 1 hts gX6_divisor_X6_isNull rfl rfl rfl (by decide +kernel) ⟨Nat.le_of_ble_eq_true rfl, Nat.le_of_ble_eq_true rfl⟩) rfl hl.1 rfl (Nat.le_of_ble_eq_true rfl) dX6_divisor_56 ⟨Nat.le_of_ble_eq_true rfl, Nat.le_of_ble_eq_true rfl⟩ rfl (fun H locs hw => ?_)
                  refine lv_if_eq (tgt := 75) hx hb dX6_divisor_59 (by decide) (fun c_59 => ?_) (fun c_59 => ?_)
                  · skip
                    have c_59 := bI_eq.mp c_59
                    refine lv_aload_n hx hb dX6_divisor_75 rfl (lv_at hl 0 rfl) ?_
                    refine lv_iload hx hb dX6_divisor_76 (lv_at hl 4 rfl) ?_
                    refine h_callVP (st1 := []) [.int 0] [] ⟨hx, hb, hml, hown, hts⟩ hE hw (c_X6_findDivisor l G A ma (va_up (va_up F (ma 8) (eJ4 G (rg kvt))) (ma 9) (eJ4 G (rg kvu))) _ _ _ _ _ _ _ _ (MW.setv (MW.setv hM (i := 8) (by decide) (by decide) (rg kvt)) (i := 9) (by decide) (by decide) (rg kvu)) (rg kvt) (rg kvu) rfl rfl 0 100 ((hq kvt hkvt).dT (hq kvu hkvu))) (cwV 1 hts gX6_divisor_X6_findDivisor rfl rfl rfl (by decide +kernel) ⟨Nat.le_of_ble_eq_true rfl, Nat.le_of_ble_eq_true rfl⟩) (pt_ne (pt_ne hM.ob (hM.ne (i := 0) (j := 8) (by decide) (by decide) (by decide))) (hM.ne (i := 0) (j := 9) (by decide) (by decide) (by decide))) rfl rfl rfl hl.1 rfl (Nat.le_of_ble_eq_true rfl) dX6_divisor_78 ⟨Nat.le_of_ble_eq_true rfl, Nat.le_of_ble_eq_true rfl⟩ rfl (fun F H locs hP hw => ?_)
                    obtain ⟨mv3, hM3, h312, -⟩ := hP
                    have e312 : mv3 12 = (divi 0 (rg kvt) (rg kvu)) := h312.trans ((hq kvt hkvt).dR (hq kvu hkvu))
                    refine lv_aload_n hx hb dX6_divisor_81 rfl (lv_at hl 0 rfl) ?_
                    refine lv_iload_n hx hb dX6_divisor_82 rfl (lv_at hl 1 rfl) ?_
                    refine lv_aload_n hx hb dX6_divisor_83 rfl (lv_at hl 0 rfl) ?_
                    refine h_get hx hb hE hw hts hinX6 hown (ci := 6) rfl 12 (by decide) lk_44 (fun _ h9 => h9) hM3.ob rfl dX6_divisor_84 ?_
                    by_cases hh : qhigh (divi 0 (rg kvt) (rg kvu))
                    · skip
                      refine h_callV (st1 := [.int (-3)]) [.int (nI kvs), .ref (ma 12)] [] ⟨hx, hb, hml, hown, hts⟩ hE hw (c_X6_holds_hi l G A ma F _ _ _ _ _ _ _ _ hM3 12 kvs (divi 0 (rg kvt) (rg kvu)) (by decide) (by decide) (pt_eq (hM3.v (i := 12) (by decide) (by decide)) (by rw [show ((mk, msz, msh, mrg, mfc, mmd, mv3, mcn) : MS).2.2.2.2.2.2.1 12 = (divi 0 (rg kvt) (rg kvu)) from e312])) hkvs hh) (cwV 2 hts gX6_divisor_X6_holds rfl rfl rfl (by decide +kernel) ⟨Nat.le_of_ble_eq_true rfl, Nat.le_of_ble_eq_true rfl⟩) hM3.ob rfl rfl rfl hl.1 rfl (Nat.le_of_ble_eq_true rfl) dX6_divisor_87 ⟨Nat.le_of_ble_eq_true rfl, Nat.le_of_ble_eq_true rfl⟩ rfl (fun H locs hw => ?_)
                      refine lv_if_ne (tgt := 104) hx hb dX6_divisor_90 (by decide) (fun c_90 => ?_) (fun c_90 => ?_)
                      · skip
                        refine lv_bipush (v := (-3)) hx hb dX6_divisor_104 (by decide) ?_
                        exact h_iretP hx hb hlk hr hw dX6_divisor_106 (by simp only [sp_divisor, xvs, xvt, xvu, cif_t (show ((0 : Int32) = 0 ∨ (0 : Int32) = 1) by decide), cif_T, or_true, true_or, cif_f c_59, cif_t hh, hldN, cif_same]) (by simp only [sp_divisor, xvs, xvt, xvu, cif_t (show ((0 : Int32) = 0 ∨ (0 : Int32) = 1) by decide), cif_T, or_true, true_or, cif_f c_59, cif_t hh, hldN, cif_same]; exact ⟨_, hM3, rel_v hrel⟩)
                      · skip
                        first | exact absurd c_90 (by decide) | exact absurd (by decide) c_90
                    · skip
                      refine h_callV (st1 := [.int 0]) [.int (nI kvs), .ref (ma 12)] [] ⟨hx, hb, hml, hown, hts⟩ hE hw (c_X6_holds_lo l G A ma F _ _ _ _ _ _ _ _ hM3 12 kvs (divi 0 (rg kvt) (rg kvu)) (by decide) (by decide) (pt_eq (hM3.v (i := 12) (by decide) (by decide)) (by rw [show ((mk, msz, msh, mrg, mfc, mmd, mv3, mcn) : MS).2.2.2.2.2.2.1 12 = (divi 0 (rg kvt) (rg kvu)) from e312])) hkvs hh) (cwV 2 hts gX6_divisor_X6_holds rfl rfl rfl (by decide +kernel) ⟨Nat.le_of_ble_eq_true rfl, Nat.le_of_ble_eq_true rfl⟩) hM3.ob rfl rfl rfl hl.1 rfl (Nat.le_of_ble_eq_true rfl) dX6_divisor_87 ⟨Nat.le_of_ble_eq_true rfl, Nat.le_of_ble_eq_true rfl⟩ rfl (fun H locs hw => ?_)
                      refine lv_if_ne (tgt := 104) hx hb dX6_divisor_90 (by decide) (fun c_90 => ?_) (fun c_90 => ?_)
                      · skip
                        first | exact absurd c_90 (by decide) | exact absurd (by decide) c_90
                      · skip
                        refine lv_aload_n hx hb dX6_divisor_93 rfl (lv_at hl 0 rfl) ?_
                        refine h_get hx hb hE hw hts hinX6 hown (ci := 6) rfl 12 (by decide) lk_44 (fun _ h9 => h9) (pt_ne hM3.ob (hM.ne (i := 0) (j := 4) (by decide) (by decide) (by decide))) rfl dX6_divisor_94 ?_
                        refine h_callS (st1 := [.long (qnorm (divi 0 (rg kvt) (rg kvu)))]) [.ref (ma 12)] [] ⟨hx, hb, hml, hown, hts⟩ hE hw (c_X6_norm l G A (ML ma) (va_up F (ma 4) (eI G 64 (stq mrg kvs (divi 0 (rg kvt) (rg kvu))))) (ma 12) (divi 0 (rg kvt) (rg kvu)) (pt_ne (pt_eq (hM3.v (i := 12) (by decide) (by decide)) (by rw [show ((mk, msz, msh, mrg, mfc, mmd, mv3, mcn) : MS).2.2.2.2.2.2.1 12 = (divi 0 (rg kvt) (rg kvu)) from e312])) (hM.ne (i := 12) (j := 4) (by decide) (by decide) (by decide)))) (va_cwS 1 hts gX6_divisor_X6_norm rfl rfl rfl (by decide +kernel) ⟨Nat.le_of_ble_eq_true rfl, Nat.le_of_ble_eq_true rfl⟩) rfl hl.1 rfl (Nat.le_of_ble_eq_true rfl) dX6_divisor_97 ⟨Nat.le_of_ble_eq_true rfl, Nat.le_of_ble_eq_true rfl⟩ rfl (fun H locs hw => ?_)
                        refine lv_l2i hx hb dX6_divisor_100 rfl ?_
                        refine lv_goto (tgt := 106) hx hb dX6_divisor_101 (by decide) ?_
                        exact h_iretP hx hb hlk hr hw dX6_divisor_106 (by simp only [sp_divisor, xvs, xvt, xvu, cif_t (show ((0 : Int32) = 0 ∨ (0 : Int32) = 1) by decide), cif_T, or_true, true_or, cif_f c_59, cif_f hh, hldN, cif_same]) (by simp only [sp_divisor, xvs, xvt, xvu, cif_t (show ((0 : Int32) = 0 ∨ (0 : Int32) = 1) by decide), cif_T, or_true, true_or, cif_f c_59, cif_f hh, hldN, cif_same]; exact ⟨_, (MW.setr hM3 (stq mrg kvs (divi 0 (rg kvt) (rg kvu)))), rel_rg hrel hkvs hh⟩)
                  · skip
                    have c_59 := bI_ne.mp c_59
                    refine lv_aload_n hx hb dX6_divisor_62 rfl (lv_at hl 0 rfl) ?_
                    refine h_get hx hb hE hw hts hinX6 hown (ci := 6) rfl 9 (by decide) lk_35 (fun _ h9 => h9) (pt_ne (pt_ne hM.ob (hM.ne (i := 0) (j := 8) (by decide) (by decide) (by decide))) (hM.ne (i := 0) (j := 9) (by decide) (by decide) (by decide))) rfl dX6_divisor_63 ?_
                    refine h_callS (st1 := [.int (bI (qzero (rg kvu)))]) [.ref (ma 9)] [] ⟨hx, hb, hml, hown, hts⟩ hE hw (c_X6_isNull l G A (ML ma) (va_up (va_up F (ma 8) (eJ4 G (rg kvt))) (ma 9) (eJ4 G (rg kvu))) (ma 9) (rg kvu) (pt_up (pt_ne (hM.v (i := 9) (by decide) (by decide)) (hM.ne (i := 9) (j := 8) (by decide) (by decide) (by decide))))) (va_cwS 1 hts gX6_divisor_X6_isNull rfl rfl rfl (by decide +kernel) ⟨Nat.le_of_ble_eq_true rfl, Nat.le_of_ble_eq_true rfl⟩) rfl hl.1 rfl (Nat.le_of_ble_eq_true rfl) dX6_divisor_66 ⟨Nat.le_of_ble_eq_true rfl, Nat.le_of_ble_eq_true rfl⟩ rfl (fun H locs hw => ?_)
                    refine lv_if_eq (tgt := 75) hx hb dX6_divisor_69 (by decide) (fun c_69 => ?_) (fun c_69 => ?_)
                    · skip
                      have c_69 := bI_eq.mp c_69
                      refine lv_aload_n hx hb dX6_divisor_75 rfl (lv_at hl 0 rfl) ?_
                      refine lv_iload hx hb dX6_divisor_76 (lv_at hl 4 rfl) ?_
                      refine h_callVP (st1 := []) [.int 0] [] ⟨hx, hb, hml, hown, hts⟩ hE hw (c_X6_findDivisor l G A ma (va_up (va_up F (ma 8) (eJ4 G (rg kvt))) (ma 9) (eJ4 G (rg kvu))) _ _ _ _ _ _ _ _ (MW.setv (MW.setv hM (i := 8) (by decide) (by decide) (rg kvt)) (i := 9) (by decide) (by decide) (rg kvu)) (rg kvt) (rg kvu) rfl rfl 0 100 ((hq kvt hkvt).dT (hq kvu hkvu))) (cwV 1 hts gX6_divisor_X6_findDivisor rfl rfl rfl (by decide +kernel) ⟨Nat.le_of_ble_eq_true rfl, Nat.le_of_ble_eq_true rfl⟩) (pt_ne (pt_ne hM.ob (hM.ne (i := 0) (j := 8) (by decide) (by decide) (by decide))) (hM.ne (i := 0) (j := 9) (by decide) (by decide) (by decide))) rfl rfl rfl hl.1 rfl (Nat.le_of_ble_eq_true rfl) dX6_divisor_78 ⟨Nat.le_of_ble_eq_true rfl, Nat.le_of_ble_eq_true rfl⟩ rfl (fun F H locs hP hw => ?_)
                      obtain ⟨mv3, hM3, h312, -⟩ := hP
                      have e312 : mv3 12 = (divi 0 (rg kvt) (rg kvu)) := h312.trans ((hq kvt hkvt).dR (hq kvu hkvu))
                      refine lv_aload_n hx hb dX6_divisor_81 rfl (lv_at hl 0 rfl) ?_
                      refine lv_iload_n hx hb dX6_divisor_82 rfl (lv_at hl 1 rfl) ?_
                      refine lv_aload_n hx hb dX6_divisor_83 rfl (lv_at hl 0 rfl) ?_
                      refine h_get hx hb hE hw hts hinX6 hown (ci := 6) rfl 12 (by decide) lk_44 (fun _ h9 => h9) hM3.ob rfl dX6_divisor_84 ?_
                      by_cases hh : qhigh (divi 0 (rg kvt) (rg kvu))
                      · skip
                        refine h_callV (st1 := [.int (-3)]) [.int (nI kvs), .ref (ma 12)] [] ⟨hx, hb, hml, hown, hts⟩ hE hw (c_X6_holds_hi l G A ma F _ _ _ _ _ _ _ _ hM3 12 kvs (divi 0 (rg kvt) (rg kvu)) (by decide) (by decide) (pt_eq (hM3.v (i := 12) (by decide) (by decide)) (by rw [show ((mk, msz, msh, mrg, mfc, mmd, mv3, mcn) : MS).2.2.2.2.2.2.1 12 = (divi 0 (rg kvt) (rg kvu)) from e312])) hkvs hh) (cwV 2 hts gX6_divisor_X6_holds rfl rfl rfl (by decide +kernel) ⟨Nat.le_of_ble_eq_true rfl, Nat.le_of_ble_eq_true rfl⟩) hM3.ob rfl rfl rfl hl.1 rfl (Nat.le_of_ble_eq_true rfl) dX6_divisor_87 ⟨Nat.le_of_ble_eq_true rfl, Nat.le_of_ble_eq_true rfl⟩ rfl (fun H locs hw => ?_)
                        refine lv_if_ne (tgt := 104) hx hb dX6_divisor_90 (by decide) (fun c_90 => ?_) (fun c_90 => ?_)
                        · skip
                          refine lv_bipush (v := (-3)) hx hb dX6_divisor_104 (by decide) ?_
                          exact h_iretP hx hb hlk hr hw dX6_divisor_106 (by simp only [sp_divisor, xvs, xvt, xvu, cif_t (show ((0 : Int32) = 0 ∨ (0 : Int32) = 1) by decide), cif_T, or_true, true_or, cif_t c_59, cif_f c_69, cif_t hh, hldN, cif_same]) (by simp only [sp_divisor, xvs, xvt, xvu, cif_t (show ((0 : Int32) = 0 ∨ (0 : Int32) = 1) by decide), cif_T, or_true, true_or, cif_t c_59, cif_f c_69, cif_t hh, hldN, cif_same]; exact ⟨_, hM3, rel_v hrel⟩)
                        · skip
                          first | exact absurd c_90 (by decide) | exact absurd (by decide) c_90
                      · skip
                        refine h_callV (st1 := [.int 0]) [.int (nI kvs), .ref (ma 12)] [] ⟨hx, hb, hml, hown, hts⟩ hE hw (c_X6_holds_lo l G A ma F _ _ _ _ _ _ _ _ hM3 12 kvs (divi 0 (rg kvt) (rg kvu)) (by decide) (by decide) (pt_eq (hM3.v (i := 12) (by decide) (by decide)) (by rw [show ((mk, msz, msh, mrg, mfc, mmd, mv3, mcn) : MS).2.2.2.2.2.2.1 12 = (divi 0 (rg kvt) (rg kvu)) from e312])) hkvs hh) (cwV 2 hts gX6_divisor_X6_holds rfl rfl rfl (by decide +kernel) ⟨Nat.le_of_ble_eq_true rfl, Nat.le_of_ble_eq_true rfl⟩) hM3.ob rfl rfl rfl hl.1 rfl (Nat.le_of_ble_eq_true rfl) dX6_divisor_87 ⟨Nat.le_of_ble_eq_true rfl, Nat.le_of_ble_eq_true rfl⟩ rfl (fun H locs hw => ?_)
                        refine lv_if_ne (tgt := 104) hx hb dX6_divisor_90 (by decide) (fun c_90 => ?_) (fun c_90 => ?_)
                        · skip
                          first | exact absurd c_90 (by decide) | exact absurd (by decide) c_90
                        · skip
                          refine lv_aload_n hx hb dX6_divisor_93 rfl (lv_at hl 0 rfl) ?_
                          refine h_get hx hb hE hw hts hinX6 hown (ci := 6) rfl 12 (by decide) lk_44 (fun _ h9 => h9) (pt_ne hM3.ob (hM.ne (i := 0) (j := 4) (by decide) (by decide) (by decide))) rfl dX6_divisor_94 ?_
                          refine h_callS (st1 := [.long (qnorm (divi 0 (rg kvt) (rg kvu)))]) [.ref (ma 12)] [] ⟨hx, hb, hml, hown, hts⟩ hE hw (c_X6_norm l G A (ML ma) (va_up F (ma 4) (eI G 64 (stq mrg kvs (divi 0 (rg kvt) (rg kvu))))) (ma 12) (divi 0 (rg kvt) (rg kvu)) (pt_ne (pt_eq (hM3.v (i := 12) (by decide) (by decide)) (by rw [show ((mk, msz, msh, mrg, mfc, mmd, mv3, mcn) : MS).2.2.2.2.2.2.1 12 = (divi 0 (rg kvt) (rg kvu)) from e312])) (hM.ne (i := 12) (j := 4) (by decide) (by decide) (by decide)))) (va_cwS 1 hts gX6_divisor_X6_norm rfl rfl rfl (by decide +kernel) ⟨Nat.le_of_ble_eq_true rfl, Nat.le_of_ble_eq_true rfl⟩) rfl hl.1 rfl (Nat.le_of_ble_eq_true rfl) dX6_divisor_97 ⟨Nat.le_of_ble_eq_true rfl, Nat.le_of_ble_eq_true rfl⟩ rfl (fun H locs hw => ?_)
                          refine lv_l2i hx hb dX6_divisor_100 rfl ?_
                          refine lv_goto (tgt := 106) hx hb dX6_divisor_101 (by decide) ?_
                          exact h_iretP hx hb hlk hr hw dX6_divisor_106 (by simp only [sp_divisor, xvs, xvt, xvu, cif_t (show ((0 : Int32) = 0 ∨ (0 : Int32) = 1) by decide), cif_T, or_true, true_or, cif_t c_59, cif_f c_69, cif_f hh, hldN, cif_same]) (by simp only [sp_divisor, xvs, xvt, xvu, cif_t (show ((0 : Int32) = 0 ∨ (0 : Int32) = 1) by decide), cif_T, or_true, true_or, cif_t c_59, cif_f c_69, cif_f hh, hldN, cif_same]; exact ⟨_, (MW.setr hM3 (stq mrg kvs (divi 0 (rg kvt) (rg kvu)))), rel_rg hrel hkvs hh⟩)
                    · skip
                      have c_69 := bI_ne.mp c_69
                      refine lv_bipush (v := (-2)) hx hb dX6_divisor_72 (by decide) ?_
                      exact h_iretP hx hb hlk hr hw dX6_divisor_74 (by simp only [sp_divisor, xvs, xvt, xvu, cif_t (show ((0 : Int32) = 0 ∨ (0 : Int32) = 1) by decide), cif_T, or_true, true_or, cif_t c_59, cif_t c_69, hldN, cif_same]) (by simp only [sp_divisor, xvs, xvt, xvu, cif_t (show ((0 : Int32) = 0 ∨ (0 : Int32) = 1) by decide), cif_T, or_true, true_or, cif_t c_59, cif_t c_69, hldN, cif_same]; exact ⟨_, (MW.setv (MW.setv hM (i := 8) (by decide) (by decide) (rg kvt)) (i := 9) (by decide) (by decide) (rg kvu)), rel_v hrel⟩)
                · skip
                  first | exact absurd c_29 (by decide) | exact absurd (by decide) c_29
              · skip
                refine h_callS (st1 := [.int 1]) [.long ((1 : Int32).toInt64), .long 0, .long 1] [] ⟨hx, hb, hml, hown, hts⟩ hE hw (HT.to (c_X6_in l G A (ML ma) F (1 : Int32).toInt64 0 1) (V2 := some (.int 1)) (congrArg (fun y => some (Value.int y)) (bI_t (show inL (1 : Int32).toInt64 0 1 from ⟨by decide, by decide⟩))) rfl) (va_cwS 3 hts gX6_divisor_X6_in rfl rfl rfl (by decide +kernel) ⟨Nat.le_of_ble_eq_true rfl, Nat.le_of_ble_eq_true rfl⟩) rfl hl.1 rfl (Nat.le_of_ble_eq_true rfl) dX6_divisor_26 ⟨Nat.le_of_ble_eq_true rfl, Nat.le_of_ble_eq_true rfl⟩ rfl (fun H locs hw => ?_)
                refine lv_if_ne (tgt := 34) hx hb dX6_divisor_29 (by decide) (fun c_29 => ?_) (fun c_29 => ?_)
                · skip
                  refine lv_aload_n hx hb dX6_divisor_34 rfl (lv_at hl 0 rfl) ?_
                  refine lv_aload_n hx hb dX6_divisor_35 rfl (lv_at hl 0 rfl) ?_
                  refine h_get hx hb hE hw hts hinX6 hown (ci := 6) rfl 8 (by decide) lk_32 (fun _ h9 => h9) hM.ob rfl dX6_divisor_36 ?_
                  refine lv_iload_n hx hb dX6_divisor_39 rfl (lv_at hl 2 rfl) ?_
                  refine h_callV (st1 := []) [.ref (ma 8), .int (nI kvt)] [] ⟨hx, hb, hml, hown, hts⟩ hE hw (HT.to (c_X6_load l G A ma F _ _ _ _ _ _ _ _ hM 8 kvt (by decide) (by decide) hkvt) rfl (F3 := va_up F (ma 8) (eJ4 G (rg kvt))) (by rw [show rgq mrg kvt = rg kvt from hk4 kvt hkvt])) (cwV 2 hts gX6_divisor_X6_load rfl rfl rfl (by decide +kernel) ⟨Nat.le_of_ble_eq_true rfl, Nat.le_of_ble_eq_true rfl⟩) hM.ob rfl rfl rfl hl.1 rfl (Nat.le_of_ble_eq_true rfl) dX6_divisor_40 ⟨Nat.le_of_ble_eq_true rfl, Nat.le_of_ble_eq_true rfl⟩ rfl (fun H locs hw => ?_)
                  refine lv_aload_n hx hb dX6_divisor_43 rfl (lv_at hl 0 rfl) ?_
                  refine lv_aload_n hx hb dX6_divisor_44 rfl (lv_at hl 0 rfl) ?_
                  refine h_get hx hb hE hw hts hinX6 hown (ci := 6) rfl 9 (by decide) lk_35 (fun _ h9 => h9) (pt_ne hM.ob (hM.ne (i := 0) (j := 8) (by decide) (by decide) (by decide))) rfl dX6_divisor_45 ?_
                  refine lv_iload_n hx hb dX6_divisor_48 rfl (lv_at hl 3 rfl) ?_
                  refine h_callV (st1 := []) [.ref (ma 9), .int (nI kvu)] [] ⟨hx, hb, hml, hown, hts⟩ hE hw (HT.to (c_X6_load l G A ma (va_up F (ma 8) (eJ4 G (rg kvt))) _ _ _ _ _ _ _ _ (MW.setv hM (i := 8) (by decide) (by decide) (rg kvt)) 9 kvu (by decide) (by decide) hkvu) rfl (F3 := va_up (va_up F (ma 8) (eJ4 G (rg kvt))) (ma 9) (eJ4 G (rg kvu))) (by rw [show rgq mrg kvu = rg kvu from hk4 kvu hkvu])) (cwV 2 hts gX6_divisor_X6_load rfl rfl rfl (by decide +kernel) ⟨Nat.le_of_ble_eq_true rfl, Nat.le_of_ble_eq_true rfl⟩) (pt_ne hM.ob (hM.ne (i := 0) (j := 8) (by decide) (by decide) (by decide))) rfl rfl rfl hl.1 rfl (Nat.le_of_ble_eq_true rfl) dX6_divisor_49 ⟨Nat.le_of_ble_eq_true rfl, Nat.le_of_ble_eq_true rfl⟩ rfl (fun H locs hw => ?_)
                  refine lv_aload_n hx hb dX6_divisor_52 rfl (lv_at hl 0 rfl) ?_
                  refine h_get hx hb hE hw hts hinX6 hown (ci := 6) rfl 8 (by decide) lk_32 (fun _ h9 => h9) (pt_ne (pt_ne hM.ob (hM.ne (i := 0) (j := 8) (by decide) (by decide) (by decide))) (hM.ne (i := 0) (j := 9) (by decide) (by decide) (by decide))) rfl dX6_divisor_53 ?_
                  refine h_callS (st1 := [.int (bI (qzero (rg kvt)))]) [.ref (ma 8)] [] ⟨hx, hb, hml, hown, hts⟩ hE hw (c_X6_isNull l G A (ML ma) (va_up (va_up F (ma 8) (eJ4 G (rg kvt))) (ma 9) (eJ4 G (rg kvu))) (ma 8) (rg kvt) (pt_ne (pt_up (hM.v (i := 8) (by decide) (by decide))) (hM.ne (i := 8) (j := 9) (by decide) (by decide) (by decide)))) (va_cwS 1 hts gX6_divisor_X6_isNull rfl rfl rfl (by decide +kernel) ⟨Nat.le_of_ble_eq_true rfl, Nat.le_of_ble_eq_true rfl⟩) rfl hl.1 rfl (Nat.le_of_ble_eq_true rfl) dX6_divisor_56 ⟨Nat.le_of_ble_eq_true rfl, Nat.le_of_ble_eq_true rfl⟩ rfl (fun H locs hw => ?_)
                  refine lv_if_eq (tgt := 75) hx hb dX6_divisor_59 (by decide) (fun c_59 => ?_) (fun c_59 => ?_)
                  · skip
                    have c_59 := bI_eq.mp c_59
                    refine lv_aload_n hx hb dX6_divisor_75 rfl (lv_at hl 0 rfl) ?_
                    refine lv_iload hx hb dX6_divisor_76 (lv_at hl 4 rfl) ?_
                    refine h_callVP (st1 := []) [.int 1] [] ⟨hx, hb, hml, hown, hts⟩ hE hw (c_X6_findDivisor l G A ma (va_up (va_up F (ma 8) (eJ4 G (rg kvt))) (ma 9) (eJ4 G (rg kvu))) _ _ _ _ _ _ _ _ (MW.setv (MW.setv hM (i := 8) (by decide) (by decide) (rg kvt)) (i := 9) (by decide) (by decide) (rg kvu)) (rg kvt) (rg kvu) rfl rfl 1 100 ((hq kvt hkvt).dT (hq kvu hkvu))) (cwV 1 hts gX6_divisor_X6_findDivisor rfl rfl rfl (by decide +kernel) ⟨Nat.le_of_ble_eq_true rfl, Nat.le_of_ble_eq_true rfl⟩) (pt_ne (pt_ne hM.ob (hM.ne (i := 0) (j := 8) (by decide) (by decide) (by decide))) (hM.ne (i := 0) (j := 9) (by decide) (by decide) (by decide))) rfl rfl rfl hl.1 rfl (Nat.le_of_ble_eq_true rfl) dX6_divisor_78 ⟨Nat.le_of_ble_eq_true rfl, Nat.le_of_ble_eq_true rfl⟩ rfl (fun F H locs hP hw => ?_)
                    obtain ⟨mv3, hM3, h312, -⟩ := hP
                    have e312 : mv3 12 = (divi 1 (rg kvt) (rg kvu)) := h312.trans ((hq kvt hkvt).dR (hq kvu hkvu))
                    refine lv_aload_n hx hb dX6_divisor_81 rfl (lv_at hl 0 rfl) ?_
                    refine lv_iload_n hx hb dX6_divisor_82 rfl (lv_at hl 1 rfl) ?_
                    refine lv_aload_n hx hb dX6_divisor_83 rfl (lv_at hl 0 rfl) ?_
                    refine h_get hx hb hE hw hts hinX6 hown (ci := 6) rfl 12 (by decide) lk_44 (fun _ h9 => h9) hM3.ob rfl dX6_divisor_84 ?_
                    by_cases hh : qhigh (divi 1 (rg kvt) (rg kvu))
                    · skip
                      refine h_callV (st1 := [.int (-3)]) [.int (nI kvs), .ref (ma 12)] [] ⟨hx, hb, hml, hown, hts⟩ hE hw (c_X6_holds_hi l G A ma F _ _ _ _ _ _ _ _ hM3 12 kvs (divi 1 (rg kvt) (rg kvu)) (by decide) (by decide) (pt_eq (hM3.v (i := 12) (by decide) (by decide)) (by rw [show ((mk, msz, msh, mrg, mfc, mmd, mv3, mcn) : MS).2.2.2.2.2.2.1 12 = (divi 1 (rg kvt) (rg kvu)) from e312])) hkvs hh) (cwV 2 hts gX6_divisor_X6_holds rfl rfl rfl (by decide +kernel) ⟨Nat.le_of_ble_eq_true rfl, Nat.le_of_ble_eq_true rfl⟩) hM3.ob rfl rfl rfl hl.1 rfl (Nat.le_of_ble_eq_true rfl) dX6_divisor_87 ⟨Nat.le_of_ble_eq_true rfl, Nat.le_of_ble_eq_true rfl⟩ rfl (fun H locs hw => ?_)
                      refine lv_if_ne (tgt := 104) hx hb dX6_divisor_90 (by decide) (fun c_90 => ?_) (fun c_90 => ?_)
                      · skip
                        refine lv_bipush (v := (-3)) hx hb dX6_divisor_104 (by decide) ?_
                        exact h_iretP hx hb hlk hr hw dX6_divisor_106 (by simp only [sp_divisor, xvs, xvt, xvu, cif_t (show ((1 : Int32) = 0 ∨ (1 : Int32) = 1) by decide), cif_T, or_true, true_or, cif_f c_59, cif_t hh, hldN, cif_same]) (by simp only [sp_divisor, xvs, xvt, xvu, cif_t (show ((1 : Int32) = 0 ∨ (1 : Int32) = 1) by decide), cif_T, or_true, true_or, cif_f c_59, cif_t hh, hldN, cif_same]; exact ⟨_, hM3, rel_v hrel⟩)
                      · skip
                        first | exact absurd c_90 (by decide) | exact absurd (by decide) c_90
                    · skip
                      refine h_callV (st1 := [.int 0]) [.int (nI kvs), .ref (ma 12)] [] ⟨hx, hb, hml, hown, hts⟩ hE hw (c_X6_holds_lo l G A ma F _ _ _ _ _ _ _ _ hM3 12 kvs (divi 1 (rg kvt) (rg kvu)) (by decide) (by decide) (pt_eq (hM3.v (i := 12) (by decide) (by decide)) (by rw [show ((mk, msz, msh, mrg, mfc, mmd, mv3, mcn) : MS).2.2.2.2.2.2.1 12 = (divi 1 (rg kvt) (rg kvu)) from e312])) hkvs hh) (cwV 2 hts gX6_divisor_X6_holds rfl rfl rfl (by decide +kernel) ⟨Nat.le_of_ble_eq_true rfl, Nat.le_of_ble_eq_true rfl⟩) hM3.ob rfl rfl rfl hl.1 rfl (Nat.le_of_ble_eq_true rfl) dX6_divisor_87 ⟨Nat.le_of_ble_eq_true rfl, Nat.le_of_ble_eq_true rfl⟩ rfl (fun H locs hw => ?_)
                      refine lv_if_ne (tgt := 104) hx hb dX6_divisor_90 (by decide) (fun c_90 => ?_) (fun c_90 => ?_)
                      · skip
                        first | exact absurd c_90 (by decide) | exact absurd (by decide) c_90
                      · skip
                        refine lv_aload_n hx hb dX6_divisor_93 rfl (lv_at hl 0 rfl) ?_
                        refine h_get hx hb hE hw hts hinX6 hown (ci := 6) rfl 12 (by decide) lk_44 (fun _ h9 => h9) (pt_ne hM3.ob (hM.ne (i := 0) (j := 4) (by decide) (by decide) (by decide))) rfl dX6_divisor_94 ?_
                        refine h_callS (st1 := [.long (qnorm (divi 1 (rg kvt) (rg kvu)))]) [.ref (ma 12)] [] ⟨hx, hb, hml, hown, hts⟩ hE hw (c_X6_norm l G A (ML ma) (va_up F (ma 4) (eI G 64 (stq mrg kvs (divi 1 (rg kvt) (rg kvu))))) (ma 12) (divi 1 (rg kvt) (rg kvu)) (pt_ne (pt_eq (hM3.v (i := 12) (by decide) (by decide)) (by rw [show ((mk, msz, msh, mrg, mfc, mmd, mv3, mcn) : MS).2.2.2.2.2.2.1 12 = (divi 1 (rg kvt) (rg kvu)) from e312])) (hM.ne (i := 12) (j := 4) (by decide) (by decide) (by decide)))) (va_cwS 1 hts gX6_divisor_X6_norm rfl rfl rfl (by decide +kernel) ⟨Nat.le_of_ble_eq_true rfl, Nat.le_of_ble_eq_true rfl⟩) rfl hl.1 rfl (Nat.le_of_ble_eq_true rfl) dX6_divisor_97 ⟨Nat.le_of_ble_eq_true rfl, Nat.le_of_ble_eq_true rfl⟩ rfl (fun H locs hw => ?_)
                        refine lv_l2i hx hb dX6_divisor_100 rfl ?_
                        refine lv_goto (tgt := 106) hx hb dX6_divisor_101 (by decide) ?_
                        exact h_iretP hx hb hlk hr hw dX6_divisor_106 (by simp only [sp_divisor, xvs, xvt, xvu, cif_t (show ((1 : Int32) = 0 ∨ (1 : Int32) = 1) by decide), cif_T, or_true, true_or, cif_f c_59, cif_f hh, hldN, cif_same]) (by simp only [sp_divisor, xvs, xvt, xvu, cif_t (show ((1 : Int32) = 0 ∨ (1 : Int32) = 1) by decide), cif_T, or_true, true_or, cif_f c_59, cif_f hh, hldN, cif_same]; exact ⟨_, (MW.setr hM3 (stq mrg kvs (divi 1 (rg kvt) (rg kvu)))), rel_rg hrel hkvs hh⟩)
                  · skip
                    have c_59 := bI_ne.mp c_59
                    refine lv_aload_n hx hb dX6_divisor_62 rfl (lv_at hl 0 rfl) ?_
                    refine h_get hx hb hE hw hts hinX6 hown (ci := 6) rfl 9 (by decide) lk_35 (fun _ h9 => h9) (pt_ne (pt_ne hM.ob (hM.ne (i := 0) (j := 8) (by decide) (by decide) (by decide))) (hM.ne (i := 0) (j := 9) (by decide) (by decide) (by decide))) rfl dX6_divisor_63 ?_
                    refine h_callS (st1 := [.int (bI (qzero (rg kvu)))]) [.ref (ma 9)] [] ⟨hx, hb, hml, hown, hts⟩ hE hw (c_X6_isNull l G A (ML ma) (va_up (va_up F (ma 8) (eJ4 G (rg kvt))) (ma 9) (eJ4 G (rg kvu))) (ma 9) (rg kvu) (pt_up (pt_ne (hM.v (i := 9) (by decide) (by decide)) (hM.ne (i := 9) (j := 8) (by decide) (by decide) (by decide))))) (va_cwS 1 hts gX6_divisor_X6_isNull rfl rfl rfl (by decide +kernel) ⟨Nat.le_of_ble_eq_true rfl, Nat.le_of_ble_eq_true rfl⟩) rfl hl.1 rfl (Nat.le_of_ble_eq_true rfl) dX6_divisor_66 ⟨Nat.le_of_ble_eq_true rfl, Nat.le_of_ble_eq_true rfl⟩ rfl (fun H locs hw => ?_)
                    refine lv_if_eq (tgt := 75) hx hb dX6_divisor_69 (by decide) (fun c_69 => ?_) (fun c_69 => ?_)
                    · skip
                      have c_69 := bI_eq.mp c_69
                      refine lv_aload_n hx hb dX6_divisor_75 rfl (lv_at hl 0 rfl) ?_
                      refine lv_iload hx hb dX6_divisor_76 (lv_at hl 4 rfl) ?_
                      refine h_callVP (st1 := []) [.int 1] [] ⟨hx, hb, hml, hown, hts⟩ hE hw (c_X6_findDivisor l G A ma (va_up (va_up F (ma 8) (eJ4 G (rg kvt))) (ma 9) (eJ4 G (rg kvu))) _ _ _ _ _ _ _ _ (MW.setv (MW.setv hM (i := 8) (by decide) (by decide) (rg kvt)) (i := 9) (by decide) (by decide) (rg kvu)) (rg kvt) (rg kvu) rfl rfl 1 100 ((hq kvt hkvt).dT (hq kvu hkvu))) (cwV 1 hts gX6_divisor_X6_findDivisor rfl rfl rfl (by decide +kernel) ⟨Nat.le_of_ble_eq_true rfl, Nat.le_of_ble_eq_true rfl⟩) (pt_ne (pt_ne hM.ob (hM.ne (i := 0) (j := 8) (by decide) (by decide) (by decide))) (hM.ne (i := 0) (j := 9) (by decide) (by decide) (by decide))) rfl rfl rfl hl.1 rfl (Nat.le_of_ble_eq_true rfl) dX6_divisor_78 ⟨Nat.le_of_ble_eq_true rfl, Nat.le_of_ble_eq_true rfl⟩ rfl (fun F H locs hP hw => ?_)
                      obtain ⟨mv3, hM3, h312, -⟩ := hP
                      have e312 : mv3 12 = (divi 1 (rg kvt) (rg kvu)) := h312.trans ((hq kvt hkvt).dR (hq kvu hkvu))
                      refine lv_aload_n hx hb dX6_divisor_81 rfl (lv_at hl 0 rfl) ?_
                      refine lv_iload_n hx hb dX6_divisor_82 rfl (lv_at hl 1 rfl) ?_
                      refine lv_aload_n hx hb dX6_divisor_83 rfl (lv_at hl 0 rfl) ?_
                      refine h_get hx hb hE hw hts hinX6 hown (ci := 6) rfl 12 (by decide) lk_44 (fun _ h9 => h9) hM3.ob rfl dX6_divisor_84 ?_
                      by_cases hh : qhigh (divi 1 (rg kvt) (rg kvu))
                      · skip
                        refine h_callV (st1 := [.int (-3)]) [.int (nI kvs), .ref (ma 12)] [] ⟨hx, hb, hml, hown, hts⟩ hE hw (c_X6_holds_hi l G A ma F _ _ _ _ _ _ _ _ hM3 12 kvs (divi 1 (rg kvt) (rg kvu)) (by decide) (by decide) (pt_eq (hM3.v (i := 12) (by decide) (by decide)) (by rw [show ((mk, msz, msh, mrg, mfc, mmd, mv3, mcn) : MS).2.2.2.2.2.2.1 12 = (divi 1 (rg kvt) (rg kvu)) from e312])) hkvs hh) (cwV 2 hts gX6_divisor_X6_holds rfl rfl rfl (by decide +kernel) ⟨Nat.le_of_ble_eq_true rfl, Nat.le_of_ble_eq_true rfl⟩) hM3.ob rfl rfl rfl hl.1 rfl (Nat.le_of_ble_eq_true rfl) dX6_divisor_87 ⟨Nat.le_of_ble_eq_true rfl, Nat.le_of_ble_eq_true rfl⟩ rfl (fun H locs hw => ?_)
                        refine lv_if_ne (tgt := 104) hx hb dX6_divisor_90 (by decide) (fun c_90 => ?_) (fun c_90 => ?_)
                        · skip
                          refine lv_bipush (v := (-3)) hx hb dX6_divisor_104 (by decide) ?_
                          exact h_iretP hx hb hlk hr hw dX6_divisor_106 (by simp only [sp_divisor, xvs, xvt, xvu, cif_t (show ((1 : Int32) = 0 ∨ (1 : Int32) = 1) by decide), cif_T, or_true, true_or, cif_t c_59, cif_f c_69, cif_t hh, hldN, cif_same]) (by simp only [sp_divisor, xvs, xvt, xvu, cif_t (show ((1 : Int32) = 0 ∨ (1 : Int32) = 1) by decide), cif_T, or_true, true_or, cif_t c_59, cif_f c_69, cif_t hh, hldN, cif_same]; exact ⟨_, hM3, rel_v hrel⟩)
                        · skip
                          first | exact absurd c_90 (by decide) | exact absurd (by decide) c_90
                      · skip
                        refine h_callV (st1 := [.int 0]) [.int (nI kvs), .ref (ma 12)] [] ⟨hx, hb, hml, hown, hts⟩ hE hw (c_X6_holds_lo l G A ma F _ _ _ _ _ _ _ _ hM3 12 kvs (divi 1 (rg kvt) (rg kvu)) (by decide) (by decide) (pt_eq (hM3.v (i := 12) (by decide) (by decide)) (by rw [show ((mk, msz, msh, mrg, mfc, mmd, mv3, mcn) : MS).2.2.2.2.2.2.1 12 = (divi 1 (rg kvt) (rg kvu)) from e312])) hkvs hh) (cwV 2 hts gX6_divisor_X6_holds rfl rfl rfl (by decide +kernel) ⟨Nat.le_of_ble_eq_true rfl, Nat.le_of_ble_eq_true rfl⟩) hM3.ob rfl rfl rfl hl.1 rfl (Nat.le_of_ble_eq_true rfl) dX6_divisor_87 ⟨Nat.le_of_ble_eq_true rfl, Nat.le_of_ble_eq_true rfl⟩ rfl (fun H locs hw => ?_)
                        refine lv_if_ne (tgt := 104) hx hb dX6_divisor_90 (by decide) (fun c_90 => ?_) (fun c_90 => ?_)
                        · skip
                          first | exact absurd c_90 (by decide) | exact absurd (by decide) c_90
                        · skip
                          refine lv_aload_n hx hb dX6_divisor_93 rfl (lv_at hl 0 rfl) ?_
                          refine h_get hx hb hE hw hts hinX6 hown (ci := 6) rfl 12 (by decide) lk_44 (fun _ h9 => h9) (pt_ne hM3.ob (hM.ne (i := 0) (j := 4) (by decide) (by decide) (by decide))) rfl dX6_divisor_94 ?_
                          refine h_callS (st1 := [.long (qnorm (divi 1 (rg kvt) (rg kvu)))]) [.ref (ma 12)] [] ⟨hx, hb, hml, hown, hts⟩ hE hw (c_X6_norm l G A (ML ma) (va_up F (ma 4) (eI G 64 (stq mrg kvs (divi 1 (rg kvt) (rg kvu))))) (ma 12) (divi 1 (rg kvt) (rg kvu)) (pt_ne (pt_eq (hM3.v (i := 12) (by decide) (by decide)) (by rw [show ((mk, msz, msh, mrg, mfc, mmd, mv3, mcn) : MS).2.2.2.2.2.2.1 12 = (divi 1 (rg kvt) (rg kvu)) from e312])) (hM.ne (i := 12) (j := 4) (by decide) (by decide) (by decide)))) (va_cwS 1 hts gX6_divisor_X6_norm rfl rfl rfl (by decide +kernel) ⟨Nat.le_of_ble_eq_true rfl, Nat.le_of_ble_eq_true rfl⟩) rfl hl.1 rfl (Nat.le_of_ble_eq_true rfl) dX6_divisor_97 ⟨Nat.le_of_ble_eq_true rfl, Nat.le_of_ble_eq_true rfl⟩ rfl (fun H locs hw => ?_)
                          refine lv_l2i hx hb dX6_divisor_100 rfl ?_
                          refine lv_goto (tgt := 106) hx hb dX6_divisor_101 (by decide) ?_
                          exact h_iretP hx hb hlk hr hw dX6_divisor_106 (by simp only [sp_divisor, xvs, xvt, xvu, cif_t (show ((1 : Int32) = 0 ∨ (1 : Int32) = 1) by decide), cif_T, or_true, true_or, cif_t c_59, cif_f c_69, cif_f hh, hldN, cif_same]) (by simp only [sp_divisor, xvs, xvt, xvu, cif_t (show ((1 : Int32) = 0 ∨ (1 : Int32) = 1) by decide), cif_T, or_true, true_or, cif_t c_59, cif_f c_69, cif_f hh, hldN, cif_same]; exact ⟨_, (MW.setr hM3 (stq mrg kvs (divi 1 (rg kvt) (rg kvu)))), rel_rg hrel hkvs hh⟩)
                    · skip
                      have c_69 := bI_ne.mp c_69
                      refine lv_bipush (v := (-2)) hx hb dX6_divisor_72 (by decide) ?_
                      exact h_iretP hx hb hlk hr hw dX6_divisor_74 (by simp only [sp_divisor, xvs, xvt, xvu, cif_t (show ((1 : Int32) = 0 ∨ (1 : Int32) = 1) by decide), cif_T, or_true, true_or, cif_t c_59, cif_t c_69, hldN, cif_same]) (by simp only [sp_divisor, xvs, xvt, xvu, cif_t (show ((1 : Int32) = 0 ∨ (1 : Int32) = 1) by decide), cif_T, or_true, true_or, cif_t c_59, cif_t c_69, hldN, cif_same]; exact ⟨_, (MW.setv (MW.setv hM (i := 8) (by decide) (by decide) (rg kvt)) (i := 9) (by decide) (by decide) (rg kvu)), rel_v hrel⟩)
                · skip
                  first | exact absurd c_29 (by decide) | exact absurd (by decide) c_29
