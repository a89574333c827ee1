theorem upg {sh : Nat → Int64} {g : Nat → Int64} {k a : Nat} {c : Int64} (hg : ∀ i, i < 16 → sh (16 * k + i) = g i) : ∀ i, i < 16 → vp_updL sh (16 * k + a) c (16 * k + i) = vp_updL g a c i := fun i hi => by
  by_cases e : i = a
  · subst e; rw [pk_uLs, pk_uLs]
  · rw [pk_uLn (by omega), pk_uLn e]; exact hg i hi
theorem ups {sh sh0 : Nat → Int64} {k a : Nat} {c : Int64} (ha : a < 16) (hs : ∀ j, j < 6 → j ≠ k → ∀ i, i < 16 → sh (16 * j + i) = sh0 (16 * j + i)) : ∀ j, j < 6 → j ≠ k → ∀ i, i < 16 → vp_updL sh (16 * k + a) c (16 * j + i) = sh0 (16 * j + i) := fun j hj hne i hi => by
  rw [pk_uLn (by omega)]; exact hs j hj hne i hi
theorem hi_1 {x : Q4} (h : ¬ lowP x.1) : qhigh x := Classical.not_not.mp (fun w => h (low_hi.mpr w).1)
theorem hi_2 {x : Q4} (h : ¬ lowP x.2.1) : qhigh x := Classical.not_not.mp (fun w => h (low_hi.mpr w).2.1)
theorem hi_3 {x : Q4} (h : ¬ lowP x.2.2.1) : qhigh x := Classical.not_not.mp (fun w => h (low_hi.mpr w).2.2.1)
theorem hi_4 {x : Q4} (h : ¬ lowP x.2.2.2) : qhigh x := Classical.not_not.mp (fun w => h (low_hi.mpr w).2.2.2)
set_option maxHeartbeats 4000000 in
set_option maxRecDepth 100000 in
theorem c_X6_put (l : Launch) (G : GG) (A : Nat → Prop) (ma : Nat → Nat) (F : FM) (rg : Nat → Q4) (kd : Nat → Int32) (z : Nat → Nat) (pl : Nat → Nat → Int64) (cnt : Nat) (hR : MR G ma (rg, kd, z, pl, cnt) F) (hz : ∀ k, k < 6 → z k ≤ 16) (hkd : ∀ k, k < 6 → kd k = -1 ∨ 0 ≤ kd k) (hc12 : cnt ≤ 12) (vr : Int32) (vi : Int32) (lv : Int64) : PT l yX6_put wsX6_put { frames := 2, cells := 0, slots := 0, locals := 45 } G A (ML ma) [.ref (ma 0), .int vr, .int vi, .long lv] F (some (.int (sp_put (rg, kd, z, pl, cnt) vr vi lv).1)) (MR G ma (sp_put (rg, kd, z, pl, cnt) vr vi lv).2) := by
  refine PT.ofW (cc := cX6_put) (maxL := 6) (ret := (some .int)) (plainFor_of_name (by decide)) rfl (Nat.le_of_ble_eq_true rfl) ?_
  intro p e s m below meth c ls hx hb hr hml hown hts hlk hE hw hl
  have hl : lv_has ls 6 [(0, .ref (ma 0)), (1, .int vr), (2, .int vi), (3, .long lv)] := hl
  have hown : s.vm.findClass RX6 = some m.cls := hown
  have lk_16 := hts (.fieldLink RX6 16 "FourPartsModel" "sheets" "[J") (by decide +kernel)
  have hinX6 : ∀ w ∈ u_ws RX6 TX6 18, w ∈ wsX6_put := by decide +kernel
  obtain ⟨⟨mk, msz, msh, mrg, mfc, mmd, mv, mcn⟩, hM, hrel⟩ := hR
  obtain ⟨hk1, hk2, hk3, hk4, hk5, hk6⟩ := id hrel
  refine lv_iload_n hx hb dX6_put_0 rfl (lv_at hl 1 rfl) ?_
  rcases ix_cases 6 (by decide) vr with hvr | ⟨kvr, hkvr, rfl⟩
  · skip
    have xvr := ix_none hvr
    refine h_callS (st1 := [.int 0]) [.int vr] [] ⟨hx, hb, hml, hown, hts⟩ hE hw (HT.to (c_X6_isSheet l G A (ML ma) F vr) (V2 := some (.int 0)) (congrArg (fun y => some (Value.int y)) (bI_f (show ¬ inL vr.toInt64 0 5 from inL_out (n := 5) (by decide) hvr))) rfl) (va_cwS 1 hts gX6_put_X6_isSheet rfl rfl rfl (by decide +kernel) ⟨Nat.le_of_ble_eq_true rfl, Nat.le_of_ble_eq_true rfl⟩) rfl hl.1 rfl (Nat.le_of_ble_eq_true rfl) dX6_put_1 ⟨Nat.le_of_ble_eq_true rfl, Nat.le_of_ble_eq_true rfl⟩ rfl (fun H locs hw => ?_)
    refine lv_if_ne (tgt := 9) hx hb dX6_put_4 (by decide) (fun c_4 => ?_) (fun c_4 => ?_)
    · skip
      first | exact absurd c_4 (by decide) | exact absurd (by decide) c_4
    · skip
      refine lv_iconst (v := (-1)) hx hb dX6_put_7 (by decide) ?_
      exact h_iretP hx hb hlk hr hw dX6_put_8 (by simp only [sp_put, xvr]) (by simp only [sp_put, xvr]; exact ⟨_, hM, rel_v hrel⟩)
  · skip
    have xvr := ix_in (n := 6) hkvr (by decide)
    refine h_callS (st1 := [.int 1]) [.int (nI kvr)] [] ⟨hx, hb, hml, hown, hts⟩ hE hw (HT.to (c_X6_isSheet l G A (ML ma) F (nI kvr)) (V2 := some (.int 1)) (congrArg (fun y => some (Value.int y)) (bI_t (show inL (nI kvr).toInt64 0 5 from inL_in (n := 5) (by decide) hkvr))) rfl) (va_cwS 1 hts gX6_put_X6_isSheet rfl rfl rfl (by decide +kernel) ⟨Nat.le_of_ble_eq_true rfl, Nat.le_of_ble_eq_true rfl⟩) rfl hl.1 rfl (Nat.le_of_ble_eq_true rfl) dX6_put_1 ⟨Nat.le_of_ble_eq_true rfl, Nat.le_of_ble_eq_true rfl⟩ rfl (fun H locs hw => ?_)
    refine lv_if_ne (tgt := 9) hx hb dX6_put_4 (by decide) (fun c_4 => ?_) (fun c_4 => ?_)
    · skip
      refine lv_aload_n hx hb dX6_put_9 rfl (lv_at hl 0 rfl) ?_
      refine lv_iload_n hx hb dX6_put_10 rfl (lv_at hl 1 rfl) ?_
      refine lv_iload_n hx hb dX6_put_11 rfl (lv_at hl 2 rfl) ?_
      refine lv_iconst (v := 1) hx hb dX6_put_12 (by decide) ?_
      by_cases hm : kd kvr = -1
      · skip
        refine h_callV (st1 := [.int (-11)]) [.int (nI kvr), .int vi, .int 1] [] ⟨hx, hb, hml, hown, hts⟩ hE hw (HT.to (c_X6_against l G A ma F _ _ _ _ _ _ _ _ hM kvr hkvr vi 1) (V2 := some (.int (-11))) (congrArg (fun y => some (Value.int y)) (by rw [show mk kvr = kd kvr from hk1 kvr hkvr, show msz kvr = nI (z kvr) from hk2 kvr hkvr]; exact ag_null hm)) rfl) (cwV 3 hts gX6_put_X6_against rfl rfl rfl (by decide +kernel) ⟨Nat.le_of_ble_eq_true rfl, Nat.le_of_ble_eq_true rfl⟩) hM.ob rfl rfl rfl hl.1 rfl (Nat.le_of_ble_eq_true rfl) dX6_put_13 ⟨Nat.le_of_ble_eq_true rfl, Nat.le_of_ble_eq_true rfl⟩ rfl (fun H locs hw => ?_)
        refine lv_istore (lv' := [(5, .int (-11)), (0, .ref (ma 0)), (1, .int (nI kvr)), (2, .int vi), (3, .long lv)]) hx hb dX6_put_16 hl (by decide) rfl (fun ls hl => ?_)
        refine lv_iload hx hb dX6_put_18 (lv_at hl 0 rfl) ?_
        refine lv_if_ne (tgt := 40) hx hb dX6_put_20 (by decide) (fun c_20 => ?_) (fun c_20 => ?_)
        · skip
          refine lv_iload hx hb dX6_put_40 (lv_at hl 0 rfl) ?_
          exact h_iretP hx hb hlk hr hw dX6_put_42 (by simp only [sp_put, xvr, cif_t hm]) (by simp only [sp_put, xvr, cif_t hm]; exact ⟨_, hM, rel_v hrel⟩)
        · skip
          first | exact absurd c_20 (by decide) | exact absurd (by decide) c_20
      · have hkn : 0 ≤ kd kvr := (hkd kvr hkvr).resolve_left hm
        have hz1 := hz kvr hkvr
        by_cases hr1 : reach (nI (z kvr)) vi 1
        · skip
          obtain ⟨ia, rfl, hab⟩ := reach_1 (b := 1) hz1 (by decide) hr1
          have hrc : rch (z kvr) (nI ia) 1 = some (ia, 1) := rch_in hab hz1
          refine h_callV (st1 := [.int 0]) [.int (nI kvr), .int (nI ia), .int 1] [] ⟨hx, hb, hml, hown, hts⟩ hE hw (HT.to (c_X6_against l G A ma F _ _ _ _ _ _ _ _ hM kvr hkvr (nI ia) 1) (V2 := some (.int (0))) (congrArg (fun y => some (Value.int y)) (by rw [show mk kvr = kd kvr from hk1 kvr hkvr, show msz kvr = nI (z kvr) from hk2 kvr hkvr]; exact ag_in (b := 1) hkn hz1 hab)) rfl) (cwV 3 hts gX6_put_X6_against rfl rfl rfl (by decide +kernel) ⟨Nat.le_of_ble_eq_true rfl, Nat.le_of_ble_eq_true rfl⟩) hM.ob rfl rfl rfl hl.1 rfl (Nat.le_of_ble_eq_true rfl) dX6_put_13 ⟨Nat.le_of_ble_eq_true rfl, Nat.le_of_ble_eq_true rfl⟩ rfl (fun H locs hw => ?_)
          refine lv_istore (lv' := [(5, .int 0), (0, .ref (ma 0)), (1, .int (nI kvr)), (2, .int (nI ia)), (3, .long lv)]) hx hb dX6_put_16 hl (by decide) rfl (fun ls hl => ?_)
          refine lv_iload hx hb dX6_put_18 (lv_at hl 0 rfl) ?_
          refine lv_if_ne (tgt := 40) hx hb dX6_put_20 (by decide) (fun c_20 => ?_) (fun c_20 => ?_)
          · skip
            first | exact absurd c_20 (by decide) | exact absurd (by decide) c_20
          · skip
            refine lv_aload_n hx hb dX6_put_23 rfl (lv_at hl 1 rfl) ?_
            refine h_get hx hb hE hw hts hinX6 hown (ci := 6) rfl 2 (by decide) lk_16 (fun _ h9 => h9) hM.ob rfl dX6_put_24 ?_
            refine lv_bipush (v := 16) hx hb dX6_put_27 (by decide) ?_
            refine lv_iload_n hx hb dX6_put_29 rfl (lv_at hl 2 rfl) ?_
            refine h_imulN hx hb 16 kvr dX6_put_30 ?_
            refine lv_iload_n hx hb dX6_put_31 rfl (lv_at hl 3 rfl) ?_
            refine h_iaddN hx hb (16 * kvr) ia dX6_put_32 ?_
            refine lv_aload_n hx hb dX6_put_33 rfl (lv_at hl 1 rfl) ?_
            refine lv_iload_n hx hb dX6_put_34 rfl (lv_at hl 2 rfl) ?_
            refine lv_lload_n hx hb dX6_put_35 rfl (lv_at hl 4 rfl) ?_
            refine h_callV (st1 := [.long (cutL (kd kvr) lv), .int (nI ((16 * kvr) + ia)), .ref (ma 3)]) [.int (nI kvr), .long lv] [.int (nI ((16 * kvr) + ia)), .ref (ma 3)] ⟨hx, hb, hml, hown, hts⟩ hE hw (HT.to (c_X6_cut l G A ma F _ _ _ _ _ _ _ _ hM kvr hkvr lv) (V2 := some (.long (cutL (kd kvr) lv))) (congrArg (fun y => some (Value.long (cutL y lv))) (show mk kvr = kd kvr from hk1 kvr hkvr)) rfl) (cwV 2 hts gX6_put_X6_cut rfl rfl rfl (by decide +kernel) ⟨Nat.le_of_ble_eq_true rfl, Nat.le_of_ble_eq_true rfl⟩) hM.ob rfl rfl rfl hl.1 rfl (Nat.le_of_ble_eq_true rfl) dX6_put_36 ⟨Nat.le_of_ble_eq_true rfl, Nat.le_of_ble_eq_true rfl⟩ rfl (fun H locs hw => ?_)
            refine h_last hx hb hE hw hM.sh (vp_in_nI (n := ((16 * kvr) + ia)) (N := 96) (by omega) (by decide)) (g := vp_updL msh ((16 * kvr) + ia) (cutL (kd kvr) lv)) (by rw [nI_clamp (by omega)]) dX6_put_39 (fun H locs hw => ?_)
            refine lv_iload hx hb dX6_put_40 (lv_at hl 0 rfl) ?_
            exact h_iretP hx hb hlk hr hw dX6_put_42 (by simp only [sp_put, xvr, hrc, cif_f hm]) (by simp only [sp_put, xvr, hrc, cif_f hm]; exact ⟨_, (MW.seth hM (vp_updL msh ((16 * kvr) + ia) (cutL (kd kvr) lv))), rel_pl hrel (ups (by omega) (fun _ _ _ _ _ => rfl)) (upg (fun i hi => hk3 kvr hkvr i hi))⟩)
        · skip
          have hrc : rch (z kvr) vi 1 = none := rch_out hz1 hr1
          refine h_callV (st1 := [.int (-12)]) [.int (nI kvr), .int vi, .int 1] [] ⟨hx, hb, hml, hown, hts⟩ hE hw (HT.to (c_X6_against l G A ma F _ _ _ _ _ _ _ _ hM kvr hkvr vi 1) (V2 := some (.int (-12))) (congrArg (fun y => some (Value.int y)) (by rw [show mk kvr = kd kvr from hk1 kvr hkvr, show msz kvr = nI (z kvr) from hk2 kvr hkvr]; exact ag_out hkn hz1 (by decide) hr1)) rfl) (cwV 3 hts gX6_put_X6_against rfl rfl rfl (by decide +kernel) ⟨Nat.le_of_ble_eq_true rfl, Nat.le_of_ble_eq_true rfl⟩) hM.ob rfl rfl rfl hl.1 rfl (Nat.le_of_ble_eq_true rfl) dX6_put_13 ⟨Nat.le_of_ble_eq_true rfl, Nat.le_of_ble_eq_true rfl⟩ rfl (fun H locs hw => ?_)
          refine lv_istore (lv' := [(5, .int (-12)), (0, .ref (ma 0)), (1, .int (nI kvr)), (2, .int vi), (3, .long lv)]) hx hb dX6_put_16 hl (by decide) rfl (fun ls hl => ?_)
          refine lv_iload hx hb dX6_put_18 (lv_at hl 0 rfl) ?_
          refine lv_if_ne (tgt := 40) hx hb dX6_put_20 (by decide) (fun c_20 => ?_) (fun c_20 => ?_)
          · skip
            refine lv_iload hx hb dX6_put_40 (lv_at hl 0 rfl) ?_
            exact h_iretP hx hb hlk hr hw dX6_put_42 (by simp only [sp_put, xvr, hrc, cif_f hm]) (by simp only [sp_put, xvr, hrc, cif_f hm]; exact ⟨_, hM, rel_v hrel⟩)
          · skip
            first | exact absurd c_20 (by decide) | exact absurd (by decide) c_20
    · skip
      first | exact absurd c_4 (by decide) | exact absurd (by decide) c_4

set_option maxHeartbeats 4000000 in
set_option maxRecDepth 100000 in
theorem c_X6_write (l : Launch) (G : GG) (A : Nat → Prop) (ma : Nat → Nat) (F : FM) (rg : Nat → Q4) (kd : Nat → Int32) (z : Nat → Nat) (pl : Nat → Nat → Int64) (cnt : Nat) (hR : MR G ma (rg, kd, z, pl, cnt) F) (hz : ∀ k, k < 6 → z k ≤ 16) (hkd : ∀ k, k < 6 → kd k = -1 ∨ 0 ≤ kd k) (hc12 : cnt ≤ 12) (vs : Int32) (vr : Int32) (vi : Int32) : PT l yX6_write wsX6_write { frames := 2, cells := 0, slots := 0, locals := 45 } G A (ML ma) [.ref (ma 0), .int vs, .int vr, .int vi] F (some (.int (sp_write (rg, kd, z, pl, cnt) vs vr vi).1)) (MR G ma (sp_write (rg, kd, z, pl, cnt) vs vr vi).2) := by
  refine PT.ofW (cc := cX6_write) (maxL := 6) (ret := (some .int)) (plainFor_of_name (by decide)) rfl (Nat.le_of_ble_eq_true rfl) ?_
  intro p e s m below meth c ls hx hb hr hml hown hts hlk hE hw hl
  have hl : lv_has ls 6 [(0, .ref (ma 0)), (1, .int vs), (2, .int vr), (3, .int vi)] := hl
  have hown : s.vm.findClass RX6 = some m.cls := hown
  have lk_16 := hts (.fieldLink RX6 16 "FourPartsModel" "sheets" "[J") (by decide +kernel)
  have hinX6 : ∀ w ∈ u_ws RX6 TX6 18, w ∈ wsX6_write := by decide +kernel
  have lk_20 := hts (.fieldLink RX6 20 "FourPartsModel" "registers" "[I") (by decide +kernel)
  obtain ⟨⟨mk, msz, msh, mrg, mfc, mmd, mv, mcn⟩, hM, hrel⟩ := hR
  obtain ⟨hk1, hk2, hk3, hk4, hk5, hk6⟩ := id hrel
  refine lv_iload_n hx hb dX6_write_0 rfl (lv_at hl 1 rfl) ?_
  rcases ix_cases 16 (by decide) vs with hvs | ⟨kvs, hkvs, rfl⟩
  · skip
    have xvs := ix_none hvs
    refine h_callS (st1 := [.int 0]) [.int vs] [] ⟨hx, hb, hml, hown, hts⟩ hE hw (HT.to (c_X6_isRegister l G A (ML ma) F vs) (V2 := some (.int 0)) (congrArg (fun y => some (Value.int y)) (bI_f (show ¬ inL vs.toInt64 0 15 from inL_out (n := 15) (by decide) hvs))) rfl) (va_cwS 1 hts gX6_write_X6_isRegister rfl rfl rfl (by decide +kernel) ⟨Nat.le_of_ble_eq_true rfl, Nat.le_of_ble_eq_true rfl⟩) rfl hl.1 rfl (Nat.le_of_ble_eq_true rfl) dX6_write_1 ⟨Nat.le_of_ble_eq_true rfl, Nat.le_of_ble_eq_true rfl⟩ rfl (fun H locs hw => ?_)
    refine lv_if_eq (tgt := 14) hx hb dX6_write_4 (by decide) (fun c_4 => ?_) (fun c_4 => ?_)
    · skip
      refine lv_iconst (v := (-1)) hx hb dX6_write_14 (by decide) ?_
      exact h_iretP hx hb hlk hr hw dX6_write_15 (by simp only [sp_write, xvs]) (by simp only [sp_write, xvs]; exact ⟨_, hM, rel_v hrel⟩)
    · skip
      first | exact absurd c_4 (by decide) | exact absurd (by decide) c_4
  · skip
    have xvs := ix_in (n := 16) hkvs (by decide)
    refine h_callS (st1 := [.int 1]) [.int (nI kvs)] [] ⟨hx, hb, hml, hown, hts⟩ hE hw (HT.to (c_X6_isRegister l G A (ML ma) F (nI kvs)) (V2 := some (.int 1)) (congrArg (fun y => some (Value.int y)) (bI_t (show inL (nI kvs).toInt64 0 15 from inL_in (n := 15) (by decide) hkvs))) rfl) (va_cwS 1 hts gX6_write_X6_isRegister rfl rfl rfl (by decide +kernel) ⟨Nat.le_of_ble_eq_true rfl, Nat.le_of_ble_eq_true rfl⟩) rfl hl.1 rfl (Nat.le_of_ble_eq_true rfl) dX6_write_1 ⟨Nat.le_of_ble_eq_true rfl, Nat.le_of_ble_eq_true rfl⟩ rfl (fun H locs hw => ?_)
    refine lv_if_eq (tgt := 14) hx hb dX6_write_4 (by decide) (fun c_4 => ?_) (fun c_4 => ?_)
    · skip
      first | exact absurd c_4 (by decide) | exact absurd (by decide) c_4
    · skip
      refine lv_iload_n hx hb dX6_write_7 rfl (lv_at hl 2 rfl) ?_
      rcases ix_cases 6 (by decide) vr with hvr | ⟨kvr, hkvr, rfl⟩
      · skip
        have xvr := ix_none hvr
        refine h_callS (st1 := [.int 0]) [.int vr] [] ⟨hx, hb, hml, hown, hts⟩ hE hw (HT.to (c_X6_isSheet l G A (ML ma) F vr) (V2 := some (.int 0)) (congrArg (fun y => some (Value.int y)) (bI_f (show ¬ inL vr.toInt64 0 5 from inL_out (n := 5) (by decide) hvr))) rfl) (va_cwS 1 hts gX6_write_X6_isSheet rfl rfl rfl (by decide +kernel) ⟨Nat.le_of_ble_eq_true rfl, Nat.le_of_ble_eq_true rfl⟩) rfl hl.1 rfl (Nat.le_of_ble_eq_true rfl) dX6_write_8 ⟨Nat.le_of_ble_eq_true rfl, Nat.le_of_ble_eq_true rfl⟩ rfl (fun H locs hw => ?_)
        refine lv_if_ne (tgt := 16) hx hb dX6_write_11 (by decide) (fun c_11 => ?_) (fun c_11 => ?_)
        · skip
          first | exact absurd c_11 (by decide) | exact absurd (by decide) c_11
        · skip
          refine lv_iconst (v := (-1)) hx hb dX6_write_14 (by decide) ?_
          exact h_iretP hx hb hlk hr hw dX6_write_15 (by simp only [sp_write, xvs, xvr]) (by simp only [sp_write, xvs, xvr]; exact ⟨_, hM, rel_v hrel⟩)
      · skip
        have xvr := ix_in (n := 6) hkvr (by decide)
        refine h_callS (st1 := [.int 1]) [.int (nI kvr)] [] ⟨hx, hb, hml, hown, hts⟩ hE hw (HT.to (c_X6_isSheet l G A (ML ma) F (nI kvr)) (V2 := some (.int 1)) (congrArg (fun y => some (Value.int y)) (bI_t (show inL (nI kvr).toInt64 0 5 from inL_in (n := 5) (by decide) hkvr))) rfl) (va_cwS 1 hts gX6_write_X6_isSheet rfl rfl rfl (by decide +kernel) ⟨Nat.le_of_ble_eq_true rfl, Nat.le_of_ble_eq_true rfl⟩) rfl hl.1 rfl (Nat.le_of_ble_eq_true rfl) dX6_write_8 ⟨Nat.le_of_ble_eq_true rfl, Nat.le_of_ble_eq_true rfl⟩ rfl (fun H locs hw => ?_)
        refine lv_if_ne (tgt := 16) hx hb dX6_write_11 (by decide) (fun c_11 => ?_) (fun c_11 => ?_)
        · skip
          refine lv_aload_n hx hb dX6_write_16 rfl (lv_at hl 0 rfl) ?_
          refine lv_iload_n hx hb dX6_write_17 rfl (lv_at hl 2 rfl) ?_
          refine lv_iload_n hx hb dX6_write_18 rfl (lv_at hl 3 rfl) ?_
          refine lv_iconst (v := 4) hx hb dX6_write_19 (by decide) ?_
          by_cases hm : kd kvr = -1
          · skip
            refine h_callV (st1 := [.int (-11)]) [.int (nI kvr), .int vi, .int 4] [] ⟨hx, hb, hml, hown, hts⟩ hE hw (HT.to (c_X6_against l G A ma F _ _ _ _ _ _ _ _ hM kvr hkvr vi 4) (V2 := some (.int (-11))) (congrArg (fun y => some (Value.int y)) (by rw [show mk kvr = kd kvr from hk1 kvr hkvr, show msz kvr = nI (z kvr) from hk2 kvr hkvr]; exact ag_null hm)) rfl) (cwV 3 hts gX6_write_X6_against rfl rfl rfl (by decide +kernel) ⟨Nat.le_of_ble_eq_true rfl, Nat.le_of_ble_eq_true rfl⟩) hM.ob rfl rfl rfl hl.1 rfl (Nat.le_of_ble_eq_true rfl) dX6_write_20 ⟨Nat.le_of_ble_eq_true rfl, Nat.le_of_ble_eq_true rfl⟩ rfl (fun H locs hw => ?_)
            refine lv_istore (lv' := [(4, .int (-11)), (0, .ref (ma 0)), (1, .int (nI kvs)), (2, .int (nI kvr)), (3, .int vi)]) hx hb dX6_write_23 hl (by decide) rfl (fun ls hl => ?_)
            refine lv_iconst (v := 0) hx hb dX6_write_25 (by decide) ?_
            refine lv_istore (lv' := [(5, .int 0), (4, .int (-11)), (0, .ref (ma 0)), (1, .int (nI kvs)), (2, .int (nI kvr)), (3, .int vi)]) hx hb dX6_write_26 hl (by decide) rfl (fun ls hl => ?_)
            refine lv_iload hx hb dX6_write_28 (lv_at hl 0 rfl) ?_
            refine lv_iconst (v := 4) hx hb dX6_write_30 (by decide) ?_
            refine lv_icmp_ge (tgt := 76) hx hb dX6_write_31 (by decide) (fun c_31 => ?_) (fun c_31 => ?_)
            · skip
              first | exact absurd c_31 (by decide) | exact absurd (by decide) c_31
            · skip
              refine lv_iload hx hb dX6_write_34 (lv_at hl 1 rfl) ?_
              refine lv_if_ne (tgt := 76) hx hb dX6_write_36 (by decide) (fun c_36 => ?_) (fun c_36 => ?_)
              · skip
                refine lv_iload hx hb dX6_write_76 (lv_at hl 1 rfl) ?_
                exact h_iretP hx hb hlk hr hw dX6_write_78 (by simp only [sp_write, xvs, xvr, cif_t hm]) (by simp only [sp_write, xvs, xvr, cif_t hm]; exact ⟨_, hM, rel_v hrel⟩)
              · skip
                first | exact absurd c_36 (by decide) | exact absurd (by decide) c_36
          · have hkn : 0 ≤ kd kvr := (hkd kvr hkvr).resolve_left hm
            have hz1 := hz kvr hkvr
            by_cases hr1 : reach (nI (z kvr)) vi 4
            · skip
              obtain ⟨ia, rfl, hab⟩ := reach_1 (b := 4) hz1 (by decide) hr1
              have hrc : rch (z kvr) (nI ia) 4 = some (ia, 4) := rch_in hab hz1
              refine h_callV (st1 := [.int 0]) [.int (nI kvr), .int (nI ia), .int 4] [] ⟨hx, hb, hml, hown, hts⟩ hE hw (HT.to (c_X6_against l G A ma F _ _ _ _ _ _ _ _ hM kvr hkvr (nI ia) 4) (V2 := some (.int (0))) (congrArg (fun y => some (Value.int y)) (by rw [show mk kvr = kd kvr from hk1 kvr hkvr, show msz kvr = nI (z kvr) from hk2 kvr hkvr]; exact ag_in (b := 4) hkn hz1 hab)) rfl) (cwV 3 hts gX6_write_X6_against rfl rfl rfl (by decide +kernel) ⟨Nat.le_of_ble_eq_true rfl, Nat.le_of_ble_eq_true rfl⟩) hM.ob rfl rfl rfl hl.1 rfl (Nat.le_of_ble_eq_true rfl) dX6_write_20 ⟨Nat.le_of_ble_eq_true rfl, Nat.le_of_ble_eq_true rfl⟩ rfl (fun H locs hw => ?_)
              refine lv_istore (lv' := [(4, .int 0), (0, .ref (ma 0)), (1, .int (nI kvs)), (2, .int (nI kvr)), (3, .int (nI ia))]) hx hb dX6_write_23 hl (by decide) rfl (fun ls hl => ?_)
              refine lv_iconst (v := 0) hx hb dX6_write_25 (by decide) ?_
              refine lv_istore (lv' := [(5, .int 0), (4, .int 0), (0, .ref (ma 0)), (1, .int (nI kvs)), (2, .int (nI kvr)), (3, .int (nI ia))]) hx hb dX6_write_26 hl (by decide) rfl (fun ls hl => ?_)
              refine lv_iload hx hb dX6_write_28 (lv_at hl 0 rfl) ?_
              refine lv_iconst (v := 4) hx hb dX6_write_30 (by decide) ?_
              refine lv_icmp_ge (tgt := 76) hx hb dX6_write_31 (by decide) (fun c_31 => ?_) (fun c_31 => ?_)
              · skip
                first | exact absurd c_31 (by decide) | exact absurd (by decide) c_31
              · skip
                refine lv_iload hx hb dX6_write_34 (lv_at hl 1 rfl) ?_
                refine lv_if_ne (tgt := 76) hx hb dX6_write_36 (by decide) (fun c_36 => ?_) (fun c_36 => ?_)
                · skip
                  first | exact absurd c_36 (by decide) | exact absurd (by decide) c_36
                · skip
                  refine lv_aload_n hx hb dX6_write_39 rfl (lv_at hl 2 rfl) ?_
                  refine h_get hx hb hE hw hts hinX6 hown (ci := 6) rfl 2 (by decide) lk_16 (fun _ h9 => h9) hM.ob rfl dX6_write_40 ?_
                  refine lv_bipush (v := 16) hx hb dX6_write_43 (by decide) ?_
                  refine lv_iload_n hx hb dX6_write_45 rfl (lv_at hl 4 rfl) ?_
                  refine h_imulN hx hb 16 kvr dX6_write_46 ?_
                  refine lv_iload_n hx hb dX6_write_47 rfl (lv_at hl 5 rfl) ?_
                  refine h_iaddN hx hb (16 * kvr) ia dX6_write_48 ?_
                  refine lv_iload hx hb dX6_write_49 (lv_at hl 0 rfl) ?_
                  refine h_iaddN hx hb ((16 * kvr) + ia) 0 dX6_write_51 ?_
                  refine lv_aload_n hx hb dX6_write_52 rfl (lv_at hl 2 rfl) ?_
                  refine lv_iload_n hx hb dX6_write_53 rfl (lv_at hl 4 rfl) ?_
                  refine lv_aload_n hx hb dX6_write_54 rfl (lv_at hl 2 rfl) ?_
                  refine h_get hx hb hE hw hts hinX6 hown (ci := 6) rfl 3 (by decide) lk_20 (fun _ h9 => h9) hM.ob rfl dX6_write_55 ?_
                  refine lv_iconst (v := 4) hx hb dX6_write_58 (by decide) ?_
                  refine lv_iload_n hx hb dX6_write_59 rfl (lv_at hl 3 rfl) ?_
                  refine h_imulN hx hb 4 kvs dX6_write_60 ?_
                  refine lv_iload hx hb dX6_write_61 (lv_at hl 0 rfl) ?_
                  refine h_iaddN hx hb (4 * kvs) 0 dX6_write_63 ?_
                  refine h_iald hx hb hE hw hM.rg (vp_in_nI (n := ((4 * kvs) + 0)) (N := 64) (by omega) (by decide)) (v := mrg ((4 * kvs) + 0)) (by rw [nI_clamp (by omega)]) dX6_write_64 ?_
                  refine lv_i2l hx hb dX6_write_65 rfl ?_
                  refine W.eq (g2 := F0 m 66 ls [.long ((rg kvs).1), .int (nI kvr), .ref (ma 0), .int (nI (((16 * kvr) + ia) + 0)), .ref (ma 3)]) (by rw [show (mrg ((4 * kvs) + 0)).toInt64 = (rg kvs).1 from congrArg Prod.fst (hk4 kvs hkvs)]) ?_
                  refine h_callV (st1 := [.long (cutL (kd kvr) ((rg kvs).1)), .int (nI (((16 * kvr) + ia) + 0)), .ref (ma 3)]) [.int (nI kvr), .long ((rg kvs).1)] [.int (nI (((16 * kvr) + ia) + 0)), .ref (ma 3)] ⟨hx, hb, hml, hown, hts⟩ hE hw (HT.to (c_X6_cut l G A ma F _ _ _ _ _ _ _ _ hM kvr hkvr ((rg kvs).1)) (V2 := some (.long (cutL (kd kvr) ((rg kvs).1)))) (congrArg (fun y => some (Value.long (cutL y ((rg kvs).1)))) (show mk kvr = kd kvr from hk1 kvr hkvr)) rfl) (cwV 2 hts gX6_write_X6_cut rfl rfl rfl (by decide +kernel) ⟨Nat.le_of_ble_eq_true rfl, Nat.le_of_ble_eq_true rfl⟩) hM.ob rfl rfl rfl hl.1 rfl (Nat.le_of_ble_eq_true rfl) dX6_write_66 ⟨Nat.le_of_ble_eq_true rfl, Nat.le_of_ble_eq_true rfl⟩ rfl (fun H locs hw => ?_)
                  refine h_last hx hb hE hw hM.sh (vp_in_nI (n := (((16 * kvr) + ia) + 0)) (N := 96) (by omega) (by decide)) (g := vp_updL msh (((16 * kvr) + ia) + 0) (cutL (kd kvr) ((rg kvs).1))) (by rw [nI_clamp (by omega)]) dX6_write_69 (fun H locs hw => ?_)
                  refine lv_iinc (v := 1) (lv' := [(5, .int 1), (4, .int 0), (0, .ref (ma 0)), (1, .int (nI kvs)), (2, .int (nI kvr)), (3, .int (nI ia))]) hx hb dX6_write_70 hl (k := 0) rfl (by decide) (by decide) rfl (fun ls hl => ?_)
                  refine lv_goto (tgt := 28) hx hb dX6_write_73 (by decide) ?_
                  refine lv_iload hx hb dX6_write_28 (lv_at hl 0 rfl) ?_
                  refine lv_iconst (v := 4) hx hb dX6_write_30 (by decide) ?_
                  refine lv_icmp_ge (tgt := 76) hx hb dX6_write_31 (by decide) (fun c_31 => ?_) (fun c_31 => ?_)
                  · skip
                    first | exact absurd c_31 (by decide) | exact absurd (by decide) c_31
                  · skip
                    refine lv_iload hx hb dX6_write_34 (lv_at hl 1 rfl) ?_
                    refine lv_if_ne (tgt := 76) hx hb dX6_write_36 (by decide) (fun c_36 => ?_) (fun c_36 => ?_)
                    · skip
                      first | exact absurd c_36 (by decide) | exact absurd (by decide) c_36
                    · skip
                      refine lv_aload_n hx hb dX6_write_39 rfl (lv_at hl 2 rfl) ?_
                      refine h_get hx hb hE hw hts hinX6 hown (ci := 6) rfl 2 (by decide) lk_16 (fun _ h9 => h9) (pt_ne hM.ob (hM.ne (i := 0) (j := 3) (by decide) (by decide) (by decide))) rfl dX6_write_40 ?_
                      refine lv_bipush (v := 16) hx hb dX6_write_43 (by decide) ?_
                      refine lv_iload_n hx hb dX6_write_45 rfl (lv_at hl 4 rfl) ?_
                      refine h_imulN hx hb 16 kvr dX6_write_46 ?_
                      refine lv_iload_n hx hb dX6_write_47 rfl (lv_at hl 5 rfl) ?_
                      refine h_iaddN hx hb (16 * kvr) ia dX6_write_48 ?_
                      refine lv_iload hx hb dX6_write_49 (lv_at hl 0 rfl) ?_
                      refine h_iaddN hx hb ((16 * kvr) + ia) 1 dX6_write_51 ?_
                      refine lv_aload_n hx hb dX6_write_52 rfl (lv_at hl 2 rfl) ?_
                      refine lv_iload_n hx hb dX6_write_53 rfl (lv_at hl 4 rfl) ?_
                      refine lv_aload_n hx hb dX6_write_54 rfl (lv_at hl 2 rfl) ?_
                      refine h_get hx hb hE hw hts hinX6 hown (ci := 6) rfl 3 (by decide) lk_20 (fun _ h9 => h9) (pt_ne hM.ob (hM.ne (i := 0) (j := 3) (by decide) (by decide) (by decide))) rfl dX6_write_55 ?_
                      refine lv_iconst (v := 4) hx hb dX6_write_58 (by decide) ?_
                      refine lv_iload_n hx hb dX6_write_59 rfl (lv_at hl 3 rfl) ?_
                      refine h_imulN hx hb 4 kvs dX6_write_60 ?_
                      refine lv_iload hx hb dX6_write_61 (lv_at hl 0 rfl) ?_
                      refine h_iaddN hx hb (4 * kvs) 1 dX6_write_63 ?_
                      refine h_iald hx hb hE hw (pt_ne hM.rg (hM.ne (i := 4) (j := 3) (by decide) (by decide) (by decide))) (vp_in_nI (n := ((4 * kvs) + 1)) (N := 64) (by omega) (by decide)) (v := mrg ((4 * kvs) + 1)) (by rw [nI_clamp (by omega)]) dX6_write_64 ?_
                      refine lv_i2l hx hb dX6_write_65 rfl ?_
                      refine W.eq (g2 := F0 m 66 ls [.long ((rg kvs).2.1), .int (nI kvr), .ref (ma 0), .int (nI (((16 * kvr) + ia) + 1)), .ref (ma 3)]) (by rw [show (mrg ((4 * kvs) + 1)).toInt64 = (rg kvs).2.1 from congrArg (fun t => t.2.1) (hk4 kvs hkvs)]) ?_
                      refine h_callV (st1 := [.long (cutL (kd kvr) ((rg kvs).2.1)), .int (nI (((16 * kvr) + ia) + 1)), .ref (ma 3)]) [.int (nI kvr), .long ((rg kvs).2.1)] [.int (nI (((16 * kvr) + ia) + 1)), .ref (ma 3)] ⟨hx, hb, hml, hown, hts⟩ hE hw (HT.to (c_X6_cut l G A ma (va_up F (ma 3) (eJ G 96 (vp_updL msh (((16 * kvr) + ia) + 0) (cutL (kd kvr) ((rg kvs).1))))) _ _ _ _ _ _ _ _ (MW.seth hM (vp_updL msh (((16 * kvr) + ia) + 0) (cutL (kd kvr) ((rg kvs).1)))) kvr hkvr ((rg kvs).2.1)) (V2 := some (.long (cutL (kd kvr) ((rg kvs).2.1)))) (congrArg (fun y => some (Value.long (cutL y ((rg kvs).2.1)))) (show mk kvr = kd kvr from hk1 kvr hkvr)) rfl) (cwV 2 hts gX6_write_X6_cut rfl rfl rfl (by decide +kernel) ⟨Nat.le_of_ble_eq_true rfl, Nat.le_of_ble_eq_true rfl⟩) (pt_ne hM.ob (hM.ne (i := 0) (j := 3) (by decide) (by decide) (by decide))) rfl rfl rfl hl.1 rfl (Nat.le_of_ble_eq_true rfl) dX6_write_66 ⟨Nat.le_of_ble_eq_true rfl, Nat.le_of_ble_eq_true rfl⟩ rfl (fun H locs hw => ?_)
                      refine h_last hx hb hE hw (pt_up hM.sh) (vp_in_nI (n := (((16 * kvr) + ia) + 1)) (N := 96) (by omega) (by decide)) (g := vp_updL (vp_updL msh (((16 * kvr) + ia) + 0) (cutL (kd kvr) ((rg kvs).1))) (((16 * kvr) + ia) + 1) (cutL (kd kvr) ((rg kvs).2.1))) (by rw [nI_clamp (by omega)]) dX6_write_69 (fun H locs hw => ?_)
                      refine lv_iinc (v := 2) (lv' := [(5, .int 2), (4, .int 0), (0, .ref (ma 0)), (1, .int (nI kvs)), (2, .int (nI kvr)), (3, .int (nI ia))]) hx hb dX6_write_70 hl (k := 0) rfl (by decide) (by decide) rfl (fun ls hl => ?_)
                      refine lv_goto (tgt := 28) hx hb dX6_write_73 (by decide) ?_
                      refine lv_iload hx hb dX6_write_28 (lv_at hl 0 rfl) ?_
                      refine lv_iconst (v := 4) hx hb dX6_write_30 (by decide) ?_
                      refine lv_icmp_ge (tgt := 76) hx hb dX6_write_31 (by decide) (fun c_31 => ?_) (fun c_31 => ?_)
                      · skip
                        first | exact absurd c_31 (by decide) | exact absurd (by decide) c_31
                      · skip
                        refine lv_iload hx hb dX6_write_34 (lv_at hl 1 rfl) ?_
                        refine lv_if_ne (tgt := 76) hx hb dX6_write_36 (by decide) (fun c_36 => ?_) (fun c_36 => ?_)
                        · skip
                          first | exact absurd c_36 (by decide) | exact absurd (by decide) c_36
                        · skip
                          refine lv_aload_n hx hb dX6_write_39 rfl (lv_at hl 2 rfl) ?_
                          refine h_get hx hb hE hw hts hinX6 hown (ci := 6) rfl 2 (by decide) lk_16 (fun _ h9 => h9) (pt_ne (pt_ne hM.ob (hM.ne (i := 0) (j := 3) (by decide) (by decide) (by decide))) (hM.ne (i := 0) (j := 3) (by decide) (by decide) (by decide))) rfl dX6_write_40 ?_
                          refine lv_bipush (v := 16) hx hb dX6_write_43 (by decide) ?_
                          refine lv_iload_n hx hb dX6_write_45 rfl (lv_at hl 4 rfl) ?_
                          refine h_imulN hx hb 16 kvr dX6_write_46 ?_
                          refine lv_iload_n hx hb dX6_write_47 rfl (lv_at hl 5 rfl) ?_
                          refine h_iaddN hx hb (16 * kvr) ia dX6_write_48 ?_
                          refine lv_iload hx hb dX6_write_49 (lv_at hl 0 rfl) ?_
                          refine h_iaddN hx hb ((16 * kvr) + ia) 2 dX6_write_51 ?_
                          refine lv_aload_n hx hb dX6_write_52 rfl (lv_at hl 2 rfl) ?_
                          refine lv_iload_n hx hb dX6_write_53 rfl (lv_at hl 4 rfl) ?_
                          refine lv_aload_n hx hb dX6_write_54 rfl (lv_at hl 2 rfl) ?_
                          refine h_get hx hb hE hw hts hinX6 hown (ci := 6) rfl 3 (by decide) lk_20 (fun _ h9 => h9) (pt_ne (pt_ne hM.ob (hM.ne (i := 0) (j := 3) (by decide) (by decide) (by decide))) (hM.ne (i := 0) (j := 3) (by decide) (by decide) (by decide))) rfl dX6_write_55 ?_
                          refine lv_iconst (v := 4) hx hb dX6_write_58 (by decide) ?_
                          refine lv_iload_n hx hb dX6_write_59 rfl (lv_at hl 3 rfl) ?_
                          refine h_imulN hx hb 4 kvs dX6_write_60 ?_
                          refine lv_iload hx hb dX6_write_61 (lv_at hl 0 rfl) ?_
                          refine h_iaddN hx hb (4 * kvs) 2 dX6_write_63 ?_
                          refine h_iald hx hb hE hw (pt_ne (pt_ne hM.rg (hM.ne (i := 4) (j := 3) (by decide) (by decide) (by decide))) (hM.ne (i := 4) (j := 3) (by decide) (by decide) (by decide))) (vp_in_nI (n := ((4 * kvs) + 2)) (N := 64) (by omega) (by decide)) (v := mrg ((4 * kvs) + 2)) (by rw [nI_clamp (by omega)]) dX6_write_64 ?_
                          refine lv_i2l hx hb dX6_write_65 rfl ?_
                          refine W.eq (g2 := F0 m 66 ls [.long ((rg kvs).2.2.1), .int (nI kvr), .ref (ma 0), .int (nI (((16 * kvr) + ia) + 2)), .ref (ma 3)]) (by rw [show (mrg ((4 * kvs) + 2)).toInt64 = (rg kvs).2.2.1 from congrArg (fun t => t.2.2.1) (hk4 kvs hkvs)]) ?_
                          refine h_callV (st1 := [.long (cutL (kd kvr) ((rg kvs).2.2.1)), .int (nI (((16 * kvr) + ia) + 2)), .ref (ma 3)]) [.int (nI kvr), .long ((rg kvs).2.2.1)] [.int (nI (((16 * kvr) + ia) + 2)), .ref (ma 3)] ⟨hx, hb, hml, hown, hts⟩ hE hw (HT.to (c_X6_cut l G A ma (va_up (va_up F (ma 3) (eJ G 96 (vp_updL msh (((16 * kvr) + ia) + 0) (cutL (kd kvr) ((rg kvs).1))))) (ma 3) (eJ G 96 (vp_updL (vp_updL msh (((16 * kvr) + ia) + 0) (cutL (kd kvr) ((rg kvs).1))) (((16 * kvr) + ia) + 1) (cutL (kd kvr) ((rg kvs).2.1))))) _ _ _ _ _ _ _ _ (MW.seth (MW.seth hM (vp_updL msh (((16 * kvr) + ia) + 0) (cutL (kd kvr) ((rg kvs).1)))) (vp_updL (vp_updL msh (((16 * kvr) + ia) + 0) (cutL (kd kvr) ((rg kvs).1))) (((16 * kvr) + ia) + 1) (cutL (kd kvr) ((rg kvs).2.1)))) kvr hkvr ((rg kvs).2.2.1)) (V2 := some (.long (cutL (kd kvr) ((rg kvs).2.2.1)))) (congrArg (fun y => some (Value.long (cutL y ((rg kvs).2.2.1)))) (show mk kvr = kd kvr from hk1 kvr hkvr)) rfl) (cwV 2 hts gX6_write_X6_cut rfl rfl rfl (by decide +kernel) ⟨Nat.le_of_ble_eq_true rfl, Nat.le_of_ble_eq_true rfl⟩) (pt_ne (pt_ne hM.ob (hM.ne (i := 0) (j := 3) (by decide) (by decide) (by decide))) (hM.ne (i := 0) (j := 3) (by decide) (by decide) (by decide))) rfl rfl rfl hl.1 rfl (Nat.le_of_ble_eq_true rfl) dX6_write_66 ⟨Nat.le_of_ble_eq_true rfl, Nat.le_of_ble_eq_true rfl⟩ rfl (fun H locs hw => ?_)
                          refine h_last hx hb hE hw (pt_up (pt_up hM.sh)) (vp_in_nI (n := (((16 * kvr) + ia) + 2)) (N := 96) (by omega) (by decide)) (g := vp_updL (vp_updL (vp_updL msh (((16 * kvr) + ia) + 0) (cutL (kd kvr) ((rg kvs).1))) (((16 * kvr) + ia) + 1) (cutL (kd kvr) ((rg kvs).2.1))) (((16 * kvr) + ia) + 2) (cutL (kd kvr) ((rg kvs).2.2.1))) (by rw [nI_clamp (by omega)]) dX6_write_69 (fun H locs hw => ?_)
                          refine lv_iinc (v := 3) (lv' := [(5, .int 3), (4, .int 0), (0, .ref (ma 0)), (1, .int (nI kvs)), (2, .int (nI kvr)), (3, .int (nI ia))]) hx hb dX6_write_70 hl (k := 0) rfl (by decide) (by decide) rfl (fun ls hl => ?_)
                          refine lv_goto (tgt := 28) hx hb dX6_write_73 (by decide) ?_
                          refine lv_iload hx hb dX6_write_28 (lv_at hl 0 rfl) ?_
                          refine lv_iconst (v := 4) hx hb dX6_write_30 (by decide) ?_
                          refine lv_icmp_ge (tgt := 76) hx hb dX6_write_31 (by decide) (fun c_31 => ?_) (fun c_31 => ?_)
                          · skip
                            first | exact absurd c_31 (by decide) | exact absurd (by decide) c_31
                          · skip
                            refine lv_iload hx hb dX6_write_34 (lv_at hl 1 rfl) ?_
                            refine lv_if_ne (tgt := 76) hx hb dX6_write_36 (by decide) (fun c_36 => ?_) (fun c_36 => ?_)
                            · skip
                              first | exact absurd c_36 (by decide) | exact absurd (by decide) c_36
                            · skip
                              refine lv_aload_n hx hb dX6_write_39 rfl (lv_at hl 2 rfl) ?_
                              refine h_get hx hb hE hw hts hinX6 hown (ci := 6) rfl 2 (by decide) lk_16 (fun _ h9 => h9) (pt_ne (pt_ne (pt_ne hM.ob (hM.ne (i := 0) (j := 3) (by decide) (by decide) (by decide))) (hM.ne (i := 0) (j := 3) (by decide) (by decide) (by decide))) (hM.ne (i := 0) (j := 3) (by decide) (by decide) (by decide))) rfl dX6_write_40 ?_
                              refine lv_bipush (v := 16) hx hb dX6_write_43 (by decide) ?_
                              refine lv_iload_n hx hb dX6_write_45 rfl (lv_at hl 4 rfl) ?_
                              refine h_imulN hx hb 16 kvr dX6_write_46 ?_
                              refine lv_iload_n hx hb dX6_write_47 rfl (lv_at hl 5 rfl) ?_
                              refine h_iaddN hx hb (16 * kvr) ia dX6_write_48 ?_
                              refine lv_iload hx hb dX6_write_49 (lv_at hl 0 rfl) ?_
                              refine h_iaddN hx hb ((16 * kvr) + ia) 3 dX6_write_51 ?_
                              refine lv_aload_n hx hb dX6_write_52 rfl (lv_at hl 2 rfl) ?_
                              refine lv_iload_n hx hb dX6_write_53 rfl (lv_at hl 4 rfl) ?_
                              refine lv_aload_n hx hb dX6_write_54 rfl (lv_at hl 2 rfl) ?_
                              refine h_get hx hb hE hw hts hinX6 hown (ci := 6) rfl 3 (by decide) lk_20 (fun _ h9 => h9) (pt_ne (pt_ne (pt_ne hM.ob (hM.ne (i := 0) (j := 3) (by decide) (by decide) (by decide))) (hM.ne (i := 0) (j := 3) (by decide) (by decide) (by decide))) (hM.ne (i := 0) (j := 3) (by decide) (by decide) (by decide))) rfl dX6_write_55 ?_
                              refine lv_iconst (v := 4) hx hb dX6_write_58 (by decide) ?_
                              refine lv_iload_n hx hb dX6_write_59 rfl (lv_at hl 3 rfl) ?_
                              refine h_imulN hx hb 4 kvs dX6_write_60 ?_
                              refine lv_iload hx hb dX6_write_61 (lv_at hl 0 rfl) ?_
                              refine h_iaddN hx hb (4 * kvs) 3 dX6_write_63 ?_
                              refine h_iald hx hb hE hw (pt_ne (pt_ne (pt_ne hM.rg (hM.ne (i := 4) (j := 3) (by decide) (by decide) (by decide))) (hM.ne (i := 4) (j := 3) (by decide) (by decide) (by decide))) (hM.ne (i := 4) (j := 3) (by decide) (by decide) (by decide))) (vp_in_nI (n := ((4 * kvs) + 3)) (N := 64) (by omega) (by decide)) (v := mrg ((4 * kvs) + 3)) (by rw [nI_clamp (by omega)]) dX6_write_64 ?_
                              refine lv_i2l hx hb dX6_write_65 rfl ?_
                              refine W.eq (g2 := F0 m 66 ls [.long ((rg kvs).2.2.2), .int (nI kvr), .ref (ma 0), .int (nI (((16 * kvr) + ia) + 3)), .ref (ma 3)]) (by rw [show (mrg ((4 * kvs) + 3)).toInt64 = (rg kvs).2.2.2 from congrArg (fun t => t.2.2.2) (hk4 kvs hkvs)]) ?_
                              refine h_callV (st1 := [.long (cutL (kd kvr) ((rg kvs).2.2.2)), .int (nI (((16 * kvr) + ia) + 3)), .ref (ma 3)]) [.int (nI kvr), .long ((rg kvs).2.2.2)] [.int (nI (((16 * kvr) + ia) + 3)), .ref (ma 3)] ⟨hx, hb, hml, hown, hts⟩ hE hw (HT.to (c_X6_cut l G A ma (va_up (va_up (va_up F (ma 3) (eJ G 96 (vp_updL msh (((16 * kvr) + ia) + 0) (cutL (kd kvr) ((rg kvs).1))))) (ma 3) (eJ G 96 (vp_updL (vp_updL msh (((16 * kvr) + ia) + 0) (cutL (kd kvr) ((rg kvs).1))) (((16 * kvr) + ia) + 1) (cutL (kd kvr) ((rg kvs).2.1))))) (ma 3) (eJ G 96 (vp_updL (vp_updL (vp_updL msh (((16 * kvr) + ia) + 0) (cutL (kd kvr) ((rg kvs).1))) (((16 * kvr) + ia) + 1) (cutL (kd kvr) ((rg kvs).2.1))) (((16 * kvr) + ia) + 2) (cutL (kd kvr) ((rg kvs).2.2.1))))) _ _ _ _ _ _ _ _ (MW.seth (MW.seth (MW.seth hM (vp_updL msh (((16 * kvr) + ia) + 0) (cutL (kd kvr) ((rg kvs).1)))) (vp_updL (vp_updL msh (((16 * kvr) + ia) + 0) (cutL (kd kvr) ((rg kvs).1))) (((16 * kvr) + ia) + 1) (cutL (kd kvr) ((rg kvs).2.1)))) (vp_updL (vp_updL (vp_updL msh (((16 * kvr) + ia) + 0) (cutL (kd kvr) ((rg kvs).1))) (((16 * kvr) + ia) + 1) (cutL (kd kvr) ((rg kvs).2.1))) (((16 * kvr) + ia) + 2) (cutL (kd kvr) ((rg kvs).2.2.1)))) kvr hkvr ((rg kvs).2.2.2)) (V2 := some (.long (cutL (kd kvr) ((rg kvs).2.2.2)))) (congrArg (fun y => some (Value.long (cutL y ((rg kvs).2.2.2)))) (show mk kvr = kd kvr from hk1 kvr hkvr)) rfl) (cwV 2 hts gX6_write_X6_cut rfl rfl rfl (by decide +kernel) ⟨Nat.le_of_ble_eq_true rfl, Nat.le_of_ble_eq_true rfl⟩) (pt_ne (pt_ne (pt_ne hM.ob (hM.ne (i := 0) (j := 3) (by decide) (by decide) (by decide))) (hM.ne (i := 0) (j := 3) (by decide) (by decide) (by decide))) (hM.ne (i := 0) (j := 3) (by decide) (by decide) (by decide))) rfl rfl rfl hl.1 rfl (Nat.le_of_ble_eq_true rfl) dX6_write_66 ⟨Nat.le_of_ble_eq_true rfl, Nat.le_of_ble_eq_true rfl⟩ rfl (fun H locs hw => ?_)
                              refine h_last hx hb hE hw (pt_up (pt_up (pt_up hM.sh))) (vp_in_nI (n := (((16 * kvr) + ia) + 3)) (N := 96) (by omega) (by decide)) (g := vp_updL (vp_updL (vp_updL (vp_updL msh (((16 * kvr) + ia) + 0) (cutL (kd kvr) ((rg kvs).1))) (((16 * kvr) + ia) + 1) (cutL (kd kvr) ((rg kvs).2.1))) (((16 * kvr) + ia) + 2) (cutL (kd kvr) ((rg kvs).2.2.1))) (((16 * kvr) + ia) + 3) (cutL (kd kvr) ((rg kvs).2.2.2))) (by rw [nI_clamp (by omega)]) dX6_write_69 (fun H locs hw => ?_)
                              refine lv_iinc (v := 4) (lv' := [(5, .int 4), (4, .int 0), (0, .ref (ma 0)), (1, .int (nI kvs)), (2, .int (nI kvr)), (3, .int (nI ia))]) hx hb dX6_write_70 hl (k := 0) rfl (by decide) (by decide) rfl (fun ls hl => ?_)
                              refine lv_goto (tgt := 28) hx hb dX6_write_73 (by decide) ?_
                              refine lv_iload hx hb dX6_write_28 (lv_at hl 0 rfl) ?_
                              refine lv_iconst (v := 4) hx hb dX6_write_30 (by decide) ?_
                              refine lv_icmp_ge (tgt := 76) hx hb dX6_write_31 (by decide) (fun c_31 => ?_) (fun c_31 => ?_)
                              · skip
                                refine lv_iload hx hb dX6_write_76 (lv_at hl 1 rfl) ?_
                                exact h_iretP hx hb hlk hr hw dX6_write_78 (by simp only [sp_write, xvs, xvr, hrc, cif_f hm]) (by simp only [sp_write, xvs, xvr, hrc, cif_f hm]; exact ⟨_, (MW.seth (MW.seth (MW.seth (MW.seth hM (vp_updL msh (((16 * kvr) + ia) + 0) (cutL (kd kvr) ((rg kvs).1)))) (vp_updL (vp_updL msh (((16 * kvr) + ia) + 0) (cutL (kd kvr) ((rg kvs).1))) (((16 * kvr) + ia) + 1) (cutL (kd kvr) ((rg kvs).2.1)))) (vp_updL (vp_updL (vp_updL msh (((16 * kvr) + ia) + 0) (cutL (kd kvr) ((rg kvs).1))) (((16 * kvr) + ia) + 1) (cutL (kd kvr) ((rg kvs).2.1))) (((16 * kvr) + ia) + 2) (cutL (kd kvr) ((rg kvs).2.2.1)))) (vp_updL (vp_updL (vp_updL (vp_updL msh (((16 * kvr) + ia) + 0) (cutL (kd kvr) ((rg kvs).1))) (((16 * kvr) + ia) + 1) (cutL (kd kvr) ((rg kvs).2.1))) (((16 * kvr) + ia) + 2) (cutL (kd kvr) ((rg kvs).2.2.1))) (((16 * kvr) + ia) + 3) (cutL (kd kvr) ((rg kvs).2.2.2)))), rel_pl hrel (ups (a := ia + 3) (by omega) (ups (a := ia + 2) (by omega) (ups (a := ia + 1) (by omega) (ups (a := ia) (by omega) (fun _ _ _ _ _ => rfl))))) (upg (a := ia + 3) (upg (a := ia + 2) (upg (a := ia + 1) (upg (a := ia) (fun i hi => hk3 kvr hkvr i hi)))))⟩)
                              · skip
                                first | exact absurd c_31 (by decide) | exact absurd (by decide) c_31
            · skip
              have hrc : rch (z kvr) vi 4 = none := rch_out hz1 hr1
              refine h_callV (st1 := [.int (-12)]) [.int (nI kvr), .int vi, .int 4] [] ⟨hx, hb, hml, hown, hts⟩ hE hw (HT.to (c_X6_against l G A ma F _ _ _ _ _ _ _ _ hM kvr hkvr vi 4) (V2 := some (.int (-12))) (congrArg (fun y => some (Value.int y)) (by rw [show mk kvr = kd kvr from hk1 kvr hkvr, show msz kvr = nI (z kvr) from hk2 kvr hkvr]; exact ag_out hkn hz1 (by decide) hr1)) rfl) (cwV 3 hts gX6_write_X6_against rfl rfl rfl (by decide +kernel) ⟨Nat.le_of_ble_eq_true rfl, Nat.le_of_ble_eq_true rfl⟩) hM.ob rfl rfl rfl hl.1 rfl (Nat.le_of_ble_eq_true rfl) dX6_write_20 ⟨Nat.le_of_ble_eq_true rfl, Nat.le_of_ble_eq_true rfl⟩ rfl (fun H locs hw => ?_)
              refine lv_istore (lv' := [(4, .int (-12)), (0, .ref (ma 0)), (1, .int (nI kvs)), (2, .int (nI kvr)), (3, .int vi)]) hx hb dX6_write_23 hl (by decide) rfl (fun ls hl => ?_)
              refine lv_iconst (v := 0) hx hb dX6_write_25 (by decide) ?_
              refine lv_istore (lv' := [(5, .int 0), (4, .int (-12)), (0, .ref (ma 0)), (1, .int (nI kvs)), (2, .int (nI kvr)), (3, .int vi)]) hx hb dX6_write_26 hl (by decide) rfl (fun ls hl => ?_)
              refine lv_iload hx hb dX6_write_28 (lv_at hl 0 rfl) ?_
              refine lv_iconst (v := 4) hx hb dX6_write_30 (by decide) ?_
              refine lv_icmp_ge (tgt := 76) hx hb dX6_write_31 (by decide) (fun c_31 => ?_) (fun c_31 => ?_)
              · skip
                first | exact absurd c_31 (by decide) | exact absurd (by decide) c_31
              · skip
                refine lv_iload hx hb dX6_write_34 (lv_at hl 1 rfl) ?_
                refine lv_if_ne (tgt := 76) hx hb dX6_write_36 (by decide) (fun c_36 => ?_) (fun c_36 => ?_)
                · skip
                  refine lv_iload hx hb dX6_write_76 (lv_at hl 1 rfl) ?_
                  exact h_iretP hx hb hlk hr hw dX6_write_78 (by simp only [sp_write, xvs, xvr, hrc, cif_f hm]) (by simp only [sp_write, xvs, xvr, hrc, cif_f hm]; exact ⟨_, hM, rel_v hrel⟩)
                · skip
                  first | exact absurd c_36 (by decide) | exact absurd (by decide) c_36
        · skip
          first | exact absurd c_11 (by decide) | exact absurd (by decide) c_11

set_option maxHeartbeats 4000000 in
set_option maxRecDepth 100000 in
theorem c_X6_read (l : Launch) (G : GG) (A : Nat → Prop) (ma : Nat → Nat) (F : FM) (rg : Nat → Q4) (kd : Nat → Int32) (z : Nat → Nat) (pl : Nat → Nat → Int64) (cnt : Nat) (hR : MR G ma (rg, kd, z, pl, cnt) F) (hz : ∀ k, k < 6 → z k ≤ 16) (hkd : ∀ k, k < 6 → kd k = -1 ∨ 0 ≤ kd k) (hc12 : cnt ≤ 12) (vs : Int32) (vr : Int32) (vi : Int32) : PT l yX6_read wsX6_read { frames := 2, cells := 0, slots := 0, locals := 46 } G A (ML ma) [.ref (ma 0), .int vs, .int vr, .int vi] F (some (.int (sp_read (rg, kd, z, pl, cnt) vs vr vi).1)) (MR G ma (sp_read (rg, kd, z, pl, cnt) vs vr vi).2) := by
  refine PT.ofW (cc := cX6_read) (maxL := 7) (ret := (some .int)) (plainFor_of_name (by decide)) rfl (Nat.le_of_ble_eq_true rfl) ?_
  intro p e s m below meth c ls hx hb hr hml hown hts hlk hE hw hl
  have hl : lv_has ls 7 [(0, .ref (ma 0)), (1, .int vs), (2, .int vr), (3, .int vi)] := hl
  have hown : s.vm.findClass RX6 = some m.cls := hown
  have lk_16 := hts (.fieldLink RX6 16 "FourPartsModel" "sheets" "[J") (by decide +kernel)
  have hinX6 : ∀ w ∈ u_ws RX6 TX6 18, w ∈ wsX6_read := by decide +kernel
  have lk_20 := hts (.fieldLink RX6 20 "FourPartsModel" "registers" "[I") (by decide +kernel)
  obtain ⟨⟨mk, msz, msh, mrg, mfc, mmd, mv, mcn⟩, hM, hrel⟩ := hR
  obtain ⟨hk1, hk2, hk3, hk4, hk5, hk6⟩ := id hrel
  refine lv_iload_n hx hb dX6_read_0 rfl (lv_at hl 1 rfl) ?_
  rcases ix_cases 16 (by decide) vs with hvs | ⟨kvs, hkvs, rfl⟩
  · skip
    have xvs := ix_none hvs
    refine h_callS (st1 := [.int 0]) [.int vs] [] ⟨hx, hb, hml, hown, hts⟩ hE hw (HT.to (c_X6_isRegister l G A (ML ma) F vs) (V2 := some (.int 0)) (congrArg (fun y => some (Value.int y)) (bI_f (show ¬ inL vs.toInt64 0 15 from inL_out (n := 15) (by decide) hvs))) rfl) (va_cwS 1 hts gX6_read_X6_isRegister rfl rfl rfl (by decide +kernel) ⟨Nat.le_of_ble_eq_true rfl, Nat.le_of_ble_eq_true rfl⟩) rfl hl.1 rfl (Nat.le_of_ble_eq_true rfl) dX6_read_1 ⟨Nat.le_of_ble_eq_true rfl, Nat.le_of_ble_eq_true rfl⟩ rfl (fun H locs hw => ?_)
    refine lv_if_eq (tgt := 14) hx hb dX6_read_4 (by decide) (fun c_4 => ?_) (fun c_4 => ?_)
    · skip
      refine lv_iconst (v := (-1)) hx hb dX6_read_14 (by decide) ?_
      exact h_iretP hx hb hlk hr hw dX6_read_15 (by simp only [sp_read, xvs]) (by simp only [sp_read, xvs]; exact ⟨_, hM, rel_v hrel⟩)
    · skip
      first | exact absurd c_4 (by decide) | exact absurd (by decide) c_4
  · skip
    have xvs := ix_in (n := 16) hkvs (by decide)
    refine h_callS (st1 := [.int 1]) [.int (nI kvs)] [] ⟨hx, hb, hml, hown, hts⟩ hE hw (HT.to (c_X6_isRegister l G A (ML ma) F (nI kvs)) (V2 := some (.int 1)) (congrArg (fun y => some (Value.int y)) (bI_t (show inL (nI kvs).toInt64 0 15 from inL_in (n := 15) (by decide) hkvs))) rfl) (va_cwS 1 hts gX6_read_X6_isRegister rfl rfl rfl (by decide +kernel) ⟨Nat.le_of_ble_eq_true rfl, Nat.le_of_ble_eq_true rfl⟩) rfl hl.1 rfl (Nat.le_of_ble_eq_true rfl) dX6_read_1 ⟨Nat.le_of_ble_eq_true rfl, Nat.le_of_ble_eq_true rfl⟩ rfl (fun H locs hw => ?_)
    refine lv_if_eq (tgt := 14) hx hb dX6_read_4 (by decide) (fun c_4 => ?_) (fun c_4 => ?_)
    · skip
      first | exact absurd c_4 (by decide) | exact absurd (by decide) c_4
    · skip
      refine lv_iload_n hx hb dX6_read_7 rfl (lv_at hl 2 rfl) ?_
      rcases ix_cases 6 (by decide) vr with hvr | ⟨kvr, hkvr, rfl⟩
      · skip
        have xvr := ix_none hvr
        refine h_callS (st1 := [.int 0]) [.int vr] [] ⟨hx, hb, hml, hown, hts⟩ hE hw (HT.to (c_X6_isSheet l G A (ML ma) F vr) (V2 := some (.int 0)) (congrArg (fun y => some (Value.int y)) (bI_f (show ¬ inL vr.toInt64 0 5 from inL_out (n := 5) (by decide) hvr))) rfl) (va_cwS 1 hts gX6_read_X6_isSheet rfl rfl rfl (by decide +kernel) ⟨Nat.le_of_ble_eq_true rfl, Nat.le_of_ble_eq_true rfl⟩) rfl hl.1 rfl (Nat.le_of_ble_eq_true rfl) dX6_read_8 ⟨Nat.le_of_ble_eq_true rfl, Nat.le_of_ble_eq_true rfl⟩ rfl (fun H locs hw => ?_)
        refine lv_if_ne (tgt := 16) hx hb dX6_read_11 (by decide) (fun c_11 => ?_) (fun c_11 => ?_)
        · skip
          first | exact absurd c_11 (by decide) | exact absurd (by decide) c_11
        · skip
          refine lv_iconst (v := (-1)) hx hb dX6_read_14 (by decide) ?_
          exact h_iretP hx hb hlk hr hw dX6_read_15 (by simp only [sp_read, xvs, xvr]) (by simp only [sp_read, xvs, xvr]; exact ⟨_, hM, rel_v hrel⟩)
      · skip
        have xvr := ix_in (n := 6) hkvr (by decide)
        refine h_callS (st1 := [.int 1]) [.int (nI kvr)] [] ⟨hx, hb, hml, hown, hts⟩ hE hw (HT.to (c_X6_isSheet l G A (ML ma) F (nI kvr)) (V2 := some (.int 1)) (congrArg (fun y => some (Value.int y)) (bI_t (show inL (nI kvr).toInt64 0 5 from inL_in (n := 5) (by decide) hkvr))) rfl) (va_cwS 1 hts gX6_read_X6_isSheet rfl rfl rfl (by decide +kernel) ⟨Nat.le_of_ble_eq_true rfl, Nat.le_of_ble_eq_true rfl⟩) rfl hl.1 rfl (Nat.le_of_ble_eq_true rfl) dX6_read_8 ⟨Nat.le_of_ble_eq_true rfl, Nat.le_of_ble_eq_true rfl⟩ rfl (fun H locs hw => ?_)
        refine lv_if_ne (tgt := 16) hx hb dX6_read_11 (by decide) (fun c_11 => ?_) (fun c_11 => ?_)
        · skip
          refine lv_aload_n hx hb dX6_read_16 rfl (lv_at hl 0 rfl) ?_
          refine lv_iload_n hx hb dX6_read_17 rfl (lv_at hl 2 rfl) ?_
          refine lv_iload_n hx hb dX6_read_18 rfl (lv_at hl 3 rfl) ?_
          refine lv_iconst (v := 4) hx hb dX6_read_19 (by decide) ?_
          by_cases hm : kd kvr = -1
          · skip
            refine h_callV (st1 := [.int (-11)]) [.int (nI kvr), .int vi, .int 4] [] ⟨hx, hb, hml, hown, hts⟩ hE hw (HT.to (c_X6_against l G A ma F _ _ _ _ _ _ _ _ hM kvr hkvr vi 4) (V2 := some (.int (-11))) (congrArg (fun y => some (Value.int y)) (by rw [show mk kvr = kd kvr from hk1 kvr hkvr, show msz kvr = nI (z kvr) from hk2 kvr hkvr]; exact ag_null hm)) rfl) (cwV 3 hts gX6_read_X6_against rfl rfl rfl (by decide +kernel) ⟨Nat.le_of_ble_eq_true rfl, Nat.le_of_ble_eq_true rfl⟩) hM.ob rfl rfl rfl hl.1 rfl (Nat.le_of_ble_eq_true rfl) dX6_read_20 ⟨Nat.le_of_ble_eq_true rfl, Nat.le_of_ble_eq_true rfl⟩ rfl (fun H locs hw => ?_)
            refine lv_istore (lv' := [(4, .int (-11)), (0, .ref (ma 0)), (1, .int (nI kvs)), (2, .int (nI kvr)), (3, .int vi)]) hx hb dX6_read_23 hl (by decide) rfl (fun ls hl => ?_)
            refine lv_iload hx hb dX6_read_25 (lv_at hl 0 rfl) ?_
            refine lv_if_eq (tgt := 33) hx hb dX6_read_27 (by decide) (fun c_27 => ?_) (fun c_27 => ?_)
            · skip
              first | exact absurd c_27 (by decide) | exact absurd (by decide) c_27
            · skip
              refine lv_iload hx hb dX6_read_30 (lv_at hl 0 rfl) ?_
              exact h_iretP hx hb hlk hr hw dX6_read_32 (by simp only [sp_read, xvs, xvr, cif_t hm]) (by simp only [sp_read, xvs, xvr, cif_t hm]; exact ⟨_, hM, rel_v hrel⟩)
          · have hkn : 0 ≤ kd kvr := (hkd kvr hkvr).resolve_left hm
            have hz1 := hz kvr hkvr
            by_cases hr1 : reach (nI (z kvr)) vi 4
            · skip
              obtain ⟨ia, rfl, hab⟩ := reach_1 (b := 4) hz1 (by decide) hr1
              have hrc : rch (z kvr) (nI ia) 4 = some (ia, 4) := rch_in hab hz1
              refine h_callV (st1 := [.int 0]) [.int (nI kvr), .int (nI ia), .int 4] [] ⟨hx, hb, hml, hown, hts⟩ hE hw (HT.to (c_X6_against l G A ma F _ _ _ _ _ _ _ _ hM kvr hkvr (nI ia) 4) (V2 := some (.int (0))) (congrArg (fun y => some (Value.int y)) (by rw [show mk kvr = kd kvr from hk1 kvr hkvr, show msz kvr = nI (z kvr) from hk2 kvr hkvr]; exact ag_in (b := 4) hkn hz1 hab)) rfl) (cwV 3 hts gX6_read_X6_against rfl rfl rfl (by decide +kernel) ⟨Nat.le_of_ble_eq_true rfl, Nat.le_of_ble_eq_true rfl⟩) hM.ob rfl rfl rfl hl.1 rfl (Nat.le_of_ble_eq_true rfl) dX6_read_20 ⟨Nat.le_of_ble_eq_true rfl, Nat.le_of_ble_eq_true rfl⟩ rfl (fun H locs hw => ?_)
              refine lv_istore (lv' := [(4, .int 0), (0, .ref (ma 0)), (1, .int (nI kvs)), (2, .int (nI kvr)), (3, .int (nI ia))]) hx hb dX6_read_23 hl (by decide) rfl (fun ls hl => ?_)
              refine lv_iload hx hb dX6_read_25 (lv_at hl 0 rfl) ?_
              refine lv_if_eq (tgt := 33) hx hb dX6_read_27 (by decide) (fun c_27 => ?_) (fun c_27 => ?_)
              · skip
                refine lv_bipush (v := 16) hx hb dX6_read_33 (by decide) ?_
                refine lv_iload_n hx hb dX6_read_35 rfl (lv_at hl 3 rfl) ?_
                refine h_imulN hx hb 16 kvr dX6_read_36 ?_
                refine lv_iload_n hx hb dX6_read_37 rfl (lv_at hl 4 rfl) ?_
                refine h_iaddN hx hb (16 * kvr) ia dX6_read_38 ?_
                refine lv_istore (lv' := [(5, .int (nI ((16 * kvr) + ia))), (4, .int 0), (0, .ref (ma 0)), (1, .int (nI kvs)), (2, .int (nI kvr)), (3, .int (nI ia))]) hx hb dX6_read_39 hl (by decide) rfl (fun ls hl => ?_)
                refine lv_aload_n hx hb dX6_read_41 rfl (lv_at hl 2 rfl) ?_
                refine h_get hx hb hE hw hts hinX6 hown (ci := 6) rfl 2 (by decide) lk_16 (fun _ h9 => h9) hM.ob rfl dX6_read_42 ?_
                refine lv_iload hx hb dX6_read_45 (lv_at hl 0 rfl) ?_
                refine h_lald hx hb hE hw hM.sh (vp_in_nI (n := 16 * kvr + ia + 0) (N := 96) (by omega) (by decide)) (v := pl kvr ia) (by rw [nI_clamp (by omega)]; exact hk3 kvr hkvr (ia + 0) (by omega)) dX6_read_47 ?_
                refine lv_aload_n hx hb dX6_read_48 rfl (lv_at hl 2 rfl) ?_
                refine h_get hx hb hE hw hts hinX6 hown (ci := 6) rfl 2 (by decide) lk_16 (fun _ h9 => h9) hM.ob rfl dX6_read_49 ?_
                refine lv_iload hx hb dX6_read_52 (lv_at hl 0 rfl) ?_
                refine lv_iconst (v := 1) hx hb dX6_read_54 (by decide) ?_
                refine h_iaddN hx hb ((16 * kvr) + ia) 1 dX6_read_55 ?_
                refine h_lald hx hb hE hw hM.sh (vp_in_nI (n := 16 * kvr + ia + 1) (N := 96) (by omega) (by decide)) (v := pl kvr (ia + 1)) (by rw [nI_clamp (by omega)]; exact hk3 kvr hkvr (ia + 1) (by omega)) dX6_read_56 ?_
                refine lv_aload_n hx hb dX6_read_57 rfl (lv_at hl 2 rfl) ?_
                refine h_get hx hb hE hw hts hinX6 hown (ci := 6) rfl 2 (by decide) lk_16 (fun _ h9 => h9) hM.ob rfl dX6_read_58 ?_
                refine lv_iload hx hb dX6_read_61 (lv_at hl 0 rfl) ?_
                refine lv_iconst (v := 2) hx hb dX6_read_63 (by decide) ?_
                refine h_iaddN hx hb ((16 * kvr) + ia) 2 dX6_read_64 ?_
                refine h_lald hx hb hE hw hM.sh (vp_in_nI (n := 16 * kvr + ia + 2) (N := 96) (by omega) (by decide)) (v := pl kvr (ia + 2)) (by rw [nI_clamp (by omega)]; exact hk3 kvr hkvr (ia + 2) (by omega)) dX6_read_65 ?_
                refine lv_aload_n hx hb dX6_read_66 rfl (lv_at hl 2 rfl) ?_
                refine h_get hx hb hE hw hts hinX6 hown (ci := 6) rfl 2 (by decide) lk_16 (fun _ h9 => h9) hM.ob rfl dX6_read_67 ?_
                refine lv_iload hx hb dX6_read_70 (lv_at hl 0 rfl) ?_
                refine lv_iconst (v := 3) hx hb dX6_read_72 (by decide) ?_
                refine h_iaddN hx hb ((16 * kvr) + ia) 3 dX6_read_73 ?_
                refine h_lald hx hb hE hw hM.sh (vp_in_nI (n := 16 * kvr + ia + 3) (N := 96) (by omega) (by decide)) (v := pl kvr (ia + 3)) (by rw [nI_clamp (by omega)]; exact hk3 kvr hkvr (ia + 3) (by omega)) dX6_read_74 ?_
                refine h_callS (st1 := [.int (bI (oneM (pl kvr ia) (pl kvr (ia + 1)) (pl kvr (ia + 2)) (pl kvr (ia + 3))))]) [.long (pl kvr ia), .long (pl kvr (ia + 1)), .long (pl kvr (ia + 2)), .long (pl kvr (ia + 3))] [] ⟨hx, hb, hml, hown, hts⟩ hE hw (c_X6_isOne l G A (ML ma) F (pl kvr ia) (pl kvr (ia + 1)) (pl kvr (ia + 2)) (pl kvr (ia + 3))) (va_cwS 4 hts gX6_read_X6_isOne rfl rfl rfl (by decide +kernel) ⟨Nat.le_of_ble_eq_true rfl, Nat.le_of_ble_eq_true rfl⟩) rfl hl.1 rfl (Nat.le_of_ble_eq_true rfl) dX6_read_75 ⟨Nat.le_of_ble_eq_true rfl, Nat.le_of_ble_eq_true rfl⟩ rfl (fun H locs hw => ?_)
                refine lv_if_ne (tgt := 84) hx hb dX6_read_78 (by decide) (fun c_78 => ?_) (fun c_78 => ?_)
                · skip
                  have c_78 := bI_ne.mp c_78
                  have c_78 : qone (rd4 (pl kvr) ia) := one_one.mp c_78
                  refine lv_iconst (v := 0) hx hb dX6_read_84 (by decide) ?_
                  refine lv_istore (lv' := [(6, .int 0), (5, .int (nI ((16 * kvr) + ia))), (4, .int 0), (0, .ref (ma 0)), (1, .int (nI kvs)), (2, .int (nI kvr)), (3, .int (nI ia))]) hx hb dX6_read_85 hl (by decide) rfl (fun ls hl => ?_)
                  refine lv_iload hx hb dX6_read_87 (lv_at hl 0 rfl) ?_
                  refine lv_iconst (v := 4) hx hb dX6_read_89 (by decide) ?_
                  refine lv_icmp_ge (tgt := 118) hx hb dX6_read_90 (by decide) (fun c_90 => ?_) (fun c_90 => ?_)
                  · skip
                    first | exact absurd c_90 (by decide) | exact absurd (by decide) c_90
                  · skip
                    refine lv_aload_n hx hb dX6_read_93 rfl (lv_at hl 3 rfl) ?_
                    refine h_get hx hb hE hw hts hinX6 hown (ci := 6) rfl 2 (by decide) lk_16 (fun _ h9 => h9) hM.ob rfl dX6_read_94 ?_
                    refine lv_iload hx hb dX6_read_97 (lv_at hl 1 rfl) ?_
                    refine lv_iload hx hb dX6_read_99 (lv_at hl 0 rfl) ?_
                    refine h_iaddN hx hb ((16 * kvr) + ia) 0 dX6_read_101 ?_
                    refine h_lald hx hb hE hw hM.sh (vp_in_nI (n := 16 * kvr + ia + 0) (N := 96) (by omega) (by decide)) (v := pl kvr ia) (by rw [nI_clamp (by omega)]; exact hk3 kvr hkvr (ia + 0) (by omega)) dX6_read_102 ?_
                    refine h_callS (st1 := [.int (bI (lowP (pl kvr ia)))]) [.long (pl kvr ia)] [] ⟨hx, hb, hml, hown, hts⟩ hE hw (c_X6_isPart l G A (ML ma) F (pl kvr ia)) (va_cwS 1 hts gX6_read_X6_isPart rfl rfl rfl (by decide +kernel) ⟨Nat.le_of_ble_eq_true rfl, Nat.le_of_ble_eq_true rfl⟩) rfl hl.1 rfl (Nat.le_of_ble_eq_true rfl) dX6_read_103 ⟨Nat.le_of_ble_eq_true rfl, Nat.le_of_ble_eq_true rfl⟩ rfl (fun H locs hw => ?_)
                    refine lv_if_ne (tgt := 112) hx hb dX6_read_106 (by decide) (fun c_106 => ?_) (fun c_106 => ?_)
                    · skip
                      have c_106 := bI_ne.mp c_106
                      have p_0 := c_106
                      refine lv_iinc (v := 1) (lv' := [(6, .int 1), (5, .int (nI ((16 * kvr) + ia))), (4, .int 0), (0, .ref (ma 0)), (1, .int (nI kvs)), (2, .int (nI kvr)), (3, .int (nI ia))]) hx hb dX6_read_112 hl (k := 0) rfl (by decide) (by decide) rfl (fun ls hl => ?_)
                      refine lv_goto (tgt := 87) hx hb dX6_read_115 (by decide) ?_
                      refine lv_iload hx hb dX6_read_87 (lv_at hl 0 rfl) ?_
                      refine lv_iconst (v := 4) hx hb dX6_read_89 (by decide) ?_
                      refine lv_icmp_ge (tgt := 118) hx hb dX6_read_90 (by decide) (fun c_90 => ?_) (fun c_90 => ?_)
                      · skip
                        first | exact absurd c_90 (by decide) | exact absurd (by decide) c_90
                      · skip
                        refine lv_aload_n hx hb dX6_read_93 rfl (lv_at hl 3 rfl) ?_
                        refine h_get hx hb hE hw hts hinX6 hown (ci := 6) rfl 2 (by decide) lk_16 (fun _ h9 => h9) hM.ob rfl dX6_read_94 ?_
                        refine lv_iload hx hb dX6_read_97 (lv_at hl 1 rfl) ?_
                        refine lv_iload hx hb dX6_read_99 (lv_at hl 0 rfl) ?_
                        refine h_iaddN hx hb ((16 * kvr) + ia) 1 dX6_read_101 ?_
                        refine h_lald hx hb hE hw hM.sh (vp_in_nI (n := 16 * kvr + ia + 1) (N := 96) (by omega) (by decide)) (v := pl kvr (ia + 1)) (by rw [nI_clamp (by omega)]; exact hk3 kvr hkvr (ia + 1) (by omega)) dX6_read_102 ?_
                        refine h_callS (st1 := [.int (bI (lowP (pl kvr (ia + 1))))]) [.long (pl kvr (ia + 1))] [] ⟨hx, hb, hml, hown, hts⟩ hE hw (c_X6_isPart l G A (ML ma) F (pl kvr (ia + 1))) (va_cwS 1 hts gX6_read_X6_isPart rfl rfl rfl (by decide +kernel) ⟨Nat.le_of_ble_eq_true rfl, Nat.le_of_ble_eq_true rfl⟩) rfl hl.1 rfl (Nat.le_of_ble_eq_true rfl) dX6_read_103 ⟨Nat.le_of_ble_eq_true rfl, Nat.le_of_ble_eq_true rfl⟩ rfl (fun H locs hw => ?_)
                        refine lv_if_ne (tgt := 112) hx hb dX6_read_106 (by decide) (fun c_106 => ?_) (fun c_106 => ?_)
                        · skip
                          have c_106 := bI_ne.mp c_106
                          have p_1 := c_106
                          refine lv_iinc (v := 2) (lv' := [(6, .int 2), (5, .int (nI ((16 * kvr) + ia))), (4, .int 0), (0, .ref (ma 0)), (1, .int (nI kvs)), (2, .int (nI kvr)), (3, .int (nI ia))]) hx hb dX6_read_112 hl (k := 0) rfl (by decide) (by decide) rfl (fun ls hl => ?_)
                          refine lv_goto (tgt := 87) hx hb dX6_read_115 (by decide) ?_
                          refine lv_iload hx hb dX6_read_87 (lv_at hl 0 rfl) ?_
                          refine lv_iconst (v := 4) hx hb dX6_read_89 (by decide) ?_
                          refine lv_icmp_ge (tgt := 118) hx hb dX6_read_90 (by decide) (fun c_90 => ?_) (fun c_90 => ?_)
                          · skip
                            first | exact absurd c_90 (by decide) | exact absurd (by decide) c_90
                          · skip
                            refine lv_aload_n hx hb dX6_read_93 rfl (lv_at hl 3 rfl) ?_
                            refine h_get hx hb hE hw hts hinX6 hown (ci := 6) rfl 2 (by decide) lk_16 (fun _ h9 => h9) hM.ob rfl dX6_read_94 ?_
                            refine lv_iload hx hb dX6_read_97 (lv_at hl 1 rfl) ?_
                            refine lv_iload hx hb dX6_read_99 (lv_at hl 0 rfl) ?_
                            refine h_iaddN hx hb ((16 * kvr) + ia) 2 dX6_read_101 ?_
                            refine h_lald hx hb hE hw hM.sh (vp_in_nI (n := 16 * kvr + ia + 2) (N := 96) (by omega) (by decide)) (v := pl kvr (ia + 2)) (by rw [nI_clamp (by omega)]; exact hk3 kvr hkvr (ia + 2) (by omega)) dX6_read_102 ?_
                            refine h_callS (st1 := [.int (bI (lowP (pl kvr (ia + 2))))]) [.long (pl kvr (ia + 2))] [] ⟨hx, hb, hml, hown, hts⟩ hE hw (c_X6_isPart l G A (ML ma) F (pl kvr (ia + 2))) (va_cwS 1 hts gX6_read_X6_isPart rfl rfl rfl (by decide +kernel) ⟨Nat.le_of_ble_eq_true rfl, Nat.le_of_ble_eq_true rfl⟩) rfl hl.1 rfl (Nat.le_of_ble_eq_true rfl) dX6_read_103 ⟨Nat.le_of_ble_eq_true rfl, Nat.le_of_ble_eq_true rfl⟩ rfl (fun H locs hw => ?_)
                            refine lv_if_ne (tgt := 112) hx hb dX6_read_106 (by decide) (fun c_106 => ?_) (fun c_106 => ?_)
                            · skip
                              have c_106 := bI_ne.mp c_106
                              have p_2 := c_106
                              refine lv_iinc (v := 3) (lv' := [(6, .int 3), (5, .int (nI ((16 * kvr) + ia))), (4, .int 0), (0, .ref (ma 0)), (1, .int (nI kvs)), (2, .int (nI kvr)), (3, .int (nI ia))]) hx hb dX6_read_112 hl (k := 0) rfl (by decide) (by decide) rfl (fun ls hl => ?_)
                              refine lv_goto (tgt := 87) hx hb dX6_read_115 (by decide) ?_
                              refine lv_iload hx hb dX6_read_87 (lv_at hl 0 rfl) ?_
                              refine lv_iconst (v := 4) hx hb dX6_read_89 (by decide) ?_
                              refine lv_icmp_ge (tgt := 118) hx hb dX6_read_90 (by decide) (fun c_90 => ?_) (fun c_90 => ?_)
                              · skip
                                first | exact absurd c_90 (by decide) | exact absurd (by decide) c_90
                              · skip
                                refine lv_aload_n hx hb dX6_read_93 rfl (lv_at hl 3 rfl) ?_
                                refine h_get hx hb hE hw hts hinX6 hown (ci := 6) rfl 2 (by decide) lk_16 (fun _ h9 => h9) hM.ob rfl dX6_read_94 ?_
                                refine lv_iload hx hb dX6_read_97 (lv_at hl 1 rfl) ?_
                                refine lv_iload hx hb dX6_read_99 (lv_at hl 0 rfl) ?_
                                refine h_iaddN hx hb ((16 * kvr) + ia) 3 dX6_read_101 ?_
                                refine h_lald hx hb hE hw hM.sh (vp_in_nI (n := 16 * kvr + ia + 3) (N := 96) (by omega) (by decide)) (v := pl kvr (ia + 3)) (by rw [nI_clamp (by omega)]; exact hk3 kvr hkvr (ia + 3) (by omega)) dX6_read_102 ?_
                                refine h_callS (st1 := [.int (bI (lowP (pl kvr (ia + 3))))]) [.long (pl kvr (ia + 3))] [] ⟨hx, hb, hml, hown, hts⟩ hE hw (c_X6_isPart l G A (ML ma) F (pl kvr (ia + 3))) (va_cwS 1 hts gX6_read_X6_isPart rfl rfl rfl (by decide +kernel) ⟨Nat.le_of_ble_eq_true rfl, Nat.le_of_ble_eq_true rfl⟩) rfl hl.1 rfl (Nat.le_of_ble_eq_true rfl) dX6_read_103 ⟨Nat.le_of_ble_eq_true rfl, Nat.le_of_ble_eq_true rfl⟩ rfl (fun H locs hw => ?_)
                                refine lv_if_ne (tgt := 112) hx hb dX6_read_106 (by decide) (fun c_106 => ?_) (fun c_106 => ?_)
                                · skip
                                  have c_106 := bI_ne.mp c_106
                                  have p_3 := c_106
                                  refine lv_iinc (v := 4) (lv' := [(6, .int 4), (5, .int (nI ((16 * kvr) + ia))), (4, .int 0), (0, .ref (ma 0)), (1, .int (nI kvs)), (2, .int (nI kvr)), (3, .int (nI ia))]) hx hb dX6_read_112 hl (k := 0) rfl (by decide) (by decide) rfl (fun ls hl => ?_)
                                  refine lv_goto (tgt := 87) hx hb dX6_read_115 (by decide) ?_
                                  refine lv_iload hx hb dX6_read_87 (lv_at hl 0 rfl) ?_
                                  refine lv_iconst (v := 4) hx hb dX6_read_89 (by decide) ?_
                                  refine lv_icmp_ge (tgt := 118) hx hb dX6_read_90 (by decide) (fun c_90 => ?_) (fun c_90 => ?_)
                                  · skip
                                    have hqh : ¬ qhigh (rd4 (pl kvr) ia) := low_hi.mp ⟨p_0, p_1, p_2, p_3⟩
                                    refine lv_iconst (v := 0) hx hb dX6_read_118 (by decide) ?_
                                    refine lv_istore (lv' := [(6, .int 0), (5, .int (nI ((16 * kvr) + ia))), (4, .int 0), (0, .ref (ma 0)), (1, .int (nI kvs)), (2, .int (nI kvr)), (3, .int (nI ia))]) hx hb dX6_read_119 hl (by decide) rfl (fun ls hl => ?_)
                                    refine lv_iload hx hb dX6_read_121 (lv_at hl 0 rfl) ?_
                                    refine lv_iconst (v := 4) hx hb dX6_read_123 (by decide) ?_
                                    refine lv_icmp_ge (tgt := 155) hx hb dX6_read_124 (by decide) (fun c_124 => ?_) (fun c_124 => ?_)
                                    · skip
                                      first | exact absurd c_124 (by decide) | exact absurd (by decide) c_124
                                    · skip
                                      refine lv_aload_n hx hb dX6_read_127 rfl (lv_at hl 3 rfl) ?_
                                      refine h_get hx hb hE hw hts hinX6 hown (ci := 6) rfl 3 (by decide) lk_20 (fun _ h9 => h9) hM.ob rfl dX6_read_128 ?_
                                      refine lv_iconst (v := 4) hx hb dX6_read_131 (by decide) ?_
                                      refine lv_iload_n hx hb dX6_read_132 rfl (lv_at hl 4 rfl) ?_
                                      refine h_imulN hx hb 4 kvs dX6_read_133 ?_
                                      refine lv_iload hx hb dX6_read_134 (lv_at hl 0 rfl) ?_
                                      refine h_iaddN hx hb (4 * kvs) 0 dX6_read_136 ?_
                                      refine lv_aload_n hx hb dX6_read_137 rfl (lv_at hl 3 rfl) ?_
                                      refine h_get hx hb hE hw hts hinX6 hown (ci := 6) rfl 2 (by decide) lk_16 (fun _ h9 => h9) hM.ob rfl dX6_read_138 ?_
                                      refine lv_iload hx hb dX6_read_141 (lv_at hl 1 rfl) ?_
                                      refine lv_iload hx hb dX6_read_143 (lv_at hl 0 rfl) ?_
                                      refine h_iaddN hx hb ((16 * kvr) + ia) 0 dX6_read_145 ?_
                                      refine h_lald hx hb hE hw hM.sh (vp_in_nI (n := 16 * kvr + ia + 0) (N := 96) (by omega) (by decide)) (v := pl kvr ia) (by rw [nI_clamp (by omega)]; exact hk3 kvr hkvr (ia + 0) (by omega)) dX6_read_146 ?_
                                      refine lv_l2i hx hb dX6_read_147 rfl ?_
                                      refine h_iast hx hb hE hw hM.rg (vp_in_nI (n := ((4 * kvs) + 0)) (N := 64) (by omega) (by decide)) (g := upd mrg ((4 * kvs) + 0) ((pl kvr ia).toInt32)) (by rw [nI_clamp (by omega)]) dX6_read_148 (fun H locs hw => ?_)
                                      refine lv_iinc (v := 1) (lv' := [(6, .int 1), (5, .int (nI ((16 * kvr) + ia))), (4, .int 0), (0, .ref (ma 0)), (1, .int (nI kvs)), (2, .int (nI kvr)), (3, .int (nI ia))]) hx hb dX6_read_149 hl (k := 0) rfl (by decide) (by decide) rfl (fun ls hl => ?_)
                                      refine lv_goto (tgt := 121) hx hb dX6_read_152 (by decide) ?_
                                      refine lv_iload hx hb dX6_read_121 (lv_at hl 0 rfl) ?_
                                      refine lv_iconst (v := 4) hx hb dX6_read_123 (by decide) ?_
                                      refine lv_icmp_ge (tgt := 155) hx hb dX6_read_124 (by decide) (fun c_124 => ?_) (fun c_124 => ?_)
                                      · skip
                                        first | exact absurd c_124 (by decide) | exact absurd (by decide) c_124
                                      · skip
                                        refine lv_aload_n hx hb dX6_read_127 rfl (lv_at hl 3 rfl) ?_
                                        refine h_get hx hb hE hw hts hinX6 hown (ci := 6) rfl 3 (by decide) lk_20 (fun _ h9 => h9) (pt_ne hM.ob (hM.ne (i := 0) (j := 4) (by decide) (by decide) (by decide))) rfl dX6_read_128 ?_
                                        refine lv_iconst (v := 4) hx hb dX6_read_131 (by decide) ?_
                                        refine lv_iload_n hx hb dX6_read_132 rfl (lv_at hl 4 rfl) ?_
                                        refine h_imulN hx hb 4 kvs dX6_read_133 ?_
                                        refine lv_iload hx hb dX6_read_134 (lv_at hl 0 rfl) ?_
                                        refine h_iaddN hx hb (4 * kvs) 1 dX6_read_136 ?_
                                        refine lv_aload_n hx hb dX6_read_137 rfl (lv_at hl 3 rfl) ?_
                                        refine h_get hx hb hE hw hts hinX6 hown (ci := 6) rfl 2 (by decide) lk_16 (fun _ h9 => h9) (pt_ne hM.ob (hM.ne (i := 0) (j := 4) (by decide) (by decide) (by decide))) rfl dX6_read_138 ?_
                                        refine lv_iload hx hb dX6_read_141 (lv_at hl 1 rfl) ?_
                                        refine lv_iload hx hb dX6_read_143 (lv_at hl 0 rfl) ?_
                                        refine h_iaddN hx hb ((16 * kvr) + ia) 1 dX6_read_145 ?_
                                        refine h_lald hx hb hE hw (pt_ne hM.sh (hM.ne (i := 3) (j := 4) (by decide) (by decide) (by decide))) (vp_in_nI (n := 16 * kvr + ia + 1) (N := 96) (by omega) (by decide)) (v := pl kvr (ia + 1)) (by rw [nI_clamp (by omega)]; exact hk3 kvr hkvr (ia + 1) (by omega)) dX6_read_146 ?_
                                        refine lv_l2i hx hb dX6_read_147 rfl ?_
                                        refine h_iast hx hb hE hw (pt_up hM.rg) (vp_in_nI (n := ((4 * kvs) + 1)) (N := 64) (by omega) (by decide)) (g := upd (upd mrg ((4 * kvs) + 0) ((pl kvr ia).toInt32)) ((4 * kvs) + 1) ((pl kvr (ia + 1)).toInt32)) (by rw [nI_clamp (by omega)]) dX6_read_148 (fun H locs hw => ?_)
                                        refine lv_iinc (v := 2) (lv' := [(6, .int 2), (5, .int (nI ((16 * kvr) + ia))), (4, .int 0), (0, .ref (ma 0)), (1, .int (nI kvs)), (2, .int (nI kvr)), (3, .int (nI ia))]) hx hb dX6_read_149 hl (k := 0) rfl (by decide) (by decide) rfl (fun ls hl => ?_)
                                        refine lv_goto (tgt := 121) hx hb dX6_read_152 (by decide) ?_
                                        refine lv_iload hx hb dX6_read_121 (lv_at hl 0 rfl) ?_
                                        refine lv_iconst (v := 4) hx hb dX6_read_123 (by decide) ?_
                                        refine lv_icmp_ge (tgt := 155) hx hb dX6_read_124 (by decide) (fun c_124 => ?_) (fun c_124 => ?_)
                                        · skip
                                          first | exact absurd c_124 (by decide) | exact absurd (by decide) c_124
                                        · skip
                                          refine lv_aload_n hx hb dX6_read_127 rfl (lv_at hl 3 rfl) ?_
                                          refine h_get hx hb hE hw hts hinX6 hown (ci := 6) rfl 3 (by decide) lk_20 (fun _ h9 => h9) (pt_ne (pt_ne hM.ob (hM.ne (i := 0) (j := 4) (by decide) (by decide) (by decide))) (hM.ne (i := 0) (j := 4) (by decide) (by decide) (by decide))) rfl dX6_read_128 ?_
                                          refine lv_iconst (v := 4) hx hb dX6_read_131 (by decide) ?_
                                          refine lv_iload_n hx hb dX6_read_132 rfl (lv_at hl 4 rfl) ?_
                                          refine h_imulN hx hb 4 kvs dX6_read_133 ?_
                                          refine lv_iload hx hb dX6_read_134 (lv_at hl 0 rfl) ?_
                                          refine h_iaddN hx hb (4 * kvs) 2 dX6_read_136 ?_
                                          refine lv_aload_n hx hb dX6_read_137 rfl (lv_at hl 3 rfl) ?_
                                          refine h_get hx hb hE hw hts hinX6 hown (ci := 6) rfl 2 (by decide) lk_16 (fun _ h9 => h9) (pt_ne (pt_ne hM.ob (hM.ne (i := 0) (j := 4) (by decide) (by decide) (by decide))) (hM.ne (i := 0) (j := 4) (by decide) (by decide) (by decide))) rfl dX6_read_138 ?_
                                          refine lv_iload hx hb dX6_read_141 (lv_at hl 1 rfl) ?_
                                          refine lv_iload hx hb dX6_read_143 (lv_at hl 0 rfl) ?_
                                          refine h_iaddN hx hb ((16 * kvr) + ia) 2 dX6_read_145 ?_
                                          refine h_lald hx hb hE hw (pt_ne (pt_ne hM.sh (hM.ne (i := 3) (j := 4) (by decide) (by decide) (by decide))) (hM.ne (i := 3) (j := 4) (by decide) (by decide) (by decide))) (vp_in_nI (n := 16 * kvr + ia + 2) (N := 96) (by omega) (by decide)) (v := pl kvr (ia + 2)) (by rw [nI_clamp (by omega)]; exact hk3 kvr hkvr (ia + 2) (by omega)) dX6_read_146 ?_
                                          refine lv_l2i hx hb dX6_read_147 rfl ?_
                                          refine h_iast hx hb hE hw (pt_up (pt_up hM.rg)) (vp_in_nI (n := ((4 * kvs) + 2)) (N := 64) (by omega) (by decide)) (g := upd (upd (upd mrg ((4 * kvs) + 0) ((pl kvr ia).toInt32)) ((4 * kvs) + 1) ((pl kvr (ia + 1)).toInt32)) ((4 * kvs) + 2) ((pl kvr (ia + 2)).toInt32)) (by rw [nI_clamp (by omega)]) dX6_read_148 (fun H locs hw => ?_)
                                          refine lv_iinc (v := 3) (lv' := [(6, .int 3), (5, .int (nI ((16 * kvr) + ia))), (4, .int 0), (0, .ref (ma 0)), (1, .int (nI kvs)), (2, .int (nI kvr)), (3, .int (nI ia))]) hx hb dX6_read_149 hl (k := 0) rfl (by decide) (by decide) rfl (fun ls hl => ?_)
                                          refine lv_goto (tgt := 121) hx hb dX6_read_152 (by decide) ?_
                                          refine lv_iload hx hb dX6_read_121 (lv_at hl 0 rfl) ?_
                                          refine lv_iconst (v := 4) hx hb dX6_read_123 (by decide) ?_
                                          refine lv_icmp_ge (tgt := 155) hx hb dX6_read_124 (by decide) (fun c_124 => ?_) (fun c_124 => ?_)
                                          · skip
                                            first | exact absurd c_124 (by decide) | exact absurd (by decide) c_124
                                          · skip
                                            refine lv_aload_n hx hb dX6_read_127 rfl (lv_at hl 3 rfl) ?_
                                            refine h_get hx hb hE hw hts hinX6 hown (ci := 6) rfl 3 (by decide) lk_20 (fun _ h9 => h9) (pt_ne (pt_ne (pt_ne hM.ob (hM.ne (i := 0) (j := 4) (by decide) (by decide) (by decide))) (hM.ne (i := 0) (j := 4) (by decide) (by decide) (by decide))) (hM.ne (i := 0) (j := 4) (by decide) (by decide) (by decide))) rfl dX6_read_128 ?_
                                            refine lv_iconst (v := 4) hx hb dX6_read_131 (by decide) ?_
                                            refine lv_iload_n hx hb dX6_read_132 rfl (lv_at hl 4 rfl) ?_
                                            refine h_imulN hx hb 4 kvs dX6_read_133 ?_
                                            refine lv_iload hx hb dX6_read_134 (lv_at hl 0 rfl) ?_
                                            refine h_iaddN hx hb (4 * kvs) 3 dX6_read_136 ?_
                                            refine lv_aload_n hx hb dX6_read_137 rfl (lv_at hl 3 rfl) ?_
                                            refine h_get hx hb hE hw hts hinX6 hown (ci := 6) rfl 2 (by decide) lk_16 (fun _ h9 => h9) (pt_ne (pt_ne (pt_ne hM.ob (hM.ne (i := 0) (j := 4) (by decide) (by decide) (by decide))) (hM.ne (i := 0) (j := 4) (by decide) (by decide) (by decide))) (hM.ne (i := 0) (j := 4) (by decide) (by decide) (by decide))) rfl dX6_read_138 ?_
                                            refine lv_iload hx hb dX6_read_141 (lv_at hl 1 rfl) ?_
                                            refine lv_iload hx hb dX6_read_143 (lv_at hl 0 rfl) ?_
                                            refine h_iaddN hx hb ((16 * kvr) + ia) 3 dX6_read_145 ?_
                                            refine h_lald hx hb hE hw (pt_ne (pt_ne (pt_ne hM.sh (hM.ne (i := 3) (j := 4) (by decide) (by decide) (by decide))) (hM.ne (i := 3) (j := 4) (by decide) (by decide) (by decide))) (hM.ne (i := 3) (j := 4) (by decide) (by decide) (by decide))) (vp_in_nI (n := 16 * kvr + ia + 3) (N := 96) (by omega) (by decide)) (v := pl kvr (ia + 3)) (by rw [nI_clamp (by omega)]; exact hk3 kvr hkvr (ia + 3) (by omega)) dX6_read_146 ?_
                                            refine lv_l2i hx hb dX6_read_147 rfl ?_
                                            refine h_iast hx hb hE hw (pt_up (pt_up (pt_up hM.rg))) (vp_in_nI (n := ((4 * kvs) + 3)) (N := 64) (by omega) (by decide)) (g := upd (upd (upd (upd mrg ((4 * kvs) + 0) ((pl kvr ia).toInt32)) ((4 * kvs) + 1) ((pl kvr (ia + 1)).toInt32)) ((4 * kvs) + 2) ((pl kvr (ia + 2)).toInt32)) ((4 * kvs) + 3) ((pl kvr (ia + 3)).toInt32)) (by rw [nI_clamp (by omega)]) dX6_read_148 (fun H locs hw => ?_)
                                            refine lv_iinc (v := 4) (lv' := [(6, .int 4), (5, .int (nI ((16 * kvr) + ia))), (4, .int 0), (0, .ref (ma 0)), (1, .int (nI kvs)), (2, .int (nI kvr)), (3, .int (nI ia))]) hx hb dX6_read_149 hl (k := 0) rfl (by decide) (by decide) rfl (fun ls hl => ?_)
                                            refine lv_goto (tgt := 121) hx hb dX6_read_152 (by decide) ?_
                                            refine lv_iload hx hb dX6_read_121 (lv_at hl 0 rfl) ?_
                                            refine lv_iconst (v := 4) hx hb dX6_read_123 (by decide) ?_
                                            refine lv_icmp_ge (tgt := 155) hx hb dX6_read_124 (by decide) (fun c_124 => ?_) (fun c_124 => ?_)
                                            · skip
                                              refine lv_iconst (v := 0) hx hb dX6_read_155 (by decide) ?_
                                              exact h_iretP hx hb hlk hr hw dX6_read_156 (by simp only [sp_read, xvs, xvr, hrc, cif_f hm, cif_t c_78, cif_f hqh]) (by simp only [sp_read, xvs, xvr, hrc, cif_f hm, cif_t c_78, cif_f hqh]; exact ⟨_, (MW.setr (MW.setr (MW.setr (MW.setr hM (upd mrg ((4 * kvs) + 0) ((pl kvr ia).toInt32))) (upd (upd mrg ((4 * kvs) + 0) ((pl kvr ia).toInt32)) ((4 * kvs) + 1) ((pl kvr (ia + 1)).toInt32))) (upd (upd (upd mrg ((4 * kvs) + 0) ((pl kvr ia).toInt32)) ((4 * kvs) + 1) ((pl kvr (ia + 1)).toInt32)) ((4 * kvs) + 2) ((pl kvr (ia + 2)).toInt32))) (upd (upd (upd (upd mrg ((4 * kvs) + 0) ((pl kvr ia).toInt32)) ((4 * kvs) + 1) ((pl kvr (ia + 1)).toInt32)) ((4 * kvs) + 2) ((pl kvr (ia + 2)).toInt32)) ((4 * kvs) + 3) ((pl kvr (ia + 3)).toInt32))), rel_rg (x := rd4 (pl kvr) ia) hrel hkvs hqh⟩)
                                            · skip
                                              first | exact absurd c_124 (by decide) | exact absurd (by decide) c_124
                                  · skip
                                    first | exact absurd c_90 (by decide) | exact absurd (by decide) c_90
                                · skip
                                  have c_106 := bI_eq.mp c_106
                                  have hqh : qhigh (rd4 (pl kvr) ia) := hi_4 c_106
                                  refine lv_bipush (v := (-16)) hx hb dX6_read_109 (by decide) ?_
                                  exact h_iretP hx hb hlk hr hw dX6_read_111 (by simp only [sp_read, xvs, xvr, hrc, cif_f hm, cif_t c_78, cif_t hqh]) (by simp only [sp_read, xvs, xvr, hrc, cif_f hm, cif_t c_78, cif_t hqh]; exact ⟨_, hM, rel_v hrel⟩)
                            · skip
                              have c_106 := bI_eq.mp c_106
                              have hqh : qhigh (rd4 (pl kvr) ia) := hi_3 c_106
                              refine lv_bipush (v := (-16)) hx hb dX6_read_109 (by decide) ?_
                              exact h_iretP hx hb hlk hr hw dX6_read_111 (by simp only [sp_read, xvs, xvr, hrc, cif_f hm, cif_t c_78, cif_t hqh]) (by simp only [sp_read, xvs, xvr, hrc, cif_f hm, cif_t c_78, cif_t hqh]; exact ⟨_, hM, rel_v hrel⟩)
                        · skip
                          have c_106 := bI_eq.mp c_106
                          have hqh : qhigh (rd4 (pl kvr) ia) := hi_2 c_106
                          refine lv_bipush (v := (-16)) hx hb dX6_read_109 (by decide) ?_
                          exact h_iretP hx hb hlk hr hw dX6_read_111 (by simp only [sp_read, xvs, xvr, hrc, cif_f hm, cif_t c_78, cif_t hqh]) (by simp only [sp_read, xvs, xvr, hrc, cif_f hm, cif_t c_78, cif_t hqh]; exact ⟨_, hM, rel_v hrel⟩)
                    · skip
                      have c_106 := bI_eq.mp c_106
                      have hqh : qhigh (rd4 (pl kvr) ia) := hi_1 c_106
                      refine lv_bipush (v := (-16)) hx hb dX6_read_109 (by decide) ?_
                      exact h_iretP hx hb hlk hr hw dX6_read_111 (by simp only [sp_read, xvs, xvr, hrc, cif_f hm, cif_t c_78, cif_t hqh]) (by simp only [sp_read, xvs, xvr, hrc, cif_f hm, cif_t c_78, cif_t hqh]; exact ⟨_, hM, rel_v hrel⟩)
                · skip
                  have c_78 := bI_eq.mp c_78
                  have c_78 : ¬ qone (rd4 (pl kvr) ia) := fun w => c_78 (one_one.mpr w)
                  refine lv_bipush (v := (-15)) hx hb dX6_read_81 (by decide) ?_
                  exact h_iretP hx hb hlk hr hw dX6_read_83 (by simp only [sp_read, xvs, xvr, hrc, cif_f hm, cif_f c_78]) (by simp only [sp_read, xvs, xvr, hrc, cif_f hm, cif_f c_78]; exact ⟨_, hM, rel_v hrel⟩)
              · skip
                first | exact absurd c_27 (by decide) | exact absurd (by decide) c_27
            · skip
              have hrc : rch (z kvr) vi 4 = none := rch_out hz1 hr1
              refine h_callV (st1 := [.int (-12)]) [.int (nI kvr), .int vi, .int 4] [] ⟨hx, hb, hml, hown, hts⟩ hE hw (HT.to (c_X6_against l G A ma F _ _ _ _ _ _ _ _ hM kvr hkvr vi 4) (V2 := some (.int (-12))) (congrArg (fun y => some (Value.int y)) (by rw [show mk kvr = kd kvr from hk1 kvr hkvr, show msz kvr = nI (z kvr) from hk2 kvr hkvr]; exact ag_out hkn hz1 (by decide) hr1)) rfl) (cwV 3 hts gX6_read_X6_against rfl rfl rfl (by decide +kernel) ⟨Nat.le_of_ble_eq_true rfl, Nat.le_of_ble_eq_true rfl⟩) hM.ob rfl rfl rfl hl.1 rfl (Nat.le_of_ble_eq_true rfl) dX6_read_20 ⟨Nat.le_of_ble_eq_true rfl, Nat.le_of_ble_eq_true rfl⟩ rfl (fun H locs hw => ?_)
              refine lv_istore (lv' := [(4, .int (-12)), (0, .ref (ma 0)), (1, .int (nI kvs)), (2, .int (nI kvr)), (3, .int vi)]) hx hb dX6_read_23 hl (by decide) rfl (fun ls hl => ?_)
              refine lv_iload hx hb dX6_read_25 (lv_at hl 0 rfl) ?_
              refine lv_if_eq (tgt := 33) hx hb dX6_read_27 (by decide) (fun c_27 => ?_) (fun c_27 => ?_)
              · skip
                first | exact absurd c_27 (by decide) | exact absurd (by decide) c_27
              · skip
                refine lv_iload hx hb dX6_read_30 (lv_at hl 0 rfl) ?_
                exact h_iretP hx hb hlk hr hw dX6_read_32 (by simp only [sp_read, xvs, xvr, hrc, cif_f hm]) (by simp only [sp_read, xvs, xvr, hrc, cif_f hm]; exact ⟨_, hM, rel_v hrel⟩)
        · skip
          first | exact absurd c_11 (by decide) | exact absurd (by decide) c_11
