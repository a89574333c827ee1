theorem listed_v {S : SS} {s : Int32} {a N k : Nat} (hx : ix 16 s = some a) (h1 : 1 ≤ N) (h2 : N ≤ 200) (hk : k < 2 ^ 31) : sp_listed S s (nI N) (nI k) = match (rA N 0)[k]? with
    | none => (-4, S)
    | some t => (1, sRg S a (q4i t)) := by
  unfold sp_listed
  rw [hx]
  dsimp only
  rw [cif_t (in_nN h1 h2).2, cif_t (nI_pos' hk), nI_clamp (by omega), nI_clamp hk, rA_0 h2]
  cases (fA N 57)[k]? <;> rfl
theorem listed_n {S : SS} {s n i : Int32} (h : ¬ 0 ≤ i) : sp_listed S s n i = (-1, S) := by
  unfold sp_listed
  cases ix 16 s with
  | none => rfl
  | some a =>
    dsimp only
    rw [cif_f (p := 0 ≤ i) h, cif_same]
theorem listed_b {S : SS} {s n i : Int32} (h : ¬ (¬ n < 1 ∧ ¬ 200 < n)) : sp_listed S s n i = (-1, S) := by
  unfold sp_listed
  cases ix 16 s with
  | none => rfl
  | some a =>
    dsimp only
    rw [cif_f h]
theorem listed_nh {N : Nat} (h2 : N ≤ 200) {k : Nat} {t : Z4} (h : (rA N 0)[k]? = some t) : ¬ qhigh (q4i t) := q4i_nh (zb_28 h2 (mem_rA.mp (List.mem_of_getElem? h)).1)
set_option maxHeartbeats 4000000 in
set_option maxRecDepth 100000 in
theorem c_X6_many (l : Launch) (G : GG) (A : Nat → Prop) (ma : Nat → Nat) (F : FM) (rg : Nat → Q4) (kd : Nat → Int32) (z : Nat → Nat) (pl : Nat → Nat → Int64) (cnt : Nat) (hR : MR G ma (rg, kd, z, pl, cnt) F) (hz : ∀ k, k < 6 → z k ≤ 16) (hkd : ∀ k, k < 6 → kd k = -1 ∨ 0 ≤ kd k) (hc12 : cnt ≤ 12) (vn : Int32) (vw : Int32) : PT l yX6_many wsX6_many { frames := 3, cells := 0, slots := 0, locals := 86 } G A (ML ma) [.ref (ma 0), .int vn, .int vw] F (some (.int (sp_many (rg, kd, z, pl, cnt) vn vw).1)) (MR G ma (sp_many (rg, kd, z, pl, cnt) vn vw).2) := by
  refine PT.ofW (cc := cX6_many) (maxL := 3) (ret := (some .int)) (plainFor_of_name (by decide)) rfl (Nat.le_of_ble_eq_true rfl) ?_
  intro p e s m below meth c ls hx hb hr hml hown hts hlk hE hw hl
  have hl : lv_has ls 3 [(0, .ref (ma 0)), (1, .int vn), (2, .int vw)] := hl
  have hown : s.vm.findClass RX6 = some m.cls := hown
  have cl_185 := hts (.constantLong RX6 185 (200)) (by decide +kernel)
  have cl_77 := hts (.constantLong RX6 77 (2)) (by decide +kernel)
  obtain ⟨⟨mk, msz, msh, mrg, mfc, mmd, mv, mcn⟩, hM, hrel⟩ := hR
  obtain ⟨hk1, hk2, hk3, hk4, hk5, hk6⟩ := id hrel
  refine lv_iload_n hx hb dX6_many_0 rfl (lv_at hl 1 rfl) ?_
  refine lv_i2l hx hb dX6_many_1 rfl ?_
  refine lv_lconst (v := 1) hx hb dX6_many_2 (by decide) ?_
  refine lv_ldc2 hx hb (v := (200)) hown cl_185 dX6_many_3 ?_
  rcases in_n vn with hon | ⟨N, hN1, hN2, rfl⟩
  · skip
    refine h_callS (st1 := [.int 0]) [.long vn.toInt64, .long 1, .long (200)] [] ⟨hx, hb, hml, hown, hts⟩ hE hw (HT.to (c_X6_in l G A (ML ma) F vn.toInt64 1 200) (V2 := some (.int 0)) (congrArg (fun y => some (Value.int y)) (bI_f hon.1)) rfl) (va_cwS 3 hts gX6_many_X6_in rfl rfl rfl (by decide +kernel) ⟨Nat.le_of_ble_eq_true rfl, Nat.le_of_ble_eq_true rfl⟩) rfl hl.1 rfl (Nat.le_of_ble_eq_true rfl) dX6_many_6 ⟨Nat.le_of_ble_eq_true rfl, Nat.le_of_ble_eq_true rfl⟩ rfl (fun H locs hw => ?_)
    refine lv_if_eq (tgt := 34) hx hb dX6_many_9 (by decide) (fun c_9 => ?_) (fun c_9 => ?_)
    · skip
      refine lv_iconst (v := (-1)) hx hb dX6_many_34 (by decide) ?_
      exact h_iretP hx hb hlk hr hw dX6_many_35 (by rw [many_b hon.2]) (by rw [many_b hon.2]; exact ⟨_, hM, rel_v hrel⟩)
    · skip
      first | exact absurd c_9 (by decide) | exact absurd (by decide) c_9
  · skip
    refine h_callS (st1 := [.int 1]) [.long ((nI N).toInt64), .long 1, .long (200)] [] ⟨hx, hb, hml, hown, hts⟩ hE hw (HT.to (c_X6_in l G A (ML ma) F (nI N).toInt64 1 200) (V2 := some (.int 1)) (congrArg (fun y => some (Value.int y)) (bI_t (in_nN hN1 hN2).1)) rfl) (va_cwS 3 hts gX6_many_X6_in rfl rfl rfl (by decide +kernel) ⟨Nat.le_of_ble_eq_true rfl, Nat.le_of_ble_eq_true rfl⟩) rfl hl.1 rfl (Nat.le_of_ble_eq_true rfl) dX6_many_6 ⟨Nat.le_of_ble_eq_true rfl, Nat.le_of_ble_eq_true rfl⟩ rfl (fun H locs hw => ?_)
    refine lv_if_eq (tgt := 34) hx hb dX6_many_9 (by decide) (fun c_9 => ?_) (fun c_9 => ?_)
    · skip
      first | exact absurd c_9 (by decide) | exact absurd (by decide) c_9
    · skip
      refine lv_iload_n hx hb dX6_many_12 rfl (lv_at hl 2 rfl) ?_
      refine lv_i2l hx hb dX6_many_13 rfl ?_
      refine lv_lconst (v := 0) hx hb dX6_many_14 (by decide) ?_
      refine lv_ldc2 hx hb (v := (2)) hown cl_77 dX6_many_15 ?_
      rcases in_2b vw with hovw | rfl | rfl | rfl
      · skip
        refine h_callS (st1 := [.int 0]) [.long vw.toInt64, .long 0, .long (2)] [] ⟨hx, hb, hml, hown, hts⟩ hE hw (HT.to (c_X6_in l G A (ML ma) F vw.toInt64 0 2) (V2 := some (.int 0)) (congrArg (fun y => some (Value.int y)) (bI_f hovw.1)) rfl) (va_cwS 3 hts gX6_many_X6_in rfl rfl rfl (by decide +kernel) ⟨Nat.le_of_ble_eq_true rfl, Nat.le_of_ble_eq_true rfl⟩) rfl hl.1 rfl (Nat.le_of_ble_eq_true rfl) dX6_many_18 ⟨Nat.le_of_ble_eq_true rfl, Nat.le_of_ble_eq_true rfl⟩ rfl (fun H locs hw => ?_)
        refine lv_if_eq (tgt := 34) hx hb dX6_many_21 (by decide) (fun c_21 => ?_) (fun c_21 => ?_)
        · skip
          refine lv_iconst (v := (-1)) hx hb dX6_many_34 (by decide) ?_
          exact h_iretP hx hb hlk hr hw dX6_many_35 (by rw [many_w hovw.2]) (by rw [many_w hovw.2]; exact ⟨_, hM, rel_v hrel⟩)
        · skip
          first | exact absurd c_21 (by decide) | exact absurd (by decide) c_21
      · skip
        refine h_callS (st1 := [.int 1]) [.long ((0 : Int32).toInt64), .long 0, .long (2)] [] ⟨hx, hb, hml, hown, hts⟩ hE hw (HT.to (c_X6_in l G A (ML ma) F (0 : Int32).toInt64 0 2) (V2 := some (.int 1)) (congrArg (fun y => some (Value.int y)) (bI_t (show inL (0 : Int32).toInt64 0 2 from ⟨by decide, by decide⟩))) rfl) (va_cwS 3 hts gX6_many_X6_in rfl rfl rfl (by decide +kernel) ⟨Nat.le_of_ble_eq_true rfl, Nat.le_of_ble_eq_true rfl⟩) rfl hl.1 rfl (Nat.le_of_ble_eq_true rfl) dX6_many_18 ⟨Nat.le_of_ble_eq_true rfl, Nat.le_of_ble_eq_true rfl⟩ rfl (fun H locs hw => ?_)
        refine lv_if_eq (tgt := 34) hx hb dX6_many_21 (by decide) (fun c_21 => ?_) (fun c_21 => ?_)
        · skip
          first | exact absurd c_21 (by decide) | exact absurd (by decide) c_21
        · skip
          refine lv_aload_n hx hb dX6_many_24 rfl (lv_at hl 0 rfl) ?_
          refine lv_iload_n hx hb dX6_many_25 rfl (lv_at hl 1 rfl) ?_
          refine lv_iload_n hx hb dX6_many_26 rfl (lv_at hl 2 rfl) ?_
          refine lv_iconst (v := (-1)) hx hb dX6_many_27 (by decide) ?_
          refine h_callVP (st1 := [.int (nI (rA N 0).length)]) [.int (nI N), .int 0, .int (-1)] [] ⟨hx, hb, hml, hown, hts⟩ hE hw (c_X6_goThrough_0 l G A ma F _ _ _ _ _ _ _ _ hM N hN1 hN2 (-1) (nI (rA N 0).length) (fun _ => rfl) (fun i hi hv => absurd hv (no_m1 (len_rA hN2) i hi))) (cwV 3 hts gX6_many_X6_goThrough rfl rfl rfl (by decide +kernel) ⟨Nat.le_of_ble_eq_true rfl, Nat.le_of_ble_eq_true rfl⟩) hM.ob rfl rfl rfl hl.1 rfl (Nat.le_of_ble_eq_true rfl) dX6_many_28 ⟨Nat.le_of_ble_eq_true rfl, Nat.le_of_ble_eq_true rfl⟩ rfl (fun F H locs hP hw => ?_)
          obtain ⟨mv3, hM3, -⟩ := hP
          refine lv_goto (tgt := 35) hx hb dX6_many_31 (by decide) ?_
          exact h_iretP hx hb hlk hr hw dX6_many_35 (by rw [(many_v hN1 hN2).1]) (by rw [(many_v hN1 hN2).1]; exact ⟨_, hM3, rel_v hrel⟩)
      · skip
        refine h_callS (st1 := [.int 1]) [.long ((1 : Int32).toInt64), .long 0, .long (2)] [] ⟨hx, hb, hml, hown, hts⟩ hE hw (HT.to (c_X6_in l G A (ML ma) F (1 : Int32).toInt64 0 2) (V2 := some (.int 1)) (congrArg (fun y => some (Value.int y)) (bI_t (show inL (1 : Int32).toInt64 0 2 from ⟨by decide, by decide⟩))) rfl) (va_cwS 3 hts gX6_many_X6_in rfl rfl rfl (by decide +kernel) ⟨Nat.le_of_ble_eq_true rfl, Nat.le_of_ble_eq_true rfl⟩) rfl hl.1 rfl (Nat.le_of_ble_eq_true rfl) dX6_many_18 ⟨Nat.le_of_ble_eq_true rfl, Nat.le_of_ble_eq_true rfl⟩ rfl (fun H locs hw => ?_)
        refine lv_if_eq (tgt := 34) hx hb dX6_many_21 (by decide) (fun c_21 => ?_) (fun c_21 => ?_)
        · skip
          first | exact absurd c_21 (by decide) | exact absurd (by decide) c_21
        · skip
          refine lv_aload_n hx hb dX6_many_24 rfl (lv_at hl 0 rfl) ?_
          refine lv_iload_n hx hb dX6_many_25 rfl (lv_at hl 1 rfl) ?_
          refine lv_iload_n hx hb dX6_many_26 rfl (lv_at hl 2 rfl) ?_
          refine lv_iconst (v := (-1)) hx hb dX6_many_27 (by decide) ?_
          refine h_callVP (st1 := [.int (nI (rA N 1).length)]) [.int (nI N), .int 1, .int (-1)] [] ⟨hx, hb, hml, hown, hts⟩ hE hw (c_X6_goThrough_1 l G A ma F _ _ _ _ _ _ _ _ hM N hN1 hN2 (-1) (nI (rA N 1).length) (fun _ => rfl) (fun i hi hv => absurd hv (no_m1 (len_rA hN2) i hi))) (cwV 3 hts gX6_many_X6_goThrough rfl rfl rfl (by decide +kernel) ⟨Nat.le_of_ble_eq_true rfl, Nat.le_of_ble_eq_true rfl⟩) hM.ob rfl rfl rfl hl.1 rfl (Nat.le_of_ble_eq_true rfl) dX6_many_28 ⟨Nat.le_of_ble_eq_true rfl, Nat.le_of_ble_eq_true rfl⟩ rfl (fun F H locs hP hw => ?_)
          obtain ⟨mv3, hM3, -⟩ := hP
          refine lv_goto (tgt := 35) hx hb dX6_many_31 (by decide) ?_
          exact h_iretP hx hb hlk hr hw dX6_many_35 (by rw [(many_v hN1 hN2).2.1]) (by rw [(many_v hN1 hN2).2.1]; exact ⟨_, hM3, rel_v hrel⟩)
      · skip
        refine h_callS (st1 := [.int 1]) [.long ((2 : Int32).toInt64), .long 0, .long (2)] [] ⟨hx, hb, hml, hown, hts⟩ hE hw (HT.to (c_X6_in l G A (ML ma) F (2 : Int32).toInt64 0 2) (V2 := some (.int 1)) (congrArg (fun y => some (Value.int y)) (bI_t (show inL (2 : Int32).toInt64 0 2 from ⟨by decide, by decide⟩))) rfl) (va_cwS 3 hts gX6_many_X6_in rfl rfl rfl (by decide +kernel) ⟨Nat.le_of_ble_eq_true rfl, Nat.le_of_ble_eq_true rfl⟩) rfl hl.1 rfl (Nat.le_of_ble_eq_true rfl) dX6_many_18 ⟨Nat.le_of_ble_eq_true rfl, Nat.le_of_ble_eq_true rfl⟩ rfl (fun H locs hw => ?_)
        refine lv_if_eq (tgt := 34) hx hb dX6_many_21 (by decide) (fun c_21 => ?_) (fun c_21 => ?_)
        · skip
          first | exact absurd c_21 (by decide) | exact absurd (by decide) c_21
        · skip
          refine lv_aload_n hx hb dX6_many_24 rfl (lv_at hl 0 rfl) ?_
          refine lv_iload_n hx hb dX6_many_25 rfl (lv_at hl 1 rfl) ?_
          refine lv_iload_n hx hb dX6_many_26 rfl (lv_at hl 2 rfl) ?_
          refine lv_iconst (v := (-1)) hx hb dX6_many_27 (by decide) ?_
          refine h_callVP (st1 := [.int (nI (rA N 2).length)]) [.int (nI N), .int 2, .int (-1)] [] ⟨hx, hb, hml, hown, hts⟩ hE hw (c_X6_goThrough_2 l G A ma F _ _ _ _ _ _ _ _ hM N hN1 hN2 (-1) (nI (rA N 2).length) (fun _ => rfl) (fun i hi hv => absurd hv (no_m1 (len_rA hN2) i hi))) (cwV 3 hts gX6_many_X6_goThrough rfl rfl rfl (by decide +kernel) ⟨Nat.le_of_ble_eq_true rfl, Nat.le_of_ble_eq_true rfl⟩) hM.ob rfl rfl rfl hl.1 rfl (Nat.le_of_ble_eq_true rfl) dX6_many_28 ⟨Nat.le_of_ble_eq_true rfl, Nat.le_of_ble_eq_true rfl⟩ rfl (fun F H locs hP hw => ?_)
          obtain ⟨mv3, hM3, -⟩ := hP
          refine lv_goto (tgt := 35) hx hb dX6_many_31 (by decide) ?_
          exact h_iretP hx hb hlk hr hw dX6_many_35 (by rw [(many_v hN1 hN2).2.2]) (by rw [(many_v hN1 hN2).2.2]; exact ⟨_, hM3, rel_v hrel⟩)

set_option maxHeartbeats 4000000 in
set_option maxRecDepth 100000 in
theorem c_X6_listed (l : Launch) (G : GG) (A : Nat → Prop) (ma : Nat → Nat) (F : FM) (rg : Nat → Q4) (kd : Nat → Int32) (z : Nat → Nat) (pl : Nat → Nat → Int64) (cnt : Nat) (hR : MR G ma (rg, kd, z, pl, cnt) F) (hz : ∀ k, k < 6 → z k ≤ 16) (hkd : ∀ k, k < 6 → kd k = -1 ∨ 0 ≤ kd k) (hc12 : cnt ≤ 12) (vs : Int32) (vn : Int32) (vi : Int32) : PT l yX6_listed wsX6_listed { frames := 3, cells := 0, slots := 0, locals := 86 } G A (ML ma) [.ref (ma 0), .int vs, .int vn, .int vi] F (some (.int (sp_listed (rg, kd, z, pl, cnt) vs vn vi).1)) (MR G ma (sp_listed (rg, kd, z, pl, cnt) vs vn vi).2) := by
  refine PT.ofW (cc := cX6_listed) (maxL := 6) (ret := (some .int)) (plainFor_of_name (by decide)) rfl (Nat.le_of_ble_eq_true rfl) ?_
  intro p e s m below meth c ls hx hb hr hml hown hts hlk hE hw hl
  have hl : lv_has ls 6 [(0, .ref (ma 0)), (1, .int vs), (2, .int vn), (3, .int vi)] := hl
  have hown : s.vm.findClass RX6 = some m.cls := hown
  have cl_185 := hts (.constantLong RX6 185 (200)) (by decide +kernel)
  have lk_32 := hts (.fieldLink RX6 32 "FourPartsModel" "x" "[J") (by decide +kernel)
  have hinX6 : ∀ w ∈ u_ws RX6 TX6 18, w ∈ wsX6_listed := by decide +kernel
  obtain ⟨⟨mk, msz, msh, mrg, mfc, mmd, mv, mcn⟩, hM, hrel⟩ := hR
  obtain ⟨hk1, hk2, hk3, hk4, hk5, hk6⟩ := id hrel
  refine lv_iload_n hx hb dX6_listed_0 rfl (lv_at hl 1 rfl) ?_
  rcases ix_cases 16 (by decide) vs with hvs | ⟨kvs, hkvs, rfl⟩
  · skip
    have xvs := ix_none hvs
    refine h_callS (st1 := [.int 0]) [.int vs] [] ⟨hx, hb, hml, hown, hts⟩ hE hw (HT.to (c_X6_isRegister l G A (ML ma) F vs) (V2 := some (.int 0)) (congrArg (fun y => some (Value.int y)) (bI_f (show ¬ inL vs.toInt64 0 15 from inL_out (n := 15) (by decide) hvs))) rfl) (va_cwS 1 hts gX6_listed_X6_isRegister rfl rfl rfl (by decide +kernel) ⟨Nat.le_of_ble_eq_true rfl, Nat.le_of_ble_eq_true rfl⟩) rfl hl.1 rfl (Nat.le_of_ble_eq_true rfl) dX6_listed_1 ⟨Nat.le_of_ble_eq_true rfl, Nat.le_of_ble_eq_true rfl⟩ rfl (fun H locs hw => ?_)
    refine lv_if_eq (tgt := 23) hx hb dX6_listed_4 (by decide) (fun c_4 => ?_) (fun c_4 => ?_)
    · skip
      refine lv_iconst (v := (-1)) hx hb dX6_listed_23 (by decide) ?_
      exact h_iretP hx hb hlk hr hw dX6_listed_24 (by simp only [sp_listed, xvs]) (by simp only [sp_listed, xvs]; exact ⟨_, hM, rel_v hrel⟩)
    · skip
      first | exact absurd c_4 (by decide) | exact absurd (by decide) c_4
  · skip
    have xvs := ix_in (n := 16) hkvs (by decide)
    refine h_callS (st1 := [.int 1]) [.int (nI kvs)] [] ⟨hx, hb, hml, hown, hts⟩ hE hw (HT.to (c_X6_isRegister l G A (ML ma) F (nI kvs)) (V2 := some (.int 1)) (congrArg (fun y => some (Value.int y)) (bI_t (show inL (nI kvs).toInt64 0 15 from inL_in (n := 15) (by decide) hkvs))) rfl) (va_cwS 1 hts gX6_listed_X6_isRegister rfl rfl rfl (by decide +kernel) ⟨Nat.le_of_ble_eq_true rfl, Nat.le_of_ble_eq_true rfl⟩) rfl hl.1 rfl (Nat.le_of_ble_eq_true rfl) dX6_listed_1 ⟨Nat.le_of_ble_eq_true rfl, Nat.le_of_ble_eq_true rfl⟩ rfl (fun H locs hw => ?_)
    refine lv_if_eq (tgt := 23) hx hb dX6_listed_4 (by decide) (fun c_4 => ?_) (fun c_4 => ?_)
    · skip
      first | exact absurd c_4 (by decide) | exact absurd (by decide) c_4
    · skip
      refine lv_iload_n hx hb dX6_listed_7 rfl (lv_at hl 2 rfl) ?_
      refine lv_i2l hx hb dX6_listed_8 rfl ?_
      refine lv_lconst (v := 1) hx hb dX6_listed_9 (by decide) ?_
      refine lv_ldc2 hx hb (v := (200)) hown cl_185 dX6_listed_10 ?_
      rcases in_n vn with hon | ⟨N, hN1, hN2, rfl⟩
      · skip
        refine h_callS (st1 := [.int 0]) [.long vn.toInt64, .long 1, .long (200)] [] ⟨hx, hb, hml, hown, hts⟩ hE hw (HT.to (c_X6_in l G A (ML ma) F vn.toInt64 1 200) (V2 := some (.int 0)) (congrArg (fun y => some (Value.int y)) (bI_f hon.1)) rfl) (va_cwS 3 hts gX6_listed_X6_in rfl rfl rfl (by decide +kernel) ⟨Nat.le_of_ble_eq_true rfl, Nat.le_of_ble_eq_true rfl⟩) rfl hl.1 rfl (Nat.le_of_ble_eq_true rfl) dX6_listed_13 ⟨Nat.le_of_ble_eq_true rfl, Nat.le_of_ble_eq_true rfl⟩ rfl (fun H locs hw => ?_)
        refine lv_if_eq (tgt := 23) hx hb dX6_listed_16 (by decide) (fun c_16 => ?_) (fun c_16 => ?_)
        · skip
          refine lv_iconst (v := (-1)) hx hb dX6_listed_23 (by decide) ?_
          exact h_iretP hx hb hlk hr hw dX6_listed_24 (by rw [listed_b hon.2]) (by rw [listed_b hon.2]; exact ⟨_, hM, rel_v hrel⟩)
        · skip
          first | exact absurd c_16 (by decide) | exact absurd (by decide) c_16
      · skip
        refine h_callS (st1 := [.int 1]) [.long ((nI N).toInt64), .long 1, .long (200)] [] ⟨hx, hb, hml, hown, hts⟩ hE hw (HT.to (c_X6_in l G A (ML ma) F (nI N).toInt64 1 200) (V2 := some (.int 1)) (congrArg (fun y => some (Value.int y)) (bI_t (in_nN hN1 hN2).1)) rfl) (va_cwS 3 hts gX6_listed_X6_in rfl rfl rfl (by decide +kernel) ⟨Nat.le_of_ble_eq_true rfl, Nat.le_of_ble_eq_true rfl⟩) rfl hl.1 rfl (Nat.le_of_ble_eq_true rfl) dX6_listed_13 ⟨Nat.le_of_ble_eq_true rfl, Nat.le_of_ble_eq_true rfl⟩ rfl (fun H locs hw => ?_)
        refine lv_if_eq (tgt := 23) hx hb dX6_listed_16 (by decide) (fun c_16 => ?_) (fun c_16 => ?_)
        · skip
          first | exact absurd c_16 (by decide) | exact absurd (by decide) c_16
        · skip
          refine lv_iload_n hx hb dX6_listed_19 rfl (lv_at hl 3 rfl) ?_
          refine lv_if_ge (tgt := 25) hx hb dX6_listed_20 (by decide) (fun c_20 => ?_) (fun c_20 => ?_)
          · skip
            obtain ⟨k9, hk9, rfl⟩ := nI_of (Int32.not_lt.mpr c_20)
            refine lv_aload_n hx hb dX6_listed_25 rfl (lv_at hl 0 rfl) ?_
            refine lv_iload_n hx hb dX6_listed_26 rfl (lv_at hl 2 rfl) ?_
            refine lv_iconst (v := 0) hx hb dX6_listed_27 (by decide) ?_
            refine lv_iconst (v := (-1)) hx hb dX6_listed_28 (by decide) ?_
            refine h_callVP (st1 := [.int (nI (rA N 0).length)]) [.int (nI N), .int 0, .int (-1)] [] ⟨hx, hb, hml, hown, hts⟩ hE hw (c_X6_goThrough_0 l G A ma F _ _ _ _ _ _ _ _ hM N hN1 hN2 (-1) (nI (rA N 0).length) (fun _ => rfl) (fun i hi hv => absurd hv (no_m1 (len_rA hN2) i hi))) (cwV 3 hts gX6_listed_X6_goThrough rfl rfl rfl (by decide +kernel) ⟨Nat.le_of_ble_eq_true rfl, Nat.le_of_ble_eq_true rfl⟩) hM.ob rfl rfl rfl hl.1 rfl (Nat.le_of_ble_eq_true rfl) dX6_listed_29 ⟨Nat.le_of_ble_eq_true rfl, Nat.le_of_ble_eq_true rfl⟩ rfl (fun F H locs hP hw => ?_)
            obtain ⟨mv3, hM3, -⟩ := hP
            refine lv_istore (lv' := [(4, .int (nI (rA N 0).length)), (0, .ref (ma 0)), (1, .int (nI kvs)), (2, .int (nI N)), (3, .int (nI k9))]) hx hb dX6_listed_32 hl (by decide) rfl (fun ls hl => ?_)
            refine lv_iload_n hx hb dX6_listed_34 rfl (lv_at hl 4 rfl) ?_
            refine lv_iload hx hb dX6_listed_35 (lv_at hl 0 rfl) ?_
            refine lv_icmp_lt (tgt := 43) hx hb dX6_listed_37 (by decide) (fun c_37 => ?_) (fun c_37 => ?_)
            · skip
              have hlt : k9 < (rA N 0).length := (nI_ltI hk9 (len_rA hN2)).mp c_37
              refine lv_aload_n hx hb dX6_listed_43 rfl (lv_at hl 1 rfl) ?_
              refine lv_iload_n hx hb dX6_listed_44 rfl (lv_at hl 3 rfl) ?_
              refine lv_iconst (v := 0) hx hb dX6_listed_45 (by decide) ?_
              refine lv_iload_n hx hb dX6_listed_46 rfl (lv_at hl 4 rfl) ?_
              refine h_callVP (st1 := [.int (nI k9)]) [.int (nI N), .int 0, .int (nI k9)] [] ⟨hx, hb, hml, hown, hts⟩ hE hw (c_X6_goThrough_0 l G A ma F _ _ _ _ _ _ _ _ hM3 N hN1 hN2 (nI k9) (nI k9) (fun h => absurd rfl (h k9 hlt)) (fun i hi hv => hv)) (cwV 3 hts gX6_listed_X6_goThrough rfl rfl rfl (by decide +kernel) ⟨Nat.le_of_ble_eq_true rfl, Nat.le_of_ble_eq_true rfl⟩) hM3.ob rfl rfl rfl hl.1 rfl (Nat.le_of_ble_eq_true rfl) dX6_listed_47 ⟨Nat.le_of_ble_eq_true rfl, Nat.le_of_ble_eq_true rfl⟩ rfl (fun F H locs hP hw => ?_)
              obtain ⟨mv4, hM4, hx4⟩ := hP
              obtain ⟨t9, ht9⟩ : ∃ t9, (rA N 0)[k9]? = some t9 := ⟨_, List.getElem?_eq_getElem hlt⟩
              have hx8 : mv4 8 = q4i t9 := by have := hx4 k9 hlt rfl; rw [ht9] at this; exact Option.some.inj this
              refine lv_istore (lv' := [(5, .int (nI k9)), (4, .int (nI (rA N 0).length)), (0, .ref (ma 0)), (1, .int (nI kvs)), (2, .int (nI N)), (3, .int (nI k9))]) hx hb dX6_listed_50 hl (by decide) rfl (fun ls hl => ?_)
              refine lv_aload_n hx hb dX6_listed_52 rfl (lv_at hl 2 rfl) ?_
              refine lv_iload_n hx hb dX6_listed_53 rfl (lv_at hl 3 rfl) ?_
              refine lv_aload_n hx hb dX6_listed_54 rfl (lv_at hl 2 rfl) ?_
              refine h_get hx hb hE hw hts hinX6 hown (ci := 6) rfl 8 (by decide) lk_32 (fun _ h9 => h9) hM4.ob rfl dX6_listed_55 ?_
              refine h_callV (st1 := []) [.int (nI kvs), .ref (ma 8)] [] ⟨hx, hb, hml, hown, hts⟩ hE hw (c_X6_store l G A ma F _ _ _ _ _ _ _ _ hM4 8 kvs (q4i t9) (by decide) (by decide) (pt_eq (hM4.v (i := 8) (by decide) (by decide)) (by rw [show ((mk, msz, msh, mrg, mfc, mmd, mv4, mcn) : MS).2.2.2.2.2.2.1 8 = (q4i t9) from hx8])) hkvs) (cwV 2 hts gX6_listed_X6_store rfl rfl rfl (by decide +kernel) ⟨Nat.le_of_ble_eq_true rfl, Nat.le_of_ble_eq_true rfl⟩) hM4.ob rfl rfl rfl hl.1 rfl (Nat.le_of_ble_eq_true rfl) dX6_listed_58 ⟨Nat.le_of_ble_eq_true rfl, Nat.le_of_ble_eq_true rfl⟩ rfl (fun H locs hw => ?_)
              refine lv_iconst (v := 1) hx hb dX6_listed_61 (by decide) ?_
              exact h_iretP hx hb hlk hr hw dX6_listed_62 (by rw [listed_v xvs hN1 hN2 hk9, ht9]) (by rw [listed_v xvs hN1 hN2 hk9, ht9]; exact ⟨_, (MW.setr hM4 (stq mrg kvs (q4i t9))), rel_rg (rel_v hrel) hkvs (listed_nh hN2 ht9)⟩)
            · skip
              have hge : (rA N 0)[k9]? = none := List.getElem?_eq_none (Nat.not_lt.mp (fun w => c_37 (nI_lt w (len_rA hN2))))
              refine lv_bipush (v := (-4)) hx hb dX6_listed_40 (by decide) ?_
              exact h_iretP hx hb hlk hr hw dX6_listed_42 (by rw [listed_v xvs hN1 hN2 hk9, hge]) (by rw [listed_v xvs hN1 hN2 hk9, hge]; exact ⟨_, hM3, rel_v hrel⟩)
          · skip
            refine lv_iconst (v := (-1)) hx hb dX6_listed_23 (by decide) ?_
            exact h_iretP hx hb hlk hr hw dX6_listed_24 (by rw [listed_n c_20]) (by rw [listed_n c_20]; exact ⟨_, hM, rel_v hrel⟩)
