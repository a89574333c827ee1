theorem inL_iff {v : Int32} {a b : Int64} : inL v.toInt64 a b ↔ a.toInt ≤ v.toInt ∧ v.toInt ≤ b.toInt := by
  unfold inL
  rw [Int64.not_lt, Int64.not_lt, Int64.le_iff_toInt_le, Int64.le_iff_toInt_le, Int32.toInt_toInt64]
theorem in_3 (v : Int32) : (¬ inL v.toInt64 0 3 ∧ ¬ v = 0 ∧ ¬ v = 1 ∧ ¬ v = 2 ∧ ¬ v = 3) ∨ v = 0 ∨ v = 1 ∨ v = 2 ∨ v = 3 := by
  rw [inL_iff, show (0 : Int64).toInt = 0 from by decide, show (3 : Int64).toInt = 3 from by decide]
  by_cases h : 0 ≤ v.toInt ∧ v.toInt ≤ 3
  · exact Or.inr (int_lt4 h.1 h.2)
  · refine Or.inl ⟨h, ?_, ?_, ?_, ?_⟩ <;> (rintro rfl; exact h (by decide))
theorem in_1 (v : Int32) : (¬ inL v.toInt64 0 1 ∧ ¬ (v = 0 ∨ v = 1)) ∨ v = 0 ∨ v = 1 := by
  rcases in_3 v with ⟨h, h0, h1, -, -⟩ | rfl | rfl | rfl | rfl
  · refine Or.inl ⟨fun w => ?_, fun w => w.elim h0 h1⟩
    rw [inL_iff, show (0 : Int64).toInt = 0 from by decide, show (1 : Int64).toInt = 1 from by decide] at w
    exact h (inL_iff.mpr (by rw [show (0 : Int64).toInt = 0 from by decide, show (3 : Int64).toInt = 3 from by decide]; omega))
  · exact Or.inr (Or.inl rfl)
  · exact Or.inr (Or.inr rfl)
  · exact Or.inl ⟨by unfold inL; decide, by decide⟩
  · exact Or.inl ⟨by unfold inL; decide, by decide⟩
theorem in_2 (v : Int32) : (¬ inL v.toInt64 0 2 ∧ ¬ (¬ v < 0 ∧ ¬ 2 < v)) ∨ v = 0 ∨ v = 1 ∨ v = 2 := by
  by_cases h : 0 ≤ v.toInt ∧ v.toInt ≤ 2
  · exact Or.inr (int_lt3 h.1 h.2)
  · refine Or.inl ⟨?_, ?_⟩
    · rw [inL_iff, show (0 : Int64).toInt = 0 from by decide, show (2 : Int64).toInt = 2 from by decide]; exact h
    · rw [Int32.lt_iff_toInt_lt, Int32.lt_iff_toInt_lt, show (0 : Int32).toInt = 0 from by decide, show (2 : Int32).toInt = 2 from by decide]; omega
theorem sp_work_bad {S : SS} {s h t u : Int32} (h0 : ¬ h = 0) (h1 : ¬ h = 1) (h2 : ¬ h = 2) (h3 : ¬ h = 3) : sp_work S s h t u = (-1, S) := by
  unfold sp_work
  cases ix 16 s with
  | none => rfl
  | some a =>
    cases ix 16 t with
    | none => rfl
    | some b =>
      show cif (h = 3) _ _ = _
      rw [cif_f h3]
      cases ix 16 u with
      | none => rfl
      | some c =>
        show cif (h = 0) _ _ = _
        rw [cif_f h0, cif_f h1, cif_f h2]

theorem qon_0 (x y : Q4) : qon 0 x y = qmul x y := if_pos rfl
theorem qon_1 (x y : Q4) : qon 1 x y = qmul y x := if_neg (by decide)
set_option maxHeartbeats 4000000 in
set_option maxRecDepth 100000 in
theorem c_X6_set (l : Launch) (G : GG) (A : Nat → Prop) (ma : Nat → Nat) (F : FM) (rg : Nat → Q4) (kd : Nat → Int32) (z : Nat → Nat) (pl : Nat → Nat → Int64) (cnt : Nat) (hR : MR G ma (rg, kd, z, pl, cnt) F) (hz : ∀ k, k < 6 → z k ≤ 16) (hkd : ∀ k, k < 6 → kd k = -1 ∨ 0 ≤ kd k) (hc12 : cnt ≤ 12) (vs : Int32) (va : Int32) (vb : Int32) (vc : Int32) (vd : Int32) : PT l yX6_set wsX6_set { frames := 4, cells := 0, slots := 0, locals := 88 } G A (ML ma) [.ref (ma 0), .int vs, .int va, .int vb, .int vc, .int vd] F (some (.int (sp_set (rg, kd, z, pl, cnt) vs va vb vc vd).1)) (MR G ma (sp_set (rg, kd, z, pl, cnt) vs va vb vc vd).2) := by
  refine PT.ofW (cc := cX6_set) (maxL := 6) (ret := (some .int)) (plainFor_of_name (by decide)) rfl (Nat.le_of_ble_eq_true rfl) ?_
  intro p e s m below meth c ls hx hb hr hml hown hts hlk hE hw hl
  have hl : lv_has ls 6 [(0, .ref (ma 0)), (1, .int vs), (2, .int va), (3, .int vb), (4, .int vc), (5, .int vd)] := hl
  have hown : s.vm.findClass RX6 = some m.cls := hown
  have lk_32 := hts (.fieldLink RX6 32 "FourPartsModel" "x" "[J") (by decide +kernel)
  have hinX6 : ∀ w ∈ u_ws RX6 TX6 18, w ∈ wsX6_set := by decide +kernel
  obtain ⟨⟨mk, msz, msh, mrg, mfc, mmd, mv, mcn⟩, hM, hrel⟩ := hR
  obtain ⟨hk1, hk2, hk3, hk4, hk5, hk6⟩ := id hrel
  refine lv_iload_n hx hb dX6_set_0 rfl (lv_at hl 1 rfl) ?_
  rcases ix_cases 16 (by decide) vs with hvs | ⟨kvs, hkvs, rfl⟩
  · skip
    have xvs := ix_none hvs
    refine h_callS (st1 := [.int 0]) [.int vs] [] ⟨hx, hb, hml, hown, hts⟩ hE hw (HT.to (c_X6_isRegister l G A (ML ma) F vs) (V2 := some (.int 0)) (congrArg (fun y => some (Value.int y)) (bI_f (show ¬ inL vs.toInt64 0 15 from inL_out (n := 15) (by decide) hvs))) rfl) (va_cwS 1 hts gX6_set_X6_isRegister rfl rfl rfl (by decide +kernel) ⟨Nat.le_of_ble_eq_true rfl, Nat.le_of_ble_eq_true rfl⟩) rfl hl.1 rfl (Nat.le_of_ble_eq_true rfl) dX6_set_1 ⟨Nat.le_of_ble_eq_true rfl, Nat.le_of_ble_eq_true rfl⟩ rfl (fun H locs hw => ?_)
    refine lv_if_ne (tgt := 9) hx hb dX6_set_4 (by decide) (fun c_4 => ?_) (fun c_4 => ?_)
    · skip
      first | exact absurd c_4 (by decide) | exact absurd (by decide) c_4
    · skip
      refine lv_iconst (v := (-1)) hx hb dX6_set_7 (by decide) ?_
      exact h_iretP hx hb hlk hr hw dX6_set_8 (by simp only [sp_set, xvs, hld]) (by simp only [sp_set, xvs, hld]; exact ⟨_, hM, rel_v hrel⟩)
  · skip
    have xvs := ix_in (n := 16) hkvs (by decide)
    refine h_callS (st1 := [.int 1]) [.int (nI kvs)] [] ⟨hx, hb, hml, hown, hts⟩ hE hw (HT.to (c_X6_isRegister l G A (ML ma) F (nI kvs)) (V2 := some (.int 1)) (congrArg (fun y => some (Value.int y)) (bI_t (show inL (nI kvs).toInt64 0 15 from inL_in (n := 15) (by decide) hkvs))) rfl) (va_cwS 1 hts gX6_set_X6_isRegister rfl rfl rfl (by decide +kernel) ⟨Nat.le_of_ble_eq_true rfl, Nat.le_of_ble_eq_true rfl⟩) rfl hl.1 rfl (Nat.le_of_ble_eq_true rfl) dX6_set_1 ⟨Nat.le_of_ble_eq_true rfl, Nat.le_of_ble_eq_true rfl⟩ rfl (fun H locs hw => ?_)
    refine lv_if_ne (tgt := 9) hx hb dX6_set_4 (by decide) (fun c_4 => ?_) (fun c_4 => ?_)
    · skip
      refine lv_iload_n hx hb dX6_set_9 rfl (lv_at hl 2 rfl) ?_
      refine lv_i2l hx hb dX6_set_10 rfl ?_
      refine lv_iload_n hx hb dX6_set_11 rfl (lv_at hl 3 rfl) ?_
      refine lv_i2l hx hb dX6_set_12 rfl ?_
      refine lv_iload hx hb dX6_set_13 (lv_at hl 4 rfl) ?_
      refine lv_i2l hx hb dX6_set_15 rfl ?_
      refine lv_iload hx hb dX6_set_16 (lv_at hl 5 rfl) ?_
      refine lv_i2l hx hb dX6_set_18 rfl ?_
      refine h_callS (st1 := [.int (bI (oneM va.toInt64 vb.toInt64 vc.toInt64 vd.toInt64))]) [.long va.toInt64, .long vb.toInt64, .long vc.toInt64, .long vd.toInt64] [] ⟨hx, hb, hml, hown, hts⟩ hE hw (c_X6_isOne l G A (ML ma) F va.toInt64 vb.toInt64 vc.toInt64 vd.toInt64) (va_cwS 4 hts gX6_set_X6_isOne rfl rfl rfl (by decide +kernel) ⟨Nat.le_of_ble_eq_true rfl, Nat.le_of_ble_eq_true rfl⟩) rfl hl.1 rfl (Nat.le_of_ble_eq_true rfl) dX6_set_19 ⟨Nat.le_of_ble_eq_true rfl, Nat.le_of_ble_eq_true rfl⟩ rfl (fun H locs hw => ?_)
      refine lv_if_ne (tgt := 28) hx hb dX6_set_22 (by decide) (fun c_22 => ?_) (fun c_22 => ?_)
      · skip
        have c_22 := bI_ne.mp c_22
        refine lv_aload_n hx hb dX6_set_28 rfl (lv_at hl 0 rfl) ?_
        refine h_get hx hb hE hw hts hinX6 hown (ci := 6) rfl 8 (by decide) lk_32 (fun _ h9 => h9) hM.ob rfl dX6_set_29 ?_
        refine lv_iconst (v := 0) hx hb dX6_set_32 (by decide) ?_
        refine lv_iload_n hx hb dX6_set_33 rfl (lv_at hl 2 rfl) ?_
        refine lv_i2l hx hb dX6_set_34 rfl ?_
        refine h_last hx hb hE hw (hM.v (i := 8) (by decide) (by decide)) (n := 4) (vp_in_nI (n := 0) (N := 4) (by decide) (by decide)) (g := vp_updL (q4f (mv 8)) 0 va.toInt64) rfl dX6_set_35 (fun H locs hw => ?_)
        have hw := wo_same hw (at_sameJ (G := G) (n := 4) (st4_0 (mv 8) va.toInt64))
        refine lv_aload_n hx hb dX6_set_36 rfl (lv_at hl 0 rfl) ?_
        refine h_get hx hb hE hw hts hinX6 hown (ci := 6) rfl 8 (by decide) lk_32 (fun _ h9 => h9) (pt_ne hM.ob (hM.ne (i := 0) (j := 8) (by decide) (by decide) (by decide))) rfl dX6_set_37 ?_
        refine lv_iconst (v := 1) hx hb dX6_set_40 (by decide) ?_
        refine lv_iload_n hx hb dX6_set_41 rfl (lv_at hl 3 rfl) ?_
        refine lv_i2l hx hb dX6_set_42 rfl ?_
        refine h_last hx hb hE hw (pt_up (hM.v (i := 8) (by decide) (by decide))) (n := 4) (vp_in_nI (n := 1) (N := 4) (by decide) (by decide)) (g := vp_updL (q4f (va.toInt64, (mv 8).2.1, (mv 8).2.2.1, (mv 8).2.2.2)) 1 vb.toInt64) rfl dX6_set_43 (fun H locs hw => ?_)
        have hw := wo_same hw (at_sameJ (G := G) (n := 4) (st4_1 (va.toInt64, (mv 8).2.1, (mv 8).2.2.1, (mv 8).2.2.2) vb.toInt64))
        refine lv_aload_n hx hb dX6_set_44 rfl (lv_at hl 0 rfl) ?_
        refine h_get hx hb hE hw hts hinX6 hown (ci := 6) rfl 8 (by decide) lk_32 (fun _ h9 => h9) (pt_ne (pt_ne hM.ob (hM.ne (i := 0) (j := 8) (by decide) (by decide) (by decide))) (hM.ne (i := 0) (j := 8) (by decide) (by decide) (by decide))) rfl dX6_set_45 ?_
        refine lv_iconst (v := 2) hx hb dX6_set_48 (by decide) ?_
        refine lv_iload hx hb dX6_set_49 (lv_at hl 4 rfl) ?_
        refine lv_i2l hx hb dX6_set_51 rfl ?_
        refine h_last hx hb hE hw (pt_up (pt_up (hM.v (i := 8) (by decide) (by decide)))) (n := 4) (vp_in_nI (n := 2) (N := 4) (by decide) (by decide)) (g := vp_updL (q4f (va.toInt64, vb.toInt64, (mv 8).2.2.1, (mv 8).2.2.2)) 2 vc.toInt64) rfl dX6_set_52 (fun H locs hw => ?_)
        have hw := wo_same hw (at_sameJ (G := G) (n := 4) (st4_2 (va.toInt64, vb.toInt64, (mv 8).2.2.1, (mv 8).2.2.2) vc.toInt64))
        refine lv_aload_n hx hb dX6_set_53 rfl (lv_at hl 0 rfl) ?_
        refine h_get hx hb hE hw hts hinX6 hown (ci := 6) rfl 8 (by decide) lk_32 (fun _ h9 => h9) (pt_ne (pt_ne (pt_ne hM.ob (hM.ne (i := 0) (j := 8) (by decide) (by decide) (by decide))) (hM.ne (i := 0) (j := 8) (by decide) (by decide) (by decide))) (hM.ne (i := 0) (j := 8) (by decide) (by decide) (by decide))) rfl dX6_set_54 ?_
        refine lv_iconst (v := 3) hx hb dX6_set_57 (by decide) ?_
        refine lv_iload hx hb dX6_set_58 (lv_at hl 5 rfl) ?_
        refine lv_i2l hx hb dX6_set_60 rfl ?_
        refine h_last hx hb hE hw (pt_up (pt_up (pt_up (hM.v (i := 8) (by decide) (by decide))))) (n := 4) (vp_in_nI (n := 3) (N := 4) (by decide) (by decide)) (g := vp_updL (q4f (va.toInt64, vb.toInt64, vc.toInt64, (mv 8).2.2.2)) 3 vd.toInt64) rfl dX6_set_61 (fun H locs hw => ?_)
        have hw := wo_same hw (at_sameJ (G := G) (n := 4) (st4_3 (va.toInt64, vb.toInt64, vc.toInt64, (mv 8).2.2.2) vd.toInt64))
        refine lv_aload_n hx hb dX6_set_62 rfl (lv_at hl 0 rfl) ?_
        refine lv_iload_n hx hb dX6_set_63 rfl (lv_at hl 1 rfl) ?_
        refine lv_aload_n hx hb dX6_set_64 rfl (lv_at hl 0 rfl) ?_
        refine h_get hx hb hE hw hts hinX6 hown (ci := 6) rfl 8 (by decide) lk_32 (fun _ h9 => h9) (pt_ne (pt_ne (pt_ne (pt_ne hM.ob (hM.ne (i := 0) (j := 8) (by decide) (by decide) (by decide))) (hM.ne (i := 0) (j := 8) (by decide) (by decide) (by decide))) (hM.ne (i := 0) (j := 8) (by decide) (by decide) (by decide))) (hM.ne (i := 0) (j := 8) (by decide) (by decide) (by decide))) rfl dX6_set_65 ?_
        by_cases hh : qhigh (va.toInt64, vb.toInt64, vc.toInt64, vd.toInt64)
        · skip
          refine h_callV (st1 := [.int (-3)]) [.int (nI kvs), .ref (ma 8)] [] ⟨hx, hb, hml, hown, hts⟩ hE hw (c_X6_holds_hi l G A ma (va_up (va_up (va_up (va_up F (ma 8) (eJ4 G (va.toInt64, (mv 8).2.1, (mv 8).2.2.1, (mv 8).2.2.2))) (ma 8) (eJ4 G (va.toInt64, vb.toInt64, (mv 8).2.2.1, (mv 8).2.2.2))) (ma 8) (eJ4 G (va.toInt64, vb.toInt64, vc.toInt64, (mv 8).2.2.2))) (ma 8) (eJ4 G (va.toInt64, vb.toInt64, vc.toInt64, vd.toInt64))) _ _ _ _ _ _ _ _ (MW.setv (MW.setv (MW.setv (MW.setv hM (i := 8) (by decide) (by decide) (va.toInt64, (mv 8).2.1, (mv 8).2.2.1, (mv 8).2.2.2)) (i := 8) (by decide) (by decide) (va.toInt64, vb.toInt64, (mv 8).2.2.1, (mv 8).2.2.2)) (i := 8) (by decide) (by decide) (va.toInt64, vb.toInt64, vc.toInt64, (mv 8).2.2.2)) (i := 8) (by decide) (by decide) (va.toInt64, vb.toInt64, vc.toInt64, vd.toInt64)) 8 kvs (va.toInt64, vb.toInt64, vc.toInt64, vd.toInt64) (by decide) (by decide) (pt_up (pt_up (pt_up (pt_up (hM.v (i := 8) (by decide) (by decide)))))) hkvs hh) (cwV 2 hts gX6_set_X6_holds rfl rfl rfl (by decide +kernel) ⟨Nat.le_of_ble_eq_true rfl, Nat.le_of_ble_eq_true rfl⟩) (pt_ne (pt_ne (pt_ne (pt_ne hM.ob (hM.ne (i := 0) (j := 8) (by decide) (by decide) (by decide))) (hM.ne (i := 0) (j := 8) (by decide) (by decide) (by decide))) (hM.ne (i := 0) (j := 8) (by decide) (by decide) (by decide))) (hM.ne (i := 0) (j := 8) (by decide) (by decide) (by decide))) rfl rfl rfl hl.1 rfl (Nat.le_of_ble_eq_true rfl) dX6_set_68 ⟨Nat.le_of_ble_eq_true rfl, Nat.le_of_ble_eq_true rfl⟩ rfl (fun H locs hw => ?_)
          exact h_iretP hx hb hlk hr hw dX6_set_71 (by simp only [sp_set, xvs, cif_t (one_one.mp c_22), cif_t hh, hld]) (by simp only [sp_set, xvs, cif_t (one_one.mp c_22), cif_t hh, hld]; exact ⟨_, (MW.setv (MW.setv (MW.setv (MW.setv hM (i := 8) (by decide) (by decide) (va.toInt64, (mv 8).2.1, (mv 8).2.2.1, (mv 8).2.2.2)) (i := 8) (by decide) (by decide) (va.toInt64, vb.toInt64, (mv 8).2.2.1, (mv 8).2.2.2)) (i := 8) (by decide) (by decide) (va.toInt64, vb.toInt64, vc.toInt64, (mv 8).2.2.2)) (i := 8) (by decide) (by decide) (va.toInt64, vb.toInt64, vc.toInt64, vd.toInt64)), rel_v hrel⟩)
        · skip
          refine h_callV (st1 := [.int 0]) [.int (nI kvs), .ref (ma 8)] [] ⟨hx, hb, hml, hown, hts⟩ hE hw (c_X6_holds_lo l G A ma (va_up (va_up (va_up (va_up F (ma 8) (eJ4 G (va.toInt64, (mv 8).2.1, (mv 8).2.2.1, (mv 8).2.2.2))) (ma 8) (eJ4 G (va.toInt64, vb.toInt64, (mv 8).2.2.1, (mv 8).2.2.2))) (ma 8) (eJ4 G (va.toInt64, vb.toInt64, vc.toInt64, (mv 8).2.2.2))) (ma 8) (eJ4 G (va.toInt64, vb.toInt64, vc.toInt64, vd.toInt64))) _ _ _ _ _ _ _ _ (MW.setv (MW.setv (MW.setv (MW.setv hM (i := 8) (by decide) (by decide) (va.toInt64, (mv 8).2.1, (mv 8).2.2.1, (mv 8).2.2.2)) (i := 8) (by decide) (by decide) (va.toInt64, vb.toInt64, (mv 8).2.2.1, (mv 8).2.2.2)) (i := 8) (by decide) (by decide) (va.toInt64, vb.toInt64, vc.toInt64, (mv 8).2.2.2)) (i := 8) (by decide) (by decide) (va.toInt64, vb.toInt64, vc.toInt64, vd.toInt64)) 8 kvs (va.toInt64, vb.toInt64, vc.toInt64, vd.toInt64) (by decide) (by decide) (pt_up (pt_up (pt_up (pt_up (hM.v (i := 8) (by decide) (by decide)))))) hkvs hh) (cwV 2 hts gX6_set_X6_holds rfl rfl rfl (by decide +kernel) ⟨Nat.le_of_ble_eq_true rfl, Nat.le_of_ble_eq_true rfl⟩) (pt_ne (pt_ne (pt_ne (pt_ne hM.ob (hM.ne (i := 0) (j := 8) (by decide) (by decide) (by decide))) (hM.ne (i := 0) (j := 8) (by decide) (by decide) (by decide))) (hM.ne (i := 0) (j := 8) (by decide) (by decide) (by decide))) (hM.ne (i := 0) (j := 8) (by decide) (by decide) (by decide))) rfl rfl rfl hl.1 rfl (Nat.le_of_ble_eq_true rfl) dX6_set_68 ⟨Nat.le_of_ble_eq_true rfl, Nat.le_of_ble_eq_true rfl⟩ rfl (fun H locs hw => ?_)
          exact h_iretP hx hb hlk hr hw dX6_set_71 (by simp only [sp_set, xvs, cif_t (one_one.mp c_22), cif_f hh, hld]) (by simp only [sp_set, xvs, cif_t (one_one.mp c_22), cif_f hh, hld]; exact ⟨_, (MW.setr (MW.setv (MW.setv (MW.setv (MW.setv hM (i := 8) (by decide) (by decide) (va.toInt64, (mv 8).2.1, (mv 8).2.2.1, (mv 8).2.2.2)) (i := 8) (by decide) (by decide) (va.toInt64, vb.toInt64, (mv 8).2.2.1, (mv 8).2.2.2)) (i := 8) (by decide) (by decide) (va.toInt64, vb.toInt64, vc.toInt64, (mv 8).2.2.2)) (i := 8) (by decide) (by decide) (va.toInt64, vb.toInt64, vc.toInt64, vd.toInt64)) (stq mrg kvs (va.toInt64, vb.toInt64, vc.toInt64, vd.toInt64))), rel_rg hrel hkvs hh⟩)
      · skip
        have c_22 := bI_eq.mp c_22
        refine lv_bipush (v := (-2)) hx hb dX6_set_25 (by decide) ?_
        exact h_iretP hx hb hlk hr hw dX6_set_27 (by simp only [sp_set, xvs, cif_f (fun w => c_22 (one_one.mpr w)), hld]) (by simp only [sp_set, xvs, cif_f (fun w => c_22 (one_one.mpr w)), hld]; exact ⟨_, hM, rel_v hrel⟩)
    · skip
      first | exact absurd c_4 (by decide) | exact absurd (by decide) c_4

set_option maxHeartbeats 4000000 in
set_option maxRecDepth 100000 in
theorem c_X6_unit (l : Launch) (G : GG) (A : Nat → Prop) (ma : Nat → Nat) (F : FM) (rg : Nat → Q4) (kd : Nat → Int32) (z : Nat → Nat) (pl : Nat → Nat → Int64) (cnt : Nat) (hR : MR G ma (rg, kd, z, pl, cnt) F) (hz : ∀ k, k < 6 → z k ≤ 16) (hkd : ∀ k, k < 6 → kd k = -1 ∨ 0 ≤ kd k) (hc12 : cnt ≤ 12) (vs : Int32) (vt : Int32) (vu : Int32) (vd : Int32) : PT l yX6_unit wsX6_unit { frames := 4, cells := 0, slots := 0, locals := 88 } G A (ML ma) [.ref (ma 0), .int vs, .int vt, .int vu, .int vd] F (some (.int (sp_unit (rg, kd, z, pl, cnt) vs vt vu vd).1)) (MR G ma (sp_unit (rg, kd, z, pl, cnt) vs vt vu vd).2) := by
  refine PT.ofW (cc := cX6_unit) (maxL := 5) (ret := (some .int)) (plainFor_of_name (by decide)) rfl (Nat.le_of_ble_eq_true rfl) ?_
  intro p e s m below meth c ls hx hb hr hml hown hts hlk hE hw hl
  have hl : lv_has ls 5 [(0, .ref (ma 0)), (1, .int vs), (2, .int vt), (3, .int vu), (4, .int vd)] := hl
  have hown : s.vm.findClass RX6 = some m.cls := hown
  have cl_147 := hts (.constantLong RX6 147 (23)) (by decide +kernel)
  have lk_32 := hts (.fieldLink RX6 32 "FourPartsModel" "x" "[J") (by decide +kernel)
  have hinX6 : ∀ w ∈ u_ws RX6 TX6 18, w ∈ wsX6_unit := by decide +kernel
  have lk_35 := hts (.fieldLink RX6 35 "FourPartsModel" "y" "[J") (by decide +kernel)
  have lk_38 := hts (.fieldLink RX6 38 "FourPartsModel" "z" "[J") (by decide +kernel)
  obtain ⟨⟨mk, msz, msh, mrg, mfc, mmd, mv, mcn⟩, hM, hrel⟩ := hR
  obtain ⟨hk1, hk2, hk3, hk4, hk5, hk6⟩ := id hrel
  refine lv_iload_n hx hb dX6_unit_0 rfl (lv_at hl 1 rfl) ?_
  rcases ix_cases 16 (by decide) vs with hvs | ⟨kvs, hkvs, rfl⟩
  · skip
    have xvs := ix_none hvs
    refine h_callS (st1 := [.int 0]) [.int vs] [] ⟨hx, hb, hml, hown, hts⟩ hE hw (HT.to (c_X6_isRegister l G A (ML ma) F vs) (V2 := some (.int 0)) (congrArg (fun y => some (Value.int y)) (bI_f (show ¬ inL vs.toInt64 0 15 from inL_out (n := 15) (by decide) hvs))) rfl) (va_cwS 1 hts gX6_unit_X6_isRegister rfl rfl rfl (by decide +kernel) ⟨Nat.le_of_ble_eq_true rfl, Nat.le_of_ble_eq_true rfl⟩) rfl hl.1 rfl (Nat.le_of_ble_eq_true rfl) dX6_unit_1 ⟨Nat.le_of_ble_eq_true rfl, Nat.le_of_ble_eq_true rfl⟩ rfl (fun H locs hw => ?_)
    refine lv_if_eq (tgt := 37) hx hb dX6_unit_4 (by decide) (fun c_4 => ?_) (fun c_4 => ?_)
    · skip
      refine lv_iconst (v := (-1)) hx hb dX6_unit_37 (by decide) ?_
      exact h_iretP hx hb hlk hr hw dX6_unit_38 (by simp only [sp_unit, xvs, hld]) (by simp only [sp_unit, xvs, hld]; exact ⟨_, hM, rel_v hrel⟩)
    · skip
      first | exact absurd c_4 (by decide) | exact absurd (by decide) c_4
  · skip
    have xvs := ix_in (n := 16) hkvs (by decide)
    refine h_callS (st1 := [.int 1]) [.int (nI kvs)] [] ⟨hx, hb, hml, hown, hts⟩ hE hw (HT.to (c_X6_isRegister l G A (ML ma) F (nI kvs)) (V2 := some (.int 1)) (congrArg (fun y => some (Value.int y)) (bI_t (show inL (nI kvs).toInt64 0 15 from inL_in (n := 15) (by decide) hkvs))) rfl) (va_cwS 1 hts gX6_unit_X6_isRegister rfl rfl rfl (by decide +kernel) ⟨Nat.le_of_ble_eq_true rfl, Nat.le_of_ble_eq_true rfl⟩) rfl hl.1 rfl (Nat.le_of_ble_eq_true rfl) dX6_unit_1 ⟨Nat.le_of_ble_eq_true rfl, Nat.le_of_ble_eq_true rfl⟩ rfl (fun H locs hw => ?_)
    refine lv_if_eq (tgt := 37) hx hb dX6_unit_4 (by decide) (fun c_4 => ?_) (fun c_4 => ?_)
    · skip
      first | exact absurd c_4 (by decide) | exact absurd (by decide) c_4
    · skip
      refine lv_iload_n hx hb dX6_unit_7 rfl (lv_at hl 2 rfl) ?_
      rcases ix_cases 16 (by decide) vt with hvt | ⟨kvt, hkvt, rfl⟩
      · skip
        have xvt := ix_none hvt
        refine h_callS (st1 := [.int 0]) [.int vt] [] ⟨hx, hb, hml, hown, hts⟩ hE hw (HT.to (c_X6_isRegister l G A (ML ma) F vt) (V2 := some (.int 0)) (congrArg (fun y => some (Value.int y)) (bI_f (show ¬ inL vt.toInt64 0 15 from inL_out (n := 15) (by decide) hvt))) rfl) (va_cwS 1 hts gX6_unit_X6_isRegister rfl rfl rfl (by decide +kernel) ⟨Nat.le_of_ble_eq_true rfl, Nat.le_of_ble_eq_true rfl⟩) rfl hl.1 rfl (Nat.le_of_ble_eq_true rfl) dX6_unit_8 ⟨Nat.le_of_ble_eq_true rfl, Nat.le_of_ble_eq_true rfl⟩ rfl (fun H locs hw => ?_)
        refine lv_if_eq (tgt := 37) hx hb dX6_unit_11 (by decide) (fun c_11 => ?_) (fun c_11 => ?_)
        · skip
          refine lv_iconst (v := (-1)) hx hb dX6_unit_37 (by decide) ?_
          exact h_iretP hx hb hlk hr hw dX6_unit_38 (by simp only [sp_unit, xvs, xvt, hld]) (by simp only [sp_unit, xvs, xvt, hld]; exact ⟨_, hM, rel_v hrel⟩)
        · skip
          first | exact absurd c_11 (by decide) | exact absurd (by decide) c_11
      · skip
        have xvt := ix_in (n := 16) hkvt (by decide)
        refine h_callS (st1 := [.int 1]) [.int (nI kvt)] [] ⟨hx, hb, hml, hown, hts⟩ hE hw (HT.to (c_X6_isRegister l G A (ML ma) F (nI kvt)) (V2 := some (.int 1)) (congrArg (fun y => some (Value.int y)) (bI_t (show inL (nI kvt).toInt64 0 15 from inL_in (n := 15) (by decide) hkvt))) rfl) (va_cwS 1 hts gX6_unit_X6_isRegister rfl rfl rfl (by decide +kernel) ⟨Nat.le_of_ble_eq_true rfl, Nat.le_of_ble_eq_true rfl⟩) rfl hl.1 rfl (Nat.le_of_ble_eq_true rfl) dX6_unit_8 ⟨Nat.le_of_ble_eq_true rfl, Nat.le_of_ble_eq_true rfl⟩ rfl (fun H locs hw => ?_)
        refine lv_if_eq (tgt := 37) hx hb dX6_unit_11 (by decide) (fun c_11 => ?_) (fun c_11 => ?_)
        · skip
          first | exact absurd c_11 (by decide) | exact absurd (by decide) c_11
        · skip
          refine lv_iload_n hx hb dX6_unit_14 rfl (lv_at hl 3 rfl) ?_
          refine lv_i2l hx hb dX6_unit_15 rfl ?_
          refine lv_lconst (v := 0) hx hb dX6_unit_16 (by decide) ?_
          refine lv_ldc2 hx hb (v := (23)) hown cl_147 dX6_unit_17 ?_
          rcases ix_cases 24 (by decide) vu with hvu | ⟨ku, hku, rfl⟩
          · skip
            have xvu := ix_none hvu
            refine h_callS (st1 := [.int 0]) [.long vu.toInt64, .long 0, .long (23)] [] ⟨hx, hb, hml, hown, hts⟩ hE hw (HT.to (c_X6_in l G A (ML ma) F vu.toInt64 0 23) (V2 := some (.int 0)) (congrArg (fun y => some (Value.int y)) (bI_f (show ¬ inL vu.toInt64 0 23 from inL_out (n := 23) (by decide) hvu))) rfl) (va_cwS 3 hts gX6_unit_X6_in rfl rfl rfl (by decide +kernel) ⟨Nat.le_of_ble_eq_true rfl, Nat.le_of_ble_eq_true rfl⟩) rfl hl.1 rfl (Nat.le_of_ble_eq_true rfl) dX6_unit_20 ⟨Nat.le_of_ble_eq_true rfl, Nat.le_of_ble_eq_true rfl⟩ rfl (fun H locs hw => ?_)
            refine lv_if_eq (tgt := 37) hx hb dX6_unit_23 (by decide) (fun c_23 => ?_) (fun c_23 => ?_)
            · skip
              refine lv_iconst (v := (-1)) hx hb dX6_unit_37 (by decide) ?_
              exact h_iretP hx hb hlk hr hw dX6_unit_38 (by simp only [sp_unit, xvs, xvt, xvu, hld]) (by simp only [sp_unit, xvs, xvt, xvu, hld]; exact ⟨_, hM, rel_v hrel⟩)
            · skip
              first | exact absurd c_23 (by decide) | exact absurd (by decide) c_23
          · skip
            have xvu := ix_in (n := 24) hku (by decide)
            refine h_callS (st1 := [.int 1]) [.long ((nI ku).toInt64), .long 0, .long (23)] [] ⟨hx, hb, hml, hown, hts⟩ hE hw (HT.to (c_X6_in l G A (ML ma) F (nI ku).toInt64 0 23) (V2 := some (.int 1)) (congrArg (fun y => some (Value.int y)) (bI_t (show inL (nI ku).toInt64 0 23 from inL_in (n := 23) (by decide) hku))) rfl) (va_cwS 3 hts gX6_unit_X6_in rfl rfl rfl (by decide +kernel) ⟨Nat.le_of_ble_eq_true rfl, Nat.le_of_ble_eq_true rfl⟩) rfl hl.1 rfl (Nat.le_of_ble_eq_true rfl) dX6_unit_20 ⟨Nat.le_of_ble_eq_true rfl, Nat.le_of_ble_eq_true rfl⟩ rfl (fun H locs hw => ?_)
            refine lv_if_eq (tgt := 37) hx hb dX6_unit_23 (by decide) (fun c_23 => ?_) (fun c_23 => ?_)
            · skip
              first | exact absurd c_23 (by decide) | exact absurd (by decide) c_23
            · skip
              refine lv_iload hx hb dX6_unit_26 (lv_at hl 4 rfl) ?_
              refine lv_i2l hx hb dX6_unit_28 rfl ?_
              refine lv_lconst (v := 0) hx hb dX6_unit_29 (by decide) ?_
              refine lv_lconst (v := 1) hx hb dX6_unit_30 (by decide) ?_
              rcases in_1 vd with hovd | rfl | rfl
              · skip
                refine h_callS (st1 := [.int 0]) [.long vd.toInt64, .long 0, .long 1] [] ⟨hx, hb, hml, hown, hts⟩ hE hw (HT.to (c_X6_in l G A (ML ma) F vd.toInt64 0 1) (V2 := some (.int 0)) (congrArg (fun y => some (Value.int y)) (bI_f hovd.1)) rfl) (va_cwS 3 hts gX6_unit_X6_in rfl rfl rfl (by decide +kernel) ⟨Nat.le_of_ble_eq_true rfl, Nat.le_of_ble_eq_true rfl⟩) rfl hl.1 rfl (Nat.le_of_ble_eq_true rfl) dX6_unit_31 ⟨Nat.le_of_ble_eq_true rfl, Nat.le_of_ble_eq_true rfl⟩ rfl (fun H locs hw => ?_)
                refine lv_if_ne (tgt := 39) hx hb dX6_unit_34 (by decide) (fun c_34 => ?_) (fun c_34 => ?_)
                · skip
                  first | exact absurd c_34 (by decide) | exact absurd (by decide) c_34
                · skip
                  refine lv_iconst (v := (-1)) hx hb dX6_unit_37 (by decide) ?_
                  exact h_iretP hx hb hlk hr hw dX6_unit_38 (by simp only [sp_unit, xvs, xvt, xvu, cif_f hovd.2, hld]) (by simp only [sp_unit, xvs, xvt, xvu, cif_f hovd.2, hld]; exact ⟨_, hM, rel_v hrel⟩)
              · skip
                refine h_callS (st1 := [.int 1]) [.long ((0 : Int32).toInt64), .long 0, .long 1] [] ⟨hx, hb, hml, hown, hts⟩ hE hw (HT.to (c_X6_in l G A (ML ma) F (0 : Int32).toInt64 0 1) (V2 := some (.int 1)) (congrArg (fun y => some (Value.int y)) (bI_t (show inL (0 : Int32).toInt64 0 1 from ⟨by decide, by decide⟩))) rfl) (va_cwS 3 hts gX6_unit_X6_in rfl rfl rfl (by decide +kernel) ⟨Nat.le_of_ble_eq_true rfl, Nat.le_of_ble_eq_true rfl⟩) rfl hl.1 rfl (Nat.le_of_ble_eq_true rfl) dX6_unit_31 ⟨Nat.le_of_ble_eq_true rfl, Nat.le_of_ble_eq_true rfl⟩ rfl (fun H locs hw => ?_)
                refine lv_if_ne (tgt := 39) hx hb dX6_unit_34 (by decide) (fun c_34 => ?_) (fun c_34 => ?_)
                · skip
                  refine lv_aload_n hx hb dX6_unit_39 rfl (lv_at hl 0 rfl) ?_
                  refine lv_aload_n hx hb dX6_unit_40 rfl (lv_at hl 0 rfl) ?_
                  refine h_get hx hb hE hw hts hinX6 hown (ci := 6) rfl 8 (by decide) lk_32 (fun _ h9 => h9) hM.ob rfl dX6_unit_41 ?_
                  refine lv_iload_n hx hb dX6_unit_44 rfl (lv_at hl 2 rfl) ?_
                  refine h_callV (st1 := []) [.ref (ma 8), .int (nI kvt)] [] ⟨hx, hb, hml, hown, hts⟩ hE hw (HT.to (c_X6_load l G A ma F _ _ _ _ _ _ _ _ hM 8 kvt (by decide) (by decide) hkvt) rfl (F3 := va_up F (ma 8) (eJ4 G (rg kvt))) (by rw [show rgq mrg kvt = rg kvt from hk4 kvt hkvt])) (cwV 2 hts gX6_unit_X6_load rfl rfl rfl (by decide +kernel) ⟨Nat.le_of_ble_eq_true rfl, Nat.le_of_ble_eq_true rfl⟩) hM.ob rfl rfl rfl hl.1 rfl (Nat.le_of_ble_eq_true rfl) dX6_unit_45 ⟨Nat.le_of_ble_eq_true rfl, Nat.le_of_ble_eq_true rfl⟩ rfl (fun H locs hw => ?_)
                  refine lv_aload_n hx hb dX6_unit_48 rfl (lv_at hl 0 rfl) ?_
                  refine lv_aload_n hx hb dX6_unit_49 rfl (lv_at hl 0 rfl) ?_
                  refine h_get hx hb hE hw hts hinX6 hown (ci := 6) rfl 9 (by decide) lk_35 (fun _ h9 => h9) (pt_ne hM.ob (hM.ne (i := 0) (j := 8) (by decide) (by decide) (by decide))) rfl dX6_unit_50 ?_
                  refine lv_iload_n hx hb dX6_unit_53 rfl (lv_at hl 3 rfl) ?_
                  refine h_callV (st1 := []) [.ref (ma 9), .int (nI ku)] [] ⟨hx, hb, hml, hown, hts⟩ hE hw (c_X6_loadUnit l G A ma (va_up F (ma 8) (eJ4 G (rg kvt))) _ _ _ _ _ _ _ _ (MW.setv hM (i := 8) (by decide) (by decide) (rg kvt)) 9 ku (by decide) (by decide) hku) (cwV 2 hts gX6_unit_X6_loadUnit rfl rfl rfl (by decide +kernel) ⟨Nat.le_of_ble_eq_true rfl, Nat.le_of_ble_eq_true rfl⟩) (pt_ne hM.ob (hM.ne (i := 0) (j := 8) (by decide) (by decide) (by decide))) rfl rfl rfl hl.1 rfl (Nat.le_of_ble_eq_true rfl) dX6_unit_54 ⟨Nat.le_of_ble_eq_true rfl, Nat.le_of_ble_eq_true rfl⟩ rfl (fun H locs hw => ?_)
                  refine lv_iload hx hb dX6_unit_57 (lv_at hl 4 rfl) ?_
                  refine lv_if_ne (tgt := 80) hx hb dX6_unit_59 (by decide) (fun c_59 => ?_) (fun c_59 => ?_)
                  · skip
                    first | exact absurd c_59 (by decide) | exact absurd (by decide) c_59
                  · skip
                    refine lv_aload_n hx hb dX6_unit_62 rfl (lv_at hl 0 rfl) ?_
                    refine h_get hx hb hE hw hts hinX6 hown (ci := 6) rfl 10 (by decide) lk_38 (fun _ h9 => h9) (pt_ne (pt_ne hM.ob (hM.ne (i := 0) (j := 8) (by decide) (by decide) (by decide))) (hM.ne (i := 0) (j := 9) (by decide) (by decide) (by decide))) rfl dX6_unit_63 ?_
                    refine lv_aload_n hx hb dX6_unit_66 rfl (lv_at hl 0 rfl) ?_
                    refine h_get hx hb hE hw hts hinX6 hown (ci := 6) rfl 8 (by decide) lk_32 (fun _ h9 => h9) (pt_ne (pt_ne hM.ob (hM.ne (i := 0) (j := 8) (by decide) (by decide) (by decide))) (hM.ne (i := 0) (j := 9) (by decide) (by decide) (by decide))) rfl dX6_unit_67 ?_
                    refine lv_aload_n hx hb dX6_unit_70 rfl (lv_at hl 0 rfl) ?_
                    refine h_get hx hb hE hw hts hinX6 hown (ci := 6) rfl 9 (by decide) lk_35 (fun _ h9 => h9) (pt_ne (pt_ne hM.ob (hM.ne (i := 0) (j := 8) (by decide) (by decide) (by decide))) (hM.ne (i := 0) (j := 9) (by decide) (by decide) (by decide))) rfl dX6_unit_71 ?_
                    refine h_callS (st1 := []) [.ref (ma 10), .ref (ma 8), .ref (ma 9)] [] ⟨hx, hb, hml, hown, hts⟩ hE hw (c_X6_times l G A (ML ma) (va_up (va_up F (ma 8) (eJ4 G (rg kvt))) (ma 9) (eJ4 G (uq4 ku))) (ma 10) (ma 8) (ma 9) (mv 10) (rg kvt) (uq4 ku) (pt_ne (pt_ne (hM.v (i := 10) (by decide) (by decide)) (hM.ne (i := 10) (j := 8) (by decide) (by decide) (by decide))) (hM.ne (i := 10) (j := 9) (by decide) (by decide) (by decide))) (pt_ne (pt_up (hM.v (i := 8) (by decide) (by decide))) (hM.ne (i := 8) (j := 9) (by decide) (by decide) (by decide))) (pt_up (pt_ne (hM.v (i := 9) (by decide) (by decide)) (hM.ne (i := 9) (j := 8) (by decide) (by decide) (by decide)))) (hM.ne (i := 10) (j := 8) (by decide) (by decide) (by decide)) (hM.ne (i := 10) (j := 9) (by decide) (by decide) (by decide))) (va_cwS 3 hts gX6_unit_X6_times rfl rfl rfl (by decide +kernel) ⟨Nat.le_of_ble_eq_true rfl, Nat.le_of_ble_eq_true rfl⟩) rfl hl.1 rfl (Nat.le_of_ble_eq_true rfl) dX6_unit_74 ⟨Nat.le_of_ble_eq_true rfl, Nat.le_of_ble_eq_true rfl⟩ rfl (fun H locs hw => ?_)
                    refine lv_goto (tgt := 95) hx hb dX6_unit_77 (by decide) ?_
                    refine lv_aload_n hx hb dX6_unit_95 rfl (lv_at hl 0 rfl) ?_
                    refine lv_iload_n hx hb dX6_unit_96 rfl (lv_at hl 1 rfl) ?_
                    refine lv_aload_n hx hb dX6_unit_97 rfl (lv_at hl 0 rfl) ?_
                    refine h_get hx hb hE hw hts hinX6 hown (ci := 6) rfl 10 (by decide) lk_38 (fun _ h9 => h9) (pt_ne (pt_ne (pt_ne hM.ob (hM.ne (i := 0) (j := 8) (by decide) (by decide) (by decide))) (hM.ne (i := 0) (j := 9) (by decide) (by decide) (by decide))) (hM.ne (i := 0) (j := 10) (by decide) (by decide) (by decide))) rfl dX6_unit_98 ?_
                    by_cases hh : qhigh (qmul (rg kvt) (uq4 ku))
                    · skip
                      refine h_callV (st1 := [.int (-3)]) [.int (nI kvs), .ref (ma 10)] [] ⟨hx, hb, hml, hown, hts⟩ hE hw (c_X6_holds_hi l G A ma (va_up (va_up (va_up F (ma 8) (eJ4 G (rg kvt))) (ma 9) (eJ4 G (uq4 ku))) (ma 10) (eJ4 G (qmul (rg kvt) (uq4 ku)))) _ _ _ _ _ _ _ _ (MW.setv (MW.setv (MW.setv hM (i := 8) (by decide) (by decide) (rg kvt)) (i := 9) (by decide) (by decide) (uq4 ku)) (i := 10) (by decide) (by decide) (qmul (rg kvt) (uq4 ku))) 10 kvs (qmul (rg kvt) (uq4 ku)) (by decide) (by decide) (pt_up (pt_ne (pt_ne (hM.v (i := 10) (by decide) (by decide)) (hM.ne (i := 10) (j := 8) (by decide) (by decide) (by decide))) (hM.ne (i := 10) (j := 9) (by decide) (by decide) (by decide)))) hkvs hh) (cwV 2 hts gX6_unit_X6_holds rfl rfl rfl (by decide +kernel) ⟨Nat.le_of_ble_eq_true rfl, Nat.le_of_ble_eq_true rfl⟩) (pt_ne (pt_ne (pt_ne hM.ob (hM.ne (i := 0) (j := 8) (by decide) (by decide) (by decide))) (hM.ne (i := 0) (j := 9) (by decide) (by decide) (by decide))) (hM.ne (i := 0) (j := 10) (by decide) (by decide) (by decide))) rfl rfl rfl hl.1 rfl (Nat.le_of_ble_eq_true rfl) dX6_unit_101 ⟨Nat.le_of_ble_eq_true rfl, Nat.le_of_ble_eq_true rfl⟩ rfl (fun H locs hw => ?_)
                      exact h_iretP hx hb hlk hr hw dX6_unit_104 (by simp only [sp_unit, xvs, xvt, xvu, cif_t (show ((0 : Int32) = 0 ∨ (0 : Int32) = 1) by decide), cif_T, or_true, true_or, cif_t hh, hld, qon_0]) (by simp only [sp_unit, xvs, xvt, xvu, qon_0, cif_t (show ((0 : Int32) = 0 ∨ (0 : Int32) = 1) by decide), cif_T, or_true, true_or, cif_t hh, hld]; exact ⟨_, (MW.setv (MW.setv (MW.setv hM (i := 8) (by decide) (by decide) (rg kvt)) (i := 9) (by decide) (by decide) (uq4 ku)) (i := 10) (by decide) (by decide) (qmul (rg kvt) (uq4 ku))), rel_v hrel⟩)
                    · skip
                      refine h_callV (st1 := [.int 0]) [.int (nI kvs), .ref (ma 10)] [] ⟨hx, hb, hml, hown, hts⟩ hE hw (c_X6_holds_lo l G A ma (va_up (va_up (va_up F (ma 8) (eJ4 G (rg kvt))) (ma 9) (eJ4 G (uq4 ku))) (ma 10) (eJ4 G (qmul (rg kvt) (uq4 ku)))) _ _ _ _ _ _ _ _ (MW.setv (MW.setv (MW.setv hM (i := 8) (by decide) (by decide) (rg kvt)) (i := 9) (by decide) (by decide) (uq4 ku)) (i := 10) (by decide) (by decide) (qmul (rg kvt) (uq4 ku))) 10 kvs (qmul (rg kvt) (uq4 ku)) (by decide) (by decide) (pt_up (pt_ne (pt_ne (hM.v (i := 10) (by decide) (by decide)) (hM.ne (i := 10) (j := 8) (by decide) (by decide) (by decide))) (hM.ne (i := 10) (j := 9) (by decide) (by decide) (by decide)))) hkvs hh) (cwV 2 hts gX6_unit_X6_holds rfl rfl rfl (by decide +kernel) ⟨Nat.le_of_ble_eq_true rfl, Nat.le_of_ble_eq_true rfl⟩) (pt_ne (pt_ne (pt_ne hM.ob (hM.ne (i := 0) (j := 8) (by decide) (by decide) (by decide))) (hM.ne (i := 0) (j := 9) (by decide) (by decide) (by decide))) (hM.ne (i := 0) (j := 10) (by decide) (by decide) (by decide))) rfl rfl rfl hl.1 rfl (Nat.le_of_ble_eq_true rfl) dX6_unit_101 ⟨Nat.le_of_ble_eq_true rfl, Nat.le_of_ble_eq_true rfl⟩ rfl (fun H locs hw => ?_)
                      exact h_iretP hx hb hlk hr hw dX6_unit_104 (by simp only [sp_unit, xvs, xvt, xvu, cif_t (show ((0 : Int32) = 0 ∨ (0 : Int32) = 1) by decide), cif_T, or_true, true_or, cif_f hh, hld, qon_0]) (by simp only [sp_unit, xvs, xvt, xvu, qon_0, cif_t (show ((0 : Int32) = 0 ∨ (0 : Int32) = 1) by decide), cif_T, or_true, true_or, cif_f hh, hld]; exact ⟨_, (MW.setr (MW.setv (MW.setv (MW.setv hM (i := 8) (by decide) (by decide) (rg kvt)) (i := 9) (by decide) (by decide) (uq4 ku)) (i := 10) (by decide) (by decide) (qmul (rg kvt) (uq4 ku))) (stq mrg kvs (qmul (rg kvt) (uq4 ku)))), rel_rg hrel hkvs hh⟩)
                · skip
                  first | exact absurd c_34 (by decide) | exact absurd (by decide) c_34
              · skip
                refine h_callS (st1 := [.int 1]) [.long ((1 : Int32).toInt64), .long 0, .long 1] [] ⟨hx, hb, hml, hown, hts⟩ hE hw (HT.to (c_X6_in l G A (ML ma) F (1 : Int32).toInt64 0 1) (V2 := some (.int 1)) (congrArg (fun y => some (Value.int y)) (bI_t (show inL (1 : Int32).toInt64 0 1 from ⟨by decide, by decide⟩))) rfl) (va_cwS 3 hts gX6_unit_X6_in rfl rfl rfl (by decide +kernel) ⟨Nat.le_of_ble_eq_true rfl, Nat.le_of_ble_eq_true rfl⟩) rfl hl.1 rfl (Nat.le_of_ble_eq_true rfl) dX6_unit_31 ⟨Nat.le_of_ble_eq_true rfl, Nat.le_of_ble_eq_true rfl⟩ rfl (fun H locs hw => ?_)
                refine lv_if_ne (tgt := 39) hx hb dX6_unit_34 (by decide) (fun c_34 => ?_) (fun c_34 => ?_)
                · skip
                  refine lv_aload_n hx hb dX6_unit_39 rfl (lv_at hl 0 rfl) ?_
                  refine lv_aload_n hx hb dX6_unit_40 rfl (lv_at hl 0 rfl) ?_
                  refine h_get hx hb hE hw hts hinX6 hown (ci := 6) rfl 8 (by decide) lk_32 (fun _ h9 => h9) hM.ob rfl dX6_unit_41 ?_
                  refine lv_iload_n hx hb dX6_unit_44 rfl (lv_at hl 2 rfl) ?_
                  refine h_callV (st1 := []) [.ref (ma 8), .int (nI kvt)] [] ⟨hx, hb, hml, hown, hts⟩ hE hw (HT.to (c_X6_load l G A ma F _ _ _ _ _ _ _ _ hM 8 kvt (by decide) (by decide) hkvt) rfl (F3 := va_up F (ma 8) (eJ4 G (rg kvt))) (by rw [show rgq mrg kvt = rg kvt from hk4 kvt hkvt])) (cwV 2 hts gX6_unit_X6_load rfl rfl rfl (by decide +kernel) ⟨Nat.le_of_ble_eq_true rfl, Nat.le_of_ble_eq_true rfl⟩) hM.ob rfl rfl rfl hl.1 rfl (Nat.le_of_ble_eq_true rfl) dX6_unit_45 ⟨Nat.le_of_ble_eq_true rfl, Nat.le_of_ble_eq_true rfl⟩ rfl (fun H locs hw => ?_)
                  refine lv_aload_n hx hb dX6_unit_48 rfl (lv_at hl 0 rfl) ?_
                  refine lv_aload_n hx hb dX6_unit_49 rfl (lv_at hl 0 rfl) ?_
                  refine h_get hx hb hE hw hts hinX6 hown (ci := 6) rfl 9 (by decide) lk_35 (fun _ h9 => h9) (pt_ne hM.ob (hM.ne (i := 0) (j := 8) (by decide) (by decide) (by decide))) rfl dX6_unit_50 ?_
                  refine lv_iload_n hx hb dX6_unit_53 rfl (lv_at hl 3 rfl) ?_
                  refine h_callV (st1 := []) [.ref (ma 9), .int (nI ku)] [] ⟨hx, hb, hml, hown, hts⟩ hE hw (c_X6_loadUnit l G A ma (va_up F (ma 8) (eJ4 G (rg kvt))) _ _ _ _ _ _ _ _ (MW.setv hM (i := 8) (by decide) (by decide) (rg kvt)) 9 ku (by decide) (by decide) hku) (cwV 2 hts gX6_unit_X6_loadUnit rfl rfl rfl (by decide +kernel) ⟨Nat.le_of_ble_eq_true rfl, Nat.le_of_ble_eq_true rfl⟩) (pt_ne hM.ob (hM.ne (i := 0) (j := 8) (by decide) (by decide) (by decide))) rfl rfl rfl hl.1 rfl (Nat.le_of_ble_eq_true rfl) dX6_unit_54 ⟨Nat.le_of_ble_eq_true rfl, Nat.le_of_ble_eq_true rfl⟩ rfl (fun H locs hw => ?_)
                  refine lv_iload hx hb dX6_unit_57 (lv_at hl 4 rfl) ?_
                  refine lv_if_ne (tgt := 80) hx hb dX6_unit_59 (by decide) (fun c_59 => ?_) (fun c_59 => ?_)
                  · skip
                    refine lv_aload_n hx hb dX6_unit_80 rfl (lv_at hl 0 rfl) ?_
                    refine h_get hx hb hE hw hts hinX6 hown (ci := 6) rfl 10 (by decide) lk_38 (fun _ h9 => h9) (pt_ne (pt_ne hM.ob (hM.ne (i := 0) (j := 8) (by decide) (by decide) (by decide))) (hM.ne (i := 0) (j := 9) (by decide) (by decide) (by decide))) rfl dX6_unit_81 ?_
                    refine lv_aload_n hx hb dX6_unit_84 rfl (lv_at hl 0 rfl) ?_
                    refine h_get hx hb hE hw hts hinX6 hown (ci := 6) rfl 9 (by decide) lk_35 (fun _ h9 => h9) (pt_ne (pt_ne hM.ob (hM.ne (i := 0) (j := 8) (by decide) (by decide) (by decide))) (hM.ne (i := 0) (j := 9) (by decide) (by decide) (by decide))) rfl dX6_unit_85 ?_
                    refine lv_aload_n hx hb dX6_unit_88 rfl (lv_at hl 0 rfl) ?_
                    refine h_get hx hb hE hw hts hinX6 hown (ci := 6) rfl 8 (by decide) lk_32 (fun _ h9 => h9) (pt_ne (pt_ne hM.ob (hM.ne (i := 0) (j := 8) (by decide) (by decide) (by decide))) (hM.ne (i := 0) (j := 9) (by decide) (by decide) (by decide))) rfl dX6_unit_89 ?_
                    refine h_callS (st1 := []) [.ref (ma 10), .ref (ma 9), .ref (ma 8)] [] ⟨hx, hb, hml, hown, hts⟩ hE hw (c_X6_times l G A (ML ma) (va_up (va_up F (ma 8) (eJ4 G (rg kvt))) (ma 9) (eJ4 G (uq4 ku))) (ma 10) (ma 9) (ma 8) (mv 10) (uq4 ku) (rg kvt) (pt_ne (pt_ne (hM.v (i := 10) (by decide) (by decide)) (hM.ne (i := 10) (j := 8) (by decide) (by decide) (by decide))) (hM.ne (i := 10) (j := 9) (by decide) (by decide) (by decide))) (pt_up (pt_ne (hM.v (i := 9) (by decide) (by decide)) (hM.ne (i := 9) (j := 8) (by decide) (by decide) (by decide)))) (pt_ne (pt_up (hM.v (i := 8) (by decide) (by decide))) (hM.ne (i := 8) (j := 9) (by decide) (by decide) (by decide))) (hM.ne (i := 10) (j := 9) (by decide) (by decide) (by decide)) (hM.ne (i := 10) (j := 8) (by decide) (by decide) (by decide))) (va_cwS 3 hts gX6_unit_X6_times rfl rfl rfl (by decide +kernel) ⟨Nat.le_of_ble_eq_true rfl, Nat.le_of_ble_eq_true rfl⟩) rfl hl.1 rfl (Nat.le_of_ble_eq_true rfl) dX6_unit_92 ⟨Nat.le_of_ble_eq_true rfl, Nat.le_of_ble_eq_true rfl⟩ rfl (fun H locs hw => ?_)
                    refine lv_aload_n hx hb dX6_unit_95 rfl (lv_at hl 0 rfl) ?_
                    refine lv_iload_n hx hb dX6_unit_96 rfl (lv_at hl 1 rfl) ?_
                    refine lv_aload_n hx hb dX6_unit_97 rfl (lv_at hl 0 rfl) ?_
                    refine h_get hx hb hE hw hts hinX6 hown (ci := 6) rfl 10 (by decide) lk_38 (fun _ h9 => h9) (pt_ne (pt_ne (pt_ne hM.ob (hM.ne (i := 0) (j := 8) (by decide) (by decide) (by decide))) (hM.ne (i := 0) (j := 9) (by decide) (by decide) (by decide))) (hM.ne (i := 0) (j := 10) (by decide) (by decide) (by decide))) rfl dX6_unit_98 ?_
                    by_cases hh : qhigh (qmul (uq4 ku) (rg kvt))
                    · skip
                      refine h_callV (st1 := [.int (-3)]) [.int (nI kvs), .ref (ma 10)] [] ⟨hx, hb, hml, hown, hts⟩ hE hw (c_X6_holds_hi l G A ma (va_up (va_up (va_up F (ma 8) (eJ4 G (rg kvt))) (ma 9) (eJ4 G (uq4 ku))) (ma 10) (eJ4 G (qmul (uq4 ku) (rg kvt)))) _ _ _ _ _ _ _ _ (MW.setv (MW.setv (MW.setv hM (i := 8) (by decide) (by decide) (rg kvt)) (i := 9) (by decide) (by decide) (uq4 ku)) (i := 10) (by decide) (by decide) (qmul (uq4 ku) (rg kvt))) 10 kvs (qmul (uq4 ku) (rg kvt)) (by decide) (by decide) (pt_up (pt_ne (pt_ne (hM.v (i := 10) (by decide) (by decide)) (hM.ne (i := 10) (j := 8) (by decide) (by decide) (by decide))) (hM.ne (i := 10) (j := 9) (by decide) (by decide) (by decide)))) hkvs hh) (cwV 2 hts gX6_unit_X6_holds rfl rfl rfl (by decide +kernel) ⟨Nat.le_of_ble_eq_true rfl, Nat.le_of_ble_eq_true rfl⟩) (pt_ne (pt_ne (pt_ne hM.ob (hM.ne (i := 0) (j := 8) (by decide) (by decide) (by decide))) (hM.ne (i := 0) (j := 9) (by decide) (by decide) (by decide))) (hM.ne (i := 0) (j := 10) (by decide) (by decide) (by decide))) rfl rfl rfl hl.1 rfl (Nat.le_of_ble_eq_true rfl) dX6_unit_101 ⟨Nat.le_of_ble_eq_true rfl, Nat.le_of_ble_eq_true rfl⟩ rfl (fun H locs hw => ?_)
                      exact h_iretP hx hb hlk hr hw dX6_unit_104 (by simp only [sp_unit, xvs, xvt, xvu, cif_t (show ((1 : Int32) = 0 ∨ (1 : Int32) = 1) by decide), cif_T, or_true, true_or, cif_t hh, hld, qon_1]) (by simp only [sp_unit, xvs, xvt, xvu, qon_1, cif_t (show ((1 : Int32) = 0 ∨ (1 : Int32) = 1) by decide), cif_T, or_true, true_or, cif_t hh, hld]; exact ⟨_, (MW.setv (MW.setv (MW.setv hM (i := 8) (by decide) (by decide) (rg kvt)) (i := 9) (by decide) (by decide) (uq4 ku)) (i := 10) (by decide) (by decide) (qmul (uq4 ku) (rg kvt))), rel_v hrel⟩)
                    · skip
                      refine h_callV (st1 := [.int 0]) [.int (nI kvs), .ref (ma 10)] [] ⟨hx, hb, hml, hown, hts⟩ hE hw (c_X6_holds_lo l G A ma (va_up (va_up (va_up F (ma 8) (eJ4 G (rg kvt))) (ma 9) (eJ4 G (uq4 ku))) (ma 10) (eJ4 G (qmul (uq4 ku) (rg kvt)))) _ _ _ _ _ _ _ _ (MW.setv (MW.setv (MW.setv hM (i := 8) (by decide) (by decide) (rg kvt)) (i := 9) (by decide) (by decide) (uq4 ku)) (i := 10) (by decide) (by decide) (qmul (uq4 ku) (rg kvt))) 10 kvs (qmul (uq4 ku) (rg kvt)) (by decide) (by decide) (pt_up (pt_ne (pt_ne (hM.v (i := 10) (by decide) (by decide)) (hM.ne (i := 10) (j := 8) (by decide) (by decide) (by decide))) (hM.ne (i := 10) (j := 9) (by decide) (by decide) (by decide)))) hkvs hh) (cwV 2 hts gX6_unit_X6_holds rfl rfl rfl (by decide +kernel) ⟨Nat.le_of_ble_eq_true rfl, Nat.le_of_ble_eq_true rfl⟩) (pt_ne (pt_ne (pt_ne hM.ob (hM.ne (i := 0) (j := 8) (by decide) (by decide) (by decide))) (hM.ne (i := 0) (j := 9) (by decide) (by decide) (by decide))) (hM.ne (i := 0) (j := 10) (by decide) (by decide) (by decide))) rfl rfl rfl hl.1 rfl (Nat.le_of_ble_eq_true rfl) dX6_unit_101 ⟨Nat.le_of_ble_eq_true rfl, Nat.le_of_ble_eq_true rfl⟩ rfl (fun H locs hw => ?_)
                      exact h_iretP hx hb hlk hr hw dX6_unit_104 (by simp only [sp_unit, xvs, xvt, xvu, cif_t (show ((1 : Int32) = 0 ∨ (1 : Int32) = 1) by decide), cif_T, or_true, true_or, cif_f hh, hld, qon_1]) (by simp only [sp_unit, xvs, xvt, xvu, qon_1, cif_t (show ((1 : Int32) = 0 ∨ (1 : Int32) = 1) by decide), cif_T, or_true, true_or, cif_f hh, hld]; exact ⟨_, (MW.setr (MW.setv (MW.setv (MW.setv hM (i := 8) (by decide) (by decide) (rg kvt)) (i := 9) (by decide) (by decide) (uq4 ku)) (i := 10) (by decide) (by decide) (qmul (uq4 ku) (rg kvt))) (stq mrg kvs (qmul (uq4 ku) (rg kvt)))), rel_rg hrel hkvs hh⟩)
                  · skip
                    first | exact absurd c_59 (by decide) | exact absurd (by decide) c_59
                · skip
                  first | exact absurd c_34 (by decide) | exact absurd (by decide) c_34

set_option maxHeartbeats 4000000 in
set_option maxRecDepth 100000 in
theorem c_X6_work (l : Launch) (G : GG) (A : Nat → Prop) (ma : Nat → Nat) (F : FM) (rg : Nat → Q4) (kd : Nat → Int32) (z : Nat → Nat) (pl : Nat → Nat → Int64) (cnt : Nat) (hR : MR G ma (rg, kd, z, pl, cnt) F) (hz : ∀ k, k < 6 → z k ≤ 16) (hkd : ∀ k, k < 6 → kd k = -1 ∨ 0 ≤ kd k) (hc12 : cnt ≤ 12) (vs : Int32) (vh : Int32) (vt : Int32) (vu : Int32) : PT l yX6_work wsX6_work { frames := 4, cells := 0, slots := 0, locals := 88 } G A (ML ma) [.ref (ma 0), .int vs, .int vh, .int vt, .int vu] F (some (.int (sp_work (rg, kd, z, pl, cnt) vs vh vt vu).1)) (MR G ma (sp_work (rg, kd, z, pl, cnt) vs vh vt vu).2) := by
  refine PT.ofW (cc := cX6_work) (maxL := 6) (ret := (some .int)) (plainFor_of_name (by decide)) rfl (Nat.le_of_ble_eq_true rfl) ?_
  intro p e s m below meth c ls hx hb hr hml hown hts hlk hE hw hl
  have hl : lv_has ls 6 [(0, .ref (ma 0)), (1, .int vs), (2, .int vh), (3, .int vt), (4, .int vu)] := hl
  have hown : s.vm.findClass RX6 = some m.cls := hown
  have cl_137 := hts (.constantLong RX6 137 (3)) (by decide +kernel)
  have lk_32 := hts (.fieldLink RX6 32 "FourPartsModel" "x" "[J") (by decide +kernel)
  have hinX6 : ∀ w ∈ u_ws RX6 TX6 18, w ∈ wsX6_work := by decide +kernel
  have lk_35 := hts (.fieldLink RX6 35 "FourPartsModel" "y" "[J") (by decide +kernel)
  have lk_38 := hts (.fieldLink RX6 38 "FourPartsModel" "z" "[J") (by decide +kernel)
  obtain ⟨⟨mk, msz, msh, mrg, mfc, mmd, mv, mcn⟩, hM, hrel⟩ := hR
  obtain ⟨hk1, hk2, hk3, hk4, hk5, hk6⟩ := id hrel
  refine lv_iload_n hx hb dX6_work_0 rfl (lv_at hl 1 rfl) ?_
  rcases ix_cases 16 (by decide) vs with hvs | ⟨kvs, hkvs, rfl⟩
  · skip
    have xvs := ix_none hvs
    refine h_callS (st1 := [.int 0]) [.int vs] [] ⟨hx, hb, hml, hown, hts⟩ hE hw (HT.to (c_X6_isRegister l G A (ML ma) F vs) (V2 := some (.int 0)) (congrArg (fun y => some (Value.int y)) (bI_f (show ¬ inL vs.toInt64 0 15 from inL_out (n := 15) (by decide) hvs))) rfl) (va_cwS 1 hts gX6_work_X6_isRegister rfl rfl rfl (by decide +kernel) ⟨Nat.le_of_ble_eq_true rfl, Nat.le_of_ble_eq_true rfl⟩) rfl hl.1 rfl (Nat.le_of_ble_eq_true rfl) dX6_work_1 ⟨Nat.le_of_ble_eq_true rfl, Nat.le_of_ble_eq_true rfl⟩ rfl (fun H locs hw => ?_)
    refine lv_if_eq (tgt := 39) hx hb dX6_work_4 (by decide) (fun c_4 => ?_) (fun c_4 => ?_)
    · skip
      refine lv_iconst (v := (-1)) hx hb dX6_work_39 (by decide) ?_
      exact h_iretP hx hb hlk hr hw dX6_work_40 (by simp only [sp_work, xvs, hld]) (by simp only [sp_work, xvs, hld]; exact ⟨_, hM, rel_v hrel⟩)
    · skip
      first | exact absurd c_4 (by decide) | exact absurd (by decide) c_4
  · skip
    have xvs := ix_in (n := 16) hkvs (by decide)
    refine h_callS (st1 := [.int 1]) [.int (nI kvs)] [] ⟨hx, hb, hml, hown, hts⟩ hE hw (HT.to (c_X6_isRegister l G A (ML ma) F (nI kvs)) (V2 := some (.int 1)) (congrArg (fun y => some (Value.int y)) (bI_t (show inL (nI kvs).toInt64 0 15 from inL_in (n := 15) (by decide) hkvs))) rfl) (va_cwS 1 hts gX6_work_X6_isRegister rfl rfl rfl (by decide +kernel) ⟨Nat.le_of_ble_eq_true rfl, Nat.le_of_ble_eq_true rfl⟩) rfl hl.1 rfl (Nat.le_of_ble_eq_true rfl) dX6_work_1 ⟨Nat.le_of_ble_eq_true rfl, Nat.le_of_ble_eq_true rfl⟩ rfl (fun H locs hw => ?_)
    refine lv_if_eq (tgt := 39) hx hb dX6_work_4 (by decide) (fun c_4 => ?_) (fun c_4 => ?_)
    · skip
      first | exact absurd c_4 (by decide) | exact absurd (by decide) c_4
    · skip
      refine lv_iload_n hx hb dX6_work_7 rfl (lv_at hl 2 rfl) ?_
      refine lv_i2l hx hb dX6_work_8 rfl ?_
      refine lv_lconst (v := 0) hx hb dX6_work_9 (by decide) ?_
      refine lv_ldc2 hx hb (v := (3)) hown cl_137 dX6_work_10 ?_
      rcases in_3 vh with hovh | rfl | rfl | rfl | rfl
      · skip
        refine h_callS (st1 := [.int 0]) [.long vh.toInt64, .long 0, .long (3)] [] ⟨hx, hb, hml, hown, hts⟩ hE hw (HT.to (c_X6_in l G A (ML ma) F vh.toInt64 0 3) (V2 := some (.int 0)) (congrArg (fun y => some (Value.int y)) (bI_f hovh.1)) rfl) (va_cwS 3 hts gX6_work_X6_in rfl rfl rfl (by decide +kernel) ⟨Nat.le_of_ble_eq_true rfl, Nat.le_of_ble_eq_true rfl⟩) rfl hl.1 rfl (Nat.le_of_ble_eq_true rfl) dX6_work_13 ⟨Nat.le_of_ble_eq_true rfl, Nat.le_of_ble_eq_true rfl⟩ rfl (fun H locs hw => ?_)
        refine lv_if_eq (tgt := 39) hx hb dX6_work_16 (by decide) (fun c_16 => ?_) (fun c_16 => ?_)
        · skip
          refine lv_iconst (v := (-1)) hx hb dX6_work_39 (by decide) ?_
          exact h_iretP hx hb hlk hr hw dX6_work_40 (by rw [sp_work_bad hovh.2.1 hovh.2.2.1 hovh.2.2.2.1 hovh.2.2.2.2]) (by rw [sp_work_bad hovh.2.1 hovh.2.2.1 hovh.2.2.2.1 hovh.2.2.2.2]; exact ⟨_, hM, rel_v hrel⟩)
        · skip
          first | exact absurd c_16 (by decide) | exact absurd (by decide) c_16
      · skip
        refine h_callS (st1 := [.int 1]) [.long ((0 : Int32).toInt64), .long 0, .long (3)] [] ⟨hx, hb, hml, hown, hts⟩ hE hw (HT.to (c_X6_in l G A (ML ma) F (0 : Int32).toInt64 0 3) (V2 := some (.int 1)) (congrArg (fun y => some (Value.int y)) (bI_t (show inL (0 : Int32).toInt64 0 3 from ⟨by decide, by decide⟩))) rfl) (va_cwS 3 hts gX6_work_X6_in rfl rfl rfl (by decide +kernel) ⟨Nat.le_of_ble_eq_true rfl, Nat.le_of_ble_eq_true rfl⟩) rfl hl.1 rfl (Nat.le_of_ble_eq_true rfl) dX6_work_13 ⟨Nat.le_of_ble_eq_true rfl, Nat.le_of_ble_eq_true rfl⟩ rfl (fun H locs hw => ?_)
        refine lv_if_eq (tgt := 39) hx hb dX6_work_16 (by decide) (fun c_16 => ?_) (fun c_16 => ?_)
        · skip
          first | exact absurd c_16 (by decide) | exact absurd (by decide) c_16
        · skip
          refine lv_iload_n hx hb dX6_work_19 rfl (lv_at hl 3 rfl) ?_
          rcases ix_cases 16 (by decide) vt with hvt | ⟨kvt, hkvt, rfl⟩
          · skip
            have xvt := ix_none hvt
            refine h_callS (st1 := [.int 0]) [.int vt] [] ⟨hx, hb, hml, hown, hts⟩ hE hw (HT.to (c_X6_isRegister l G A (ML ma) F vt) (V2 := some (.int 0)) (congrArg (fun y => some (Value.int y)) (bI_f (show ¬ inL vt.toInt64 0 15 from inL_out (n := 15) (by decide) hvt))) rfl) (va_cwS 1 hts gX6_work_X6_isRegister rfl rfl rfl (by decide +kernel) ⟨Nat.le_of_ble_eq_true rfl, Nat.le_of_ble_eq_true rfl⟩) rfl hl.1 rfl (Nat.le_of_ble_eq_true rfl) dX6_work_20 ⟨Nat.le_of_ble_eq_true rfl, Nat.le_of_ble_eq_true rfl⟩ rfl (fun H locs hw => ?_)
            refine lv_if_eq (tgt := 39) hx hb dX6_work_23 (by decide) (fun c_23 => ?_) (fun c_23 => ?_)
            · skip
              refine lv_iconst (v := (-1)) hx hb dX6_work_39 (by decide) ?_
              exact h_iretP hx hb hlk hr hw dX6_work_40 (by simp only [sp_work, xvs, xvt, qadd, cif_T, cif_F, show ((0 : Int32) = 3) = False from eq_false (by decide), hld]) (by simp only [sp_work, xvs, xvt, qadd, cif_T, cif_F, show ((0 : Int32) = 3) = False from eq_false (by decide), hld]; exact ⟨_, hM, rel_v hrel⟩)
            · skip
              first | exact absurd c_23 (by decide) | exact absurd (by decide) c_23
          · skip
            have xvt := ix_in (n := 16) hkvt (by decide)
            refine h_callS (st1 := [.int 1]) [.int (nI kvt)] [] ⟨hx, hb, hml, hown, hts⟩ hE hw (HT.to (c_X6_isRegister l G A (ML ma) F (nI kvt)) (V2 := some (.int 1)) (congrArg (fun y => some (Value.int y)) (bI_t (show inL (nI kvt).toInt64 0 15 from inL_in (n := 15) (by decide) hkvt))) rfl) (va_cwS 1 hts gX6_work_X6_isRegister rfl rfl rfl (by decide +kernel) ⟨Nat.le_of_ble_eq_true rfl, Nat.le_of_ble_eq_true rfl⟩) rfl hl.1 rfl (Nat.le_of_ble_eq_true rfl) dX6_work_20 ⟨Nat.le_of_ble_eq_true rfl, Nat.le_of_ble_eq_true rfl⟩ rfl (fun H locs hw => ?_)
            refine lv_if_eq (tgt := 39) hx hb dX6_work_23 (by decide) (fun c_23 => ?_) (fun c_23 => ?_)
            · skip
              first | exact absurd c_23 (by decide) | exact absurd (by decide) c_23
            · skip
              refine lv_iload_n hx hb dX6_work_26 rfl (lv_at hl 2 rfl) ?_
              refine lv_iconst (v := 3) hx hb dX6_work_27 (by decide) ?_
              refine lv_icmp_ge (tgt := 41) hx hb dX6_work_28 (by decide) (fun c_28 => ?_) (fun c_28 => ?_)
              · skip
                first | exact absurd c_28 (by decide) | exact absurd (by decide) c_28
              · skip
                refine lv_iload hx hb dX6_work_31 (lv_at hl 4 rfl) ?_
                rcases ix_cases 16 (by decide) vu with hvu | ⟨kvu, hkvu, rfl⟩
                · skip
                  have xvu := ix_none hvu
                  refine h_callS (st1 := [.int 0]) [.int vu] [] ⟨hx, hb, hml, hown, hts⟩ hE hw (HT.to (c_X6_isRegister l G A (ML ma) F vu) (V2 := some (.int 0)) (congrArg (fun y => some (Value.int y)) (bI_f (show ¬ inL vu.toInt64 0 15 from inL_out (n := 15) (by decide) hvu))) rfl) (va_cwS 1 hts gX6_work_X6_isRegister rfl rfl rfl (by decide +kernel) ⟨Nat.le_of_ble_eq_true rfl, Nat.le_of_ble_eq_true rfl⟩) rfl hl.1 rfl (Nat.le_of_ble_eq_true rfl) dX6_work_33 ⟨Nat.le_of_ble_eq_true rfl, Nat.le_of_ble_eq_true rfl⟩ rfl (fun H locs hw => ?_)
                  refine lv_if_ne (tgt := 41) hx hb dX6_work_36 (by decide) (fun c_36 => ?_) (fun c_36 => ?_)
                  · skip
                    first | exact absurd c_36 (by decide) | exact absurd (by decide) c_36
                  · skip
                    refine lv_iconst (v := (-1)) hx hb dX6_work_39 (by decide) ?_
                    exact h_iretP hx hb hlk hr hw dX6_work_40 (by simp only [sp_work, xvs, xvt, xvu, qadd, cif_T, cif_F, show ((0 : Int32) = 3) = False from eq_false (by decide), hld]) (by simp only [sp_work, xvs, xvt, xvu, qadd, cif_T, cif_F, show ((0 : Int32) = 3) = False from eq_false (by decide), hld]; exact ⟨_, hM, rel_v hrel⟩)
                · skip
                  have xvu := ix_in (n := 16) hkvu (by decide)
                  refine h_callS (st1 := [.int 1]) [.int (nI kvu)] [] ⟨hx, hb, hml, hown, hts⟩ hE hw (HT.to (c_X6_isRegister l G A (ML ma) F (nI kvu)) (V2 := some (.int 1)) (congrArg (fun y => some (Value.int y)) (bI_t (show inL (nI kvu).toInt64 0 15 from inL_in (n := 15) (by decide) hkvu))) rfl) (va_cwS 1 hts gX6_work_X6_isRegister rfl rfl rfl (by decide +kernel) ⟨Nat.le_of_ble_eq_true rfl, Nat.le_of_ble_eq_true rfl⟩) rfl hl.1 rfl (Nat.le_of_ble_eq_true rfl) dX6_work_33 ⟨Nat.le_of_ble_eq_true rfl, Nat.le_of_ble_eq_true rfl⟩ rfl (fun H locs hw => ?_)
                  refine lv_if_ne (tgt := 41) hx hb dX6_work_36 (by decide) (fun c_36 => ?_) (fun c_36 => ?_)
                  · skip
                    refine lv_aload_n hx hb dX6_work_41 rfl (lv_at hl 0 rfl) ?_
                    refine lv_aload_n hx hb dX6_work_42 rfl (lv_at hl 0 rfl) ?_
                    refine h_get hx hb hE hw hts hinX6 hown (ci := 6) rfl 8 (by decide) lk_32 (fun _ h9 => h9) hM.ob rfl dX6_work_43 ?_
                    refine lv_iload_n hx hb dX6_work_46 rfl (lv_at hl 3 rfl) ?_
                    refine h_callV (st1 := []) [.ref (ma 8), .int (nI kvt)] [] ⟨hx, hb, hml, hown, hts⟩ hE hw (HT.to (c_X6_load l G A ma F _ _ _ _ _ _ _ _ hM 8 kvt (by decide) (by decide) hkvt) rfl (F3 := va_up F (ma 8) (eJ4 G (rg kvt))) (by rw [show rgq mrg kvt = rg kvt from hk4 kvt hkvt])) (cwV 2 hts gX6_work_X6_load rfl rfl rfl (by decide +kernel) ⟨Nat.le_of_ble_eq_true rfl, Nat.le_of_ble_eq_true rfl⟩) hM.ob rfl rfl rfl hl.1 rfl (Nat.le_of_ble_eq_true rfl) dX6_work_47 ⟨Nat.le_of_ble_eq_true rfl, Nat.le_of_ble_eq_true rfl⟩ rfl (fun H locs hw => ?_)
                    refine lv_iload_n hx hb dX6_work_50 rfl (lv_at hl 2 rfl) ?_
                    refine lv_iconst (v := 3) hx hb dX6_work_51 (by decide) ?_
                    refine lv_icmp_ne (tgt := 72) hx hb dX6_work_52 (by decide) (fun c_52 => ?_) (fun c_52 => ?_)
                    · skip
                      refine lv_aload_n hx hb dX6_work_72 rfl (lv_at hl 0 rfl) ?_
                      refine lv_aload_n hx hb dX6_work_73 rfl (lv_at hl 0 rfl) ?_
                      refine h_get hx hb hE hw hts hinX6 hown (ci := 6) rfl 9 (by decide) lk_35 (fun _ h9 => h9) (pt_ne hM.ob (hM.ne (i := 0) (j := 8) (by decide) (by decide) (by decide))) rfl dX6_work_74 ?_
                      refine lv_iload hx hb dX6_work_77 (lv_at hl 4 rfl) ?_
                      refine h_callV (st1 := []) [.ref (ma 9), .int (nI kvu)] [] ⟨hx, hb, hml, hown, hts⟩ hE hw (HT.to (c_X6_load l G A ma (va_up F (ma 8) (eJ4 G (rg kvt))) _ _ _ _ _ _ _ _ (MW.setv hM (i := 8) (by decide) (by decide) (rg kvt)) 9 kvu (by decide) (by decide) hkvu) rfl (F3 := va_up (va_up F (ma 8) (eJ4 G (rg kvt))) (ma 9) (eJ4 G (rg kvu))) (by rw [show rgq mrg kvu = rg kvu from hk4 kvu hkvu])) (cwV 2 hts gX6_work_X6_load rfl rfl rfl (by decide +kernel) ⟨Nat.le_of_ble_eq_true rfl, Nat.le_of_ble_eq_true rfl⟩) (pt_ne hM.ob (hM.ne (i := 0) (j := 8) (by decide) (by decide) (by decide))) rfl rfl rfl hl.1 rfl (Nat.le_of_ble_eq_true rfl) dX6_work_79 ⟨Nat.le_of_ble_eq_true rfl, Nat.le_of_ble_eq_true rfl⟩ rfl (fun H locs hw => ?_)
                      refine lv_iload_n hx hb dX6_work_82 rfl (lv_at hl 2 rfl) ?_
                      refine lv_iconst (v := 2) hx hb dX6_work_83 (by decide) ?_
                      refine lv_icmp_ne (tgt := 112) hx hb dX6_work_84 (by decide) (fun c_84 => ?_) (fun c_84 => ?_)
                      · skip
                        refine lv_iconst (v := 0) hx hb dX6_work_112 (by decide) ?_
                        refine lv_istore (lv' := [(5, .int 0), (0, .ref (ma 0)), (1, .int (nI kvs)), (2, .int 0), (3, .int (nI kvt)), (4, .int (nI kvu))]) hx hb dX6_work_113 hl (by decide) rfl (fun ls hl => ?_)
                        refine lv_iload hx hb dX6_work_115 (lv_at hl 0 rfl) ?_
                        refine lv_iconst (v := 4) hx hb dX6_work_117 (by decide) ?_
                        refine lv_icmp_ge (tgt := 171) hx hb dX6_work_118 (by decide) (fun c_118 => ?_) (fun c_118 => ?_)
                        · skip
                          first | exact absurd c_118 (by decide) | exact absurd (by decide) c_118
                        · skip
                          refine lv_aload_n hx hb dX6_work_121 rfl (lv_at hl 1 rfl) ?_
                          refine h_get hx hb hE hw hts hinX6 hown (ci := 6) rfl 10 (by decide) lk_38 (fun _ h9 => h9) (pt_ne (pt_ne hM.ob (hM.ne (i := 0) (j := 8) (by decide) (by decide) (by decide))) (hM.ne (i := 0) (j := 9) (by decide) (by decide) (by decide))) rfl dX6_work_122 ?_
                          refine lv_iload hx hb dX6_work_125 (lv_at hl 0 rfl) ?_
                          refine lv_iload_n hx hb dX6_work_127 rfl (lv_at hl 3 rfl) ?_
                          refine lv_if_ne (tgt := 149) hx hb dX6_work_128 (by decide) (fun c_128 => ?_) (fun c_128 => ?_)
                          · skip
                            first | exact absurd c_128 (by decide) | exact absurd (by decide) c_128
                          · skip
                            refine lv_aload_n hx hb dX6_work_131 rfl (lv_at hl 1 rfl) ?_
                            refine h_get hx hb hE hw hts hinX6 hown (ci := 6) rfl 8 (by decide) lk_32 (fun _ h9 => h9) (pt_ne (pt_ne hM.ob (hM.ne (i := 0) (j := 8) (by decide) (by decide) (by decide))) (hM.ne (i := 0) (j := 9) (by decide) (by decide) (by decide))) rfl dX6_work_132 ?_
                            refine lv_iload hx hb dX6_work_135 (lv_at hl 0 rfl) ?_
                            refine h_lald hx hb hE hw (pt_ne (pt_up (hM.v (i := 8) (by decide) (by decide))) (hM.ne (i := 8) (j := 9) (by decide) (by decide) (by decide))) (n := 4) (vp_in_nI (n := 0) (N := 4) (by decide) (by decide)) (v := (rg kvt).1) rfl dX6_work_137 ?_
                            refine lv_aload_n hx hb dX6_work_138 rfl (lv_at hl 1 rfl) ?_
                            refine h_get hx hb hE hw hts hinX6 hown (ci := 6) rfl 9 (by decide) lk_35 (fun _ h9 => h9) (pt_ne (pt_ne hM.ob (hM.ne (i := 0) (j := 8) (by decide) (by decide) (by decide))) (hM.ne (i := 0) (j := 9) (by decide) (by decide) (by decide))) rfl dX6_work_139 ?_
                            refine lv_iload hx hb dX6_work_142 (lv_at hl 0 rfl) ?_
                            refine h_lald hx hb hE hw (pt_up (pt_ne (hM.v (i := 9) (by decide) (by decide)) (hM.ne (i := 9) (j := 8) (by decide) (by decide) (by decide)))) (n := 4) (vp_in_nI (n := 0) (N := 4) (by decide) (by decide)) (v := (rg kvu).1) rfl dX6_work_144 ?_
                            refine lv_ladd hx hb dX6_work_145 ?_
                            refine lv_goto (tgt := 164) hx hb dX6_work_146 (by decide) ?_
                            refine h_last hx hb hE hw (pt_ne (pt_ne (hM.v (i := 10) (by decide) (by decide)) (hM.ne (i := 10) (j := 8) (by decide) (by decide) (by decide))) (hM.ne (i := 10) (j := 9) (by decide) (by decide) (by decide))) (n := 4) (vp_in_nI (n := 0) (N := 4) (by decide) (by decide)) (g := vp_updL (q4f (mv 10)) 0 (((rg kvt).1) + ((rg kvu).1))) rfl dX6_work_164 (fun H locs hw => ?_)
                            have hw := wo_same hw (at_sameJ (G := G) (n := 4) (st4_0 (mv 10) (((rg kvt).1) + ((rg kvu).1))))
                            refine lv_iinc (v := 1) (lv' := [(5, .int 1), (0, .ref (ma 0)), (1, .int (nI kvs)), (2, .int 0), (3, .int (nI kvt)), (4, .int (nI kvu))]) hx hb dX6_work_165 hl (k := 0) rfl (by decide) (by decide) rfl (fun ls hl => ?_)
                            refine lv_goto (tgt := 115) hx hb dX6_work_168 (by decide) ?_
                            refine lv_iload hx hb dX6_work_115 (lv_at hl 0 rfl) ?_
                            refine lv_iconst (v := 4) hx hb dX6_work_117 (by decide) ?_
                            refine lv_icmp_ge (tgt := 171) hx hb dX6_work_118 (by decide) (fun c_118 => ?_) (fun c_118 => ?_)
                            · skip
                              first | exact absurd c_118 (by decide) | exact absurd (by decide) c_118
                            · skip
                              refine lv_aload_n hx hb dX6_work_121 rfl (lv_at hl 1 rfl) ?_
                              refine h_get hx hb hE hw hts hinX6 hown (ci := 6) rfl 10 (by decide) lk_38 (fun _ h9 => h9) (pt_ne (pt_ne (pt_ne hM.ob (hM.ne (i := 0) (j := 8) (by decide) (by decide) (by decide))) (hM.ne (i := 0) (j := 9) (by decide) (by decide) (by decide))) (hM.ne (i := 0) (j := 10) (by decide) (by decide) (by decide))) rfl dX6_work_122 ?_
                              refine lv_iload hx hb dX6_work_125 (lv_at hl 0 rfl) ?_
                              refine lv_iload_n hx hb dX6_work_127 rfl (lv_at hl 3 rfl) ?_
                              refine lv_if_ne (tgt := 149) hx hb dX6_work_128 (by decide) (fun c_128 => ?_) (fun c_128 => ?_)
                              · skip
                                first | exact absurd c_128 (by decide) | exact absurd (by decide) c_128
                              · skip
                                refine lv_aload_n hx hb dX6_work_131 rfl (lv_at hl 1 rfl) ?_
                                refine h_get hx hb hE hw hts hinX6 hown (ci := 6) rfl 8 (by decide) lk_32 (fun _ h9 => h9) (pt_ne (pt_ne (pt_ne hM.ob (hM.ne (i := 0) (j := 8) (by decide) (by decide) (by decide))) (hM.ne (i := 0) (j := 9) (by decide) (by decide) (by decide))) (hM.ne (i := 0) (j := 10) (by decide) (by decide) (by decide))) rfl dX6_work_132 ?_
                                refine lv_iload hx hb dX6_work_135 (lv_at hl 0 rfl) ?_
                                refine h_lald hx hb hE hw (pt_ne (pt_ne (pt_up (hM.v (i := 8) (by decide) (by decide))) (hM.ne (i := 8) (j := 9) (by decide) (by decide) (by decide))) (hM.ne (i := 8) (j := 10) (by decide) (by decide) (by decide))) (n := 4) (vp_in_nI (n := 1) (N := 4) (by decide) (by decide)) (v := (rg kvt).2.1) rfl dX6_work_137 ?_
                                refine lv_aload_n hx hb dX6_work_138 rfl (lv_at hl 1 rfl) ?_
                                refine h_get hx hb hE hw hts hinX6 hown (ci := 6) rfl 9 (by decide) lk_35 (fun _ h9 => h9) (pt_ne (pt_ne (pt_ne hM.ob (hM.ne (i := 0) (j := 8) (by decide) (by decide) (by decide))) (hM.ne (i := 0) (j := 9) (by decide) (by decide) (by decide))) (hM.ne (i := 0) (j := 10) (by decide) (by decide) (by decide))) rfl dX6_work_139 ?_
                                refine lv_iload hx hb dX6_work_142 (lv_at hl 0 rfl) ?_
                                refine h_lald hx hb hE hw (pt_ne (pt_up (pt_ne (hM.v (i := 9) (by decide) (by decide)) (hM.ne (i := 9) (j := 8) (by decide) (by decide) (by decide)))) (hM.ne (i := 9) (j := 10) (by decide) (by decide) (by decide))) (n := 4) (vp_in_nI (n := 1) (N := 4) (by decide) (by decide)) (v := (rg kvu).2.1) rfl dX6_work_144 ?_
                                refine lv_ladd hx hb dX6_work_145 ?_
                                refine lv_goto (tgt := 164) hx hb dX6_work_146 (by decide) ?_
                                refine h_last hx hb hE hw (pt_up (pt_ne (pt_ne (hM.v (i := 10) (by decide) (by decide)) (hM.ne (i := 10) (j := 8) (by decide) (by decide) (by decide))) (hM.ne (i := 10) (j := 9) (by decide) (by decide) (by decide)))) (n := 4) (vp_in_nI (n := 1) (N := 4) (by decide) (by decide)) (g := vp_updL (q4f (((rg kvt).1) + ((rg kvu).1), (mv 10).2.1, (mv 10).2.2.1, (mv 10).2.2.2)) 1 (((rg kvt).2.1) + ((rg kvu).2.1))) rfl dX6_work_164 (fun H locs hw => ?_)
                                have hw := wo_same hw (at_sameJ (G := G) (n := 4) (st4_1 (((rg kvt).1) + ((rg kvu).1), (mv 10).2.1, (mv 10).2.2.1, (mv 10).2.2.2) (((rg kvt).2.1) + ((rg kvu).2.1))))
                                refine lv_iinc (v := 2) (lv' := [(5, .int 2), (0, .ref (ma 0)), (1, .int (nI kvs)), (2, .int 0), (3, .int (nI kvt)), (4, .int (nI kvu))]) hx hb dX6_work_165 hl (k := 0) rfl (by decide) (by decide) rfl (fun ls hl => ?_)
                                refine lv_goto (tgt := 115) hx hb dX6_work_168 (by decide) ?_
                                refine lv_iload hx hb dX6_work_115 (lv_at hl 0 rfl) ?_
                                refine lv_iconst (v := 4) hx hb dX6_work_117 (by decide) ?_
                                refine lv_icmp_ge (tgt := 171) hx hb dX6_work_118 (by decide) (fun c_118 => ?_) (fun c_118 => ?_)
                                · skip
                                  first | exact absurd c_118 (by decide) | exact absurd (by decide) c_118
                                · skip
                                  refine lv_aload_n hx hb dX6_work_121 rfl (lv_at hl 1 rfl) ?_
                                  refine h_get hx hb hE hw hts hinX6 hown (ci := 6) rfl 10 (by decide) lk_38 (fun _ h9 => h9) (pt_ne (pt_ne (pt_ne (pt_ne hM.ob (hM.ne (i := 0) (j := 8) (by decide) (by decide) (by decide))) (hM.ne (i := 0) (j := 9) (by decide) (by decide) (by decide))) (hM.ne (i := 0) (j := 10) (by decide) (by decide) (by decide))) (hM.ne (i := 0) (j := 10) (by decide) (by decide) (by decide))) rfl dX6_work_122 ?_
                                  refine lv_iload hx hb dX6_work_125 (lv_at hl 0 rfl) ?_
                                  refine lv_iload_n hx hb dX6_work_127 rfl (lv_at hl 3 rfl) ?_
                                  refine lv_if_ne (tgt := 149) hx hb dX6_work_128 (by decide) (fun c_128 => ?_) (fun c_128 => ?_)
                                  · skip
                                    first | exact absurd c_128 (by decide) | exact absurd (by decide) c_128
                                  · skip
                                    refine lv_aload_n hx hb dX6_work_131 rfl (lv_at hl 1 rfl) ?_
                                    refine h_get hx hb hE hw hts hinX6 hown (ci := 6) rfl 8 (by decide) lk_32 (fun _ h9 => h9) (pt_ne (pt_ne (pt_ne (pt_ne hM.ob (hM.ne (i := 0) (j := 8) (by decide) (by decide) (by decide))) (hM.ne (i := 0) (j := 9) (by decide) (by decide) (by decide))) (hM.ne (i := 0) (j := 10) (by decide) (by decide) (by decide))) (hM.ne (i := 0) (j := 10) (by decide) (by decide) (by decide))) rfl dX6_work_132 ?_
                                    refine lv_iload hx hb dX6_work_135 (lv_at hl 0 rfl) ?_
                                    refine h_lald hx hb hE hw (pt_ne (pt_ne (pt_ne (pt_up (hM.v (i := 8) (by decide) (by decide))) (hM.ne (i := 8) (j := 9) (by decide) (by decide) (by decide))) (hM.ne (i := 8) (j := 10) (by decide) (by decide) (by decide))) (hM.ne (i := 8) (j := 10) (by decide) (by decide) (by decide))) (n := 4) (vp_in_nI (n := 2) (N := 4) (by decide) (by decide)) (v := (rg kvt).2.2.1) rfl dX6_work_137 ?_
                                    refine lv_aload_n hx hb dX6_work_138 rfl (lv_at hl 1 rfl) ?_
                                    refine h_get hx hb hE hw hts hinX6 hown (ci := 6) rfl 9 (by decide) lk_35 (fun _ h9 => h9) (pt_ne (pt_ne (pt_ne (pt_ne hM.ob (hM.ne (i := 0) (j := 8) (by decide) (by decide) (by decide))) (hM.ne (i := 0) (j := 9) (by decide) (by decide) (by decide))) (hM.ne (i := 0) (j := 10) (by decide) (by decide) (by decide))) (hM.ne (i := 0) (j := 10) (by decide) (by decide) (by decide))) rfl dX6_work_139 ?_
                                    refine lv_iload hx hb dX6_work_142 (lv_at hl 0 rfl) ?_
                                    refine h_lald hx hb hE hw (pt_ne (pt_ne (pt_up (pt_ne (hM.v (i := 9) (by decide) (by decide)) (hM.ne (i := 9) (j := 8) (by decide) (by decide) (by decide)))) (hM.ne (i := 9) (j := 10) (by decide) (by decide) (by decide))) (hM.ne (i := 9) (j := 10) (by decide) (by decide) (by decide))) (n := 4) (vp_in_nI (n := 2) (N := 4) (by decide) (by decide)) (v := (rg kvu).2.2.1) rfl dX6_work_144 ?_
                                    refine lv_ladd hx hb dX6_work_145 ?_
                                    refine lv_goto (tgt := 164) hx hb dX6_work_146 (by decide) ?_
                                    refine h_last hx hb hE hw (pt_up (pt_up (pt_ne (pt_ne (hM.v (i := 10) (by decide) (by decide)) (hM.ne (i := 10) (j := 8) (by decide) (by decide) (by decide))) (hM.ne (i := 10) (j := 9) (by decide) (by decide) (by decide))))) (n := 4) (vp_in_nI (n := 2) (N := 4) (by decide) (by decide)) (g := vp_updL (q4f (((rg kvt).1) + ((rg kvu).1), ((rg kvt).2.1) + ((rg kvu).2.1), (mv 10).2.2.1, (mv 10).2.2.2)) 2 (((rg kvt).2.2.1) + ((rg kvu).2.2.1))) rfl dX6_work_164 (fun H locs hw => ?_)
                                    have hw := wo_same hw (at_sameJ (G := G) (n := 4) (st4_2 (((rg kvt).1) + ((rg kvu).1), ((rg kvt).2.1) + ((rg kvu).2.1), (mv 10).2.2.1, (mv 10).2.2.2) (((rg kvt).2.2.1) + ((rg kvu).2.2.1))))
                                    refine lv_iinc (v := 3) (lv' := [(5, .int 3), (0, .ref (ma 0)), (1, .int (nI kvs)), (2, .int 0), (3, .int (nI kvt)), (4, .int (nI kvu))]) hx hb dX6_work_165 hl (k := 0) rfl (by decide) (by decide) rfl (fun ls hl => ?_)
                                    refine lv_goto (tgt := 115) hx hb dX6_work_168 (by decide) ?_
                                    refine lv_iload hx hb dX6_work_115 (lv_at hl 0 rfl) ?_
                                    refine lv_iconst (v := 4) hx hb dX6_work_117 (by decide) ?_
                                    refine lv_icmp_ge (tgt := 171) hx hb dX6_work_118 (by decide) (fun c_118 => ?_) (fun c_118 => ?_)
                                    · skip
                                      first | exact absurd c_118 (by decide) | exact absurd (by decide) c_118
                                    · skip
                                      refine lv_aload_n hx hb dX6_work_121 rfl (lv_at hl 1 rfl) ?_
                                      refine h_get hx hb hE hw hts hinX6 hown (ci := 6) rfl 10 (by decide) lk_38 (fun _ h9 => h9) (pt_ne (pt_ne (pt_ne (pt_ne (pt_ne hM.ob (hM.ne (i := 0) (j := 8) (by decide) (by decide) (by decide))) (hM.ne (i := 0) (j := 9) (by decide) (by decide) (by decide))) (hM.ne (i := 0) (j := 10) (by decide) (by decide) (by decide))) (hM.ne (i := 0) (j := 10) (by decide) (by decide) (by decide))) (hM.ne (i := 0) (j := 10) (by decide) (by decide) (by decide))) rfl dX6_work_122 ?_
                                      refine lv_iload hx hb dX6_work_125 (lv_at hl 0 rfl) ?_
                                      refine lv_iload_n hx hb dX6_work_127 rfl (lv_at hl 3 rfl) ?_
                                      refine lv_if_ne (tgt := 149) hx hb dX6_work_128 (by decide) (fun c_128 => ?_) (fun c_128 => ?_)
                                      · skip
                                        first | exact absurd c_128 (by decide) | exact absurd (by decide) c_128
                                      · skip
                                        refine lv_aload_n hx hb dX6_work_131 rfl (lv_at hl 1 rfl) ?_
                                        refine h_get hx hb hE hw hts hinX6 hown (ci := 6) rfl 8 (by decide) lk_32 (fun _ h9 => h9) (pt_ne (pt_ne (pt_ne (pt_ne (pt_ne hM.ob (hM.ne (i := 0) (j := 8) (by decide) (by decide) (by decide))) (hM.ne (i := 0) (j := 9) (by decide) (by decide) (by decide))) (hM.ne (i := 0) (j := 10) (by decide) (by decide) (by decide))) (hM.ne (i := 0) (j := 10) (by decide) (by decide) (by decide))) (hM.ne (i := 0) (j := 10) (by decide) (by decide) (by decide))) rfl dX6_work_132 ?_
                                        refine lv_iload hx hb dX6_work_135 (lv_at hl 0 rfl) ?_
                                        refine h_lald hx hb hE hw (pt_ne (pt_ne (pt_ne (pt_ne (pt_up (hM.v (i := 8) (by decide) (by decide))) (hM.ne (i := 8) (j := 9) (by decide) (by decide) (by decide))) (hM.ne (i := 8) (j := 10) (by decide) (by decide) (by decide))) (hM.ne (i := 8) (j := 10) (by decide) (by decide) (by decide))) (hM.ne (i := 8) (j := 10) (by decide) (by decide) (by decide))) (n := 4) (vp_in_nI (n := 3) (N := 4) (by decide) (by decide)) (v := (rg kvt).2.2.2) rfl dX6_work_137 ?_
                                        refine lv_aload_n hx hb dX6_work_138 rfl (lv_at hl 1 rfl) ?_
                                        refine h_get hx hb hE hw hts hinX6 hown (ci := 6) rfl 9 (by decide) lk_35 (fun _ h9 => h9) (pt_ne (pt_ne (pt_ne (pt_ne (pt_ne hM.ob (hM.ne (i := 0) (j := 8) (by decide) (by decide) (by decide))) (hM.ne (i := 0) (j := 9) (by decide) (by decide) (by decide))) (hM.ne (i := 0) (j := 10) (by decide) (by decide) (by decide))) (hM.ne (i := 0) (j := 10) (by decide) (by decide) (by decide))) (hM.ne (i := 0) (j := 10) (by decide) (by decide) (by decide))) rfl dX6_work_139 ?_
                                        refine lv_iload hx hb dX6_work_142 (lv_at hl 0 rfl) ?_
                                        refine h_lald hx hb hE hw (pt_ne (pt_ne (pt_ne (pt_up (pt_ne (hM.v (i := 9) (by decide) (by decide)) (hM.ne (i := 9) (j := 8) (by decide) (by decide) (by decide)))) (hM.ne (i := 9) (j := 10) (by decide) (by decide) (by decide))) (hM.ne (i := 9) (j := 10) (by decide) (by decide) (by decide))) (hM.ne (i := 9) (j := 10) (by decide) (by decide) (by decide))) (n := 4) (vp_in_nI (n := 3) (N := 4) (by decide) (by decide)) (v := (rg kvu).2.2.2) rfl dX6_work_144 ?_
                                        refine lv_ladd hx hb dX6_work_145 ?_
                                        refine lv_goto (tgt := 164) hx hb dX6_work_146 (by decide) ?_
                                        refine h_last hx hb hE hw (pt_up (pt_up (pt_up (pt_ne (pt_ne (hM.v (i := 10) (by decide) (by decide)) (hM.ne (i := 10) (j := 8) (by decide) (by decide) (by decide))) (hM.ne (i := 10) (j := 9) (by decide) (by decide) (by decide)))))) (n := 4) (vp_in_nI (n := 3) (N := 4) (by decide) (by decide)) (g := vp_updL (q4f (((rg kvt).1) + ((rg kvu).1), ((rg kvt).2.1) + ((rg kvu).2.1), ((rg kvt).2.2.1) + ((rg kvu).2.2.1), (mv 10).2.2.2)) 3 (((rg kvt).2.2.2) + ((rg kvu).2.2.2))) rfl dX6_work_164 (fun H locs hw => ?_)
                                        have hw := wo_same hw (at_sameJ (G := G) (n := 4) (st4_3 (((rg kvt).1) + ((rg kvu).1), ((rg kvt).2.1) + ((rg kvu).2.1), ((rg kvt).2.2.1) + ((rg kvu).2.2.1), (mv 10).2.2.2) (((rg kvt).2.2.2) + ((rg kvu).2.2.2))))
                                        refine lv_iinc (v := 4) (lv' := [(5, .int 4), (0, .ref (ma 0)), (1, .int (nI kvs)), (2, .int 0), (3, .int (nI kvt)), (4, .int (nI kvu))]) hx hb dX6_work_165 hl (k := 0) rfl (by decide) (by decide) rfl (fun ls hl => ?_)
                                        refine lv_goto (tgt := 115) hx hb dX6_work_168 (by decide) ?_
                                        refine lv_iload hx hb dX6_work_115 (lv_at hl 0 rfl) ?_
                                        refine lv_iconst (v := 4) hx hb dX6_work_117 (by decide) ?_
                                        refine lv_icmp_ge (tgt := 171) hx hb dX6_work_118 (by decide) (fun c_118 => ?_) (fun c_118 => ?_)
                                        · skip
                                          refine lv_aload_n hx hb dX6_work_171 rfl (lv_at hl 1 rfl) ?_
                                          refine lv_iload_n hx hb dX6_work_172 rfl (lv_at hl 2 rfl) ?_
                                          refine lv_aload_n hx hb dX6_work_173 rfl (lv_at hl 1 rfl) ?_
                                          refine h_get hx hb hE hw hts hinX6 hown (ci := 6) rfl 10 (by decide) lk_38 (fun _ h9 => h9) (pt_ne (pt_ne (pt_ne (pt_ne (pt_ne (pt_ne hM.ob (hM.ne (i := 0) (j := 8) (by decide) (by decide) (by decide))) (hM.ne (i := 0) (j := 9) (by decide) (by decide) (by decide))) (hM.ne (i := 0) (j := 10) (by decide) (by decide) (by decide))) (hM.ne (i := 0) (j := 10) (by decide) (by decide) (by decide))) (hM.ne (i := 0) (j := 10) (by decide) (by decide) (by decide))) (hM.ne (i := 0) (j := 10) (by decide) (by decide) (by decide))) rfl dX6_work_174 ?_
                                          by_cases hh : qhigh (((rg kvt).1) + ((rg kvu).1), ((rg kvt).2.1) + ((rg kvu).2.1), ((rg kvt).2.2.1) + ((rg kvu).2.2.1), ((rg kvt).2.2.2) + ((rg kvu).2.2.2))
                                          · skip
                                            refine h_callV (st1 := [.int (-3)]) [.int (nI kvs), .ref (ma 10)] [] ⟨hx, hb, hml, hown, hts⟩ hE hw (c_X6_holds_hi l G A ma (va_up (va_up (va_up (va_up (va_up (va_up F (ma 8) (eJ4 G (rg kvt))) (ma 9) (eJ4 G (rg kvu))) (ma 10) (eJ4 G (((rg kvt).1) + ((rg kvu).1), (mv 10).2.1, (mv 10).2.2.1, (mv 10).2.2.2))) (ma 10) (eJ4 G (((rg kvt).1) + ((rg kvu).1), ((rg kvt).2.1) + ((rg kvu).2.1), (mv 10).2.2.1, (mv 10).2.2.2))) (ma 10) (eJ4 G (((rg kvt).1) + ((rg kvu).1), ((rg kvt).2.1) + ((rg kvu).2.1), ((rg kvt).2.2.1) + ((rg kvu).2.2.1), (mv 10).2.2.2))) (ma 10) (eJ4 G (((rg kvt).1) + ((rg kvu).1), ((rg kvt).2.1) + ((rg kvu).2.1), ((rg kvt).2.2.1) + ((rg kvu).2.2.1), ((rg kvt).2.2.2) + ((rg kvu).2.2.2)))) _ _ _ _ _ _ _ _ (MW.setv (MW.setv (MW.setv (MW.setv (MW.setv (MW.setv hM (i := 8) (by decide) (by decide) (rg kvt)) (i := 9) (by decide) (by decide) (rg kvu)) (i := 10) (by decide) (by decide) (((rg kvt).1) + ((rg kvu).1), (mv 10).2.1, (mv 10).2.2.1, (mv 10).2.2.2)) (i := 10) (by decide) (by decide) (((rg kvt).1) + ((rg kvu).1), ((rg kvt).2.1) + ((rg kvu).2.1), (mv 10).2.2.1, (mv 10).2.2.2)) (i := 10) (by decide) (by decide) (((rg kvt).1) + ((rg kvu).1), ((rg kvt).2.1) + ((rg kvu).2.1), ((rg kvt).2.2.1) + ((rg kvu).2.2.1), (mv 10).2.2.2)) (i := 10) (by decide) (by decide) (((rg kvt).1) + ((rg kvu).1), ((rg kvt).2.1) + ((rg kvu).2.1), ((rg kvt).2.2.1) + ((rg kvu).2.2.1), ((rg kvt).2.2.2) + ((rg kvu).2.2.2))) 10 kvs (((rg kvt).1) + ((rg kvu).1), ((rg kvt).2.1) + ((rg kvu).2.1), ((rg kvt).2.2.1) + ((rg kvu).2.2.1), ((rg kvt).2.2.2) + ((rg kvu).2.2.2)) (by decide) (by decide) (pt_up (pt_up (pt_up (pt_up (pt_ne (pt_ne (hM.v (i := 10) (by decide) (by decide)) (hM.ne (i := 10) (j := 8) (by decide) (by decide) (by decide))) (hM.ne (i := 10) (j := 9) (by decide) (by decide) (by decide))))))) hkvs hh) (cwV 2 hts gX6_work_X6_holds rfl rfl rfl (by decide +kernel) ⟨Nat.le_of_ble_eq_true rfl, Nat.le_of_ble_eq_true rfl⟩) (pt_ne (pt_ne (pt_ne (pt_ne (pt_ne (pt_ne hM.ob (hM.ne (i := 0) (j := 8) (by decide) (by decide) (by decide))) (hM.ne (i := 0) (j := 9) (by decide) (by decide) (by decide))) (hM.ne (i := 0) (j := 10) (by decide) (by decide) (by decide))) (hM.ne (i := 0) (j := 10) (by decide) (by decide) (by decide))) (hM.ne (i := 0) (j := 10) (by decide) (by decide) (by decide))) (hM.ne (i := 0) (j := 10) (by decide) (by decide) (by decide))) rfl rfl rfl hl.1 rfl (Nat.le_of_ble_eq_true rfl) dX6_work_177 ⟨Nat.le_of_ble_eq_true rfl, Nat.le_of_ble_eq_true rfl⟩ rfl (fun H locs hw => ?_)
                                            exact h_iretP hx hb hlk hr hw dX6_work_180 (by simp only [sp_work, xvs, xvt, xvu, cif_t hh, qadd, cif_T, cif_F, show ((0 : Int32) = 3) = False from eq_false (by decide), hld]) (by simp only [sp_work, xvs, xvt, xvu, cif_t hh, qadd, cif_T, cif_F, show ((0 : Int32) = 3) = False from eq_false (by decide), hld]; exact ⟨_, (MW.setv (MW.setv (MW.setv (MW.setv (MW.setv (MW.setv hM (i := 8) (by decide) (by decide) (rg kvt)) (i := 9) (by decide) (by decide) (rg kvu)) (i := 10) (by decide) (by decide) (((rg kvt).1) + ((rg kvu).1), (mv 10).2.1, (mv 10).2.2.1, (mv 10).2.2.2)) (i := 10) (by decide) (by decide) (((rg kvt).1) + ((rg kvu).1), ((rg kvt).2.1) + ((rg kvu).2.1), (mv 10).2.2.1, (mv 10).2.2.2)) (i := 10) (by decide) (by decide) (((rg kvt).1) + ((rg kvu).1), ((rg kvt).2.1) + ((rg kvu).2.1), ((rg kvt).2.2.1) + ((rg kvu).2.2.1), (mv 10).2.2.2)) (i := 10) (by decide) (by decide) (((rg kvt).1) + ((rg kvu).1), ((rg kvt).2.1) + ((rg kvu).2.1), ((rg kvt).2.2.1) + ((rg kvu).2.2.1), ((rg kvt).2.2.2) + ((rg kvu).2.2.2))), rel_v hrel⟩)
                                          · skip
                                            refine h_callV (st1 := [.int 0]) [.int (nI kvs), .ref (ma 10)] [] ⟨hx, hb, hml, hown, hts⟩ hE hw (c_X6_holds_lo l G A ma (va_up (va_up (va_up (va_up (va_up (va_up F (ma 8) (eJ4 G (rg kvt))) (ma 9) (eJ4 G (rg kvu))) (ma 10) (eJ4 G (((rg kvt).1) + ((rg kvu).1), (mv 10).2.1, (mv 10).2.2.1, (mv 10).2.2.2))) (ma 10) (eJ4 G (((rg kvt).1) + ((rg kvu).1), ((rg kvt).2.1) + ((rg kvu).2.1), (mv 10).2.2.1, (mv 10).2.2.2))) (ma 10) (eJ4 G (((rg kvt).1) + ((rg kvu).1), ((rg kvt).2.1) + ((rg kvu).2.1), ((rg kvt).2.2.1) + ((rg kvu).2.2.1), (mv 10).2.2.2))) (ma 10) (eJ4 G (((rg kvt).1) + ((rg kvu).1), ((rg kvt).2.1) + ((rg kvu).2.1), ((rg kvt).2.2.1) + ((rg kvu).2.2.1), ((rg kvt).2.2.2) + ((rg kvu).2.2.2)))) _ _ _ _ _ _ _ _ (MW.setv (MW.setv (MW.setv (MW.setv (MW.setv (MW.setv hM (i := 8) (by decide) (by decide) (rg kvt)) (i := 9) (by decide) (by decide) (rg kvu)) (i := 10) (by decide) (by decide) (((rg kvt).1) + ((rg kvu).1), (mv 10).2.1, (mv 10).2.2.1, (mv 10).2.2.2)) (i := 10) (by decide) (by decide) (((rg kvt).1) + ((rg kvu).1), ((rg kvt).2.1) + ((rg kvu).2.1), (mv 10).2.2.1, (mv 10).2.2.2)) (i := 10) (by decide) (by decide) (((rg kvt).1) + ((rg kvu).1), ((rg kvt).2.1) + ((rg kvu).2.1), ((rg kvt).2.2.1) + ((rg kvu).2.2.1), (mv 10).2.2.2)) (i := 10) (by decide) (by decide) (((rg kvt).1) + ((rg kvu).1), ((rg kvt).2.1) + ((rg kvu).2.1), ((rg kvt).2.2.1) + ((rg kvu).2.2.1), ((rg kvt).2.2.2) + ((rg kvu).2.2.2))) 10 kvs (((rg kvt).1) + ((rg kvu).1), ((rg kvt).2.1) + ((rg kvu).2.1), ((rg kvt).2.2.1) + ((rg kvu).2.2.1), ((rg kvt).2.2.2) + ((rg kvu).2.2.2)) (by decide) (by decide) (pt_up (pt_up (pt_up (pt_up (pt_ne (pt_ne (hM.v (i := 10) (by decide) (by decide)) (hM.ne (i := 10) (j := 8) (by decide) (by decide) (by decide))) (hM.ne (i := 10) (j := 9) (by decide) (by decide) (by decide))))))) hkvs hh) (cwV 2 hts gX6_work_X6_holds rfl rfl rfl (by decide +kernel) ⟨Nat.le_of_ble_eq_true rfl, Nat.le_of_ble_eq_true rfl⟩) (pt_ne (pt_ne (pt_ne (pt_ne (pt_ne (pt_ne hM.ob (hM.ne (i := 0) (j := 8) (by decide) (by decide) (by decide))) (hM.ne (i := 0) (j := 9) (by decide) (by decide) (by decide))) (hM.ne (i := 0) (j := 10) (by decide) (by decide) (by decide))) (hM.ne (i := 0) (j := 10) (by decide) (by decide) (by decide))) (hM.ne (i := 0) (j := 10) (by decide) (by decide) (by decide))) (hM.ne (i := 0) (j := 10) (by decide) (by decide) (by decide))) rfl rfl rfl hl.1 rfl (Nat.le_of_ble_eq_true rfl) dX6_work_177 ⟨Nat.le_of_ble_eq_true rfl, Nat.le_of_ble_eq_true rfl⟩ rfl (fun H locs hw => ?_)
                                            exact h_iretP hx hb hlk hr hw dX6_work_180 (by simp only [sp_work, xvs, xvt, xvu, cif_f hh, qadd, cif_T, cif_F, show ((0 : Int32) = 3) = False from eq_false (by decide), hld]) (by simp only [sp_work, xvs, xvt, xvu, cif_f hh, qadd, cif_T, cif_F, show ((0 : Int32) = 3) = False from eq_false (by decide), hld]; exact ⟨_, (MW.setr (MW.setv (MW.setv (MW.setv (MW.setv (MW.setv (MW.setv hM (i := 8) (by decide) (by decide) (rg kvt)) (i := 9) (by decide) (by decide) (rg kvu)) (i := 10) (by decide) (by decide) (((rg kvt).1) + ((rg kvu).1), (mv 10).2.1, (mv 10).2.2.1, (mv 10).2.2.2)) (i := 10) (by decide) (by decide) (((rg kvt).1) + ((rg kvu).1), ((rg kvt).2.1) + ((rg kvu).2.1), (mv 10).2.2.1, (mv 10).2.2.2)) (i := 10) (by decide) (by decide) (((rg kvt).1) + ((rg kvu).1), ((rg kvt).2.1) + ((rg kvu).2.1), ((rg kvt).2.2.1) + ((rg kvu).2.2.1), (mv 10).2.2.2)) (i := 10) (by decide) (by decide) (((rg kvt).1) + ((rg kvu).1), ((rg kvt).2.1) + ((rg kvu).2.1), ((rg kvt).2.2.1) + ((rg kvu).2.2.1), ((rg kvt).2.2.2) + ((rg kvu).2.2.2))) (stq mrg kvs (((rg kvt).1) + ((rg kvu).1), ((rg kvt).2.1) + ((rg kvu).2.1), ((rg kvt).2.2.1) + ((rg kvu).2.2.1), ((rg kvt).2.2.2) + ((rg kvu).2.2.2)))), rel_rg hrel hkvs hh⟩)
                                        · skip
                                          first | exact absurd c_118 (by decide) | exact absurd (by decide) c_118
                      · skip
                        first | exact absurd c_84 (by decide) | exact absurd (by decide) c_84
                    · skip
                      first | exact absurd c_52 (by decide) | exact absurd (by decide) c_52
                  · skip
                    first | exact absurd c_36 (by decide) | exact absurd (by decide) c_36
      · skip
        refine h_callS (st1 := [.int 1]) [.long ((1 : Int32).toInt64), .long 0, .long (3)] [] ⟨hx, hb, hml, hown, hts⟩ hE hw (HT.to (c_X6_in l G A (ML ma) F (1 : Int32).toInt64 0 3) (V2 := some (.int 1)) (congrArg (fun y => some (Value.int y)) (bI_t (show inL (1 : Int32).toInt64 0 3 from ⟨by decide, by decide⟩))) rfl) (va_cwS 3 hts gX6_work_X6_in rfl rfl rfl (by decide +kernel) ⟨Nat.le_of_ble_eq_true rfl, Nat.le_of_ble_eq_true rfl⟩) rfl hl.1 rfl (Nat.le_of_ble_eq_true rfl) dX6_work_13 ⟨Nat.le_of_ble_eq_true rfl, Nat.le_of_ble_eq_true rfl⟩ rfl (fun H locs hw => ?_)
        refine lv_if_eq (tgt := 39) hx hb dX6_work_16 (by decide) (fun c_16 => ?_) (fun c_16 => ?_)
        · skip
          first | exact absurd c_16 (by decide) | exact absurd (by decide) c_16
        · skip
          refine lv_iload_n hx hb dX6_work_19 rfl (lv_at hl 3 rfl) ?_
          rcases ix_cases 16 (by decide) vt with hvt | ⟨kvt, hkvt, rfl⟩
          · skip
            have xvt := ix_none hvt
            refine h_callS (st1 := [.int 0]) [.int vt] [] ⟨hx, hb, hml, hown, hts⟩ hE hw (HT.to (c_X6_isRegister l G A (ML ma) F vt) (V2 := some (.int 0)) (congrArg (fun y => some (Value.int y)) (bI_f (show ¬ inL vt.toInt64 0 15 from inL_out (n := 15) (by decide) hvt))) rfl) (va_cwS 1 hts gX6_work_X6_isRegister rfl rfl rfl (by decide +kernel) ⟨Nat.le_of_ble_eq_true rfl, Nat.le_of_ble_eq_true rfl⟩) rfl hl.1 rfl (Nat.le_of_ble_eq_true rfl) dX6_work_20 ⟨Nat.le_of_ble_eq_true rfl, Nat.le_of_ble_eq_true rfl⟩ rfl (fun H locs hw => ?_)
            refine lv_if_eq (tgt := 39) hx hb dX6_work_23 (by decide) (fun c_23 => ?_) (fun c_23 => ?_)
            · skip
              refine lv_iconst (v := (-1)) hx hb dX6_work_39 (by decide) ?_
              exact h_iretP hx hb hlk hr hw dX6_work_40 (by simp only [sp_work, xvs, xvt, qsub, cif_T, cif_F, show ((1 : Int32) = 3) = False from eq_false (by decide), show ((1 : Int32) = 0) = False from eq_false (by decide), hld]) (by simp only [sp_work, xvs, xvt, qsub, cif_T, cif_F, show ((1 : Int32) = 3) = False from eq_false (by decide), show ((1 : Int32) = 0) = False from eq_false (by decide), hld]; exact ⟨_, hM, rel_v hrel⟩)
            · skip
              first | exact absurd c_23 (by decide) | exact absurd (by decide) c_23
          · skip
            have xvt := ix_in (n := 16) hkvt (by decide)
            refine h_callS (st1 := [.int 1]) [.int (nI kvt)] [] ⟨hx, hb, hml, hown, hts⟩ hE hw (HT.to (c_X6_isRegister l G A (ML ma) F (nI kvt)) (V2 := some (.int 1)) (congrArg (fun y => some (Value.int y)) (bI_t (show inL (nI kvt).toInt64 0 15 from inL_in (n := 15) (by decide) hkvt))) rfl) (va_cwS 1 hts gX6_work_X6_isRegister rfl rfl rfl (by decide +kernel) ⟨Nat.le_of_ble_eq_true rfl, Nat.le_of_ble_eq_true rfl⟩) rfl hl.1 rfl (Nat.le_of_ble_eq_true rfl) dX6_work_20 ⟨Nat.le_of_ble_eq_true rfl, Nat.le_of_ble_eq_true rfl⟩ rfl (fun H locs hw => ?_)
            refine lv_if_eq (tgt := 39) hx hb dX6_work_23 (by decide) (fun c_23 => ?_) (fun c_23 => ?_)
            · skip
              first | exact absurd c_23 (by decide) | exact absurd (by decide) c_23
            · skip
              refine lv_iload_n hx hb dX6_work_26 rfl (lv_at hl 2 rfl) ?_
              refine lv_iconst (v := 3) hx hb dX6_work_27 (by decide) ?_
              refine lv_icmp_ge (tgt := 41) hx hb dX6_work_28 (by decide) (fun c_28 => ?_) (fun c_28 => ?_)
              · skip
                first | exact absurd c_28 (by decide) | exact absurd (by decide) c_28
              · skip
                refine lv_iload hx hb dX6_work_31 (lv_at hl 4 rfl) ?_
                rcases ix_cases 16 (by decide) vu with hvu | ⟨kvu, hkvu, rfl⟩
                · skip
                  have xvu := ix_none hvu
                  refine h_callS (st1 := [.int 0]) [.int vu] [] ⟨hx, hb, hml, hown, hts⟩ hE hw (HT.to (c_X6_isRegister l G A (ML ma) F vu) (V2 := some (.int 0)) (congrArg (fun y => some (Value.int y)) (bI_f (show ¬ inL vu.toInt64 0 15 from inL_out (n := 15) (by decide) hvu))) rfl) (va_cwS 1 hts gX6_work_X6_isRegister rfl rfl rfl (by decide +kernel) ⟨Nat.le_of_ble_eq_true rfl, Nat.le_of_ble_eq_true rfl⟩) rfl hl.1 rfl (Nat.le_of_ble_eq_true rfl) dX6_work_33 ⟨Nat.le_of_ble_eq_true rfl, Nat.le_of_ble_eq_true rfl⟩ rfl (fun H locs hw => ?_)
                  refine lv_if_ne (tgt := 41) hx hb dX6_work_36 (by decide) (fun c_36 => ?_) (fun c_36 => ?_)
                  · skip
                    first | exact absurd c_36 (by decide) | exact absurd (by decide) c_36
                  · skip
                    refine lv_iconst (v := (-1)) hx hb dX6_work_39 (by decide) ?_
                    exact h_iretP hx hb hlk hr hw dX6_work_40 (by simp only [sp_work, xvs, xvt, xvu, qsub, cif_T, cif_F, show ((1 : Int32) = 3) = False from eq_false (by decide), show ((1 : Int32) = 0) = False from eq_false (by decide), hld]) (by simp only [sp_work, xvs, xvt, xvu, qsub, cif_T, cif_F, show ((1 : Int32) = 3) = False from eq_false (by decide), show ((1 : Int32) = 0) = False from eq_false (by decide), hld]; exact ⟨_, hM, rel_v hrel⟩)
                · skip
                  have xvu := ix_in (n := 16) hkvu (by decide)
                  refine h_callS (st1 := [.int 1]) [.int (nI kvu)] [] ⟨hx, hb, hml, hown, hts⟩ hE hw (HT.to (c_X6_isRegister l G A (ML ma) F (nI kvu)) (V2 := some (.int 1)) (congrArg (fun y => some (Value.int y)) (bI_t (show inL (nI kvu).toInt64 0 15 from inL_in (n := 15) (by decide) hkvu))) rfl) (va_cwS 1 hts gX6_work_X6_isRegister rfl rfl rfl (by decide +kernel) ⟨Nat.le_of_ble_eq_true rfl, Nat.le_of_ble_eq_true rfl⟩) rfl hl.1 rfl (Nat.le_of_ble_eq_true rfl) dX6_work_33 ⟨Nat.le_of_ble_eq_true rfl, Nat.le_of_ble_eq_true rfl⟩ rfl (fun H locs hw => ?_)
                  refine lv_if_ne (tgt := 41) hx hb dX6_work_36 (by decide) (fun c_36 => ?_) (fun c_36 => ?_)
                  · skip
                    refine lv_aload_n hx hb dX6_work_41 rfl (lv_at hl 0 rfl) ?_
                    refine lv_aload_n hx hb dX6_work_42 rfl (lv_at hl 0 rfl) ?_
                    refine h_get hx hb hE hw hts hinX6 hown (ci := 6) rfl 8 (by decide) lk_32 (fun _ h9 => h9) hM.ob rfl dX6_work_43 ?_
                    refine lv_iload_n hx hb dX6_work_46 rfl (lv_at hl 3 rfl) ?_
                    refine h_callV (st1 := []) [.ref (ma 8), .int (nI kvt)] [] ⟨hx, hb, hml, hown, hts⟩ hE hw (HT.to (c_X6_load l G A ma F _ _ _ _ _ _ _ _ hM 8 kvt (by decide) (by decide) hkvt) rfl (F3 := va_up F (ma 8) (eJ4 G (rg kvt))) (by rw [show rgq mrg kvt = rg kvt from hk4 kvt hkvt])) (cwV 2 hts gX6_work_X6_load rfl rfl rfl (by decide +kernel) ⟨Nat.le_of_ble_eq_true rfl, Nat.le_of_ble_eq_true rfl⟩) hM.ob rfl rfl rfl hl.1 rfl (Nat.le_of_ble_eq_true rfl) dX6_work_47 ⟨Nat.le_of_ble_eq_true rfl, Nat.le_of_ble_eq_true rfl⟩ rfl (fun H locs hw => ?_)
                    refine lv_iload_n hx hb dX6_work_50 rfl (lv_at hl 2 rfl) ?_
                    refine lv_iconst (v := 3) hx hb dX6_work_51 (by decide) ?_
                    refine lv_icmp_ne (tgt := 72) hx hb dX6_work_52 (by decide) (fun c_52 => ?_) (fun c_52 => ?_)
                    · skip
                      refine lv_aload_n hx hb dX6_work_72 rfl (lv_at hl 0 rfl) ?_
                      refine lv_aload_n hx hb dX6_work_73 rfl (lv_at hl 0 rfl) ?_
                      refine h_get hx hb hE hw hts hinX6 hown (ci := 6) rfl 9 (by decide) lk_35 (fun _ h9 => h9) (pt_ne hM.ob (hM.ne (i := 0) (j := 8) (by decide) (by decide) (by decide))) rfl dX6_work_74 ?_
                      refine lv_iload hx hb dX6_work_77 (lv_at hl 4 rfl) ?_
                      refine h_callV (st1 := []) [.ref (ma 9), .int (nI kvu)] [] ⟨hx, hb, hml, hown, hts⟩ hE hw (HT.to (c_X6_load l G A ma (va_up F (ma 8) (eJ4 G (rg kvt))) _ _ _ _ _ _ _ _ (MW.setv hM (i := 8) (by decide) (by decide) (rg kvt)) 9 kvu (by decide) (by decide) hkvu) rfl (F3 := va_up (va_up F (ma 8) (eJ4 G (rg kvt))) (ma 9) (eJ4 G (rg kvu))) (by rw [show rgq mrg kvu = rg kvu from hk4 kvu hkvu])) (cwV 2 hts gX6_work_X6_load rfl rfl rfl (by decide +kernel) ⟨Nat.le_of_ble_eq_true rfl, Nat.le_of_ble_eq_true rfl⟩) (pt_ne hM.ob (hM.ne (i := 0) (j := 8) (by decide) (by decide) (by decide))) rfl rfl rfl hl.1 rfl (Nat.le_of_ble_eq_true rfl) dX6_work_79 ⟨Nat.le_of_ble_eq_true rfl, Nat.le_of_ble_eq_true rfl⟩ rfl (fun H locs hw => ?_)
                      refine lv_iload_n hx hb dX6_work_82 rfl (lv_at hl 2 rfl) ?_
                      refine lv_iconst (v := 2) hx hb dX6_work_83 (by decide) ?_
                      refine lv_icmp_ne (tgt := 112) hx hb dX6_work_84 (by decide) (fun c_84 => ?_) (fun c_84 => ?_)
                      · skip
                        refine lv_iconst (v := 0) hx hb dX6_work_112 (by decide) ?_
                        refine lv_istore (lv' := [(5, .int 0), (0, .ref (ma 0)), (1, .int (nI kvs)), (2, .int 1), (3, .int (nI kvt)), (4, .int (nI kvu))]) hx hb dX6_work_113 hl (by decide) rfl (fun ls hl => ?_)
                        refine lv_iload hx hb dX6_work_115 (lv_at hl 0 rfl) ?_
                        refine lv_iconst (v := 4) hx hb dX6_work_117 (by decide) ?_
                        refine lv_icmp_ge (tgt := 171) hx hb dX6_work_118 (by decide) (fun c_118 => ?_) (fun c_118 => ?_)
                        · skip
                          first | exact absurd c_118 (by decide) | exact absurd (by decide) c_118
                        · skip
                          refine lv_aload_n hx hb dX6_work_121 rfl (lv_at hl 1 rfl) ?_
                          refine h_get hx hb hE hw hts hinX6 hown (ci := 6) rfl 10 (by decide) lk_38 (fun _ h9 => h9) (pt_ne (pt_ne hM.ob (hM.ne (i := 0) (j := 8) (by decide) (by decide) (by decide))) (hM.ne (i := 0) (j := 9) (by decide) (by decide) (by decide))) rfl dX6_work_122 ?_
                          refine lv_iload hx hb dX6_work_125 (lv_at hl 0 rfl) ?_
                          refine lv_iload_n hx hb dX6_work_127 rfl (lv_at hl 3 rfl) ?_
                          refine lv_if_ne (tgt := 149) hx hb dX6_work_128 (by decide) (fun c_128 => ?_) (fun c_128 => ?_)
                          · skip
                            refine lv_aload_n hx hb dX6_work_149 rfl (lv_at hl 1 rfl) ?_
                            refine h_get hx hb hE hw hts hinX6 hown (ci := 6) rfl 8 (by decide) lk_32 (fun _ h9 => h9) (pt_ne (pt_ne hM.ob (hM.ne (i := 0) (j := 8) (by decide) (by decide) (by decide))) (hM.ne (i := 0) (j := 9) (by decide) (by decide) (by decide))) rfl dX6_work_150 ?_
                            refine lv_iload hx hb dX6_work_153 (lv_at hl 0 rfl) ?_
                            refine h_lald hx hb hE hw (pt_ne (pt_up (hM.v (i := 8) (by decide) (by decide))) (hM.ne (i := 8) (j := 9) (by decide) (by decide) (by decide))) (n := 4) (vp_in_nI (n := 0) (N := 4) (by decide) (by decide)) (v := (rg kvt).1) rfl dX6_work_155 ?_
                            refine lv_aload_n hx hb dX6_work_156 rfl (lv_at hl 1 rfl) ?_
                            refine h_get hx hb hE hw hts hinX6 hown (ci := 6) rfl 9 (by decide) lk_35 (fun _ h9 => h9) (pt_ne (pt_ne hM.ob (hM.ne (i := 0) (j := 8) (by decide) (by decide) (by decide))) (hM.ne (i := 0) (j := 9) (by decide) (by decide) (by decide))) rfl dX6_work_157 ?_
                            refine lv_iload hx hb dX6_work_160 (lv_at hl 0 rfl) ?_
                            refine h_lald hx hb hE hw (pt_up (pt_ne (hM.v (i := 9) (by decide) (by decide)) (hM.ne (i := 9) (j := 8) (by decide) (by decide) (by decide)))) (n := 4) (vp_in_nI (n := 0) (N := 4) (by decide) (by decide)) (v := (rg kvu).1) rfl dX6_work_162 ?_
                            refine lv_lsub hx hb dX6_work_163 ?_
                            refine h_last hx hb hE hw (pt_ne (pt_ne (hM.v (i := 10) (by decide) (by decide)) (hM.ne (i := 10) (j := 8) (by decide) (by decide) (by decide))) (hM.ne (i := 10) (j := 9) (by decide) (by decide) (by decide))) (n := 4) (vp_in_nI (n := 0) (N := 4) (by decide) (by decide)) (g := vp_updL (q4f (mv 10)) 0 (((rg kvt).1) - ((rg kvu).1))) rfl dX6_work_164 (fun H locs hw => ?_)
                            have hw := wo_same hw (at_sameJ (G := G) (n := 4) (st4_0 (mv 10) (((rg kvt).1) - ((rg kvu).1))))
                            refine lv_iinc (v := 1) (lv' := [(5, .int 1), (0, .ref (ma 0)), (1, .int (nI kvs)), (2, .int 1), (3, .int (nI kvt)), (4, .int (nI kvu))]) hx hb dX6_work_165 hl (k := 0) rfl (by decide) (by decide) rfl (fun ls hl => ?_)
                            refine lv_goto (tgt := 115) hx hb dX6_work_168 (by decide) ?_
                            refine lv_iload hx hb dX6_work_115 (lv_at hl 0 rfl) ?_
                            refine lv_iconst (v := 4) hx hb dX6_work_117 (by decide) ?_
                            refine lv_icmp_ge (tgt := 171) hx hb dX6_work_118 (by decide) (fun c_118 => ?_) (fun c_118 => ?_)
                            · skip
                              first | exact absurd c_118 (by decide) | exact absurd (by decide) c_118
                            · skip
                              refine lv_aload_n hx hb dX6_work_121 rfl (lv_at hl 1 rfl) ?_
                              refine h_get hx hb hE hw hts hinX6 hown (ci := 6) rfl 10 (by decide) lk_38 (fun _ h9 => h9) (pt_ne (pt_ne (pt_ne hM.ob (hM.ne (i := 0) (j := 8) (by decide) (by decide) (by decide))) (hM.ne (i := 0) (j := 9) (by decide) (by decide) (by decide))) (hM.ne (i := 0) (j := 10) (by decide) (by decide) (by decide))) rfl dX6_work_122 ?_
                              refine lv_iload hx hb dX6_work_125 (lv_at hl 0 rfl) ?_
                              refine lv_iload_n hx hb dX6_work_127 rfl (lv_at hl 3 rfl) ?_
                              refine lv_if_ne (tgt := 149) hx hb dX6_work_128 (by decide) (fun c_128 => ?_) (fun c_128 => ?_)
                              · skip
                                refine lv_aload_n hx hb dX6_work_149 rfl (lv_at hl 1 rfl) ?_
                                refine h_get hx hb hE hw hts hinX6 hown (ci := 6) rfl 8 (by decide) lk_32 (fun _ h9 => h9) (pt_ne (pt_ne (pt_ne hM.ob (hM.ne (i := 0) (j := 8) (by decide) (by decide) (by decide))) (hM.ne (i := 0) (j := 9) (by decide) (by decide) (by decide))) (hM.ne (i := 0) (j := 10) (by decide) (by decide) (by decide))) rfl dX6_work_150 ?_
                                refine lv_iload hx hb dX6_work_153 (lv_at hl 0 rfl) ?_
                                refine h_lald hx hb hE hw (pt_ne (pt_ne (pt_up (hM.v (i := 8) (by decide) (by decide))) (hM.ne (i := 8) (j := 9) (by decide) (by decide) (by decide))) (hM.ne (i := 8) (j := 10) (by decide) (by decide) (by decide))) (n := 4) (vp_in_nI (n := 1) (N := 4) (by decide) (by decide)) (v := (rg kvt).2.1) rfl dX6_work_155 ?_
                                refine lv_aload_n hx hb dX6_work_156 rfl (lv_at hl 1 rfl) ?_
                                refine h_get hx hb hE hw hts hinX6 hown (ci := 6) rfl 9 (by decide) lk_35 (fun _ h9 => h9) (pt_ne (pt_ne (pt_ne hM.ob (hM.ne (i := 0) (j := 8) (by decide) (by decide) (by decide))) (hM.ne (i := 0) (j := 9) (by decide) (by decide) (by decide))) (hM.ne (i := 0) (j := 10) (by decide) (by decide) (by decide))) rfl dX6_work_157 ?_
                                refine lv_iload hx hb dX6_work_160 (lv_at hl 0 rfl) ?_
                                refine h_lald hx hb hE hw (pt_ne (pt_up (pt_ne (hM.v (i := 9) (by decide) (by decide)) (hM.ne (i := 9) (j := 8) (by decide) (by decide) (by decide)))) (hM.ne (i := 9) (j := 10) (by decide) (by decide) (by decide))) (n := 4) (vp_in_nI (n := 1) (N := 4) (by decide) (by decide)) (v := (rg kvu).2.1) rfl dX6_work_162 ?_
                                refine lv_lsub hx hb dX6_work_163 ?_
                                refine h_last hx hb hE hw (pt_up (pt_ne (pt_ne (hM.v (i := 10) (by decide) (by decide)) (hM.ne (i := 10) (j := 8) (by decide) (by decide) (by decide))) (hM.ne (i := 10) (j := 9) (by decide) (by decide) (by decide)))) (n := 4) (vp_in_nI (n := 1) (N := 4) (by decide) (by decide)) (g := vp_updL (q4f (((rg kvt).1) - ((rg kvu).1), (mv 10).2.1, (mv 10).2.2.1, (mv 10).2.2.2)) 1 (((rg kvt).2.1) - ((rg kvu).2.1))) rfl dX6_work_164 (fun H locs hw => ?_)
                                have hw := wo_same hw (at_sameJ (G := G) (n := 4) (st4_1 (((rg kvt).1) - ((rg kvu).1), (mv 10).2.1, (mv 10).2.2.1, (mv 10).2.2.2) (((rg kvt).2.1) - ((rg kvu).2.1))))
                                refine lv_iinc (v := 2) (lv' := [(5, .int 2), (0, .ref (ma 0)), (1, .int (nI kvs)), (2, .int 1), (3, .int (nI kvt)), (4, .int (nI kvu))]) hx hb dX6_work_165 hl (k := 0) rfl (by decide) (by decide) rfl (fun ls hl => ?_)
                                refine lv_goto (tgt := 115) hx hb dX6_work_168 (by decide) ?_
                                refine lv_iload hx hb dX6_work_115 (lv_at hl 0 rfl) ?_
                                refine lv_iconst (v := 4) hx hb dX6_work_117 (by decide) ?_
                                refine lv_icmp_ge (tgt := 171) hx hb dX6_work_118 (by decide) (fun c_118 => ?_) (fun c_118 => ?_)
                                · skip
                                  first | exact absurd c_118 (by decide) | exact absurd (by decide) c_118
                                · skip
                                  refine lv_aload_n hx hb dX6_work_121 rfl (lv_at hl 1 rfl) ?_
                                  refine h_get hx hb hE hw hts hinX6 hown (ci := 6) rfl 10 (by decide) lk_38 (fun _ h9 => h9) (pt_ne (pt_ne (pt_ne (pt_ne hM.ob (hM.ne (i := 0) (j := 8) (by decide) (by decide) (by decide))) (hM.ne (i := 0) (j := 9) (by decide) (by decide) (by decide))) (hM.ne (i := 0) (j := 10) (by decide) (by decide) (by decide))) (hM.ne (i := 0) (j := 10) (by decide) (by decide) (by decide))) rfl dX6_work_122 ?_
                                  refine lv_iload hx hb dX6_work_125 (lv_at hl 0 rfl) ?_
                                  refine lv_iload_n hx hb dX6_work_127 rfl (lv_at hl 3 rfl) ?_
                                  refine lv_if_ne (tgt := 149) hx hb dX6_work_128 (by decide) (fun c_128 => ?_) (fun c_128 => ?_)
                                  · skip
                                    refine lv_aload_n hx hb dX6_work_149 rfl (lv_at hl 1 rfl) ?_
                                    refine h_get hx hb hE hw hts hinX6 hown (ci := 6) rfl 8 (by decide) lk_32 (fun _ h9 => h9) (pt_ne (pt_ne (pt_ne (pt_ne hM.ob (hM.ne (i := 0) (j := 8) (by decide) (by decide) (by decide))) (hM.ne (i := 0) (j := 9) (by decide) (by decide) (by decide))) (hM.ne (i := 0) (j := 10) (by decide) (by decide) (by decide))) (hM.ne (i := 0) (j := 10) (by decide) (by decide) (by decide))) rfl dX6_work_150 ?_
                                    refine lv_iload hx hb dX6_work_153 (lv_at hl 0 rfl) ?_
                                    refine h_lald hx hb hE hw (pt_ne (pt_ne (pt_ne (pt_up (hM.v (i := 8) (by decide) (by decide))) (hM.ne (i := 8) (j := 9) (by decide) (by decide) (by decide))) (hM.ne (i := 8) (j := 10) (by decide) (by decide) (by decide))) (hM.ne (i := 8) (j := 10) (by decide) (by decide) (by decide))) (n := 4) (vp_in_nI (n := 2) (N := 4) (by decide) (by decide)) (v := (rg kvt).2.2.1) rfl dX6_work_155 ?_
                                    refine lv_aload_n hx hb dX6_work_156 rfl (lv_at hl 1 rfl) ?_
                                    refine h_get hx hb hE hw hts hinX6 hown (ci := 6) rfl 9 (by decide) lk_35 (fun _ h9 => h9) (pt_ne (pt_ne (pt_ne (pt_ne hM.ob (hM.ne (i := 0) (j := 8) (by decide) (by decide) (by decide))) (hM.ne (i := 0) (j := 9) (by decide) (by decide) (by decide))) (hM.ne (i := 0) (j := 10) (by decide) (by decide) (by decide))) (hM.ne (i := 0) (j := 10) (by decide) (by decide) (by decide))) rfl dX6_work_157 ?_
                                    refine lv_iload hx hb dX6_work_160 (lv_at hl 0 rfl) ?_
                                    refine h_lald hx hb hE hw (pt_ne (pt_ne (pt_up (pt_ne (hM.v (i := 9) (by decide) (by decide)) (hM.ne (i := 9) (j := 8) (by decide) (by decide) (by decide)))) (hM.ne (i := 9) (j := 10) (by decide) (by decide) (by decide))) (hM.ne (i := 9) (j := 10) (by decide) (by decide) (by decide))) (n := 4) (vp_in_nI (n := 2) (N := 4) (by decide) (by decide)) (v := (rg kvu).2.2.1) rfl dX6_work_162 ?_
                                    refine lv_lsub hx hb dX6_work_163 ?_
                                    refine h_last hx hb hE hw (pt_up (pt_up (pt_ne (pt_ne (hM.v (i := 10) (by decide) (by decide)) (hM.ne (i := 10) (j := 8) (by decide) (by decide) (by decide))) (hM.ne (i := 10) (j := 9) (by decide) (by decide) (by decide))))) (n := 4) (vp_in_nI (n := 2) (N := 4) (by decide) (by decide)) (g := vp_updL (q4f (((rg kvt).1) - ((rg kvu).1), ((rg kvt).2.1) - ((rg kvu).2.1), (mv 10).2.2.1, (mv 10).2.2.2)) 2 (((rg kvt).2.2.1) - ((rg kvu).2.2.1))) rfl dX6_work_164 (fun H locs hw => ?_)
                                    have hw := wo_same hw (at_sameJ (G := G) (n := 4) (st4_2 (((rg kvt).1) - ((rg kvu).1), ((rg kvt).2.1) - ((rg kvu).2.1), (mv 10).2.2.1, (mv 10).2.2.2) (((rg kvt).2.2.1) - ((rg kvu).2.2.1))))
                                    refine lv_iinc (v := 3) (lv' := [(5, .int 3), (0, .ref (ma 0)), (1, .int (nI kvs)), (2, .int 1), (3, .int (nI kvt)), (4, .int (nI kvu))]) hx hb dX6_work_165 hl (k := 0) rfl (by decide) (by decide) rfl (fun ls hl => ?_)
                                    refine lv_goto (tgt := 115) hx hb dX6_work_168 (by decide) ?_
                                    refine lv_iload hx hb dX6_work_115 (lv_at hl 0 rfl) ?_
                                    refine lv_iconst (v := 4) hx hb dX6_work_117 (by decide) ?_
                                    refine lv_icmp_ge (tgt := 171) hx hb dX6_work_118 (by decide) (fun c_118 => ?_) (fun c_118 => ?_)
                                    · skip
                                      first | exact absurd c_118 (by decide) | exact absurd (by decide) c_118
                                    · skip
                                      refine lv_aload_n hx hb dX6_work_121 rfl (lv_at hl 1 rfl) ?_
                                      refine h_get hx hb hE hw hts hinX6 hown (ci := 6) rfl 10 (by decide) lk_38 (fun _ h9 => h9) (pt_ne (pt_ne (pt_ne (pt_ne (pt_ne hM.ob (hM.ne (i := 0) (j := 8) (by decide) (by decide) (by decide))) (hM.ne (i := 0) (j := 9) (by decide) (by decide) (by decide))) (hM.ne (i := 0) (j := 10) (by decide) (by decide) (by decide))) (hM.ne (i := 0) (j := 10) (by decide) (by decide) (by decide))) (hM.ne (i := 0) (j := 10) (by decide) (by decide) (by decide))) rfl dX6_work_122 ?_
                                      refine lv_iload hx hb dX6_work_125 (lv_at hl 0 rfl) ?_
                                      refine lv_iload_n hx hb dX6_work_127 rfl (lv_at hl 3 rfl) ?_
                                      refine lv_if_ne (tgt := 149) hx hb dX6_work_128 (by decide) (fun c_128 => ?_) (fun c_128 => ?_)
                                      · skip
                                        refine lv_aload_n hx hb dX6_work_149 rfl (lv_at hl 1 rfl) ?_
                                        refine h_get hx hb hE hw hts hinX6 hown (ci := 6) rfl 8 (by decide) lk_32 (fun _ h9 => h9) (pt_ne (pt_ne (pt_ne (pt_ne (pt_ne hM.ob (hM.ne (i := 0) (j := 8) (by decide) (by decide) (by decide))) (hM.ne (i := 0) (j := 9) (by decide) (by decide) (by decide))) (hM.ne (i := 0) (j := 10) (by decide) (by decide) (by decide))) (hM.ne (i := 0) (j := 10) (by decide) (by decide) (by decide))) (hM.ne (i := 0) (j := 10) (by decide) (by decide) (by decide))) rfl dX6_work_150 ?_
                                        refine lv_iload hx hb dX6_work_153 (lv_at hl 0 rfl) ?_
                                        refine h_lald hx hb hE hw (pt_ne (pt_ne (pt_ne (pt_ne (pt_up (hM.v (i := 8) (by decide) (by decide))) (hM.ne (i := 8) (j := 9) (by decide) (by decide) (by decide))) (hM.ne (i := 8) (j := 10) (by decide) (by decide) (by decide))) (hM.ne (i := 8) (j := 10) (by decide) (by decide) (by decide))) (hM.ne (i := 8) (j := 10) (by decide) (by decide) (by decide))) (n := 4) (vp_in_nI (n := 3) (N := 4) (by decide) (by decide)) (v := (rg kvt).2.2.2) rfl dX6_work_155 ?_
                                        refine lv_aload_n hx hb dX6_work_156 rfl (lv_at hl 1 rfl) ?_
                                        refine h_get hx hb hE hw hts hinX6 hown (ci := 6) rfl 9 (by decide) lk_35 (fun _ h9 => h9) (pt_ne (pt_ne (pt_ne (pt_ne (pt_ne hM.ob (hM.ne (i := 0) (j := 8) (by decide) (by decide) (by decide))) (hM.ne (i := 0) (j := 9) (by decide) (by decide) (by decide))) (hM.ne (i := 0) (j := 10) (by decide) (by decide) (by decide))) (hM.ne (i := 0) (j := 10) (by decide) (by decide) (by decide))) (hM.ne (i := 0) (j := 10) (by decide) (by decide) (by decide))) rfl dX6_work_157 ?_
                                        refine lv_iload hx hb dX6_work_160 (lv_at hl 0 rfl) ?_
                                        refine h_lald hx hb hE hw (pt_ne (pt_ne (pt_ne (pt_up (pt_ne (hM.v (i := 9) (by decide) (by decide)) (hM.ne (i := 9) (j := 8) (by decide) (by decide) (by decide)))) (hM.ne (i := 9) (j := 10) (by decide) (by decide) (by decide))) (hM.ne (i := 9) (j := 10) (by decide) (by decide) (by decide))) (hM.ne (i := 9) (j := 10) (by decide) (by decide) (by decide))) (n := 4) (vp_in_nI (n := 3) (N := 4) (by decide) (by decide)) (v := (rg kvu).2.2.2) rfl dX6_work_162 ?_
                                        refine lv_lsub hx hb dX6_work_163 ?_
                                        refine h_last hx hb hE hw (pt_up (pt_up (pt_up (pt_ne (pt_ne (hM.v (i := 10) (by decide) (by decide)) (hM.ne (i := 10) (j := 8) (by decide) (by decide) (by decide))) (hM.ne (i := 10) (j := 9) (by decide) (by decide) (by decide)))))) (n := 4) (vp_in_nI (n := 3) (N := 4) (by decide) (by decide)) (g := vp_updL (q4f (((rg kvt).1) - ((rg kvu).1), ((rg kvt).2.1) - ((rg kvu).2.1), ((rg kvt).2.2.1) - ((rg kvu).2.2.1), (mv 10).2.2.2)) 3 (((rg kvt).2.2.2) - ((rg kvu).2.2.2))) rfl dX6_work_164 (fun H locs hw => ?_)
                                        have hw := wo_same hw (at_sameJ (G := G) (n := 4) (st4_3 (((rg kvt).1) - ((rg kvu).1), ((rg kvt).2.1) - ((rg kvu).2.1), ((rg kvt).2.2.1) - ((rg kvu).2.2.1), (mv 10).2.2.2) (((rg kvt).2.2.2) - ((rg kvu).2.2.2))))
                                        refine lv_iinc (v := 4) (lv' := [(5, .int 4), (0, .ref (ma 0)), (1, .int (nI kvs)), (2, .int 1), (3, .int (nI kvt)), (4, .int (nI kvu))]) hx hb dX6_work_165 hl (k := 0) rfl (by decide) (by decide) rfl (fun ls hl => ?_)
                                        refine lv_goto (tgt := 115) hx hb dX6_work_168 (by decide) ?_
                                        refine lv_iload hx hb dX6_work_115 (lv_at hl 0 rfl) ?_
                                        refine lv_iconst (v := 4) hx hb dX6_work_117 (by decide) ?_
                                        refine lv_icmp_ge (tgt := 171) hx hb dX6_work_118 (by decide) (fun c_118 => ?_) (fun c_118 => ?_)
                                        · skip
                                          refine lv_aload_n hx hb dX6_work_171 rfl (lv_at hl 1 rfl) ?_
                                          refine lv_iload_n hx hb dX6_work_172 rfl (lv_at hl 2 rfl) ?_
                                          refine lv_aload_n hx hb dX6_work_173 rfl (lv_at hl 1 rfl) ?_
                                          refine h_get hx hb hE hw hts hinX6 hown (ci := 6) rfl 10 (by decide) lk_38 (fun _ h9 => h9) (pt_ne (pt_ne (pt_ne (pt_ne (pt_ne (pt_ne hM.ob (hM.ne (i := 0) (j := 8) (by decide) (by decide) (by decide))) (hM.ne (i := 0) (j := 9) (by decide) (by decide) (by decide))) (hM.ne (i := 0) (j := 10) (by decide) (by decide) (by decide))) (hM.ne (i := 0) (j := 10) (by decide) (by decide) (by decide))) (hM.ne (i := 0) (j := 10) (by decide) (by decide) (by decide))) (hM.ne (i := 0) (j := 10) (by decide) (by decide) (by decide))) rfl dX6_work_174 ?_
                                          by_cases hh : qhigh (((rg kvt).1) - ((rg kvu).1), ((rg kvt).2.1) - ((rg kvu).2.1), ((rg kvt).2.2.1) - ((rg kvu).2.2.1), ((rg kvt).2.2.2) - ((rg kvu).2.2.2))
                                          · skip
                                            refine h_callV (st1 := [.int (-3)]) [.int (nI kvs), .ref (ma 10)] [] ⟨hx, hb, hml, hown, hts⟩ hE hw (c_X6_holds_hi l G A ma (va_up (va_up (va_up (va_up (va_up (va_up F (ma 8) (eJ4 G (rg kvt))) (ma 9) (eJ4 G (rg kvu))) (ma 10) (eJ4 G (((rg kvt).1) - ((rg kvu).1), (mv 10).2.1, (mv 10).2.2.1, (mv 10).2.2.2))) (ma 10) (eJ4 G (((rg kvt).1) - ((rg kvu).1), ((rg kvt).2.1) - ((rg kvu).2.1), (mv 10).2.2.1, (mv 10).2.2.2))) (ma 10) (eJ4 G (((rg kvt).1) - ((rg kvu).1), ((rg kvt).2.1) - ((rg kvu).2.1), ((rg kvt).2.2.1) - ((rg kvu).2.2.1), (mv 10).2.2.2))) (ma 10) (eJ4 G (((rg kvt).1) - ((rg kvu).1), ((rg kvt).2.1) - ((rg kvu).2.1), ((rg kvt).2.2.1) - ((rg kvu).2.2.1), ((rg kvt).2.2.2) - ((rg kvu).2.2.2)))) _ _ _ _ _ _ _ _ (MW.setv (MW.setv (MW.setv (MW.setv (MW.setv (MW.setv hM (i := 8) (by decide) (by decide) (rg kvt)) (i := 9) (by decide) (by decide) (rg kvu)) (i := 10) (by decide) (by decide) (((rg kvt).1) - ((rg kvu).1), (mv 10).2.1, (mv 10).2.2.1, (mv 10).2.2.2)) (i := 10) (by decide) (by decide) (((rg kvt).1) - ((rg kvu).1), ((rg kvt).2.1) - ((rg kvu).2.1), (mv 10).2.2.1, (mv 10).2.2.2)) (i := 10) (by decide) (by decide) (((rg kvt).1) - ((rg kvu).1), ((rg kvt).2.1) - ((rg kvu).2.1), ((rg kvt).2.2.1) - ((rg kvu).2.2.1), (mv 10).2.2.2)) (i := 10) (by decide) (by decide) (((rg kvt).1) - ((rg kvu).1), ((rg kvt).2.1) - ((rg kvu).2.1), ((rg kvt).2.2.1) - ((rg kvu).2.2.1), ((rg kvt).2.2.2) - ((rg kvu).2.2.2))) 10 kvs (((rg kvt).1) - ((rg kvu).1), ((rg kvt).2.1) - ((rg kvu).2.1), ((rg kvt).2.2.1) - ((rg kvu).2.2.1), ((rg kvt).2.2.2) - ((rg kvu).2.2.2)) (by decide) (by decide) (pt_up (pt_up (pt_up (pt_up (pt_ne (pt_ne (hM.v (i := 10) (by decide) (by decide)) (hM.ne (i := 10) (j := 8) (by decide) (by decide) (by decide))) (hM.ne (i := 10) (j := 9) (by decide) (by decide) (by decide))))))) hkvs hh) (cwV 2 hts gX6_work_X6_holds rfl rfl rfl (by decide +kernel) ⟨Nat.le_of_ble_eq_true rfl, Nat.le_of_ble_eq_true rfl⟩) (pt_ne (pt_ne (pt_ne (pt_ne (pt_ne (pt_ne hM.ob (hM.ne (i := 0) (j := 8) (by decide) (by decide) (by decide))) (hM.ne (i := 0) (j := 9) (by decide) (by decide) (by decide))) (hM.ne (i := 0) (j := 10) (by decide) (by decide) (by decide))) (hM.ne (i := 0) (j := 10) (by decide) (by decide) (by decide))) (hM.ne (i := 0) (j := 10) (by decide) (by decide) (by decide))) (hM.ne (i := 0) (j := 10) (by decide) (by decide) (by decide))) rfl rfl rfl hl.1 rfl (Nat.le_of_ble_eq_true rfl) dX6_work_177 ⟨Nat.le_of_ble_eq_true rfl, Nat.le_of_ble_eq_true rfl⟩ rfl (fun H locs hw => ?_)
                                            exact h_iretP hx hb hlk hr hw dX6_work_180 (by simp only [sp_work, xvs, xvt, xvu, cif_t hh, qsub, cif_T, cif_F, show ((1 : Int32) = 3) = False from eq_false (by decide), show ((1 : Int32) = 0) = False from eq_false (by decide), hld]) (by simp only [sp_work, xvs, xvt, xvu, cif_t hh, qsub, cif_T, cif_F, show ((1 : Int32) = 3) = False from eq_false (by decide), show ((1 : Int32) = 0) = False from eq_false (by decide), hld]; exact ⟨_, (MW.setv (MW.setv (MW.setv (MW.setv (MW.setv (MW.setv hM (i := 8) (by decide) (by decide) (rg kvt)) (i := 9) (by decide) (by decide) (rg kvu)) (i := 10) (by decide) (by decide) (((rg kvt).1) - ((rg kvu).1), (mv 10).2.1, (mv 10).2.2.1, (mv 10).2.2.2)) (i := 10) (by decide) (by decide) (((rg kvt).1) - ((rg kvu).1), ((rg kvt).2.1) - ((rg kvu).2.1), (mv 10).2.2.1, (mv 10).2.2.2)) (i := 10) (by decide) (by decide) (((rg kvt).1) - ((rg kvu).1), ((rg kvt).2.1) - ((rg kvu).2.1), ((rg kvt).2.2.1) - ((rg kvu).2.2.1), (mv 10).2.2.2)) (i := 10) (by decide) (by decide) (((rg kvt).1) - ((rg kvu).1), ((rg kvt).2.1) - ((rg kvu).2.1), ((rg kvt).2.2.1) - ((rg kvu).2.2.1), ((rg kvt).2.2.2) - ((rg kvu).2.2.2))), rel_v hrel⟩)
                                          · skip
                                            refine h_callV (st1 := [.int 0]) [.int (nI kvs), .ref (ma 10)] [] ⟨hx, hb, hml, hown, hts⟩ hE hw (c_X6_holds_lo l G A ma (va_up (va_up (va_up (va_up (va_up (va_up F (ma 8) (eJ4 G (rg kvt))) (ma 9) (eJ4 G (rg kvu))) (ma 10) (eJ4 G (((rg kvt).1) - ((rg kvu).1), (mv 10).2.1, (mv 10).2.2.1, (mv 10).2.2.2))) (ma 10) (eJ4 G (((rg kvt).1) - ((rg kvu).1), ((rg kvt).2.1) - ((rg kvu).2.1), (mv 10).2.2.1, (mv 10).2.2.2))) (ma 10) (eJ4 G (((rg kvt).1) - ((rg kvu).1), ((rg kvt).2.1) - ((rg kvu).2.1), ((rg kvt).2.2.1) - ((rg kvu).2.2.1), (mv 10).2.2.2))) (ma 10) (eJ4 G (((rg kvt).1) - ((rg kvu).1), ((rg kvt).2.1) - ((rg kvu).2.1), ((rg kvt).2.2.1) - ((rg kvu).2.2.1), ((rg kvt).2.2.2) - ((rg kvu).2.2.2)))) _ _ _ _ _ _ _ _ (MW.setv (MW.setv (MW.setv (MW.setv (MW.setv (MW.setv hM (i := 8) (by decide) (by decide) (rg kvt)) (i := 9) (by decide) (by decide) (rg kvu)) (i := 10) (by decide) (by decide) (((rg kvt).1) - ((rg kvu).1), (mv 10).2.1, (mv 10).2.2.1, (mv 10).2.2.2)) (i := 10) (by decide) (by decide) (((rg kvt).1) - ((rg kvu).1), ((rg kvt).2.1) - ((rg kvu).2.1), (mv 10).2.2.1, (mv 10).2.2.2)) (i := 10) (by decide) (by decide) (((rg kvt).1) - ((rg kvu).1), ((rg kvt).2.1) - ((rg kvu).2.1), ((rg kvt).2.2.1) - ((rg kvu).2.2.1), (mv 10).2.2.2)) (i := 10) (by decide) (by decide) (((rg kvt).1) - ((rg kvu).1), ((rg kvt).2.1) - ((rg kvu).2.1), ((rg kvt).2.2.1) - ((rg kvu).2.2.1), ((rg kvt).2.2.2) - ((rg kvu).2.2.2))) 10 kvs (((rg kvt).1) - ((rg kvu).1), ((rg kvt).2.1) - ((rg kvu).2.1), ((rg kvt).2.2.1) - ((rg kvu).2.2.1), ((rg kvt).2.2.2) - ((rg kvu).2.2.2)) (by decide) (by decide) (pt_up (pt_up (pt_up (pt_up (pt_ne (pt_ne (hM.v (i := 10) (by decide) (by decide)) (hM.ne (i := 10) (j := 8) (by decide) (by decide) (by decide))) (hM.ne (i := 10) (j := 9) (by decide) (by decide) (by decide))))))) hkvs hh) (cwV 2 hts gX6_work_X6_holds rfl rfl rfl (by decide +kernel) ⟨Nat.le_of_ble_eq_true rfl, Nat.le_of_ble_eq_true rfl⟩) (pt_ne (pt_ne (pt_ne (pt_ne (pt_ne (pt_ne hM.ob (hM.ne (i := 0) (j := 8) (by decide) (by decide) (by decide))) (hM.ne (i := 0) (j := 9) (by decide) (by decide) (by decide))) (hM.ne (i := 0) (j := 10) (by decide) (by decide) (by decide))) (hM.ne (i := 0) (j := 10) (by decide) (by decide) (by decide))) (hM.ne (i := 0) (j := 10) (by decide) (by decide) (by decide))) (hM.ne (i := 0) (j := 10) (by decide) (by decide) (by decide))) rfl rfl rfl hl.1 rfl (Nat.le_of_ble_eq_true rfl) dX6_work_177 ⟨Nat.le_of_ble_eq_true rfl, Nat.le_of_ble_eq_true rfl⟩ rfl (fun H locs hw => ?_)
                                            exact h_iretP hx hb hlk hr hw dX6_work_180 (by simp only [sp_work, xvs, xvt, xvu, cif_f hh, qsub, cif_T, cif_F, show ((1 : Int32) = 3) = False from eq_false (by decide), show ((1 : Int32) = 0) = False from eq_false (by decide), hld]) (by simp only [sp_work, xvs, xvt, xvu, cif_f hh, qsub, cif_T, cif_F, show ((1 : Int32) = 3) = False from eq_false (by decide), show ((1 : Int32) = 0) = False from eq_false (by decide), hld]; exact ⟨_, (MW.setr (MW.setv (MW.setv (MW.setv (MW.setv (MW.setv (MW.setv hM (i := 8) (by decide) (by decide) (rg kvt)) (i := 9) (by decide) (by decide) (rg kvu)) (i := 10) (by decide) (by decide) (((rg kvt).1) - ((rg kvu).1), (mv 10).2.1, (mv 10).2.2.1, (mv 10).2.2.2)) (i := 10) (by decide) (by decide) (((rg kvt).1) - ((rg kvu).1), ((rg kvt).2.1) - ((rg kvu).2.1), (mv 10).2.2.1, (mv 10).2.2.2)) (i := 10) (by decide) (by decide) (((rg kvt).1) - ((rg kvu).1), ((rg kvt).2.1) - ((rg kvu).2.1), ((rg kvt).2.2.1) - ((rg kvu).2.2.1), (mv 10).2.2.2)) (i := 10) (by decide) (by decide) (((rg kvt).1) - ((rg kvu).1), ((rg kvt).2.1) - ((rg kvu).2.1), ((rg kvt).2.2.1) - ((rg kvu).2.2.1), ((rg kvt).2.2.2) - ((rg kvu).2.2.2))) (stq mrg kvs (((rg kvt).1) - ((rg kvu).1), ((rg kvt).2.1) - ((rg kvu).2.1), ((rg kvt).2.2.1) - ((rg kvu).2.2.1), ((rg kvt).2.2.2) - ((rg kvu).2.2.2)))), rel_rg hrel hkvs hh⟩)
                                        · skip
                                          first | exact absurd c_118 (by decide) | exact absurd (by decide) c_118
                                      · skip
                                        first | exact absurd c_128 (by decide) | exact absurd (by decide) c_128
                                  · skip
                                    first | exact absurd c_128 (by decide) | exact absurd (by decide) c_128
                              · skip
                                first | exact absurd c_128 (by decide) | exact absurd (by decide) c_128
                          · skip
                            first | exact absurd c_128 (by decide) | exact absurd (by decide) c_128
                      · skip
                        first | exact absurd c_84 (by decide) | exact absurd (by decide) c_84
                    · skip
                      first | exact absurd c_52 (by decide) | exact absurd (by decide) c_52
                  · skip
                    first | exact absurd c_36 (by decide) | exact absurd (by decide) c_36
      · skip
        refine h_callS (st1 := [.int 1]) [.long ((2 : Int32).toInt64), .long 0, .long (3)] [] ⟨hx, hb, hml, hown, hts⟩ hE hw (HT.to (c_X6_in l G A (ML ma) F (2 : Int32).toInt64 0 3) (V2 := some (.int 1)) (congrArg (fun y => some (Value.int y)) (bI_t (show inL (2 : Int32).toInt64 0 3 from ⟨by decide, by decide⟩))) rfl) (va_cwS 3 hts gX6_work_X6_in rfl rfl rfl (by decide +kernel) ⟨Nat.le_of_ble_eq_true rfl, Nat.le_of_ble_eq_true rfl⟩) rfl hl.1 rfl (Nat.le_of_ble_eq_true rfl) dX6_work_13 ⟨Nat.le_of_ble_eq_true rfl, Nat.le_of_ble_eq_true rfl⟩ rfl (fun H locs hw => ?_)
        refine lv_if_eq (tgt := 39) hx hb dX6_work_16 (by decide) (fun c_16 => ?_) (fun c_16 => ?_)
        · skip
          first | exact absurd c_16 (by decide) | exact absurd (by decide) c_16
        · skip
          refine lv_iload_n hx hb dX6_work_19 rfl (lv_at hl 3 rfl) ?_
          rcases ix_cases 16 (by decide) vt with hvt | ⟨kvt, hkvt, rfl⟩
          · skip
            have xvt := ix_none hvt
            refine h_callS (st1 := [.int 0]) [.int vt] [] ⟨hx, hb, hml, hown, hts⟩ hE hw (HT.to (c_X6_isRegister l G A (ML ma) F vt) (V2 := some (.int 0)) (congrArg (fun y => some (Value.int y)) (bI_f (show ¬ inL vt.toInt64 0 15 from inL_out (n := 15) (by decide) hvt))) rfl) (va_cwS 1 hts gX6_work_X6_isRegister rfl rfl rfl (by decide +kernel) ⟨Nat.le_of_ble_eq_true rfl, Nat.le_of_ble_eq_true rfl⟩) rfl hl.1 rfl (Nat.le_of_ble_eq_true rfl) dX6_work_20 ⟨Nat.le_of_ble_eq_true rfl, Nat.le_of_ble_eq_true rfl⟩ rfl (fun H locs hw => ?_)
            refine lv_if_eq (tgt := 39) hx hb dX6_work_23 (by decide) (fun c_23 => ?_) (fun c_23 => ?_)
            · skip
              refine lv_iconst (v := (-1)) hx hb dX6_work_39 (by decide) ?_
              exact h_iretP hx hb hlk hr hw dX6_work_40 (by simp only [sp_work, xvs, xvt, cif_T, cif_F, show ((2 : Int32) = 3) = False from eq_false (by decide), show ((2 : Int32) = 0) = False from eq_false (by decide), show ((2 : Int32) = 1) = False from eq_false (by decide), hld]) (by simp only [sp_work, xvs, xvt, cif_T, cif_F, show ((2 : Int32) = 3) = False from eq_false (by decide), show ((2 : Int32) = 0) = False from eq_false (by decide), show ((2 : Int32) = 1) = False from eq_false (by decide), hld]; exact ⟨_, hM, rel_v hrel⟩)
            · skip
              first | exact absurd c_23 (by decide) | exact absurd (by decide) c_23
          · skip
            have xvt := ix_in (n := 16) hkvt (by decide)
            refine h_callS (st1 := [.int 1]) [.int (nI kvt)] [] ⟨hx, hb, hml, hown, hts⟩ hE hw (HT.to (c_X6_isRegister l G A (ML ma) F (nI kvt)) (V2 := some (.int 1)) (congrArg (fun y => some (Value.int y)) (bI_t (show inL (nI kvt).toInt64 0 15 from inL_in (n := 15) (by decide) hkvt))) rfl) (va_cwS 1 hts gX6_work_X6_isRegister rfl rfl rfl (by decide +kernel) ⟨Nat.le_of_ble_eq_true rfl, Nat.le_of_ble_eq_true rfl⟩) rfl hl.1 rfl (Nat.le_of_ble_eq_true rfl) dX6_work_20 ⟨Nat.le_of_ble_eq_true rfl, Nat.le_of_ble_eq_true rfl⟩ rfl (fun H locs hw => ?_)
            refine lv_if_eq (tgt := 39) hx hb dX6_work_23 (by decide) (fun c_23 => ?_) (fun c_23 => ?_)
            · skip
              first | exact absurd c_23 (by decide) | exact absurd (by decide) c_23
            · skip
              refine lv_iload_n hx hb dX6_work_26 rfl (lv_at hl 2 rfl) ?_
              refine lv_iconst (v := 3) hx hb dX6_work_27 (by decide) ?_
              refine lv_icmp_ge (tgt := 41) hx hb dX6_work_28 (by decide) (fun c_28 => ?_) (fun c_28 => ?_)
              · skip
                first | exact absurd c_28 (by decide) | exact absurd (by decide) c_28
              · skip
                refine lv_iload hx hb dX6_work_31 (lv_at hl 4 rfl) ?_
                rcases ix_cases 16 (by decide) vu with hvu | ⟨kvu, hkvu, rfl⟩
                · skip
                  have xvu := ix_none hvu
                  refine h_callS (st1 := [.int 0]) [.int vu] [] ⟨hx, hb, hml, hown, hts⟩ hE hw (HT.to (c_X6_isRegister l G A (ML ma) F vu) (V2 := some (.int 0)) (congrArg (fun y => some (Value.int y)) (bI_f (show ¬ inL vu.toInt64 0 15 from inL_out (n := 15) (by decide) hvu))) rfl) (va_cwS 1 hts gX6_work_X6_isRegister rfl rfl rfl (by decide +kernel) ⟨Nat.le_of_ble_eq_true rfl, Nat.le_of_ble_eq_true rfl⟩) rfl hl.1 rfl (Nat.le_of_ble_eq_true rfl) dX6_work_33 ⟨Nat.le_of_ble_eq_true rfl, Nat.le_of_ble_eq_true rfl⟩ rfl (fun H locs hw => ?_)
                  refine lv_if_ne (tgt := 41) hx hb dX6_work_36 (by decide) (fun c_36 => ?_) (fun c_36 => ?_)
                  · skip
                    first | exact absurd c_36 (by decide) | exact absurd (by decide) c_36
                  · skip
                    refine lv_iconst (v := (-1)) hx hb dX6_work_39 (by decide) ?_
                    exact h_iretP hx hb hlk hr hw dX6_work_40 (by simp only [sp_work, xvs, xvt, xvu, cif_T, cif_F, show ((2 : Int32) = 3) = False from eq_false (by decide), show ((2 : Int32) = 0) = False from eq_false (by decide), show ((2 : Int32) = 1) = False from eq_false (by decide), hld]) (by simp only [sp_work, xvs, xvt, xvu, cif_T, cif_F, show ((2 : Int32) = 3) = False from eq_false (by decide), show ((2 : Int32) = 0) = False from eq_false (by decide), show ((2 : Int32) = 1) = False from eq_false (by decide), hld]; exact ⟨_, hM, rel_v hrel⟩)
                · skip
                  have xvu := ix_in (n := 16) hkvu (by decide)
                  refine h_callS (st1 := [.int 1]) [.int (nI kvu)] [] ⟨hx, hb, hml, hown, hts⟩ hE hw (HT.to (c_X6_isRegister l G A (ML ma) F (nI kvu)) (V2 := some (.int 1)) (congrArg (fun y => some (Value.int y)) (bI_t (show inL (nI kvu).toInt64 0 15 from inL_in (n := 15) (by decide) hkvu))) rfl) (va_cwS 1 hts gX6_work_X6_isRegister rfl rfl rfl (by decide +kernel) ⟨Nat.le_of_ble_eq_true rfl, Nat.le_of_ble_eq_true rfl⟩) rfl hl.1 rfl (Nat.le_of_ble_eq_true rfl) dX6_work_33 ⟨Nat.le_of_ble_eq_true rfl, Nat.le_of_ble_eq_true rfl⟩ rfl (fun H locs hw => ?_)
                  refine lv_if_ne (tgt := 41) hx hb dX6_work_36 (by decide) (fun c_36 => ?_) (fun c_36 => ?_)
                  · skip
                    refine lv_aload_n hx hb dX6_work_41 rfl (lv_at hl 0 rfl) ?_
                    refine lv_aload_n hx hb dX6_work_42 rfl (lv_at hl 0 rfl) ?_
                    refine h_get hx hb hE hw hts hinX6 hown (ci := 6) rfl 8 (by decide) lk_32 (fun _ h9 => h9) hM.ob rfl dX6_work_43 ?_
                    refine lv_iload_n hx hb dX6_work_46 rfl (lv_at hl 3 rfl) ?_
                    refine h_callV (st1 := []) [.ref (ma 8), .int (nI kvt)] [] ⟨hx, hb, hml, hown, hts⟩ hE hw (HT.to (c_X6_load l G A ma F _ _ _ _ _ _ _ _ hM 8 kvt (by decide) (by decide) hkvt) rfl (F3 := va_up F (ma 8) (eJ4 G (rg kvt))) (by rw [show rgq mrg kvt = rg kvt from hk4 kvt hkvt])) (cwV 2 hts gX6_work_X6_load rfl rfl rfl (by decide +kernel) ⟨Nat.le_of_ble_eq_true rfl, Nat.le_of_ble_eq_true rfl⟩) hM.ob rfl rfl rfl hl.1 rfl (Nat.le_of_ble_eq_true rfl) dX6_work_47 ⟨Nat.le_of_ble_eq_true rfl, Nat.le_of_ble_eq_true rfl⟩ rfl (fun H locs hw => ?_)
                    refine lv_iload_n hx hb dX6_work_50 rfl (lv_at hl 2 rfl) ?_
                    refine lv_iconst (v := 3) hx hb dX6_work_51 (by decide) ?_
                    refine lv_icmp_ne (tgt := 72) hx hb dX6_work_52 (by decide) (fun c_52 => ?_) (fun c_52 => ?_)
                    · skip
                      refine lv_aload_n hx hb dX6_work_72 rfl (lv_at hl 0 rfl) ?_
                      refine lv_aload_n hx hb dX6_work_73 rfl (lv_at hl 0 rfl) ?_
                      refine h_get hx hb hE hw hts hinX6 hown (ci := 6) rfl 9 (by decide) lk_35 (fun _ h9 => h9) (pt_ne hM.ob (hM.ne (i := 0) (j := 8) (by decide) (by decide) (by decide))) rfl dX6_work_74 ?_
                      refine lv_iload hx hb dX6_work_77 (lv_at hl 4 rfl) ?_
                      refine h_callV (st1 := []) [.ref (ma 9), .int (nI kvu)] [] ⟨hx, hb, hml, hown, hts⟩ hE hw (HT.to (c_X6_load l G A ma (va_up F (ma 8) (eJ4 G (rg kvt))) _ _ _ _ _ _ _ _ (MW.setv hM (i := 8) (by decide) (by decide) (rg kvt)) 9 kvu (by decide) (by decide) hkvu) rfl (F3 := va_up (va_up F (ma 8) (eJ4 G (rg kvt))) (ma 9) (eJ4 G (rg kvu))) (by rw [show rgq mrg kvu = rg kvu from hk4 kvu hkvu])) (cwV 2 hts gX6_work_X6_load rfl rfl rfl (by decide +kernel) ⟨Nat.le_of_ble_eq_true rfl, Nat.le_of_ble_eq_true rfl⟩) (pt_ne hM.ob (hM.ne (i := 0) (j := 8) (by decide) (by decide) (by decide))) rfl rfl rfl hl.1 rfl (Nat.le_of_ble_eq_true rfl) dX6_work_79 ⟨Nat.le_of_ble_eq_true rfl, Nat.le_of_ble_eq_true rfl⟩ rfl (fun H locs hw => ?_)
                      refine lv_iload_n hx hb dX6_work_82 rfl (lv_at hl 2 rfl) ?_
                      refine lv_iconst (v := 2) hx hb dX6_work_83 (by decide) ?_
                      refine lv_icmp_ne (tgt := 112) hx hb dX6_work_84 (by decide) (fun c_84 => ?_) (fun c_84 => ?_)
                      · skip
                        first | exact absurd c_84 (by decide) | exact absurd (by decide) c_84
                      · skip
                        refine lv_aload_n hx hb dX6_work_87 rfl (lv_at hl 0 rfl) ?_
                        refine h_get hx hb hE hw hts hinX6 hown (ci := 6) rfl 10 (by decide) lk_38 (fun _ h9 => h9) (pt_ne (pt_ne hM.ob (hM.ne (i := 0) (j := 8) (by decide) (by decide) (by decide))) (hM.ne (i := 0) (j := 9) (by decide) (by decide) (by decide))) rfl dX6_work_88 ?_
                        refine lv_aload_n hx hb dX6_work_91 rfl (lv_at hl 0 rfl) ?_
                        refine h_get hx hb hE hw hts hinX6 hown (ci := 6) rfl 8 (by decide) lk_32 (fun _ h9 => h9) (pt_ne (pt_ne hM.ob (hM.ne (i := 0) (j := 8) (by decide) (by decide) (by decide))) (hM.ne (i := 0) (j := 9) (by decide) (by decide) (by decide))) rfl dX6_work_92 ?_
                        refine lv_aload_n hx hb dX6_work_95 rfl (lv_at hl 0 rfl) ?_
                        refine h_get hx hb hE hw hts hinX6 hown (ci := 6) rfl 9 (by decide) lk_35 (fun _ h9 => h9) (pt_ne (pt_ne hM.ob (hM.ne (i := 0) (j := 8) (by decide) (by decide) (by decide))) (hM.ne (i := 0) (j := 9) (by decide) (by decide) (by decide))) rfl dX6_work_96 ?_
                        refine h_callS (st1 := []) [.ref (ma 10), .ref (ma 8), .ref (ma 9)] [] ⟨hx, hb, hml, hown, hts⟩ hE hw (c_X6_times l G A (ML ma) (va_up (va_up F (ma 8) (eJ4 G (rg kvt))) (ma 9) (eJ4 G (rg kvu))) (ma 10) (ma 8) (ma 9) (mv 10) (rg kvt) (rg kvu) (pt_ne (pt_ne (hM.v (i := 10) (by decide) (by decide)) (hM.ne (i := 10) (j := 8) (by decide) (by decide) (by decide))) (hM.ne (i := 10) (j := 9) (by decide) (by decide) (by decide))) (pt_ne (pt_up (hM.v (i := 8) (by decide) (by decide))) (hM.ne (i := 8) (j := 9) (by decide) (by decide) (by decide))) (pt_up (pt_ne (hM.v (i := 9) (by decide) (by decide)) (hM.ne (i := 9) (j := 8) (by decide) (by decide) (by decide)))) (hM.ne (i := 10) (j := 8) (by decide) (by decide) (by decide)) (hM.ne (i := 10) (j := 9) (by decide) (by decide) (by decide))) (va_cwS 3 hts gX6_work_X6_times rfl rfl rfl (by decide +kernel) ⟨Nat.le_of_ble_eq_true rfl, Nat.le_of_ble_eq_true rfl⟩) rfl hl.1 rfl (Nat.le_of_ble_eq_true rfl) dX6_work_99 ⟨Nat.le_of_ble_eq_true rfl, Nat.le_of_ble_eq_true rfl⟩ rfl (fun H locs hw => ?_)
                        refine lv_aload_n hx hb dX6_work_102 rfl (lv_at hl 0 rfl) ?_
                        refine lv_iload_n hx hb dX6_work_103 rfl (lv_at hl 1 rfl) ?_
                        refine lv_aload_n hx hb dX6_work_104 rfl (lv_at hl 0 rfl) ?_
                        refine h_get hx hb hE hw hts hinX6 hown (ci := 6) rfl 10 (by decide) lk_38 (fun _ h9 => h9) (pt_ne (pt_ne (pt_ne hM.ob (hM.ne (i := 0) (j := 8) (by decide) (by decide) (by decide))) (hM.ne (i := 0) (j := 9) (by decide) (by decide) (by decide))) (hM.ne (i := 0) (j := 10) (by decide) (by decide) (by decide))) rfl dX6_work_105 ?_
                        by_cases hh : qhigh (qmul (rg kvt) (rg kvu))
                        · skip
                          refine h_callV (st1 := [.int (-3)]) [.int (nI kvs), .ref (ma 10)] [] ⟨hx, hb, hml, hown, hts⟩ hE hw (c_X6_holds_hi l G A ma (va_up (va_up (va_up F (ma 8) (eJ4 G (rg kvt))) (ma 9) (eJ4 G (rg kvu))) (ma 10) (eJ4 G (qmul (rg kvt) (rg kvu)))) _ _ _ _ _ _ _ _ (MW.setv (MW.setv (MW.setv hM (i := 8) (by decide) (by decide) (rg kvt)) (i := 9) (by decide) (by decide) (rg kvu)) (i := 10) (by decide) (by decide) (qmul (rg kvt) (rg kvu))) 10 kvs (qmul (rg kvt) (rg kvu)) (by decide) (by decide) (pt_up (pt_ne (pt_ne (hM.v (i := 10) (by decide) (by decide)) (hM.ne (i := 10) (j := 8) (by decide) (by decide) (by decide))) (hM.ne (i := 10) (j := 9) (by decide) (by decide) (by decide)))) hkvs hh) (cwV 2 hts gX6_work_X6_holds rfl rfl rfl (by decide +kernel) ⟨Nat.le_of_ble_eq_true rfl, Nat.le_of_ble_eq_true rfl⟩) (pt_ne (pt_ne (pt_ne hM.ob (hM.ne (i := 0) (j := 8) (by decide) (by decide) (by decide))) (hM.ne (i := 0) (j := 9) (by decide) (by decide) (by decide))) (hM.ne (i := 0) (j := 10) (by decide) (by decide) (by decide))) rfl rfl rfl hl.1 rfl (Nat.le_of_ble_eq_true rfl) dX6_work_108 ⟨Nat.le_of_ble_eq_true rfl, Nat.le_of_ble_eq_true rfl⟩ rfl (fun H locs hw => ?_)
                          exact h_iretP hx hb hlk hr hw dX6_work_111 (by simp only [sp_work, xvs, xvt, xvu, cif_t hh, cif_T, cif_F, show ((2 : Int32) = 3) = False from eq_false (by decide), show ((2 : Int32) = 0) = False from eq_false (by decide), show ((2 : Int32) = 1) = False from eq_false (by decide), hld]) (by simp only [sp_work, xvs, xvt, xvu, cif_t hh, cif_T, cif_F, show ((2 : Int32) = 3) = False from eq_false (by decide), show ((2 : Int32) = 0) = False from eq_false (by decide), show ((2 : Int32) = 1) = False from eq_false (by decide), hld]; exact ⟨_, (MW.setv (MW.setv (MW.setv hM (i := 8) (by decide) (by decide) (rg kvt)) (i := 9) (by decide) (by decide) (rg kvu)) (i := 10) (by decide) (by decide) (qmul (rg kvt) (rg kvu))), rel_v hrel⟩)
                        · skip
                          refine h_callV (st1 := [.int 0]) [.int (nI kvs), .ref (ma 10)] [] ⟨hx, hb, hml, hown, hts⟩ hE hw (c_X6_holds_lo l G A ma (va_up (va_up (va_up F (ma 8) (eJ4 G (rg kvt))) (ma 9) (eJ4 G (rg kvu))) (ma 10) (eJ4 G (qmul (rg kvt) (rg kvu)))) _ _ _ _ _ _ _ _ (MW.setv (MW.setv (MW.setv hM (i := 8) (by decide) (by decide) (rg kvt)) (i := 9) (by decide) (by decide) (rg kvu)) (i := 10) (by decide) (by decide) (qmul (rg kvt) (rg kvu))) 10 kvs (qmul (rg kvt) (rg kvu)) (by decide) (by decide) (pt_up (pt_ne (pt_ne (hM.v (i := 10) (by decide) (by decide)) (hM.ne (i := 10) (j := 8) (by decide) (by decide) (by decide))) (hM.ne (i := 10) (j := 9) (by decide) (by decide) (by decide)))) hkvs hh) (cwV 2 hts gX6_work_X6_holds rfl rfl rfl (by decide +kernel) ⟨Nat.le_of_ble_eq_true rfl, Nat.le_of_ble_eq_true rfl⟩) (pt_ne (pt_ne (pt_ne hM.ob (hM.ne (i := 0) (j := 8) (by decide) (by decide) (by decide))) (hM.ne (i := 0) (j := 9) (by decide) (by decide) (by decide))) (hM.ne (i := 0) (j := 10) (by decide) (by decide) (by decide))) rfl rfl rfl hl.1 rfl (Nat.le_of_ble_eq_true rfl) dX6_work_108 ⟨Nat.le_of_ble_eq_true rfl, Nat.le_of_ble_eq_true rfl⟩ rfl (fun H locs hw => ?_)
                          exact h_iretP hx hb hlk hr hw dX6_work_111 (by simp only [sp_work, xvs, xvt, xvu, cif_f hh, cif_T, cif_F, show ((2 : Int32) = 3) = False from eq_false (by decide), show ((2 : Int32) = 0) = False from eq_false (by decide), show ((2 : Int32) = 1) = False from eq_false (by decide), hld]) (by simp only [sp_work, xvs, xvt, xvu, cif_f hh, cif_T, cif_F, show ((2 : Int32) = 3) = False from eq_false (by decide), show ((2 : Int32) = 0) = False from eq_false (by decide), show ((2 : Int32) = 1) = False from eq_false (by decide), hld]; exact ⟨_, (MW.setr (MW.setv (MW.setv (MW.setv hM (i := 8) (by decide) (by decide) (rg kvt)) (i := 9) (by decide) (by decide) (rg kvu)) (i := 10) (by decide) (by decide) (qmul (rg kvt) (rg kvu))) (stq mrg kvs (qmul (rg kvt) (rg kvu)))), rel_rg hrel hkvs hh⟩)
                    · skip
                      first | exact absurd c_52 (by decide) | exact absurd (by decide) c_52
                  · skip
                    first | exact absurd c_36 (by decide) | exact absurd (by decide) c_36
      · skip
        refine h_callS (st1 := [.int 1]) [.long ((3 : Int32).toInt64), .long 0, .long (3)] [] ⟨hx, hb, hml, hown, hts⟩ hE hw (HT.to (c_X6_in l G A (ML ma) F (3 : Int32).toInt64 0 3) (V2 := some (.int 1)) (congrArg (fun y => some (Value.int y)) (bI_t (show inL (3 : Int32).toInt64 0 3 from ⟨by decide, by decide⟩))) rfl) (va_cwS 3 hts gX6_work_X6_in rfl rfl rfl (by decide +kernel) ⟨Nat.le_of_ble_eq_true rfl, Nat.le_of_ble_eq_true rfl⟩) rfl hl.1 rfl (Nat.le_of_ble_eq_true rfl) dX6_work_13 ⟨Nat.le_of_ble_eq_true rfl, Nat.le_of_ble_eq_true rfl⟩ rfl (fun H locs hw => ?_)
        refine lv_if_eq (tgt := 39) hx hb dX6_work_16 (by decide) (fun c_16 => ?_) (fun c_16 => ?_)
        · skip
          first | exact absurd c_16 (by decide) | exact absurd (by decide) c_16
        · skip
          refine lv_iload_n hx hb dX6_work_19 rfl (lv_at hl 3 rfl) ?_
          rcases ix_cases 16 (by decide) vt with hvt | ⟨kvt, hkvt, rfl⟩
          · skip
            have xvt := ix_none hvt
            refine h_callS (st1 := [.int 0]) [.int vt] [] ⟨hx, hb, hml, hown, hts⟩ hE hw (HT.to (c_X6_isRegister l G A (ML ma) F vt) (V2 := some (.int 0)) (congrArg (fun y => some (Value.int y)) (bI_f (show ¬ inL vt.toInt64 0 15 from inL_out (n := 15) (by decide) hvt))) rfl) (va_cwS 1 hts gX6_work_X6_isRegister rfl rfl rfl (by decide +kernel) ⟨Nat.le_of_ble_eq_true rfl, Nat.le_of_ble_eq_true rfl⟩) rfl hl.1 rfl (Nat.le_of_ble_eq_true rfl) dX6_work_20 ⟨Nat.le_of_ble_eq_true rfl, Nat.le_of_ble_eq_true rfl⟩ rfl (fun H locs hw => ?_)
            refine lv_if_eq (tgt := 39) hx hb dX6_work_23 (by decide) (fun c_23 => ?_) (fun c_23 => ?_)
            · skip
              refine lv_iconst (v := (-1)) hx hb dX6_work_39 (by decide) ?_
              exact h_iretP hx hb hlk hr hw dX6_work_40 (by simp only [sp_work, xvs, xvt, cif_T, cif_F, hld]) (by simp only [sp_work, xvs, xvt, cif_T, cif_F, hld]; exact ⟨_, hM, rel_v hrel⟩)
            · skip
              first | exact absurd c_23 (by decide) | exact absurd (by decide) c_23
          · skip
            have xvt := ix_in (n := 16) hkvt (by decide)
            refine h_callS (st1 := [.int 1]) [.int (nI kvt)] [] ⟨hx, hb, hml, hown, hts⟩ hE hw (HT.to (c_X6_isRegister l G A (ML ma) F (nI kvt)) (V2 := some (.int 1)) (congrArg (fun y => some (Value.int y)) (bI_t (show inL (nI kvt).toInt64 0 15 from inL_in (n := 15) (by decide) hkvt))) rfl) (va_cwS 1 hts gX6_work_X6_isRegister rfl rfl rfl (by decide +kernel) ⟨Nat.le_of_ble_eq_true rfl, Nat.le_of_ble_eq_true rfl⟩) rfl hl.1 rfl (Nat.le_of_ble_eq_true rfl) dX6_work_20 ⟨Nat.le_of_ble_eq_true rfl, Nat.le_of_ble_eq_true rfl⟩ rfl (fun H locs hw => ?_)
            refine lv_if_eq (tgt := 39) hx hb dX6_work_23 (by decide) (fun c_23 => ?_) (fun c_23 => ?_)
            · skip
              first | exact absurd c_23 (by decide) | exact absurd (by decide) c_23
            · skip
              refine lv_iload_n hx hb dX6_work_26 rfl (lv_at hl 2 rfl) ?_
              refine lv_iconst (v := 3) hx hb dX6_work_27 (by decide) ?_
              refine lv_icmp_ge (tgt := 41) hx hb dX6_work_28 (by decide) (fun c_28 => ?_) (fun c_28 => ?_)
              · skip
                refine lv_aload_n hx hb dX6_work_41 rfl (lv_at hl 0 rfl) ?_
                refine lv_aload_n hx hb dX6_work_42 rfl (lv_at hl 0 rfl) ?_
                refine h_get hx hb hE hw hts hinX6 hown (ci := 6) rfl 8 (by decide) lk_32 (fun _ h9 => h9) hM.ob rfl dX6_work_43 ?_
                refine lv_iload_n hx hb dX6_work_46 rfl (lv_at hl 3 rfl) ?_
                refine h_callV (st1 := []) [.ref (ma 8), .int (nI kvt)] [] ⟨hx, hb, hml, hown, hts⟩ hE hw (HT.to (c_X6_load l G A ma F _ _ _ _ _ _ _ _ hM 8 kvt (by decide) (by decide) hkvt) rfl (F3 := va_up F (ma 8) (eJ4 G (rg kvt))) (by rw [show rgq mrg kvt = rg kvt from hk4 kvt hkvt])) (cwV 2 hts gX6_work_X6_load rfl rfl rfl (by decide +kernel) ⟨Nat.le_of_ble_eq_true rfl, Nat.le_of_ble_eq_true rfl⟩) hM.ob rfl rfl rfl hl.1 rfl (Nat.le_of_ble_eq_true rfl) dX6_work_47 ⟨Nat.le_of_ble_eq_true rfl, Nat.le_of_ble_eq_true rfl⟩ rfl (fun H locs hw => ?_)
                refine lv_iload_n hx hb dX6_work_50 rfl (lv_at hl 2 rfl) ?_
                refine lv_iconst (v := 3) hx hb dX6_work_51 (by decide) ?_
                refine lv_icmp_ne (tgt := 72) hx hb dX6_work_52 (by decide) (fun c_52 => ?_) (fun c_52 => ?_)
                · skip
                  first | exact absurd c_52 (by decide) | exact absurd (by decide) c_52
                · skip
                  refine lv_aload_n hx hb dX6_work_55 rfl (lv_at hl 0 rfl) ?_
                  refine h_get hx hb hE hw hts hinX6 hown (ci := 6) rfl 8 (by decide) lk_32 (fun _ h9 => h9) (pt_ne hM.ob (hM.ne (i := 0) (j := 8) (by decide) (by decide) (by decide))) rfl dX6_work_56 ?_
                  refine h_callS (st1 := []) [.ref (ma 8)] [] ⟨hx, hb, hml, hown, hts⟩ hE hw (c_X6_mirror l G A (ML ma) (va_up F (ma 8) (eJ4 G (rg kvt))) (ma 8) (rg kvt) (pt_up (hM.v (i := 8) (by decide) (by decide)))) (va_cwS 1 hts gX6_work_X6_mirror rfl rfl rfl (by decide +kernel) ⟨Nat.le_of_ble_eq_true rfl, Nat.le_of_ble_eq_true rfl⟩) rfl hl.1 rfl (Nat.le_of_ble_eq_true rfl) dX6_work_59 ⟨Nat.le_of_ble_eq_true rfl, Nat.le_of_ble_eq_true rfl⟩ rfl (fun H locs hw => ?_)
                  refine lv_aload_n hx hb dX6_work_62 rfl (lv_at hl 0 rfl) ?_
                  refine lv_iload_n hx hb dX6_work_63 rfl (lv_at hl 1 rfl) ?_
                  refine lv_aload_n hx hb dX6_work_64 rfl (lv_at hl 0 rfl) ?_
                  refine h_get hx hb hE hw hts hinX6 hown (ci := 6) rfl 8 (by decide) lk_32 (fun _ h9 => h9) (pt_ne (pt_ne hM.ob (hM.ne (i := 0) (j := 8) (by decide) (by decide) (by decide))) (hM.ne (i := 0) (j := 8) (by decide) (by decide) (by decide))) rfl dX6_work_65 ?_
                  by_cases hh : qhigh (qmir (rg kvt))
                  · skip
                    refine h_callV (st1 := [.int (-3)]) [.int (nI kvs), .ref (ma 8)] [] ⟨hx, hb, hml, hown, hts⟩ hE hw (c_X6_holds_hi l G A ma (va_up (va_up F (ma 8) (eJ4 G (rg kvt))) (ma 8) (eJ4 G (qmir (rg kvt)))) _ _ _ _ _ _ _ _ (MW.setv (MW.setv hM (i := 8) (by decide) (by decide) (rg kvt)) (i := 8) (by decide) (by decide) (qmir (rg kvt))) 8 kvs (qmir (rg kvt)) (by decide) (by decide) (pt_up (pt_up (hM.v (i := 8) (by decide) (by decide)))) hkvs hh) (cwV 2 hts gX6_work_X6_holds rfl rfl rfl (by decide +kernel) ⟨Nat.le_of_ble_eq_true rfl, Nat.le_of_ble_eq_true rfl⟩) (pt_ne (pt_ne hM.ob (hM.ne (i := 0) (j := 8) (by decide) (by decide) (by decide))) (hM.ne (i := 0) (j := 8) (by decide) (by decide) (by decide))) rfl rfl rfl hl.1 rfl (Nat.le_of_ble_eq_true rfl) dX6_work_68 ⟨Nat.le_of_ble_eq_true rfl, Nat.le_of_ble_eq_true rfl⟩ rfl (fun H locs hw => ?_)
                    exact h_iretP hx hb hlk hr hw dX6_work_71 (by simp only [sp_work, xvs, xvt, cif_t hh, cif_T, cif_F, hld]) (by simp only [sp_work, xvs, xvt, cif_t hh, cif_T, cif_F, hld]; exact ⟨_, (MW.setv (MW.setv hM (i := 8) (by decide) (by decide) (rg kvt)) (i := 8) (by decide) (by decide) (qmir (rg kvt))), rel_v hrel⟩)
                  · skip
                    refine h_callV (st1 := [.int 0]) [.int (nI kvs), .ref (ma 8)] [] ⟨hx, hb, hml, hown, hts⟩ hE hw (c_X6_holds_lo l G A ma (va_up (va_up F (ma 8) (eJ4 G (rg kvt))) (ma 8) (eJ4 G (qmir (rg kvt)))) _ _ _ _ _ _ _ _ (MW.setv (MW.setv hM (i := 8) (by decide) (by decide) (rg kvt)) (i := 8) (by decide) (by decide) (qmir (rg kvt))) 8 kvs (qmir (rg kvt)) (by decide) (by decide) (pt_up (pt_up (hM.v (i := 8) (by decide) (by decide)))) hkvs hh) (cwV 2 hts gX6_work_X6_holds rfl rfl rfl (by decide +kernel) ⟨Nat.le_of_ble_eq_true rfl, Nat.le_of_ble_eq_true rfl⟩) (pt_ne (pt_ne hM.ob (hM.ne (i := 0) (j := 8) (by decide) (by decide) (by decide))) (hM.ne (i := 0) (j := 8) (by decide) (by decide) (by decide))) rfl rfl rfl hl.1 rfl (Nat.le_of_ble_eq_true rfl) dX6_work_68 ⟨Nat.le_of_ble_eq_true rfl, Nat.le_of_ble_eq_true rfl⟩ rfl (fun H locs hw => ?_)
                    exact h_iretP hx hb hlk hr hw dX6_work_71 (by simp only [sp_work, xvs, xvt, cif_f hh, cif_T, cif_F, hld]) (by simp only [sp_work, xvs, xvt, cif_f hh, cif_T, cif_F, hld]; exact ⟨_, (MW.setr (MW.setv (MW.setv hM (i := 8) (by decide) (by decide) (rg kvt)) (i := 8) (by decide) (by decide) (qmir (rg kvt))) (stq mrg kvs (qmir (rg kvt)))), rel_rg hrel hkvs hh⟩)
              · skip
                first | exact absurd c_28 (by decide) | exact absurd (by decide) c_28
