theorem in_k {v : Int32} : inL v.toInt64 (-1) 2 ↔ (¬ v < -1 ∧ v ≤ 2) := by
  rw [inL_iff, Int32.not_lt, Int32.le_iff_toInt_le, Int32.le_iff_toInt_le, show (-1 : Int64).toInt = -1 from by decide, show (2 : Int64).toInt = 2 from by decide, show (-1 : Int32).toInt = -1 from by decide, show (2 : Int32).toInt = 2 from by decide]
theorem eq_m1 {v : Int32} (h1 : v < 0) (h2 : ¬ v < -1) : v = -1 := by
  rw [Int32.lt_iff_toInt_lt, show (0 : Int32).toInt = 0 from by decide] at h1
  rw [Int32.lt_iff_toInt_lt, show (-1 : Int32).toInt = -1 from by decide] at h2
  exact int_of (by rw [show (-1 : Int32).toInt = -1 from by decide]; omega)
theorem ne_m1 {v : Int32} (h : ¬ v < 0) : ¬ v = -1 := fun w => h (by rw [w]; decide)
theorem rel_sh {M : MS} {S : SS} (h : mrel M S) {k z2 : Nat} {kd2 : Int32} {sh : Nat → Int64} {md : Nat → Int64} {v : Nat → Q4} (hk : k < 6) (hs : ∀ j, j < 6 → j ≠ k → ∀ i, i < 16 → sh (16 * j + i) = M.2.2.1 (16 * j + i)) (hg : ∀ i, i < 16 → sh (16 * k + i) = 0) : mrel (upd M.1 k kd2, upd M.2.1 k (nI z2), sh, M.2.2.2.1, M.2.2.2.2.1, md, v, M.2.2.2.2.2.2.2) (sSh S k kd2 z2) := by
  obtain ⟨h1, h2, h3, h4, h5, h6⟩ := h
  refine ⟨fun j hj => ?_, fun j hj => ?_, fun j hj i hi => ?_, h4, h5, h6⟩
  · by_cases e : j = k
    · subst e
      show upd M.1 j kd2 j = upq S.2.1 j kd2 j
      rw [pk_us, upq_s]
    · show upd M.1 k kd2 j = upq S.2.1 k kd2 j
      rw [pk_un e, upq_n _ _ e]; exact h1 j hj
  · by_cases e : j = k
    · subst e
      show upd M.2.1 j (nI z2) j = nI (upq S.2.2.1 j z2 j)
      rw [pk_us, upq_s]
    · show upd M.2.1 k (nI z2) j = nI (upq S.2.2.1 k z2 j)
      rw [pk_un e, upq_n _ _ e]; exact h2 j hj
  · by_cases e : j = k
    · subst e
      show sh (16 * j + i) = upq S.2.2.2.1 j (fun _ => 0) j i
      rw [upq_s]; exact hg i hi
    · show sh (16 * j + i) = upq S.2.2.2.1 k (fun _ => 0) j i
      rw [upq_n _ _ e, hs j hj e i hi]; exact h3 j hj i hi
theorem zsh {sh : Nat → Int64} {k i : Nat} (h : ∀ j, j < i → sh (16 * k + j) = 0) : ∀ j, j < i + 1 → vp_updL sh (16 * k + i) 0 (16 * k + j) = 0 := fun j hj => by
  by_cases e : j = i
  · subst e; rw [pk_uLs]
  · rw [pk_uLn (by omega)]; exact h j (by omega)
theorem kd_neg {kd : Int32} (h : kd = -1 ∨ 0 ≤ kd) (h1 : kd < 0) : kd = -1 := h.resolve_right (fun w => absurd h1 (Int32.not_lt.mpr w))
theorem kd_nneg {kd : Int32} (h1 : ¬ kd < 0) : ¬ kd = -1 := fun w => h1 (by rw [w]; decide)
theorem rch_neg {z : Nat} {i n : Int32} (h : n < 0) : rch z i n = none := by
  unfold rch
  by_cases hi : i < 0
  · rw [if_pos hi]
  · rw [if_neg hi, if_pos h]

theorem mid_s {md : Nat → Int64} {g : Nat → Int64} {a i : Nat} (h : ∀ t, t < i → md t = g (a + t)) : ∀ t, t < i + 1 → vp_updL md i (g (a + i)) t = g (a + t) := fun t ht => by
  by_cases e : t = i
  · subst e; rw [pk_uLs]
  · rw [pk_uLn e]; exact h t (by omega)
theorem cpy_s {sh f g : Nat → Int64} {k a j i : Nat} {c : Int64} (hj : j + i < 16) (hc : c = f (a + i)) (h : ∀ t, t < 16 → sh (16 * k + t) = va_cpy f g a j i t) : ∀ t, t < 16 → vp_updL sh (16 * k + (j + i)) c (16 * k + t) = va_cpy f g a j (i + 1) t := fun t ht => by
  by_cases e : t = j + i
  · subst e
    rw [pk_uLs, pk_cpy_in (by omega) (by omega), hc, show j + i - j = i by omega]
  · rw [pk_uLn (by omega), h t ht]
    by_cases e2 : j ≤ t ∧ t < j + i
    · rw [pk_cpy_in e2.1 e2.2, pk_cpy_in e2.1 (by omega)]
    · rw [pk_cpy_out (by omega), pk_cpy_out (by omega)]
set_option maxHeartbeats 4000000 in
set_option maxRecDepth 100000 in
theorem c_X6_sheet (l : Launch) (G : GG) (A : Nat → Prop) (ma : Nat → Nat) (F : FM) (rg : Nat → Q4) (kd : Nat → Int32) (z : Nat → Nat) (pl : Nat → Nat → Int64) (cnt : Nat) (hR : MR G ma (rg, kd, z, pl, cnt) F) (hz : ∀ k, k < 6 → z k ≤ 16) (hkd : ∀ k, k < 6 → kd k = -1 ∨ 0 ≤ kd k) (hc12 : cnt ≤ 12) (vr : Int32) (vk : Int32) (vn : Int32) : PT l yX6_sheet wsX6_sheet { frames := 2, cells := 0, slots := 0, locals := 45 } G A (ML ma) [.ref (ma 0), .int vr, .int vk, .int vn] F (some (.int (sp_sheet (rg, kd, z, pl, cnt) vr vk vn).1)) (MR G ma (sp_sheet (rg, kd, z, pl, cnt) vr vk vn).2) := by
  refine PT.ofW (cc := cX6_sheet) (maxL := 5) (ret := (some .int)) (plainFor_of_name (by decide)) rfl (Nat.le_of_ble_eq_true rfl) ?_
  intro p e s m below meth c ls hx hb hr hml hown hts hlk hE hw hl
  have hl : lv_has ls 5 [(0, .ref (ma 0)), (1, .int vr), (2, .int vk), (3, .int vn)] := hl
  have hown : s.vm.findClass RX6 = some m.cls := hown
  have cl_75 := hts (.constantLong RX6 75 (-1)) (by decide +kernel)
  have cl_77 := hts (.constantLong RX6 77 (2)) (by decide +kernel)
  have lk_7 := hts (.fieldLink RX6 7 "FourPartsModel" "kind" "[I") (by decide +kernel)
  have hinX6 : ∀ w ∈ u_ws RX6 TX6 18, w ∈ wsX6_sheet := by decide +kernel
  have lk_13 := hts (.fieldLink RX6 13 "FourPartsModel" "size" "[I") (by decide +kernel)
  have lk_16 := hts (.fieldLink RX6 16 "FourPartsModel" "sheets" "[J") (by decide +kernel)
  obtain ⟨⟨mk, msz, msh, mrg, mfc, mmd, mv, mcn⟩, hM, hrel⟩ := hR
  obtain ⟨hk1, hk2, hk3, hk4, hk5, hk6⟩ := id hrel
  refine lv_iload_n hx hb dX6_sheet_0 rfl (lv_at hl 1 rfl) ?_
  rcases ix_cases 6 (by decide) vr with hvr | ⟨kvr, hkvr, rfl⟩
  · skip
    have xvr := ix_none hvr
    refine h_callS (st1 := [.int 0]) [.int vr] [] ⟨hx, hb, hml, hown, hts⟩ hE hw (HT.to (c_X6_isSheet l G A (ML ma) F vr) (V2 := some (.int 0)) (congrArg (fun y => some (Value.int y)) (bI_f (show ¬ inL vr.toInt64 0 5 from inL_out (n := 5) (by decide) hvr))) rfl) (va_cwS 1 hts gX6_sheet_X6_isSheet rfl rfl rfl (by decide +kernel) ⟨Nat.le_of_ble_eq_true rfl, Nat.le_of_ble_eq_true rfl⟩) rfl hl.1 rfl (Nat.le_of_ble_eq_true rfl) dX6_sheet_1 ⟨Nat.le_of_ble_eq_true rfl, Nat.le_of_ble_eq_true rfl⟩ rfl (fun H locs hw => ?_)
    refine lv_if_eq (tgt := 31) hx hb dX6_sheet_4 (by decide) (fun c_4 => ?_) (fun c_4 => ?_)
    · skip
      refine lv_iconst (v := (-1)) hx hb dX6_sheet_31 (by decide) ?_
      exact h_iretP hx hb hlk hr hw dX6_sheet_32 (by simp only [sp_sheet, xvr]) (by simp only [sp_sheet, xvr]; exact ⟨_, hM, rel_v hrel⟩)
    · skip
      first | exact absurd c_4 (by decide) | exact absurd (by decide) c_4
  · skip
    have xvr := ix_in (n := 6) hkvr (by decide)
    refine h_callS (st1 := [.int 1]) [.int (nI kvr)] [] ⟨hx, hb, hml, hown, hts⟩ hE hw (HT.to (c_X6_isSheet l G A (ML ma) F (nI kvr)) (V2 := some (.int 1)) (congrArg (fun y => some (Value.int y)) (bI_t (show inL (nI kvr).toInt64 0 5 from inL_in (n := 5) (by decide) hkvr))) rfl) (va_cwS 1 hts gX6_sheet_X6_isSheet rfl rfl rfl (by decide +kernel) ⟨Nat.le_of_ble_eq_true rfl, Nat.le_of_ble_eq_true rfl⟩) rfl hl.1 rfl (Nat.le_of_ble_eq_true rfl) dX6_sheet_1 ⟨Nat.le_of_ble_eq_true rfl, Nat.le_of_ble_eq_true rfl⟩ rfl (fun H locs hw => ?_)
    refine lv_if_eq (tgt := 31) hx hb dX6_sheet_4 (by decide) (fun c_4 => ?_) (fun c_4 => ?_)
    · skip
      first | exact absurd c_4 (by decide) | exact absurd (by decide) c_4
    · skip
      refine lv_iload_n hx hb dX6_sheet_7 rfl (lv_at hl 2 rfl) ?_
      refine lv_i2l hx hb dX6_sheet_8 rfl ?_
      refine lv_ldc2 hx hb (v := (-1)) hown cl_75 dX6_sheet_9 ?_
      refine lv_ldc2 hx hb (v := (2)) hown cl_77 dX6_sheet_12 ?_
      refine h_callS (st1 := [.int (bI (inL vk.toInt64 (-1) (2)))]) [.long vk.toInt64, .long (-1), .long (2)] [] ⟨hx, hb, hml, hown, hts⟩ hE hw (c_X6_in l G A (ML ma) F vk.toInt64 (-1) (2)) (va_cwS 3 hts gX6_sheet_X6_in rfl rfl rfl (by decide +kernel) ⟨Nat.le_of_ble_eq_true rfl, Nat.le_of_ble_eq_true rfl⟩) rfl hl.1 rfl (Nat.le_of_ble_eq_true rfl) dX6_sheet_15 ⟨Nat.le_of_ble_eq_true rfl, Nat.le_of_ble_eq_true rfl⟩ rfl (fun H locs hw => ?_)
      refine lv_if_eq (tgt := 31) hx hb dX6_sheet_18 (by decide) (fun c_18 => ?_) (fun c_18 => ?_)
      · skip
        have c_18 := bI_eq.mp c_18
        by_cases hk0 : vk < -1
        · skip
          refine lv_iconst (v := (-1)) hx hb dX6_sheet_31 (by decide) ?_
          exact h_iretP hx hb hlk hr hw dX6_sheet_32 (by simp only [sp_sheet, xvr, cif_t hk0]) (by simp only [sp_sheet, xvr, cif_t hk0]; exact ⟨_, hM, rel_v hrel⟩)
        · skip
          refine lv_iconst (v := (-1)) hx hb dX6_sheet_31 (by decide) ?_
          exact h_iretP hx hb hlk hr hw dX6_sheet_32 (by simp only [sp_sheet, xvr, cif_f hk0, cif_f (fun w => c_18 (in_k.mpr ⟨hk0, w⟩))]) (by simp only [sp_sheet, xvr, cif_f hk0, cif_f (fun w => c_18 (in_k.mpr ⟨hk0, w⟩))]; exact ⟨_, hM, rel_v hrel⟩)
      · skip
        have c_18 := bI_ne.mp c_18
        have hk0 := in_k.mp c_18
        refine lv_iload_n hx hb dX6_sheet_21 rfl (lv_at hl 2 rfl) ?_
        refine lv_if_lt (tgt := 33) hx hb dX6_sheet_22 (by decide) (fun c_22 => ?_) (fun c_22 => ?_)
        · skip
          obtain rfl := eq_m1 c_22 hk0.1
          refine lv_iload_n hx hb dX6_sheet_33 rfl (lv_at hl 2 rfl) ?_
          refine lv_if_lt (tgt := 44) hx hb dX6_sheet_34 (by decide) (fun c_34 => ?_) (fun c_34 => ?_)
          · skip
            refine lv_aload_n hx hb dX6_sheet_44 rfl (lv_at hl 0 rfl) ?_
            refine h_get hx hb hE hw hts hinX6 hown (ci := 6) rfl 0 (by decide) lk_7 (fun _ h9 => h9) hM.ob rfl dX6_sheet_45 ?_
            refine lv_iload_n hx hb dX6_sheet_48 rfl (lv_at hl 1 rfl) ?_
            refine lv_iload_n hx hb dX6_sheet_49 rfl (lv_at hl 2 rfl) ?_
            refine h_iast hx hb hE hw hM.kd (vp_in_nI (n := kvr) (N := 6) (by omega) (by decide)) (g := upd mk kvr (-1)) (by rw [nI_clamp (by omega)]) dX6_sheet_50 (fun H locs hw => ?_)
            refine lv_aload_n hx hb dX6_sheet_51 rfl (lv_at hl 0 rfl) ?_
            refine h_get hx hb hE hw hts hinX6 hown (ci := 6) rfl 1 (by decide) lk_13 (fun _ h9 => h9) (pt_ne hM.ob (hM.ne (i := 0) (j := 1) (by decide) (by decide) (by decide))) rfl dX6_sheet_52 ?_
            refine lv_iload_n hx hb dX6_sheet_55 rfl (lv_at hl 1 rfl) ?_
            refine lv_iload_n hx hb dX6_sheet_56 rfl (lv_at hl 2 rfl) ?_
            refine lv_if_ge (tgt := 64) hx hb dX6_sheet_57 (by decide) (fun c_57 => ?_) (fun c_57 => ?_)
            · skip
              first | exact absurd c_57 (by decide) | exact absurd (by decide) c_57
            · skip
              refine lv_iconst (v := 0) hx hb dX6_sheet_60 (by decide) ?_
              refine lv_goto (tgt := 65) hx hb dX6_sheet_61 (by decide) ?_
              refine h_iast hx hb hE hw (pt_ne hM.sz (hM.ne (i := 2) (j := 1) (by decide) (by decide) (by decide))) (vp_in_nI (n := kvr) (N := 6) (by omega) (by decide)) (g := upd msz kvr 0) (by rw [nI_clamp (by omega)]) dX6_sheet_65 (fun H locs hw => ?_)
              refine lv_iconst (v := 0) hx hb dX6_sheet_66 (by decide) ?_
              refine lv_istore (lv' := [(4, .int 0), (0, .ref (ma 0)), (1, .int (nI kvr)), (2, .int (-1)), (3, .int vn)]) hx hb dX6_sheet_67 hl (by decide) rfl (fun ls hl => ?_)
              have hsps : (sp_sheet (rg, kd, z, pl, cnt) (nI kvr) (-1) vn) = (0, sSh (rg, kd, z, pl, cnt) kvr (-1) 0) := by simp only [sp_sheet, xvr, cif_f hk0.1, cif_t hk0.2, cif_T]
              have loop : ∀ (d i : Nat) (F : FM) (sh2 : Nat → Int64) (H : Heap) (locs : List Loc) (ls : Array Slot), d + i = 16 → MW G ma (upd mk kvr (-1), upd msz kvr (nI 0), sh2, mrg, mfc, mmd, mv, mcn) F → (∀ j, j < 6 → j ≠ kvr → ∀ t, t < 16 → sh2 (16 * j + t) = msh (16 * j + t)) → (∀ j, j < i → sh2 (16 * kvr + j) = 0) → wo G A s.heap (ML ma) F H locs → lv_has ls 5 [(0, .ref (ma 0)), (1, .int (nI kvr)), (4, .int (nI i))] → W p l e { frames := 2, cells := 0, slots := 0, locals := 45 } s m ([.ref (ma 0), .int (nI kvr), .int (-1), .int vn].toArray) below meth c H locs 0 0 (MQ below (QP G A (ML ma) (some (.int (sp_sheet (rg, kd, z, pl, cnt) (nI kvr) (-1) vn).1)) (MR G ma (sp_sheet (rg, kd, z, pl, cnt) (nI kvr) (-1) vn).2)) ([.ref (ma 0), .int (nI kvr), .int (-1), .int vn].toArray) s 0 0 A) (F0 m 69 ls []) := by
                intro d
                induction d with
                | zero =>
                  intro i F sh2 H locs ls hi hM2 hs hg hw hl
                  refine lv_iload hx hb dX6_sheet_69 (lv_at hl 2 rfl) ?_
                  refine lv_bipush (v := 16) hx hb dX6_sheet_71 (by decide) ?_
                  refine lv_icmp_ge (tgt := 95) hx hb dX6_sheet_73 (by decide) (fun c_73 => ?_) (fun c_73 => ?_)
                  · skip
                    refine lv_iconst (v := 0) hx hb dX6_sheet_95 (by decide) ?_
                    exact h_iretP hx hb hlk hr hw dX6_sheet_96 (by rw [hsps]) (by rw [hsps]; exact ⟨_, hM2, rel_sh hrel hkvr hs (fun j hj => hg j (by omega))⟩)
                  · skip
                    exact absurd (nI_le (a := 16) (b := i) (by omega) (by omega)) c_73
                | succ d ih =>
                  intro i F sh2 H locs ls hi hM2 hs hg hw hl
                  refine lv_iload hx hb dX6_sheet_69 (lv_at hl 2 rfl) ?_
                  refine lv_bipush (v := 16) hx hb dX6_sheet_71 (by decide) ?_
                  refine lv_icmp_ge (tgt := 95) hx hb dX6_sheet_73 (by decide) (fun c_73 => ?_) (fun c_73 => ?_)
                  · skip
                    exact absurd c_73 (nI_ge (a := i) (b := 16) (by omega) (by decide))
                  · skip
                    refine lv_aload_n hx hb dX6_sheet_76 rfl (lv_at hl 0 rfl) ?_
                    refine h_get hx hb hE hw hts hinX6 hown (ci := 6) rfl 2 (by decide) lk_16 (fun _ h9 => h9) hM2.ob rfl dX6_sheet_77 ?_
                    refine lv_bipush (v := 16) hx hb dX6_sheet_80 (by decide) ?_
                    refine lv_iload_n hx hb dX6_sheet_82 rfl (lv_at hl 1 rfl) ?_
                    refine h_imulN hx hb 16 kvr dX6_sheet_83 ?_
                    refine lv_iload hx hb dX6_sheet_84 (lv_at hl 2 rfl) ?_
                    refine h_iaddN hx hb (16 * kvr) i dX6_sheet_86 ?_
                    refine lv_lconst (v := 0) hx hb dX6_sheet_87 (by decide) ?_
                    refine h_last hx hb hE hw hM2.sh (vp_in_nI (n := ((16 * kvr) + i)) (N := 96) (by omega) (by decide)) (g := vp_updL sh2 ((16 * kvr) + i) 0) (by rw [nI_clamp (by omega)]) dX6_sheet_88 (fun H locs hw => ?_)
                    obtain ⟨i9, ei9⟩ : ∃ y : Int32, y = (nI i) + 1 := ⟨_, rfl⟩
                    refine lv_iinc (v := i9) (lv' := [(4, .int i9), (0, .ref (ma 0)), (1, .int (nI kvr))]) hx hb dX6_sheet_89 hl (k := 2) rfl (by rw [ei9, show Int32.ofInt (1) = 1 from by decide]) (by decide) rfl (fun ls hl => ?_)
                    refine lv_goto (tgt := 69) hx hb dX6_sheet_92 (by decide) ?_
                    exact ih (i + 1) _ _ H locs ls (by omega) (MW.seth hM2 (vp_updL sh2 ((16 * kvr) + i) 0)) (ups (by omega) hs) (zsh hg) hw (lv_sub (l' := [(0, .ref (ma 0)), (1, .int (nI kvr)), (4, .int (nI (i + 1)))]) hl [1, 2, 0] (by rw [← nI_1, ← ei9]; rfl))
              exact loop 16 0 _ _ _ _ ls rfl (MW.setz (MW.setk hM (upd mk kvr (-1))) (upd msz kvr 0)) (fun _ _ _ _ _ => rfl) (fun j hj => absurd hj (by omega)) hw (lv_sub (l' := [(0, .ref (ma 0)), (1, .int (nI kvr)), (4, .int (nI 0))]) hl [1, 2, 0] rfl)
          · skip
            first | exact absurd c_34 (by decide) | exact absurd (by decide) c_34
        · skip
          refine lv_iload_n hx hb dX6_sheet_25 rfl (lv_at hl 3 rfl) ?_
          refine lv_bipush (v := 16) hx hb dX6_sheet_26 (by decide) ?_
          refine lv_icmp_le (tgt := 33) hx hb dX6_sheet_28 (by decide) (fun c_28 => ?_) (fun c_28 => ?_)
          · skip
            refine lv_iload_n hx hb dX6_sheet_33 rfl (lv_at hl 2 rfl) ?_
            refine lv_if_lt (tgt := 44) hx hb dX6_sheet_34 (by decide) (fun c_34 => ?_) (fun c_34 => ?_)
            · skip
              exact absurd c_34 c_22
            · skip
              refine lv_iload_n hx hb dX6_sheet_37 rfl (lv_at hl 3 rfl) ?_
              refine lv_if_ge (tgt := 44) hx hb dX6_sheet_38 (by decide) (fun c_38 => ?_) (fun c_38 => ?_)
              · skip
                obtain ⟨zn, hzn, rfl⟩ := nI_of2 (M := 16) (n := 16) (by decide) (fun w => absurd c_38 (Int32.not_le.mpr w)) c_28
                refine lv_aload_n hx hb dX6_sheet_44 rfl (lv_at hl 0 rfl) ?_
                refine h_get hx hb hE hw hts hinX6 hown (ci := 6) rfl 0 (by decide) lk_7 (fun _ h9 => h9) hM.ob rfl dX6_sheet_45 ?_
                refine lv_iload_n hx hb dX6_sheet_48 rfl (lv_at hl 1 rfl) ?_
                refine lv_iload_n hx hb dX6_sheet_49 rfl (lv_at hl 2 rfl) ?_
                refine h_iast hx hb hE hw hM.kd (vp_in_nI (n := kvr) (N := 6) (by omega) (by decide)) (g := upd mk kvr vk) (by rw [nI_clamp (by omega)]) dX6_sheet_50 (fun H locs hw => ?_)
                refine lv_aload_n hx hb dX6_sheet_51 rfl (lv_at hl 0 rfl) ?_
                refine h_get hx hb hE hw hts hinX6 hown (ci := 6) rfl 1 (by decide) lk_13 (fun _ h9 => h9) (pt_ne hM.ob (hM.ne (i := 0) (j := 1) (by decide) (by decide) (by decide))) rfl dX6_sheet_52 ?_
                refine lv_iload_n hx hb dX6_sheet_55 rfl (lv_at hl 1 rfl) ?_
                refine lv_iload_n hx hb dX6_sheet_56 rfl (lv_at hl 2 rfl) ?_
                refine lv_if_ge (tgt := 64) hx hb dX6_sheet_57 (by decide) (fun c_57 => ?_) (fun c_57 => ?_)
                · skip
                  refine lv_iload_n hx hb dX6_sheet_64 rfl (lv_at hl 3 rfl) ?_
                  refine h_iast hx hb hE hw (pt_ne hM.sz (hM.ne (i := 2) (j := 1) (by decide) (by decide) (by decide))) (vp_in_nI (n := kvr) (N := 6) (by omega) (by decide)) (g := upd msz kvr (nI zn)) (by rw [nI_clamp (by omega)]) dX6_sheet_65 (fun H locs hw => ?_)
                  refine lv_iconst (v := 0) hx hb dX6_sheet_66 (by decide) ?_
                  refine lv_istore (lv' := [(4, .int 0), (0, .ref (ma 0)), (1, .int (nI kvr)), (2, .int vk), (3, .int (nI zn))]) hx hb dX6_sheet_67 hl (by decide) rfl (fun ls hl => ?_)
                  have hsps : (sp_sheet (rg, kd, z, pl, cnt) (nI kvr) vk (nI zn)) = (0, sSh (rg, kd, z, pl, cnt) kvr vk zn) := by simp only [sp_sheet, xvr, cif_f hk0.1, cif_t hk0.2, cif_f (ne_m1 c_22), cif_t c_28, cif_t c_38, nI_clamp (show zn < 2 ^ 31 by omega)]
                  have loop : ∀ (d i : Nat) (F : FM) (sh2 : Nat → Int64) (H : Heap) (locs : List Loc) (ls : Array Slot), d + i = 16 → MW G ma (upd mk kvr vk, upd msz kvr (nI zn), sh2, mrg, mfc, mmd, mv, mcn) F → (∀ j, j < 6 → j ≠ kvr → ∀ t, t < 16 → sh2 (16 * j + t) = msh (16 * j + t)) → (∀ j, j < i → sh2 (16 * kvr + j) = 0) → wo G A s.heap (ML ma) F H locs → lv_has ls 5 [(0, .ref (ma 0)), (1, .int (nI kvr)), (4, .int (nI i))] → W p l e { frames := 2, cells := 0, slots := 0, locals := 45 } s m ([.ref (ma 0), .int (nI kvr), .int vk, .int (nI zn)].toArray) below meth c H locs 0 0 (MQ below (QP G A (ML ma) (some (.int (sp_sheet (rg, kd, z, pl, cnt) (nI kvr) vk (nI zn)).1)) (MR G ma (sp_sheet (rg, kd, z, pl, cnt) (nI kvr) vk (nI zn)).2)) ([.ref (ma 0), .int (nI kvr), .int vk, .int (nI zn)].toArray) s 0 0 A) (F0 m 69 ls []) := by
                    intro d
                    induction d with
                    | zero =>
                      intro i F sh2 H locs ls hi hM2 hs hg hw hl
                      refine lv_iload hx hb dX6_sheet_69 (lv_at hl 2 rfl) ?_
                      refine lv_bipush (v := 16) hx hb dX6_sheet_71 (by decide) ?_
                      refine lv_icmp_ge (tgt := 95) hx hb dX6_sheet_73 (by decide) (fun c_73 => ?_) (fun c_73 => ?_)
                      · skip
                        refine lv_iconst (v := 0) hx hb dX6_sheet_95 (by decide) ?_
                        exact h_iretP hx hb hlk hr hw dX6_sheet_96 (by rw [hsps]) (by rw [hsps]; exact ⟨_, hM2, rel_sh hrel hkvr hs (fun j hj => hg j (by omega))⟩)
                      · skip
                        exact absurd (nI_le (a := 16) (b := i) (by omega) (by omega)) c_73
                    | succ d ih =>
                      intro i F sh2 H locs ls hi hM2 hs hg hw hl
                      refine lv_iload hx hb dX6_sheet_69 (lv_at hl 2 rfl) ?_
                      refine lv_bipush (v := 16) hx hb dX6_sheet_71 (by decide) ?_
                      refine lv_icmp_ge (tgt := 95) hx hb dX6_sheet_73 (by decide) (fun c_73 => ?_) (fun c_73 => ?_)
                      · skip
                        exact absurd c_73 (nI_ge (a := i) (b := 16) (by omega) (by decide))
                      · skip
                        refine lv_aload_n hx hb dX6_sheet_76 rfl (lv_at hl 0 rfl) ?_
                        refine h_get hx hb hE hw hts hinX6 hown (ci := 6) rfl 2 (by decide) lk_16 (fun _ h9 => h9) hM2.ob rfl dX6_sheet_77 ?_
                        refine lv_bipush (v := 16) hx hb dX6_sheet_80 (by decide) ?_
                        refine lv_iload_n hx hb dX6_sheet_82 rfl (lv_at hl 1 rfl) ?_
                        refine h_imulN hx hb 16 kvr dX6_sheet_83 ?_
                        refine lv_iload hx hb dX6_sheet_84 (lv_at hl 2 rfl) ?_
                        refine h_iaddN hx hb (16 * kvr) i dX6_sheet_86 ?_
                        refine lv_lconst (v := 0) hx hb dX6_sheet_87 (by decide) ?_
                        refine h_last hx hb hE hw hM2.sh (vp_in_nI (n := ((16 * kvr) + i)) (N := 96) (by omega) (by decide)) (g := vp_updL sh2 ((16 * kvr) + i) 0) (by rw [nI_clamp (by omega)]) dX6_sheet_88 (fun H locs hw => ?_)
                        obtain ⟨i9, ei9⟩ : ∃ y : Int32, y = (nI i) + 1 := ⟨_, rfl⟩
                        refine lv_iinc (v := i9) (lv' := [(4, .int i9), (0, .ref (ma 0)), (1, .int (nI kvr))]) hx hb dX6_sheet_89 hl (k := 2) rfl (by rw [ei9, show Int32.ofInt (1) = 1 from by decide]) (by decide) rfl (fun ls hl => ?_)
                        refine lv_goto (tgt := 69) hx hb dX6_sheet_92 (by decide) ?_
                        exact ih (i + 1) _ _ H locs ls (by omega) (MW.seth hM2 (vp_updL sh2 ((16 * kvr) + i) 0)) (ups (by omega) hs) (zsh hg) hw (lv_sub (l' := [(0, .ref (ma 0)), (1, .int (nI kvr)), (4, .int (nI (i + 1)))]) hl [1, 2, 0] (by rw [← nI_1, ← ei9]; rfl))
                  exact loop 16 0 _ _ _ _ ls rfl (MW.setz (MW.setk hM (upd mk kvr vk)) (upd msz kvr (nI zn))) (fun _ _ _ _ _ => rfl) (fun j hj => absurd hj (by omega)) hw (lv_sub (l' := [(0, .ref (ma 0)), (1, .int (nI kvr)), (4, .int (nI 0))]) hl [1, 2, 0] rfl)
                · skip
                  exact absurd (Int32.not_lt.mp c_22) c_57
              · skip
                refine lv_bipush (v := (-13)) hx hb dX6_sheet_41 (by decide) ?_
                exact h_iretP hx hb hlk hr hw dX6_sheet_43 (by simp only [sp_sheet, xvr, cif_f hk0.1, cif_t hk0.2, cif_f (ne_m1 c_22), cif_t c_28, cif_f c_38]) (by simp only [sp_sheet, xvr, cif_f hk0.1, cif_t hk0.2, cif_f (ne_m1 c_22), cif_t c_28, cif_f c_38]; exact ⟨_, hM, rel_v hrel⟩)
          · skip
            refine lv_iconst (v := (-1)) hx hb dX6_sheet_31 (by decide) ?_
            exact h_iretP hx hb hlk hr hw dX6_sheet_32 (by simp only [sp_sheet, xvr, cif_f hk0.1, cif_t hk0.2, cif_f (ne_m1 c_22), cif_f c_28]) (by simp only [sp_sheet, xvr, cif_f hk0.1, cif_t hk0.2, cif_f (ne_m1 c_22), cif_f c_28]; exact ⟨_, hM, rel_v hrel⟩)

set_option maxHeartbeats 4000000 in
set_option maxRecDepth 100000 in
theorem c_X6_copy (l : Launch) (G : GG) (A : Nat → Prop) (ma : Nat → Nat) (F : FM) (rg : Nat → Q4) (kd : Nat → Int32) (z : Nat → Nat) (pl : Nat → Nat → Int64) (cnt : Nat) (hR : MR G ma (rg, kd, z, pl, cnt) F) (hz : ∀ k, k < 6 → z k ≤ 16) (hkd : ∀ k, k < 6 → kd k = -1 ∨ 0 ≤ kd k) (hc12 : cnt ≤ 12) (vr : Int32) (vi : Int32) (vt : Int32) (vj : Int32) (vn : Int32) : PT l yX6_copy wsX6_copy { frames := 2, cells := 0, slots := 0, locals := 45 } G A (ML ma) [.ref (ma 0), .int vr, .int vi, .int vt, .int vj, .int vn] F (some (.int (sp_copy (rg, kd, z, pl, cnt) vr vi vt vj vn).1)) (MR G ma (sp_copy (rg, kd, z, pl, cnt) vr vi vt vj vn).2) := by
  refine PT.ofW (cc := cX6_copy) (maxL := 7) (ret := (some .int)) (plainFor_of_name (by decide)) rfl (Nat.le_of_ble_eq_true rfl) ?_
  intro p e s m below meth c ls hx hb hr hml hown hts hlk hE hw hl
  have hl : lv_has ls 7 [(0, .ref (ma 0)), (1, .int vr), (2, .int vi), (3, .int vt), (4, .int vj), (5, .int vn)] := hl
  have hown : s.vm.findClass RX6 = some m.cls := hown
  have lk_7 := hts (.fieldLink RX6 7 "FourPartsModel" "kind" "[I") (by decide +kernel)
  have hinX6 : ∀ w ∈ u_ws RX6 TX6 18, w ∈ wsX6_copy := by decide +kernel
  have lk_16 := hts (.fieldLink RX6 16 "FourPartsModel" "sheets" "[J") (by decide +kernel)
  have lk_29 := hts (.fieldLink RX6 29 "FourPartsModel" "middle" "[J") (by decide +kernel)
  obtain ⟨⟨mk, msz, msh, mrg, mfc, mmd, mv, mcn⟩, hM, hrel⟩ := hR
  obtain ⟨hk1, hk2, hk3, hk4, hk5, hk6⟩ := id hrel
  refine lv_iload_n hx hb dX6_copy_0 rfl (lv_at hl 1 rfl) ?_
  rcases ix_cases 6 (by decide) vr with hvr | ⟨kvr, hkvr, rfl⟩
  · skip
    have xvr := ix_none hvr
    refine h_callS (st1 := [.int 0]) [.int vr] [] ⟨hx, hb, hml, hown, hts⟩ hE hw (HT.to (c_X6_isSheet l G A (ML ma) F vr) (V2 := some (.int 0)) (congrArg (fun y => some (Value.int y)) (bI_f (show ¬ inL vr.toInt64 0 5 from inL_out (n := 5) (by decide) hvr))) rfl) (va_cwS 1 hts gX6_copy_X6_isSheet rfl rfl rfl (by decide +kernel) ⟨Nat.le_of_ble_eq_true rfl, Nat.le_of_ble_eq_true rfl⟩) rfl hl.1 rfl (Nat.le_of_ble_eq_true rfl) dX6_copy_1 ⟨Nat.le_of_ble_eq_true rfl, Nat.le_of_ble_eq_true rfl⟩ rfl (fun H locs hw => ?_)
    refine lv_if_eq (tgt := 14) hx hb dX6_copy_4 (by decide) (fun c_4 => ?_) (fun c_4 => ?_)
    · skip
      refine lv_iconst (v := (-1)) hx hb dX6_copy_14 (by decide) ?_
      exact h_iretP hx hb hlk hr hw dX6_copy_15 (by simp only [sp_copy, xvr]) (by simp only [sp_copy, xvr]; exact ⟨_, hM, rel_v hrel⟩)
    · skip
      first | exact absurd c_4 (by decide) | exact absurd (by decide) c_4
  · skip
    have xvr := ix_in (n := 6) hkvr (by decide)
    refine h_callS (st1 := [.int 1]) [.int (nI kvr)] [] ⟨hx, hb, hml, hown, hts⟩ hE hw (HT.to (c_X6_isSheet l G A (ML ma) F (nI kvr)) (V2 := some (.int 1)) (congrArg (fun y => some (Value.int y)) (bI_t (show inL (nI kvr).toInt64 0 5 from inL_in (n := 5) (by decide) hkvr))) rfl) (va_cwS 1 hts gX6_copy_X6_isSheet rfl rfl rfl (by decide +kernel) ⟨Nat.le_of_ble_eq_true rfl, Nat.le_of_ble_eq_true rfl⟩) rfl hl.1 rfl (Nat.le_of_ble_eq_true rfl) dX6_copy_1 ⟨Nat.le_of_ble_eq_true rfl, Nat.le_of_ble_eq_true rfl⟩ rfl (fun H locs hw => ?_)
    refine lv_if_eq (tgt := 14) hx hb dX6_copy_4 (by decide) (fun c_4 => ?_) (fun c_4 => ?_)
    · skip
      first | exact absurd c_4 (by decide) | exact absurd (by decide) c_4
    · skip
      refine lv_iload_n hx hb dX6_copy_7 rfl (lv_at hl 3 rfl) ?_
      rcases ix_cases 6 (by decide) vt with hvt | ⟨kvt, hkvt, rfl⟩
      · skip
        have xvt := ix_none hvt
        refine h_callS (st1 := [.int 0]) [.int vt] [] ⟨hx, hb, hml, hown, hts⟩ hE hw (HT.to (c_X6_isSheet l G A (ML ma) F vt) (V2 := some (.int 0)) (congrArg (fun y => some (Value.int y)) (bI_f (show ¬ inL vt.toInt64 0 5 from inL_out (n := 5) (by decide) hvt))) rfl) (va_cwS 1 hts gX6_copy_X6_isSheet rfl rfl rfl (by decide +kernel) ⟨Nat.le_of_ble_eq_true rfl, Nat.le_of_ble_eq_true rfl⟩) rfl hl.1 rfl (Nat.le_of_ble_eq_true rfl) dX6_copy_8 ⟨Nat.le_of_ble_eq_true rfl, Nat.le_of_ble_eq_true rfl⟩ rfl (fun H locs hw => ?_)
        refine lv_if_ne (tgt := 16) hx hb dX6_copy_11 (by decide) (fun c_11 => ?_) (fun c_11 => ?_)
        · skip
          first | exact absurd c_11 (by decide) | exact absurd (by decide) c_11
        · skip
          refine lv_iconst (v := (-1)) hx hb dX6_copy_14 (by decide) ?_
          exact h_iretP hx hb hlk hr hw dX6_copy_15 (by simp only [sp_copy, xvr, xvt]) (by simp only [sp_copy, xvr, xvt]; exact ⟨_, hM, rel_v hrel⟩)
      · skip
        have xvt := ix_in (n := 6) hkvt (by decide)
        refine h_callS (st1 := [.int 1]) [.int (nI kvt)] [] ⟨hx, hb, hml, hown, hts⟩ hE hw (HT.to (c_X6_isSheet l G A (ML ma) F (nI kvt)) (V2 := some (.int 1)) (congrArg (fun y => some (Value.int y)) (bI_t (show inL (nI kvt).toInt64 0 5 from inL_in (n := 5) (by decide) hkvt))) rfl) (va_cwS 1 hts gX6_copy_X6_isSheet rfl rfl rfl (by decide +kernel) ⟨Nat.le_of_ble_eq_true rfl, Nat.le_of_ble_eq_true rfl⟩) rfl hl.1 rfl (Nat.le_of_ble_eq_true rfl) dX6_copy_8 ⟨Nat.le_of_ble_eq_true rfl, Nat.le_of_ble_eq_true rfl⟩ rfl (fun H locs hw => ?_)
        refine lv_if_ne (tgt := 16) hx hb dX6_copy_11 (by decide) (fun c_11 => ?_) (fun c_11 => ?_)
        · skip
          refine lv_aload_n hx hb dX6_copy_16 rfl (lv_at hl 0 rfl) ?_
          refine h_get hx hb hE hw hts hinX6 hown (ci := 6) rfl 0 (by decide) lk_7 (fun _ h9 => h9) hM.ob rfl dX6_copy_17 ?_
          refine lv_iload_n hx hb dX6_copy_20 rfl (lv_at hl 1 rfl) ?_
          refine h_iald hx hb hE hw hM.kd (vp_in_nI (n := kvr) (N := 6) (by omega) (by decide)) (v := mk kvr) (by rw [nI_clamp (by omega)]) dX6_copy_21 ?_
          refine lv_if_lt (tgt := 34) hx hb dX6_copy_22 (by decide) (fun c_22 => ?_) (fun c_22 => ?_)
          · skip
            have hm22 : kd kvr = -1 := kd_neg (hkd kvr hkvr) (by rw [← show mk kvr = kd kvr from hk1 kvr hkvr]; exact c_22)
            refine lv_bipush (v := (-11)) hx hb dX6_copy_34 (by decide) ?_
            exact h_iretP hx hb hlk hr hw dX6_copy_36 (by simp only [sp_copy, xvr, xvt, cif_t hm22]) (by simp only [sp_copy, xvr, xvt, cif_t hm22]; exact ⟨_, hM, rel_v hrel⟩)
          · skip
            have hm22 : ¬ kd kvr = -1 := kd_nneg (by rw [← show mk kvr = kd kvr from hk1 kvr hkvr]; exact c_22)
            refine lv_aload_n hx hb dX6_copy_25 rfl (lv_at hl 0 rfl) ?_
            refine h_get hx hb hE hw hts hinX6 hown (ci := 6) rfl 0 (by decide) lk_7 (fun _ h9 => h9) hM.ob rfl dX6_copy_26 ?_
            refine lv_iload_n hx hb dX6_copy_29 rfl (lv_at hl 3 rfl) ?_
            refine h_iald hx hb hE hw hM.kd (vp_in_nI (n := kvt) (N := 6) (by omega) (by decide)) (v := mk kvt) (by rw [nI_clamp (by omega)]) dX6_copy_30 ?_
            refine lv_if_ge (tgt := 37) hx hb dX6_copy_31 (by decide) (fun c_31 => ?_) (fun c_31 => ?_)
            · skip
              have hm31 : ¬ kd kvt = -1 := kd_nneg (by rw [← show mk kvt = kd kvt from hk1 kvt hkvt]; exact Int32.not_lt.mpr c_31)
              refine lv_aload_n hx hb dX6_copy_37 rfl (lv_at hl 0 rfl) ?_
              refine h_get hx hb hE hw hts hinX6 hown (ci := 6) rfl 0 (by decide) lk_7 (fun _ h9 => h9) hM.ob rfl dX6_copy_38 ?_
              refine lv_iload_n hx hb dX6_copy_41 rfl (lv_at hl 1 rfl) ?_
              refine h_iald hx hb hE hw hM.kd (vp_in_nI (n := kvr) (N := 6) (by omega) (by decide)) (v := mk kvr) (by rw [nI_clamp (by omega)]) dX6_copy_42 ?_
              refine lv_aload_n hx hb dX6_copy_43 rfl (lv_at hl 0 rfl) ?_
              refine h_get hx hb hE hw hts hinX6 hown (ci := 6) rfl 0 (by decide) lk_7 (fun _ h9 => h9) hM.ob rfl dX6_copy_44 ?_
              refine lv_iload_n hx hb dX6_copy_47 rfl (lv_at hl 3 rfl) ?_
              refine h_iald hx hb hE hw hM.kd (vp_in_nI (n := kvt) (N := 6) (by omega) (by decide)) (v := mk kvt) (by rw [nI_clamp (by omega)]) dX6_copy_48 ?_
              refine lv_icmp_eq (tgt := 55) hx hb dX6_copy_49 (by decide) (fun c_49 => ?_) (fun c_49 => ?_)
              · skip
                have hke : kd kvr = kd kvt := by rw [← show mk kvr = kd kvr from hk1 kvr hkvr, ← show mk kvt = kd kvt from hk1 kvt hkvt]; exact c_49
                have hn1 : 0 ≤ kd kvr := (hkd kvr hkvr).resolve_left hm22
                have hn2 : 0 ≤ kd kvt := (hkd kvt hkvt).resolve_left hm31
                have hz1 := hz kvr hkvr
                have hz2 := hz kvt hkvt
                refine lv_iload hx hb dX6_copy_55 (lv_at hl 5 rfl) ?_
                refine lv_if_lt (tgt := 83) hx hb dX6_copy_57 (by decide) (fun c_57 => ?_) (fun c_57 => ?_)
                · skip
                  refine lv_bipush (v := (-12)) hx hb dX6_copy_83 (by decide) ?_
                  exact h_iretP hx hb hlk hr hw dX6_copy_85 (by simp only [sp_copy, xvr, xvt, rch_neg c_57, cif_f hm22, cif_f hm31, cif_t hke]) (by simp only [sp_copy, xvr, xvt, rch_neg c_57, cif_f hm22, cif_f hm31, cif_t hke]; exact ⟨_, hM, rel_v hrel⟩)
                · skip
                  refine lv_aload_n hx hb dX6_copy_60 rfl (lv_at hl 0 rfl) ?_
                  refine lv_iload_n hx hb dX6_copy_61 rfl (lv_at hl 1 rfl) ?_
                  refine lv_iload_n hx hb dX6_copy_62 rfl (lv_at hl 2 rfl) ?_
                  refine lv_iload hx hb dX6_copy_63 (lv_at hl 5 rfl) ?_
                  by_cases hr1 : reach (nI (z kvr)) vi vn
                  · skip
                    obtain ⟨ia, nb, rfl, rfl, hab⟩ := (reach_iff hz1 _ _).mp hr1
                    refine h_callV (st1 := [.int 0]) [.int (nI kvr), .int (nI ia), .int (nI nb)] [] ⟨hx, hb, hml, hown, hts⟩ hE hw (HT.to (c_X6_against l G A ma F _ _ _ _ _ _ _ _ hM kvr hkvr (nI ia) (nI nb)) (V2 := some (.int (0))) (congrArg (fun y => some (Value.int y)) (by rw [show mk kvr = kd kvr from hk1 kvr hkvr, show msz kvr = nI (z kvr) from hk2 kvr hkvr]; exact ag_in hn1 hz1 hab)) rfl) (cwV 3 hts gX6_copy_X6_against rfl rfl rfl (by decide +kernel) ⟨Nat.le_of_ble_eq_true rfl, Nat.le_of_ble_eq_true rfl⟩) hM.ob rfl rfl rfl hl.1 rfl (Nat.le_of_ble_eq_true rfl) dX6_copy_65 ⟨Nat.le_of_ble_eq_true rfl, Nat.le_of_ble_eq_true rfl⟩ rfl (fun H locs hw => ?_)
                    refine lv_if_ne (tgt := 83) hx hb dX6_copy_68 (by decide) (fun c_68 => ?_) (fun c_68 => ?_)
                    · skip
                      first | exact absurd c_68 (by decide) | exact absurd (by decide) c_68
                    · skip
                      refine lv_aload_n hx hb dX6_copy_71 rfl (lv_at hl 0 rfl) ?_
                      refine lv_iload_n hx hb dX6_copy_72 rfl (lv_at hl 3 rfl) ?_
                      refine lv_iload hx hb dX6_copy_73 (lv_at hl 4 rfl) ?_
                      refine lv_iload hx hb dX6_copy_75 (lv_at hl 5 rfl) ?_
                      by_cases hr2 : reach (nI (z kvt)) vj (nI nb)
                      · skip
                        obtain ⟨ja, rfl, hab2⟩ := reach_1 hz2 (by omega) hr2
                        refine h_callV (st1 := [.int 0]) [.int (nI kvt), .int (nI ja), .int (nI nb)] [] ⟨hx, hb, hml, hown, hts⟩ hE hw (HT.to (c_X6_against l G A ma F _ _ _ _ _ _ _ _ hM kvt hkvt (nI ja) (nI nb)) (V2 := some (.int (0))) (congrArg (fun y => some (Value.int y)) (by rw [show mk kvt = kd kvt from hk1 kvt hkvt, show msz kvt = nI (z kvt) from hk2 kvt hkvt]; exact ag_in hn2 hz2 hab2)) rfl) (cwV 3 hts gX6_copy_X6_against rfl rfl rfl (by decide +kernel) ⟨Nat.le_of_ble_eq_true rfl, Nat.le_of_ble_eq_true rfl⟩) hM.ob rfl rfl rfl hl.1 rfl (Nat.le_of_ble_eq_true rfl) dX6_copy_77 ⟨Nat.le_of_ble_eq_true rfl, Nat.le_of_ble_eq_true rfl⟩ rfl (fun H locs hw => ?_)
                        refine lv_if_eq (tgt := 86) hx hb dX6_copy_80 (by decide) (fun c_80 => ?_) (fun c_80 => ?_)
                        · skip
                          refine lv_iconst (v := 0) hx hb dX6_copy_86 (by decide) ?_
                          refine lv_istore (lv' := [(6, .int 0), (0, .ref (ma 0)), (1, .int (nI kvr)), (2, .int (nI ia)), (3, .int (nI kvt)), (4, .int (nI ja)), (5, .int (nI nb))]) hx hb dX6_copy_87 hl (by decide) rfl (fun ls hl => ?_)
                          have hsps : (sp_copy (rg, kd, z, pl, cnt) (nI kvr) (nI ia) (nI kvt) (nI ja) (nI nb)) = (0, sPl (rg, kd, z, pl, cnt) kvt (va_cpy (pl kvr) (pl kvt) ia ja nb)) := by simp only [sp_copy, xvr, xvt, rch_in hab hz1, rch_in hab2 hz2, cif_f hm22, cif_f hm31, cif_t hke]
                          have lp2 : ∀ (d i : Nat) (F : FM) (sh2 md2 : Nat → Int64) (H : Heap) (locs : List Loc) (ls : Array Slot), d + i = nb → MW G ma (mk, msz, sh2, mrg, mfc, md2, mv, mcn) F → (∀ t, t < nb → md2 t = pl kvr (ia + t)) → (∀ j, j < 6 → j ≠ kvt → ∀ t, t < 16 → sh2 (16 * j + t) = msh (16 * j + t)) → (∀ t, t < 16 → sh2 (16 * kvt + t) = va_cpy (pl kvr) (pl kvt) ia ja i t) → wo G A s.heap (ML ma) F H locs → lv_has ls 7 [(0, .ref (ma 0)), (1, .int (nI kvr)), (2, .int (nI ia)), (3, .int (nI kvt)), (4, .int (nI ja)), (5, .int (nI nb)), (6, .int (nI i))] → W p l e { frames := 2, cells := 0, slots := 0, locals := 45 } s m ([.ref (ma 0), .int (nI kvr), .int (nI ia), .int (nI kvt), .int (nI ja), .int (nI nb)].toArray) below meth c H locs 0 0 (MQ below (QP G A (ML ma) (some (.int (sp_copy (rg, kd, z, pl, cnt) (nI kvr) (nI ia) (nI kvt) (nI ja) (nI nb)).1)) (MR G ma (sp_copy (rg, kd, z, pl, cnt) (nI kvr) (nI ia) (nI kvt) (nI ja) (nI nb)).2)) ([.ref (ma 0), .int (nI kvr), .int (nI ia), .int (nI kvt), .int (nI ja), .int (nI nb)].toArray) s 0 0 A) (F0 m 126 ls []) := by
                            intro d
                            induction d with
                            | zero =>
                              intro i F sh2 md2 H locs ls hi hM2 hmd hs hg hw hl
                              refine lv_iload hx hb dX6_copy_126 (lv_at hl 6 rfl) ?_
                              refine lv_iload hx hb dX6_copy_128 (lv_at hl 5 rfl) ?_
                              refine lv_icmp_ge (tgt := 161) hx hb dX6_copy_130 (by decide) (fun c_130 => ?_) (fun c_130 => ?_)
                              · skip
                                refine lv_iconst (v := 0) hx hb dX6_copy_161 (by decide) ?_
                                exact h_iretP hx hb hlk hr hw dX6_copy_162 (by rw [hsps]) (by rw [hsps]; exact ⟨_, hM2, rel_pl hrel hs (fun t ht => by rw [hg t ht, show i = nb by omega])⟩)
                              · skip
                                exact absurd (nI_le (show nb ≤ i by omega) (by omega)) c_130
                            | succ d ih =>
                              intro i F sh2 md2 H locs ls hi hM2 hmd hs hg hw hl
                              refine lv_iload hx hb dX6_copy_126 (lv_at hl 6 rfl) ?_
                              refine lv_iload hx hb dX6_copy_128 (lv_at hl 5 rfl) ?_
                              refine lv_icmp_ge (tgt := 161) hx hb dX6_copy_130 (by decide) (fun c_130 => ?_) (fun c_130 => ?_)
                              · skip
                                exact absurd c_130 (nI_ge (show i < nb by omega) (by omega))
                              · skip
                                refine lv_aload_n hx hb dX6_copy_133 rfl (lv_at hl 0 rfl) ?_
                                refine h_get hx hb hE hw hts hinX6 hown (ci := 6) rfl 2 (by decide) lk_16 (fun _ h9 => h9) hM2.ob rfl dX6_copy_134 ?_
                                refine lv_bipush (v := 16) hx hb dX6_copy_137 (by decide) ?_
                                refine lv_iload_n hx hb dX6_copy_139 rfl (lv_at hl 3 rfl) ?_
                                refine h_imulN hx hb 16 kvt dX6_copy_140 ?_
                                refine lv_iload hx hb dX6_copy_141 (lv_at hl 4 rfl) ?_
                                refine h_iaddN hx hb (16 * kvt) ja dX6_copy_143 ?_
                                refine lv_iload hx hb dX6_copy_144 (lv_at hl 6 rfl) ?_
                                refine h_iaddN hx hb ((16 * kvt) + ja) i dX6_copy_146 ?_
                                refine lv_aload_n hx hb dX6_copy_147 rfl (lv_at hl 0 rfl) ?_
                                refine h_get hx hb hE hw hts hinX6 hown (ci := 6) rfl 7 (by decide) lk_29 (fun _ h9 => h9) hM2.ob rfl dX6_copy_148 ?_
                                refine lv_iload hx hb dX6_copy_151 (lv_at hl 6 rfl) ?_
                                refine h_lald hx hb hE hw hM2.md (vp_in_nI (n := i) (N := 16) (by omega) (by decide)) (v := md2 i) (by rw [nI_clamp (by omega)]) dX6_copy_153 ?_
                                refine h_last hx hb hE hw hM2.sh (vp_in_nI (n := 16 * kvt + ja + i) (N := 96) (by omega) (by decide)) (g := vp_updL sh2 (16 * kvt + (ja + i)) (md2 i)) (by rw [nI_clamp (by omega), Nat.add_assoc]) dX6_copy_154 (fun H locs hw => ?_)
                                obtain ⟨i9, ei9⟩ : ∃ y : Int32, y = (nI i) + 1 := ⟨_, rfl⟩
                                refine lv_iinc (v := i9) (lv' := [(6, .int i9), (0, .ref (ma 0)), (1, .int (nI kvr)), (2, .int (nI ia)), (3, .int (nI kvt)), (4, .int (nI ja)), (5, .int (nI nb))]) hx hb dX6_copy_155 hl (k := 6) rfl (by rw [ei9, show Int32.ofInt (1) = 1 from by decide]) (by decide) rfl (fun ls hl => ?_)
                                refine lv_goto (tgt := 126) hx hb dX6_copy_158 (by decide) ?_
                                exact ih (i + 1) _ _ _ H locs ls (by omega) (MW.seth hM2 (vp_updL sh2 (16 * kvt + (ja + i)) (md2 i))) hmd (ups (a := ja + i) (by omega) hs) (cpy_s (by omega) (hmd i (by omega)) hg) hw (lv_sub (l' := [(0, .ref (ma 0)), (1, .int (nI kvr)), (2, .int (nI ia)), (3, .int (nI kvt)), (4, .int (nI ja)), (5, .int (nI nb)), (6, .int (nI (i + 1)))]) hl [1, 2, 3, 4, 5, 6, 0] (by rw [← nI_1, ← ei9]; rfl))
                          have lp1 : ∀ (d i : Nat) (F : FM) (md2 : Nat → Int64) (H : Heap) (locs : List Loc) (ls : Array Slot), d + i = nb → MW G ma (mk, msz, msh, mrg, mfc, md2, mv, mcn) F → (∀ t, t < i → md2 t = pl kvr (ia + t)) → wo G A s.heap (ML ma) F H locs → lv_has ls 7 [(0, .ref (ma 0)), (1, .int (nI kvr)), (2, .int (nI ia)), (3, .int (nI kvt)), (4, .int (nI ja)), (5, .int (nI nb)), (6, .int (nI i))] → W p l e { frames := 2, cells := 0, slots := 0, locals := 45 } s m ([.ref (ma 0), .int (nI kvr), .int (nI ia), .int (nI kvt), .int (nI ja), .int (nI nb)].toArray) below meth c H locs 0 0 (MQ below (QP G A (ML ma) (some (.int (sp_copy (rg, kd, z, pl, cnt) (nI kvr) (nI ia) (nI kvt) (nI ja) (nI nb)).1)) (MR G ma (sp_copy (rg, kd, z, pl, cnt) (nI kvr) (nI ia) (nI kvt) (nI ja) (nI nb)).2)) ([.ref (ma 0), .int (nI kvr), .int (nI ia), .int (nI kvt), .int (nI ja), .int (nI nb)].toArray) s 0 0 A) (F0 m 89 ls []) := by
                            intro d
                            induction d with
                            | zero =>
                              intro i F md2 H locs ls hi hM2 hmd hw hl
                              refine lv_iload hx hb dX6_copy_89 (lv_at hl 6 rfl) ?_
                              refine lv_iload hx hb dX6_copy_91 (lv_at hl 5 rfl) ?_
                              refine lv_icmp_ge (tgt := 123) hx hb dX6_copy_93 (by decide) (fun c_93 => ?_) (fun c_93 => ?_)
                              · skip
                                refine lv_iconst (v := 0) hx hb dX6_copy_123 (by decide) ?_
                                refine lv_istore (lv' := [(6, .int 0), (0, .ref (ma 0)), (1, .int (nI kvr)), (2, .int (nI ia)), (3, .int (nI kvt)), (4, .int (nI ja)), (5, .int (nI nb))]) hx hb dX6_copy_124 hl (by decide) rfl (fun ls hl => ?_)
                                exact lp2 nb 0 _ _ _ _ _ ls rfl hM2 (fun t ht => hmd t (by omega)) (fun _ _ _ _ _ => rfl) (fun t ht => by rw [pk_cpy_out (by omega)]; exact hk3 kvt hkvt t ht) hw (lv_sub (l' := [(0, .ref (ma 0)), (1, .int (nI kvr)), (2, .int (nI ia)), (3, .int (nI kvt)), (4, .int (nI ja)), (5, .int (nI nb)), (6, .int (nI 0))]) hl [1, 2, 3, 4, 5, 6, 0] rfl)
                              · skip
                                exact absurd (nI_le (show nb ≤ i by omega) (by omega)) c_93
                            | succ d ih =>
                              intro i F md2 H locs ls hi hM2 hmd hw hl
                              refine lv_iload hx hb dX6_copy_89 (lv_at hl 6 rfl) ?_
                              refine lv_iload hx hb dX6_copy_91 (lv_at hl 5 rfl) ?_
                              refine lv_icmp_ge (tgt := 123) hx hb dX6_copy_93 (by decide) (fun c_93 => ?_) (fun c_93 => ?_)
                              · skip
                                exact absurd c_93 (nI_ge (show i < nb by omega) (by omega))
                              · skip
                                refine lv_aload_n hx hb dX6_copy_96 rfl (lv_at hl 0 rfl) ?_
                                refine h_get hx hb hE hw hts hinX6 hown (ci := 6) rfl 7 (by decide) lk_29 (fun _ h9 => h9) hM2.ob rfl dX6_copy_97 ?_
                                refine lv_iload hx hb dX6_copy_100 (lv_at hl 6 rfl) ?_
                                refine lv_aload_n hx hb dX6_copy_102 rfl (lv_at hl 0 rfl) ?_
                                refine h_get hx hb hE hw hts hinX6 hown (ci := 6) rfl 2 (by decide) lk_16 (fun _ h9 => h9) hM2.ob rfl dX6_copy_103 ?_
                                refine lv_bipush (v := 16) hx hb dX6_copy_106 (by decide) ?_
                                refine lv_iload_n hx hb dX6_copy_108 rfl (lv_at hl 1 rfl) ?_
                                refine h_imulN hx hb 16 kvr dX6_copy_109 ?_
                                refine lv_iload_n hx hb dX6_copy_110 rfl (lv_at hl 2 rfl) ?_
                                refine h_iaddN hx hb (16 * kvr) ia dX6_copy_111 ?_
                                refine lv_iload hx hb dX6_copy_112 (lv_at hl 6 rfl) ?_
                                refine h_iaddN hx hb ((16 * kvr) + ia) i dX6_copy_114 ?_
                                refine h_lald hx hb hE hw hM2.sh (vp_in_nI (n := 16 * kvr + ia + i) (N := 96) (by omega) (by decide)) (v := pl kvr (ia + i)) (by rw [nI_clamp (by omega), Nat.add_assoc]; exact hk3 kvr hkvr (ia + i) (by omega)) dX6_copy_115 ?_
                                refine h_last hx hb hE hw hM2.md (vp_in_nI (n := i) (N := 16) (by omega) (by decide)) (g := vp_updL md2 i (pl kvr (ia + i))) (by rw [nI_clamp (by omega)]) dX6_copy_116 (fun H locs hw => ?_)
                                obtain ⟨i9, ei9⟩ : ∃ y : Int32, y = (nI i) + 1 := ⟨_, rfl⟩
                                refine lv_iinc (v := i9) (lv' := [(6, .int i9), (0, .ref (ma 0)), (1, .int (nI kvr)), (2, .int (nI ia)), (3, .int (nI kvt)), (4, .int (nI ja)), (5, .int (nI nb))]) hx hb dX6_copy_117 hl (k := 6) rfl (by rw [ei9, show Int32.ofInt (1) = 1 from by decide]) (by decide) rfl (fun ls hl => ?_)
                                refine lv_goto (tgt := 89) hx hb dX6_copy_120 (by decide) ?_
                                exact ih (i + 1) _ _ H locs ls (by omega) (MW.setm hM2 (vp_updL md2 i (pl kvr (ia + i)))) (mid_s hmd) hw (lv_sub (l' := [(0, .ref (ma 0)), (1, .int (nI kvr)), (2, .int (nI ia)), (3, .int (nI kvt)), (4, .int (nI ja)), (5, .int (nI nb)), (6, .int (nI (i + 1)))]) hl [1, 2, 3, 4, 5, 6, 0] (by rw [← nI_1, ← ei9]; rfl))
                          exact lp1 nb 0 _ _ _ _ ls rfl hM (fun t ht => absurd ht (by omega)) hw (lv_sub (l' := [(0, .ref (ma 0)), (1, .int (nI kvr)), (2, .int (nI ia)), (3, .int (nI kvt)), (4, .int (nI ja)), (5, .int (nI nb)), (6, .int (nI 0))]) hl [1, 2, 3, 4, 5, 6, 0] rfl)
                        · skip
                          first | exact absurd c_80 (by decide) | exact absurd (by decide) c_80
                      · skip
                        refine h_callV (st1 := [.int (-12)]) [.int (nI kvt), .int vj, .int (nI nb)] [] ⟨hx, hb, hml, hown, hts⟩ hE hw (HT.to (c_X6_against l G A ma F _ _ _ _ _ _ _ _ hM kvt hkvt vj (nI nb)) (V2 := some (.int (-12))) (congrArg (fun y => some (Value.int y)) (by rw [show mk kvt = kd kvt from hk1 kvt hkvt, show msz kvt = nI (z kvt) from hk2 kvt hkvt]; exact ag_out hn2 hz2 (nI_pos (by omega)) hr2)) rfl) (cwV 3 hts gX6_copy_X6_against rfl rfl rfl (by decide +kernel) ⟨Nat.le_of_ble_eq_true rfl, Nat.le_of_ble_eq_true rfl⟩) hM.ob rfl rfl rfl hl.1 rfl (Nat.le_of_ble_eq_true rfl) dX6_copy_77 ⟨Nat.le_of_ble_eq_true rfl, Nat.le_of_ble_eq_true rfl⟩ rfl (fun H locs hw => ?_)
                        refine lv_if_eq (tgt := 86) hx hb dX6_copy_80 (by decide) (fun c_80 => ?_) (fun c_80 => ?_)
                        · skip
                          first | exact absurd c_80 (by decide) | exact absurd (by decide) c_80
                        · skip
                          refine lv_bipush (v := (-12)) hx hb dX6_copy_83 (by decide) ?_
                          exact h_iretP hx hb hlk hr hw dX6_copy_85 (by simp only [sp_copy, xvr, xvt, rch_in hab hz1, rch_out hz2 hr2, cif_f hm22, cif_f hm31, cif_t hke]) (by simp only [sp_copy, xvr, xvt, rch_in hab hz1, rch_out hz2 hr2, cif_f hm22, cif_f hm31, cif_t hke]; exact ⟨_, hM, rel_v hrel⟩)
                  · skip
                    refine h_callV (st1 := [.int (-12)]) [.int (nI kvr), .int vi, .int vn] [] ⟨hx, hb, hml, hown, hts⟩ hE hw (HT.to (c_X6_against l G A ma F _ _ _ _ _ _ _ _ hM kvr hkvr vi vn) (V2 := some (.int (-12))) (congrArg (fun y => some (Value.int y)) (by rw [show mk kvr = kd kvr from hk1 kvr hkvr, show msz kvr = nI (z kvr) from hk2 kvr hkvr]; exact ag_out hn1 hz1 c_57 hr1)) rfl) (cwV 3 hts gX6_copy_X6_against rfl rfl rfl (by decide +kernel) ⟨Nat.le_of_ble_eq_true rfl, Nat.le_of_ble_eq_true rfl⟩) hM.ob rfl rfl rfl hl.1 rfl (Nat.le_of_ble_eq_true rfl) dX6_copy_65 ⟨Nat.le_of_ble_eq_true rfl, Nat.le_of_ble_eq_true rfl⟩ rfl (fun H locs hw => ?_)
                    refine lv_if_ne (tgt := 83) hx hb dX6_copy_68 (by decide) (fun c_68 => ?_) (fun c_68 => ?_)
                    · skip
                      refine lv_bipush (v := (-12)) hx hb dX6_copy_83 (by decide) ?_
                      exact h_iretP hx hb hlk hr hw dX6_copy_85 (by simp only [sp_copy, xvr, xvt, rch_out hz1 hr1, cif_f hm22, cif_f hm31, cif_t hke]) (by simp only [sp_copy, xvr, xvt, rch_out hz1 hr1, cif_f hm22, cif_f hm31, cif_t hke]; exact ⟨_, hM, rel_v hrel⟩)
                    · skip
                      first | exact absurd c_68 (by decide) | exact absurd (by decide) c_68
              · skip
                have hke : ¬ kd kvr = kd kvt := by rw [← show mk kvr = kd kvr from hk1 kvr hkvr, ← show mk kvt = kd kvt from hk1 kvt hkvt]; exact c_49
                refine lv_bipush (v := (-14)) hx hb dX6_copy_52 (by decide) ?_
                exact h_iretP hx hb hlk hr hw dX6_copy_54 (by simp only [sp_copy, xvr, xvt, cif_f hm22, cif_f hm31, cif_f hke]) (by simp only [sp_copy, xvr, xvt, cif_f hm22, cif_f hm31, cif_f hke]; exact ⟨_, hM, rel_v hrel⟩)
            · skip
              have hm31 : kd kvt = -1 := kd_neg (hkd kvt hkvt) (by rw [← show mk kvt = kd kvt from hk1 kvt hkvt]; exact Int32.not_le.mp c_31)
              refine lv_bipush (v := (-11)) hx hb dX6_copy_34 (by decide) ?_
              exact h_iretP hx hb hlk hr hw dX6_copy_36 (by simp only [sp_copy, xvr, xvt, cif_f hm22, cif_t hm31]) (by simp only [sp_copy, xvr, xvt, cif_f hm22, cif_t hm31]; exact ⟨_, hM, rel_v hrel⟩)
        · skip
          first | exact absurd c_11 (by decide) | exact absurd (by decide) c_11
