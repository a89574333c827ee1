theorem in_100 {v : Int32} : inL v.toInt64 (-100) 100 ↔ (¬ v < -100 ∧ ¬ 100 < v) := by
  rw [inL_iff, Int32.not_lt, Int32.not_lt, Int32.le_iff_toInt_le, Int32.le_iff_toInt_le, show (-100 : Int64).toInt = -100 from by decide, show (100 : Int64).toInt = 100 from by decide, show (-100 : Int32).toInt = -100 from by decide, show (100 : Int32).toInt = 100 from by decide]
theorem cnt_iff {n : Nat} {v : Int32} (hn : n ≤ 12) : inL v.toInt64 0 ((nI n - 1).toInt64) ↔ 0 ≤ v.toInt ∧ v.toInt < n := by
  rw [inL_iff, show (0 : Int64).toInt = 0 from by decide, Int32.toInt_toInt64, show (nI n - 1).toInt = (n : Int) - 1 from pk_sub_toInt (b := 1) (by omega) (by decide)]
  omega
theorem cnt_out {n : Nat} {v : Int32} (hn : n ≤ 12) (h : v < 0 ∨ nI n ≤ v) : ¬ inL v.toInt64 0 ((nI n - 1).toInt64) := by
  rw [cnt_iff hn]
  rintro ⟨h1, h2⟩
  rcases h with h | h
  · rw [Int32.lt_iff_toInt_lt, show (0 : Int32).toInt = 0 from by decide] at h; omega
  · rw [Int32.le_iff_toInt_le, nI_toInt (by omega)] at h; omega
theorem cnt_in {n k : Nat} (hn : n ≤ 12) (h : k < n) : inL (nI k).toInt64 0 ((nI n - 1).toInt64) := by
  rw [cnt_iff hn, nI_toInt (by omega)]; omega
theorem en_0 (a b c d : Int64) : (a * a - b * b - c * c - d * d + 2 * b * b) / 4 = (a * a + b * b - c * c - d * d) / 4 := by congr 1; grind
theorem en_4 (a b c d : Int64) : (a * a - b * b - c * c - d * d + 2 * c * c) / 4 = (a * a - b * b + c * c - d * d) / 4 := by congr 1; grind
theorem en_8 (a b c d : Int64) : (a * a - b * b - c * c - d * d + 2 * d * d) / 4 = (a * a - b * b - c * c + d * d) / 4 := by congr 1; grind
theorem en_1 (a b c d : Int64) : (b * c + -a * d) / 2 = (b * c - a * d) / 2 := by congr 1; grind
theorem en_2 (a b c d : Int64) : (b * d + a * c) / 2 = (b * d + a * c) / 2 := rfl
theorem en_3 (a b c d : Int64) : (c * b + a * d) / 2 = (b * c + a * d) / 2 := by congr 1; grind
theorem en_5 (a b c d : Int64) : (c * d + -a * b) / 2 = (c * d - a * b) / 2 := by congr 1; grind
theorem en_6 (a b c d : Int64) : (d * b + -a * c) / 2 = (b * d - a * c) / 2 := by congr 1; grind
theorem en_7 (a b c d : Int64) : (d * c + a * b) / 2 = (c * d + a * b) / 2 := by congr 1; grind
set_option maxHeartbeats 4000000 in
set_option maxRecDepth 100000 in
theorem c_X6_like (l : Launch) (G : GG) (A : Nat → Prop) (ma : Nat → Nat) (F : FM) (rg : Nat → Q4) (kd : Nat → Int32) (z : Nat → Nat) (pl : Nat → Nat → Int64) (cnt : Nat) (hR : MR G ma (rg, kd, z, pl, cnt) F) (hz : ∀ k, k < 6 → z k ≤ 16) (hkd : ∀ k, k < 6 → kd k = -1 ∨ 0 ≤ kd k) (hc12 : cnt ≤ 12) (vs : Int32) (vt : Int32) (vd : Int32) : PT l yX6_like wsX6_like { frames := 2, cells := 0, slots := 0, locals := 45 } G A (ML ma) [.ref (ma 0), .int vs, .int vt, .int vd] F (some (.int (sp_like (rg, kd, z, pl, cnt) vs vt vd).1)) (MR G ma (sp_like (rg, kd, z, pl, cnt) vs vt vd).2) := by
  refine PT.ofW (cc := cX6_like) (maxL := 5) (ret := (some .int)) (plainFor_of_name (by decide)) rfl (Nat.le_of_ble_eq_true rfl) ?_
  intro p e s m below meth c ls hx hb hr hml hown hts hlk hE hw hl
  have hl : lv_has ls 5 [(0, .ref (ma 0)), (1, .int vs), (2, .int vt), (3, .int vd)] := hl
  have hown : s.vm.findClass RX6 = some m.cls := hown
  have lk_32 := hts (.fieldLink RX6 32 "FourPartsModel" "x" "[J") (by decide +kernel)
  have hinX6 : ∀ w ∈ u_ws RX6 TX6 18, w ∈ wsX6_like := by decide +kernel
  have lk_44 := hts (.fieldLink RX6 44 "FourPartsModel" "best" "[J") (by decide +kernel)
  have lk_35 := hts (.fieldLink RX6 35 "FourPartsModel" "y" "[J") (by decide +kernel)
  have lk_38 := hts (.fieldLink RX6 38 "FourPartsModel" "z" "[J") (by decide +kernel)
  obtain ⟨⟨mk, msz, msh, mrg, mfc, mmd, mv, mcn⟩, hM, hrel⟩ := hR
  obtain ⟨hk1, hk2, hk3, hk4, hk5, hk6⟩ := id hrel
  refine lv_iload_n hx hb dX6_like_0 rfl (lv_at hl 1 rfl) ?_
  rcases ix_cases 16 (by decide) vs with hvs | ⟨kvs, hkvs, rfl⟩
  · skip
    have xvs := ix_none hvs
    refine h_callS (st1 := [.int 0]) [.int vs] [] ⟨hx, hb, hml, hown, hts⟩ hE hw (HT.to (c_X6_isRegister l G A (ML ma) F vs) (V2 := some (.int 0)) (congrArg (fun y => some (Value.int y)) (bI_f (show ¬ inL vs.toInt64 0 15 from inL_out (n := 15) (by decide) hvs))) rfl) (va_cwS 1 hts gX6_like_X6_isRegister rfl rfl rfl (by decide +kernel) ⟨Nat.le_of_ble_eq_true rfl, Nat.le_of_ble_eq_true rfl⟩) rfl hl.1 rfl (Nat.le_of_ble_eq_true rfl) dX6_like_1 ⟨Nat.le_of_ble_eq_true rfl, Nat.le_of_ble_eq_true rfl⟩ rfl (fun H locs hw => ?_)
    refine lv_if_eq (tgt := 24) hx hb dX6_like_4 (by decide) (fun c_4 => ?_) (fun c_4 => ?_)
    · skip
      refine lv_iconst (v := (-1)) hx hb dX6_like_24 (by decide) ?_
      exact h_iretP hx hb hlk hr hw dX6_like_25 (by simp only [sp_like, xvs]) (by simp only [sp_like, xvs]; exact ⟨_, hM, rel_v hrel⟩)
    · skip
      first | exact absurd c_4 (by decide) | exact absurd (by decide) c_4
  · skip
    have xvs := ix_in (n := 16) hkvs (by decide)
    refine h_callS (st1 := [.int 1]) [.int (nI kvs)] [] ⟨hx, hb, hml, hown, hts⟩ hE hw (HT.to (c_X6_isRegister l G A (ML ma) F (nI kvs)) (V2 := some (.int 1)) (congrArg (fun y => some (Value.int y)) (bI_t (show inL (nI kvs).toInt64 0 15 from inL_in (n := 15) (by decide) hkvs))) rfl) (va_cwS 1 hts gX6_like_X6_isRegister rfl rfl rfl (by decide +kernel) ⟨Nat.le_of_ble_eq_true rfl, Nat.le_of_ble_eq_true rfl⟩) rfl hl.1 rfl (Nat.le_of_ble_eq_true rfl) dX6_like_1 ⟨Nat.le_of_ble_eq_true rfl, Nat.le_of_ble_eq_true rfl⟩ rfl (fun H locs hw => ?_)
    refine lv_if_eq (tgt := 24) hx hb dX6_like_4 (by decide) (fun c_4 => ?_) (fun c_4 => ?_)
    · skip
      first | exact absurd c_4 (by decide) | exact absurd (by decide) c_4
    · skip
      refine lv_iload_n hx hb dX6_like_7 rfl (lv_at hl 2 rfl) ?_
      rcases ix_cases 16 (by decide) vt with hvt | ⟨kvt, hkvt, rfl⟩
      · skip
        have xvt := ix_none hvt
        refine h_callS (st1 := [.int 0]) [.int vt] [] ⟨hx, hb, hml, hown, hts⟩ hE hw (HT.to (c_X6_isRegister l G A (ML ma) F vt) (V2 := some (.int 0)) (congrArg (fun y => some (Value.int y)) (bI_f (show ¬ inL vt.toInt64 0 15 from inL_out (n := 15) (by decide) hvt))) rfl) (va_cwS 1 hts gX6_like_X6_isRegister rfl rfl rfl (by decide +kernel) ⟨Nat.le_of_ble_eq_true rfl, Nat.le_of_ble_eq_true rfl⟩) rfl hl.1 rfl (Nat.le_of_ble_eq_true rfl) dX6_like_8 ⟨Nat.le_of_ble_eq_true rfl, Nat.le_of_ble_eq_true rfl⟩ rfl (fun H locs hw => ?_)
        refine lv_if_eq (tgt := 24) hx hb dX6_like_11 (by decide) (fun c_11 => ?_) (fun c_11 => ?_)
        · skip
          refine lv_iconst (v := (-1)) hx hb dX6_like_24 (by decide) ?_
          exact h_iretP hx hb hlk hr hw dX6_like_25 (by simp only [sp_like, xvs, xvt]) (by simp only [sp_like, xvs, xvt]; exact ⟨_, hM, rel_v hrel⟩)
        · skip
          first | exact absurd c_11 (by decide) | exact absurd (by decide) c_11
      · skip
        have xvt := ix_in (n := 16) hkvt (by decide)
        refine h_callS (st1 := [.int 1]) [.int (nI kvt)] [] ⟨hx, hb, hml, hown, hts⟩ hE hw (HT.to (c_X6_isRegister l G A (ML ma) F (nI kvt)) (V2 := some (.int 1)) (congrArg (fun y => some (Value.int y)) (bI_t (show inL (nI kvt).toInt64 0 15 from inL_in (n := 15) (by decide) hkvt))) rfl) (va_cwS 1 hts gX6_like_X6_isRegister rfl rfl rfl (by decide +kernel) ⟨Nat.le_of_ble_eq_true rfl, Nat.le_of_ble_eq_true rfl⟩) rfl hl.1 rfl (Nat.le_of_ble_eq_true rfl) dX6_like_8 ⟨Nat.le_of_ble_eq_true rfl, Nat.le_of_ble_eq_true rfl⟩ rfl (fun H locs hw => ?_)
        refine lv_if_eq (tgt := 24) hx hb dX6_like_11 (by decide) (fun c_11 => ?_) (fun c_11 => ?_)
        · skip
          first | exact absurd c_11 (by decide) | exact absurd (by decide) c_11
        · skip
          refine lv_iload_n hx hb dX6_like_14 rfl (lv_at hl 3 rfl) ?_
          refine lv_i2l hx hb dX6_like_15 rfl ?_
          refine lv_lconst (v := 0) hx hb dX6_like_16 (by decide) ?_
          refine lv_lconst (v := 1) hx hb dX6_like_17 (by decide) ?_
          rcases in_1 vd with hovd | rfl | rfl
          · skip
            refine h_callS (st1 := [.int 0]) [.long vd.toInt64, .long 0, .long 1] [] ⟨hx, hb, hml, hown, hts⟩ hE hw (HT.to (c_X6_in l G A (ML ma) F vd.toInt64 0 1) (V2 := some (.int 0)) (congrArg (fun y => some (Value.int y)) (bI_f hovd.1)) rfl) (va_cwS 3 hts gX6_like_X6_in rfl rfl rfl (by decide +kernel) ⟨Nat.le_of_ble_eq_true rfl, Nat.le_of_ble_eq_true rfl⟩) rfl hl.1 rfl (Nat.le_of_ble_eq_true rfl) dX6_like_18 ⟨Nat.le_of_ble_eq_true rfl, Nat.le_of_ble_eq_true rfl⟩ rfl (fun H locs hw => ?_)
            refine lv_if_ne (tgt := 26) hx hb dX6_like_21 (by decide) (fun c_21 => ?_) (fun c_21 => ?_)
            · skip
              first | exact absurd c_21 (by decide) | exact absurd (by decide) c_21
            · skip
              refine lv_iconst (v := (-1)) hx hb dX6_like_24 (by decide) ?_
              exact h_iretP hx hb hlk hr hw dX6_like_25 (by simp only [sp_like, xvs, xvt, cif_f hovd.2]) (by simp only [sp_like, xvs, xvt, cif_f hovd.2]; exact ⟨_, hM, rel_v hrel⟩)
          · skip
            refine h_callS (st1 := [.int 1]) [.long ((0 : Int32).toInt64), .long 0, .long 1] [] ⟨hx, hb, hml, hown, hts⟩ hE hw (HT.to (c_X6_in l G A (ML ma) F (0 : Int32).toInt64 0 1) (V2 := some (.int 1)) (congrArg (fun y => some (Value.int y)) (bI_t (show inL (0 : Int32).toInt64 0 1 from ⟨by decide, by decide⟩))) rfl) (va_cwS 3 hts gX6_like_X6_in rfl rfl rfl (by decide +kernel) ⟨Nat.le_of_ble_eq_true rfl, Nat.le_of_ble_eq_true rfl⟩) rfl hl.1 rfl (Nat.le_of_ble_eq_true rfl) dX6_like_18 ⟨Nat.le_of_ble_eq_true rfl, Nat.le_of_ble_eq_true rfl⟩ rfl (fun H locs hw => ?_)
            refine lv_if_ne (tgt := 26) hx hb dX6_like_21 (by decide) (fun c_21 => ?_) (fun c_21 => ?_)
            · skip
              refine lv_aload_n hx hb dX6_like_26 rfl (lv_at hl 0 rfl) ?_
              refine lv_aload_n hx hb dX6_like_27 rfl (lv_at hl 0 rfl) ?_
              refine h_get hx hb hE hw hts hinX6 hown (ci := 6) rfl 8 (by decide) lk_32 (fun _ h9 => h9) hM.ob rfl dX6_like_28 ?_
              refine lv_iload_n hx hb dX6_like_31 rfl (lv_at hl 1 rfl) ?_
              refine h_callV (st1 := []) [.ref (ma 8), .int (nI kvs)] [] ⟨hx, hb, hml, hown, hts⟩ hE hw (HT.to (c_X6_load l G A ma F _ _ _ _ _ _ _ _ hM 8 kvs (by decide) (by decide) hkvs) rfl (F3 := va_up F (ma 8) (eJ4 G (rg kvs))) (by rw [show rgq mrg kvs = rg kvs from hk4 kvs hkvs])) (cwV 2 hts gX6_like_X6_load rfl rfl rfl (by decide +kernel) ⟨Nat.le_of_ble_eq_true rfl, Nat.le_of_ble_eq_true rfl⟩) hM.ob rfl rfl rfl hl.1 rfl (Nat.le_of_ble_eq_true rfl) dX6_like_32 ⟨Nat.le_of_ble_eq_true rfl, Nat.le_of_ble_eq_true rfl⟩ rfl (fun H locs hw => ?_)
              refine lv_aload_n hx hb dX6_like_35 rfl (lv_at hl 0 rfl) ?_
              refine lv_aload_n hx hb dX6_like_36 rfl (lv_at hl 0 rfl) ?_
              refine h_get hx hb hE hw hts hinX6 hown (ci := 6) rfl 12 (by decide) lk_44 (fun _ h9 => h9) (pt_ne hM.ob (hM.ne (i := 0) (j := 8) (by decide) (by decide) (by decide))) rfl dX6_like_37 ?_
              refine lv_iload_n hx hb dX6_like_40 rfl (lv_at hl 2 rfl) ?_
              refine h_callV (st1 := []) [.ref (ma 12), .int (nI kvt)] [] ⟨hx, hb, hml, hown, hts⟩ hE hw (HT.to (c_X6_load l G A ma (va_up F (ma 8) (eJ4 G (rg kvs))) _ _ _ _ _ _ _ _ (MW.setv hM (i := 8) (by decide) (by decide) (rg kvs)) 12 kvt (by decide) (by decide) hkvt) rfl (F3 := va_up (va_up F (ma 8) (eJ4 G (rg kvs))) (ma 12) (eJ4 G (rg kvt))) (by rw [show rgq mrg kvt = rg kvt from hk4 kvt hkvt])) (cwV 2 hts gX6_like_X6_load rfl rfl rfl (by decide +kernel) ⟨Nat.le_of_ble_eq_true rfl, Nat.le_of_ble_eq_true rfl⟩) (pt_ne hM.ob (hM.ne (i := 0) (j := 8) (by decide) (by decide) (by decide))) rfl rfl rfl hl.1 rfl (Nat.le_of_ble_eq_true rfl) dX6_like_41 ⟨Nat.le_of_ble_eq_true rfl, Nat.le_of_ble_eq_true rfl⟩ rfl (fun H locs hw => ?_)
              refine lv_iconst (v := 0) hx hb dX6_like_44 (by decide) ?_
              refine lv_istore (lv' := [(4, .int 0), (0, .ref (ma 0)), (1, .int (nI kvs)), (2, .int (nI kvt)), (3, .int 0)]) hx hb dX6_like_45 hl (by decide) rfl (fun ls hl => ?_)
              have hspl : (sp_like (rg, kd, z, pl, cnt) (nI kvs) (nI kvt) 0) = (fuL 0 (rg kvs) (rg kvt) 24 0, (rg, kd, z, pl, cnt)) := by simp only [sp_like, xvs, xvt, cif_t (show ((0 : Int32) = 0 ∨ (0 : Int32) = 1) by decide), cif_T, or_true, true_or]
              have loop : ∀ (d u : Nat) (F : FM) (mv2 : Nat → Q4) (H : Heap) (locs : List Loc) (ls : Array Slot), d + u = 24 → MW G ma (mk, msz, msh, mrg, mfc, mmd, mv2, mcn) F → mv2 8 = rg kvs → mv2 12 = rg kvt → fuL 0 (rg kvs) (rg kvt) d u = fuL 0 (rg kvs) (rg kvt) 24 0 → wo G A s.heap (ML ma) F H locs → lv_has ls 5 [(0, .ref (ma 0)), (3, .int 0), (4, .int (nI u))] → W p l e { frames := 2, cells := 0, slots := 0, locals := 45 } s m ([.ref (ma 0), .int (nI kvs), .int (nI kvt), .int 0].toArray) below meth c H locs 0 0 (MQ below (QP G A (ML ma) (some (.int (sp_like (rg, kd, z, pl, cnt) (nI kvs) (nI kvt) 0).1)) (MR G ma (sp_like (rg, kd, z, pl, cnt) (nI kvs) (nI kvt) 0).2)) ([.ref (ma 0), .int (nI kvs), .int (nI kvt), .int 0].toArray) s 0 0 A) (F0 m 47 ls []) := by
                intro d
                induction d with
                | zero =>
                  intro u F mv2 H locs ls hu hM2 h8 h12 hf hw hl
                  refine lv_iload hx hb dX6_like_47 (lv_at hl 2 rfl) ?_
                  refine lv_bipush (v := 24) hx hb dX6_like_49 (by decide) ?_
                  refine lv_icmp_ge (tgt := 125) hx hb dX6_like_51 (by decide) (fun c_51 => ?_) (fun c_51 => ?_)
                  · skip
                    refine lv_bipush (v := (-4)) hx hb dX6_like_125 (by decide) ?_
                    exact h_iretP hx hb hlk hr hw dX6_like_127 (by rw [hspl]; simp only []; rw [← hf]; rfl) (by rw [hspl]; exact ⟨_, hM2, rel_v hrel⟩)
                  · skip
                    exact absurd (nI_le (a := 24) (b := u) (by omega) (by omega)) c_51
                | succ d ih =>
                  intro u F mv2 H locs ls hu hM2 h8 h12 hf hw hl
                  have hqo : qon 0 (rg kvs) (uq4 u) = qmul (rg kvs) (uq4 u) := qon_0 _ _
                  refine lv_iload hx hb dX6_like_47 (lv_at hl 2 rfl) ?_
                  refine lv_bipush (v := 24) hx hb dX6_like_49 (by decide) ?_
                  refine lv_icmp_ge (tgt := 125) hx hb dX6_like_51 (by decide) (fun c_51 => ?_) (fun c_51 => ?_)
                  · skip
                    exact absurd c_51 (nI_ge (a := u) (b := 24) (by omega) (by decide))
                  · skip
                    refine lv_aload_n hx hb dX6_like_54 rfl (lv_at hl 0 rfl) ?_
                    refine lv_aload_n hx hb dX6_like_55 rfl (lv_at hl 0 rfl) ?_
                    refine h_get hx hb hE hw hts hinX6 hown (ci := 6) rfl 9 (by decide) lk_35 (fun _ h9 => h9) hM2.ob rfl dX6_like_56 ?_
                    refine lv_iload hx hb dX6_like_59 (lv_at hl 2 rfl) ?_
                    refine h_callV (st1 := []) [.ref (ma 9), .int (nI u)] [] ⟨hx, hb, hml, hown, hts⟩ hE hw (c_X6_loadUnit l G A ma F _ _ _ _ _ _ _ _ hM2 9 u (by decide) (by decide) (by omega)) (cwV 2 hts gX6_like_X6_loadUnit rfl rfl rfl (by decide +kernel) ⟨Nat.le_of_ble_eq_true rfl, Nat.le_of_ble_eq_true rfl⟩) hM2.ob rfl rfl rfl hl.1 rfl (Nat.le_of_ble_eq_true rfl) dX6_like_61 ⟨Nat.le_of_ble_eq_true rfl, Nat.le_of_ble_eq_true rfl⟩ rfl (fun H locs hw => ?_)
                    refine lv_iload_n hx hb dX6_like_64 rfl (lv_at hl 1 rfl) ?_
                    refine lv_iconst (v := 1) hx hb dX6_like_65 (by decide) ?_
                    refine lv_icmp_ne (tgt := 87) hx hb dX6_like_66 (by decide) (fun c_66 => ?_) (fun c_66 => ?_)
                    · skip
                      refine lv_aload_n hx hb dX6_like_87 rfl (lv_at hl 0 rfl) ?_
                      refine h_get hx hb hE hw hts hinX6 hown (ci := 6) rfl 10 (by decide) lk_38 (fun _ h9 => h9) (pt_ne hM2.ob (hM.ne (i := 0) (j := 9) (by decide) (by decide) (by decide))) rfl dX6_like_88 ?_
                      refine lv_aload_n hx hb dX6_like_91 rfl (lv_at hl 0 rfl) ?_
                      refine h_get hx hb hE hw hts hinX6 hown (ci := 6) rfl 8 (by decide) lk_32 (fun _ h9 => h9) (pt_ne hM2.ob (hM.ne (i := 0) (j := 9) (by decide) (by decide) (by decide))) rfl dX6_like_92 ?_
                      refine lv_aload_n hx hb dX6_like_95 rfl (lv_at hl 0 rfl) ?_
                      refine h_get hx hb hE hw hts hinX6 hown (ci := 6) rfl 9 (by decide) lk_35 (fun _ h9 => h9) (pt_ne hM2.ob (hM.ne (i := 0) (j := 9) (by decide) (by decide) (by decide))) rfl dX6_like_96 ?_
                      refine h_callS (st1 := []) [.ref (ma 10), .ref (ma 8), .ref (ma 9)] [] ⟨hx, hb, hml, hown, hts⟩ hE hw (c_X6_times l G A (ML ma) (va_up F (ma 9) (eJ4 G (uq4 u))) (ma 10) (ma 8) (ma 9) (mv2 10) (rg kvs) (uq4 u) (pt_ne (hM2.v (i := 10) (by decide) (by decide)) (hM.ne (i := 10) (j := 9) (by decide) (by decide) (by decide))) (pt_ne (pt_eq (hM2.v (i := 8) (by decide) (by decide)) (by rw [show ((mk, msz, msh, mrg, mfc, mmd, mv2, mcn) : MS).2.2.2.2.2.2.1 8 = rg kvs from h8])) (hM.ne (i := 8) (j := 9) (by decide) (by decide) (by decide))) (pt_up (hM2.v (i := 9) (by decide) (by decide))) (hM.ne (i := 10) (j := 8) (by decide) (by decide) (by decide)) (hM.ne (i := 10) (j := 9) (by decide) (by decide) (by decide))) (va_cwS 3 hts gX6_like_X6_times rfl rfl rfl (by decide +kernel) ⟨Nat.le_of_ble_eq_true rfl, Nat.le_of_ble_eq_true rfl⟩) rfl hl.1 rfl (Nat.le_of_ble_eq_true rfl) dX6_like_99 ⟨Nat.le_of_ble_eq_true rfl, Nat.le_of_ble_eq_true rfl⟩ rfl (fun H locs hw => ?_)
                      refine lv_aload_n hx hb dX6_like_102 rfl (lv_at hl 0 rfl) ?_
                      refine h_get hx hb hE hw hts hinX6 hown (ci := 6) rfl 10 (by decide) lk_38 (fun _ h9 => h9) (pt_ne (pt_ne hM2.ob (hM.ne (i := 0) (j := 9) (by decide) (by decide) (by decide))) (hM.ne (i := 0) (j := 10) (by decide) (by decide) (by decide))) rfl dX6_like_103 ?_
                      refine lv_aload_n hx hb dX6_like_106 rfl (lv_at hl 0 rfl) ?_
                      refine h_get hx hb hE hw hts hinX6 hown (ci := 6) rfl 12 (by decide) lk_44 (fun _ h9 => h9) (pt_ne (pt_ne hM2.ob (hM.ne (i := 0) (j := 9) (by decide) (by decide) (by decide))) (hM.ne (i := 0) (j := 10) (by decide) (by decide) (by decide))) rfl dX6_like_107 ?_
                      refine h_callS (st1 := [.int (bI ((qmul (rg kvs) (uq4 u)) = (rg kvt)))]) [.ref (ma 10), .ref (ma 12)] [] ⟨hx, hb, hml, hown, hts⟩ hE hw (c_X6_isSame l G A (ML ma) (va_up (va_up F (ma 9) (eJ4 G (uq4 u))) (ma 10) (eJ4 G (qmul (rg kvs) (uq4 u)))) (ma 10) (ma 12) (qmul (rg kvs) (uq4 u)) (rg kvt) (pt_up (pt_ne (hM2.v (i := 10) (by decide) (by decide)) (hM.ne (i := 10) (j := 9) (by decide) (by decide) (by decide)))) (pt_ne (pt_ne (pt_eq (hM2.v (i := 12) (by decide) (by decide)) (by rw [show ((mk, msz, msh, mrg, mfc, mmd, mv2, mcn) : MS).2.2.2.2.2.2.1 12 = rg kvt from h12])) (hM.ne (i := 12) (j := 9) (by decide) (by decide) (by decide))) (hM.ne (i := 12) (j := 10) (by decide) (by decide) (by decide)))) (va_cwS 2 hts gX6_like_X6_isSame rfl rfl rfl (by decide +kernel) ⟨Nat.le_of_ble_eq_true rfl, Nat.le_of_ble_eq_true rfl⟩) rfl hl.1 rfl (Nat.le_of_ble_eq_true rfl) dX6_like_110 ⟨Nat.le_of_ble_eq_true rfl, Nat.le_of_ble_eq_true rfl⟩ rfl (fun H locs hw => ?_)
                      refine lv_if_eq (tgt := 119) hx hb dX6_like_113 (by decide) (fun c_113 => ?_) (fun c_113 => ?_)
                      · skip
                        have c_113 := bI_eq.mp c_113
                        obtain ⟨i9, ei9⟩ : ∃ y : Int32, y = (nI u) + 1 := ⟨_, rfl⟩
                        refine lv_iinc (v := i9) (lv' := [(4, .int i9), (0, .ref (ma 0)), (3, .int 0)]) hx hb dX6_like_119 hl (k := 2) rfl (by rw [ei9, show Int32.ofInt (1) = 1 from by decide]) (by decide) rfl (fun ls hl => ?_)
                        refine lv_goto (tgt := 47) hx hb dX6_like_122 (by decide) ?_
                        exact ih (u + 1) _ _ H locs ls (by omega) (MW.setv (MW.setv hM2 (i := 9) (by decide) (by decide) (uq4 u)) (i := 10) (by decide) (by decide) (qmul (rg kvs) (uq4 u))) h8 h12 (by rw [← hf]; conv => rhs; rw [fuL, if_neg (fun w => c_113 (hqo.symm.trans w))]) hw (lv_sub (l' := [(0, .ref (ma 0)), (3, .int 0), (4, .int (nI (u + 1)))]) hl [1, 2, 0] (by rw [← nI_1, ← ei9]; rfl))
                      · skip
                        have c_113 := bI_ne.mp c_113
                        refine lv_iload hx hb dX6_like_116 (lv_at hl 2 rfl) ?_
                        exact h_iretP hx hb hlk hr hw dX6_like_118 (by rw [hspl]; simp only []; rw [← hf, fuL, if_pos (hqo.trans c_113)]) (by rw [hspl]; exact ⟨_, (MW.setv (MW.setv hM2 (i := 9) (by decide) (by decide) (uq4 u)) (i := 10) (by decide) (by decide) (qmul (rg kvs) (uq4 u))), rel_v hrel⟩)
                    · skip
                      first | exact absurd c_66 (by decide) | exact absurd (by decide) c_66
              exact loop 24 0 _ _ _ _ ls rfl (MW.setv (MW.setv hM (i := 8) (by decide) (by decide) (rg kvs)) (i := 12) (by decide) (by decide) (rg kvt)) rfl rfl rfl hw (lv_sub (l' := [(0, .ref (ma 0)), (3, .int 0), (4, .int (nI 0))]) hl [1, 4, 0] rfl)
            · skip
              first | exact absurd c_21 (by decide) | exact absurd (by decide) c_21
          · skip
            refine h_callS (st1 := [.int 1]) [.long ((1 : Int32).toInt64), .long 0, .long 1] [] ⟨hx, hb, hml, hown, hts⟩ hE hw (HT.to (c_X6_in l G A (ML ma) F (1 : Int32).toInt64 0 1) (V2 := some (.int 1)) (congrArg (fun y => some (Value.int y)) (bI_t (show inL (1 : Int32).toInt64 0 1 from ⟨by decide, by decide⟩))) rfl) (va_cwS 3 hts gX6_like_X6_in rfl rfl rfl (by decide +kernel) ⟨Nat.le_of_ble_eq_true rfl, Nat.le_of_ble_eq_true rfl⟩) rfl hl.1 rfl (Nat.le_of_ble_eq_true rfl) dX6_like_18 ⟨Nat.le_of_ble_eq_true rfl, Nat.le_of_ble_eq_true rfl⟩ rfl (fun H locs hw => ?_)
            refine lv_if_ne (tgt := 26) hx hb dX6_like_21 (by decide) (fun c_21 => ?_) (fun c_21 => ?_)
            · skip
              refine lv_aload_n hx hb dX6_like_26 rfl (lv_at hl 0 rfl) ?_
              refine lv_aload_n hx hb dX6_like_27 rfl (lv_at hl 0 rfl) ?_
              refine h_get hx hb hE hw hts hinX6 hown (ci := 6) rfl 8 (by decide) lk_32 (fun _ h9 => h9) hM.ob rfl dX6_like_28 ?_
              refine lv_iload_n hx hb dX6_like_31 rfl (lv_at hl 1 rfl) ?_
              refine h_callV (st1 := []) [.ref (ma 8), .int (nI kvs)] [] ⟨hx, hb, hml, hown, hts⟩ hE hw (HT.to (c_X6_load l G A ma F _ _ _ _ _ _ _ _ hM 8 kvs (by decide) (by decide) hkvs) rfl (F3 := va_up F (ma 8) (eJ4 G (rg kvs))) (by rw [show rgq mrg kvs = rg kvs from hk4 kvs hkvs])) (cwV 2 hts gX6_like_X6_load rfl rfl rfl (by decide +kernel) ⟨Nat.le_of_ble_eq_true rfl, Nat.le_of_ble_eq_true rfl⟩) hM.ob rfl rfl rfl hl.1 rfl (Nat.le_of_ble_eq_true rfl) dX6_like_32 ⟨Nat.le_of_ble_eq_true rfl, Nat.le_of_ble_eq_true rfl⟩ rfl (fun H locs hw => ?_)
              refine lv_aload_n hx hb dX6_like_35 rfl (lv_at hl 0 rfl) ?_
              refine lv_aload_n hx hb dX6_like_36 rfl (lv_at hl 0 rfl) ?_
              refine h_get hx hb hE hw hts hinX6 hown (ci := 6) rfl 12 (by decide) lk_44 (fun _ h9 => h9) (pt_ne hM.ob (hM.ne (i := 0) (j := 8) (by decide) (by decide) (by decide))) rfl dX6_like_37 ?_
              refine lv_iload_n hx hb dX6_like_40 rfl (lv_at hl 2 rfl) ?_
              refine h_callV (st1 := []) [.ref (ma 12), .int (nI kvt)] [] ⟨hx, hb, hml, hown, hts⟩ hE hw (HT.to (c_X6_load l G A ma (va_up F (ma 8) (eJ4 G (rg kvs))) _ _ _ _ _ _ _ _ (MW.setv hM (i := 8) (by decide) (by decide) (rg kvs)) 12 kvt (by decide) (by decide) hkvt) rfl (F3 := va_up (va_up F (ma 8) (eJ4 G (rg kvs))) (ma 12) (eJ4 G (rg kvt))) (by rw [show rgq mrg kvt = rg kvt from hk4 kvt hkvt])) (cwV 2 hts gX6_like_X6_load rfl rfl rfl (by decide +kernel) ⟨Nat.le_of_ble_eq_true rfl, Nat.le_of_ble_eq_true rfl⟩) (pt_ne hM.ob (hM.ne (i := 0) (j := 8) (by decide) (by decide) (by decide))) rfl rfl rfl hl.1 rfl (Nat.le_of_ble_eq_true rfl) dX6_like_41 ⟨Nat.le_of_ble_eq_true rfl, Nat.le_of_ble_eq_true rfl⟩ rfl (fun H locs hw => ?_)
              refine lv_iconst (v := 0) hx hb dX6_like_44 (by decide) ?_
              refine lv_istore (lv' := [(4, .int 0), (0, .ref (ma 0)), (1, .int (nI kvs)), (2, .int (nI kvt)), (3, .int 1)]) hx hb dX6_like_45 hl (by decide) rfl (fun ls hl => ?_)
              have hspl : (sp_like (rg, kd, z, pl, cnt) (nI kvs) (nI kvt) 1) = (fuL 1 (rg kvs) (rg kvt) 24 0, (rg, kd, z, pl, cnt)) := by simp only [sp_like, xvs, xvt, cif_t (show ((1 : Int32) = 0 ∨ (1 : Int32) = 1) by decide), cif_T, or_true, true_or]
              have loop : ∀ (d u : Nat) (F : FM) (mv2 : Nat → Q4) (H : Heap) (locs : List Loc) (ls : Array Slot), d + u = 24 → MW G ma (mk, msz, msh, mrg, mfc, mmd, mv2, mcn) F → mv2 8 = rg kvs → mv2 12 = rg kvt → fuL 1 (rg kvs) (rg kvt) d u = fuL 1 (rg kvs) (rg kvt) 24 0 → wo G A s.heap (ML ma) F H locs → lv_has ls 5 [(0, .ref (ma 0)), (3, .int 1), (4, .int (nI u))] → W p l e { frames := 2, cells := 0, slots := 0, locals := 45 } s m ([.ref (ma 0), .int (nI kvs), .int (nI kvt), .int 1].toArray) below meth c H locs 0 0 (MQ below (QP G A (ML ma) (some (.int (sp_like (rg, kd, z, pl, cnt) (nI kvs) (nI kvt) 1).1)) (MR G ma (sp_like (rg, kd, z, pl, cnt) (nI kvs) (nI kvt) 1).2)) ([.ref (ma 0), .int (nI kvs), .int (nI kvt), .int 1].toArray) s 0 0 A) (F0 m 47 ls []) := by
                intro d
                induction d with
                | zero =>
                  intro u F mv2 H locs ls hu hM2 h8 h12 hf hw hl
                  refine lv_iload hx hb dX6_like_47 (lv_at hl 2 rfl) ?_
                  refine lv_bipush (v := 24) hx hb dX6_like_49 (by decide) ?_
                  refine lv_icmp_ge (tgt := 125) hx hb dX6_like_51 (by decide) (fun c_51 => ?_) (fun c_51 => ?_)
                  · skip
                    refine lv_bipush (v := (-4)) hx hb dX6_like_125 (by decide) ?_
                    exact h_iretP hx hb hlk hr hw dX6_like_127 (by rw [hspl]; simp only []; rw [← hf]; rfl) (by rw [hspl]; exact ⟨_, hM2, rel_v hrel⟩)
                  · skip
                    exact absurd (nI_le (a := 24) (b := u) (by omega) (by omega)) c_51
                | succ d ih =>
                  intro u F mv2 H locs ls hu hM2 h8 h12 hf hw hl
                  have hqo : qon 1 (rg kvs) (uq4 u) = qmul (uq4 u) (rg kvs) := qon_1 _ _
                  refine lv_iload hx hb dX6_like_47 (lv_at hl 2 rfl) ?_
                  refine lv_bipush (v := 24) hx hb dX6_like_49 (by decide) ?_
                  refine lv_icmp_ge (tgt := 125) hx hb dX6_like_51 (by decide) (fun c_51 => ?_) (fun c_51 => ?_)
                  · skip
                    exact absurd c_51 (nI_ge (a := u) (b := 24) (by omega) (by decide))
                  · skip
                    refine lv_aload_n hx hb dX6_like_54 rfl (lv_at hl 0 rfl) ?_
                    refine lv_aload_n hx hb dX6_like_55 rfl (lv_at hl 0 rfl) ?_
                    refine h_get hx hb hE hw hts hinX6 hown (ci := 6) rfl 9 (by decide) lk_35 (fun _ h9 => h9) hM2.ob rfl dX6_like_56 ?_
                    refine lv_iload hx hb dX6_like_59 (lv_at hl 2 rfl) ?_
                    refine h_callV (st1 := []) [.ref (ma 9), .int (nI u)] [] ⟨hx, hb, hml, hown, hts⟩ hE hw (c_X6_loadUnit l G A ma F _ _ _ _ _ _ _ _ hM2 9 u (by decide) (by decide) (by omega)) (cwV 2 hts gX6_like_X6_loadUnit rfl rfl rfl (by decide +kernel) ⟨Nat.le_of_ble_eq_true rfl, Nat.le_of_ble_eq_true rfl⟩) hM2.ob rfl rfl rfl hl.1 rfl (Nat.le_of_ble_eq_true rfl) dX6_like_61 ⟨Nat.le_of_ble_eq_true rfl, Nat.le_of_ble_eq_true rfl⟩ rfl (fun H locs hw => ?_)
                    refine lv_iload_n hx hb dX6_like_64 rfl (lv_at hl 1 rfl) ?_
                    refine lv_iconst (v := 1) hx hb dX6_like_65 (by decide) ?_
                    refine lv_icmp_ne (tgt := 87) hx hb dX6_like_66 (by decide) (fun c_66 => ?_) (fun c_66 => ?_)
                    · skip
                      first | exact absurd c_66 (by decide) | exact absurd (by decide) c_66
                    · skip
                      refine lv_aload_n hx hb dX6_like_69 rfl (lv_at hl 0 rfl) ?_
                      refine h_get hx hb hE hw hts hinX6 hown (ci := 6) rfl 10 (by decide) lk_38 (fun _ h9 => h9) (pt_ne hM2.ob (hM.ne (i := 0) (j := 9) (by decide) (by decide) (by decide))) rfl dX6_like_70 ?_
                      refine lv_aload_n hx hb dX6_like_73 rfl (lv_at hl 0 rfl) ?_
                      refine h_get hx hb hE hw hts hinX6 hown (ci := 6) rfl 9 (by decide) lk_35 (fun _ h9 => h9) (pt_ne hM2.ob (hM.ne (i := 0) (j := 9) (by decide) (by decide) (by decide))) rfl dX6_like_74 ?_
                      refine lv_aload_n hx hb dX6_like_77 rfl (lv_at hl 0 rfl) ?_
                      refine h_get hx hb hE hw hts hinX6 hown (ci := 6) rfl 8 (by decide) lk_32 (fun _ h9 => h9) (pt_ne hM2.ob (hM.ne (i := 0) (j := 9) (by decide) (by decide) (by decide))) rfl dX6_like_78 ?_
                      refine h_callS (st1 := []) [.ref (ma 10), .ref (ma 9), .ref (ma 8)] [] ⟨hx, hb, hml, hown, hts⟩ hE hw (c_X6_times l G A (ML ma) (va_up F (ma 9) (eJ4 G (uq4 u))) (ma 10) (ma 9) (ma 8) (mv2 10) (uq4 u) (rg kvs) (pt_ne (hM2.v (i := 10) (by decide) (by decide)) (hM.ne (i := 10) (j := 9) (by decide) (by decide) (by decide))) (pt_up (hM2.v (i := 9) (by decide) (by decide))) (pt_ne (pt_eq (hM2.v (i := 8) (by decide) (by decide)) (by rw [show ((mk, msz, msh, mrg, mfc, mmd, mv2, mcn) : MS).2.2.2.2.2.2.1 8 = rg kvs from h8])) (hM.ne (i := 8) (j := 9) (by decide) (by decide) (by decide))) (hM.ne (i := 10) (j := 9) (by decide) (by decide) (by decide)) (hM.ne (i := 10) (j := 8) (by decide) (by decide) (by decide))) (va_cwS 3 hts gX6_like_X6_times rfl rfl rfl (by decide +kernel) ⟨Nat.le_of_ble_eq_true rfl, Nat.le_of_ble_eq_true rfl⟩) rfl hl.1 rfl (Nat.le_of_ble_eq_true rfl) dX6_like_81 ⟨Nat.le_of_ble_eq_true rfl, Nat.le_of_ble_eq_true rfl⟩ rfl (fun H locs hw => ?_)
                      refine lv_goto (tgt := 102) hx hb dX6_like_84 (by decide) ?_
                      refine lv_aload_n hx hb dX6_like_102 rfl (lv_at hl 0 rfl) ?_
                      refine h_get hx hb hE hw hts hinX6 hown (ci := 6) rfl 10 (by decide) lk_38 (fun _ h9 => h9) (pt_ne (pt_ne hM2.ob (hM.ne (i := 0) (j := 9) (by decide) (by decide) (by decide))) (hM.ne (i := 0) (j := 10) (by decide) (by decide) (by decide))) rfl dX6_like_103 ?_
                      refine lv_aload_n hx hb dX6_like_106 rfl (lv_at hl 0 rfl) ?_
                      refine h_get hx hb hE hw hts hinX6 hown (ci := 6) rfl 12 (by decide) lk_44 (fun _ h9 => h9) (pt_ne (pt_ne hM2.ob (hM.ne (i := 0) (j := 9) (by decide) (by decide) (by decide))) (hM.ne (i := 0) (j := 10) (by decide) (by decide) (by decide))) rfl dX6_like_107 ?_
                      refine h_callS (st1 := [.int (bI ((qmul (uq4 u) (rg kvs)) = (rg kvt)))]) [.ref (ma 10), .ref (ma 12)] [] ⟨hx, hb, hml, hown, hts⟩ hE hw (c_X6_isSame l G A (ML ma) (va_up (va_up F (ma 9) (eJ4 G (uq4 u))) (ma 10) (eJ4 G (qmul (uq4 u) (rg kvs)))) (ma 10) (ma 12) (qmul (uq4 u) (rg kvs)) (rg kvt) (pt_up (pt_ne (hM2.v (i := 10) (by decide) (by decide)) (hM.ne (i := 10) (j := 9) (by decide) (by decide) (by decide)))) (pt_ne (pt_ne (pt_eq (hM2.v (i := 12) (by decide) (by decide)) (by rw [show ((mk, msz, msh, mrg, mfc, mmd, mv2, mcn) : MS).2.2.2.2.2.2.1 12 = rg kvt from h12])) (hM.ne (i := 12) (j := 9) (by decide) (by decide) (by decide))) (hM.ne (i := 12) (j := 10) (by decide) (by decide) (by decide)))) (va_cwS 2 hts gX6_like_X6_isSame rfl rfl rfl (by decide +kernel) ⟨Nat.le_of_ble_eq_true rfl, Nat.le_of_ble_eq_true rfl⟩) rfl hl.1 rfl (Nat.le_of_ble_eq_true rfl) dX6_like_110 ⟨Nat.le_of_ble_eq_true rfl, Nat.le_of_ble_eq_true rfl⟩ rfl (fun H locs hw => ?_)
                      refine lv_if_eq (tgt := 119) hx hb dX6_like_113 (by decide) (fun c_113 => ?_) (fun c_113 => ?_)
                      · skip
                        have c_113 := bI_eq.mp c_113
                        obtain ⟨i9, ei9⟩ : ∃ y : Int32, y = (nI u) + 1 := ⟨_, rfl⟩
                        refine lv_iinc (v := i9) (lv' := [(4, .int i9), (0, .ref (ma 0)), (3, .int 1)]) hx hb dX6_like_119 hl (k := 2) rfl (by rw [ei9, show Int32.ofInt (1) = 1 from by decide]) (by decide) rfl (fun ls hl => ?_)
                        refine lv_goto (tgt := 47) hx hb dX6_like_122 (by decide) ?_
                        exact ih (u + 1) _ _ H locs ls (by omega) (MW.setv (MW.setv hM2 (i := 9) (by decide) (by decide) (uq4 u)) (i := 10) (by decide) (by decide) (qmul (uq4 u) (rg kvs))) h8 h12 (by rw [← hf]; conv => rhs; rw [fuL, if_neg (fun w => c_113 (hqo.symm.trans w))]) hw (lv_sub (l' := [(0, .ref (ma 0)), (3, .int 1), (4, .int (nI (u + 1)))]) hl [1, 2, 0] (by rw [← nI_1, ← ei9]; rfl))
                      · skip
                        have c_113 := bI_ne.mp c_113
                        refine lv_iload hx hb dX6_like_116 (lv_at hl 2 rfl) ?_
                        exact h_iretP hx hb hlk hr hw dX6_like_118 (by rw [hspl]; simp only []; rw [← hf, fuL, if_pos (hqo.trans c_113)]) (by rw [hspl]; exact ⟨_, (MW.setv (MW.setv hM2 (i := 9) (by decide) (by decide) (uq4 u)) (i := 10) (by decide) (by decide) (qmul (uq4 u) (rg kvs))), rel_v hrel⟩)
              exact loop 24 0 _ _ _ _ ls rfl (MW.setv (MW.setv hM (i := 8) (by decide) (by decide) (rg kvs)) (i := 12) (by decide) (by decide) (rg kvt)) rfl rfl rfl hw (lv_sub (l' := [(0, .ref (ma 0)), (3, .int 1), (4, .int (nI 0))]) hl [1, 4, 0] rfl)
            · skip
              first | exact absurd c_21 (by decide) | exact absurd (by decide) c_21

set_option maxHeartbeats 4000000 in
set_option maxRecDepth 100000 in
theorem c_X6_factor (l : Launch) (G : GG) (A : Nat → Prop) (ma : Nat → Nat) (F : FM) (rg : Nat → Q4) (kd : Nat → Int32) (z : Nat → Nat) (pl : Nat → Nat → Int64) (cnt : Nat) (hR : MR G ma (rg, kd, z, pl, cnt) F) (hz : ∀ k, k < 6 → z k ≤ 16) (hkd : ∀ k, k < 6 → kd k = -1 ∨ 0 ≤ kd k) (hc12 : cnt ≤ 12) (vs : Int32) (vk : Int32) : PT l yX6_factor wsX6_factor { frames := 4, cells := 0, slots := 0, locals := 88 } G A (ML ma) [.ref (ma 0), .int vs, .int vk] F (some (.int (sp_factor (rg, kd, z, pl, cnt) vs vk).1)) (MR G ma (sp_factor (rg, kd, z, pl, cnt) vs vk).2) := by
  refine PT.ofW (cc := cX6_factor) (maxL := 4) (ret := (some .int)) (plainFor_of_name (by decide)) rfl (Nat.le_of_ble_eq_true rfl) ?_
  intro p e s m below meth c ls hx hb hr hml hown hts hlk hE hw hl
  have hl : lv_has ls 4 [(0, .ref (ma 0)), (1, .int vs), (2, .int vk)] := hl
  have hown : s.vm.findClass RX6 = some m.cls := hown
  have lk_177 := hts (.fieldLink RX6 177 "FourPartsModel" "factors" "I") (by decide +kernel)
  have hinX6 : ∀ w ∈ u_ws RX6 TX6 18, w ∈ wsX6_factor := by decide +kernel
  have lk_32 := hts (.fieldLink RX6 32 "FourPartsModel" "x" "[J") (by decide +kernel)
  have lk_26 := hts (.fieldLink RX6 26 "FourPartsModel" "factor" "[J") (by decide +kernel)
  obtain ⟨⟨mk, msz, msh, mrg, mfc, mmd, mv, mcn⟩, hM, hrel⟩ := hR
  obtain ⟨hk1, hk2, hk3, hk4, hk5, hk6⟩ := id hrel
  refine lv_iload_n hx hb dX6_factor_0 rfl (lv_at hl 1 rfl) ?_
  rcases ix_cases 16 (by decide) vs with hvs | ⟨kvs, hkvs, rfl⟩
  · skip
    have xvs := ix_none hvs
    refine h_callS (st1 := [.int 0]) [.int vs] [] ⟨hx, hb, hml, hown, hts⟩ hE hw (HT.to (c_X6_isRegister l G A (ML ma) F vs) (V2 := some (.int 0)) (congrArg (fun y => some (Value.int y)) (bI_f (show ¬ inL vs.toInt64 0 15 from inL_out (n := 15) (by decide) hvs))) rfl) (va_cwS 1 hts gX6_factor_X6_isRegister rfl rfl rfl (by decide +kernel) ⟨Nat.le_of_ble_eq_true rfl, Nat.le_of_ble_eq_true rfl⟩) rfl hl.1 rfl (Nat.le_of_ble_eq_true rfl) dX6_factor_1 ⟨Nat.le_of_ble_eq_true rfl, Nat.le_of_ble_eq_true rfl⟩ rfl (fun H locs hw => ?_)
    refine lv_if_ne (tgt := 9) hx hb dX6_factor_4 (by decide) (fun c_4 => ?_) (fun c_4 => ?_)
    · skip
      first | exact absurd c_4 (by decide) | exact absurd (by decide) c_4
    · skip
      refine lv_iconst (v := (-1)) hx hb dX6_factor_7 (by decide) ?_
      exact h_iretP hx hb hlk hr hw dX6_factor_8 (by simp only [sp_factor, xvs, hldN]) (by simp only [sp_factor, xvs, hldN]; exact ⟨_, hM, rel_v hrel⟩)
  · skip
    have xvs := ix_in (n := 16) hkvs (by decide)
    refine h_callS (st1 := [.int 1]) [.int (nI kvs)] [] ⟨hx, hb, hml, hown, hts⟩ hE hw (HT.to (c_X6_isRegister l G A (ML ma) F (nI kvs)) (V2 := some (.int 1)) (congrArg (fun y => some (Value.int y)) (bI_t (show inL (nI kvs).toInt64 0 15 from inL_in (n := 15) (by decide) hkvs))) rfl) (va_cwS 1 hts gX6_factor_X6_isRegister rfl rfl rfl (by decide +kernel) ⟨Nat.le_of_ble_eq_true rfl, Nat.le_of_ble_eq_true rfl⟩) rfl hl.1 rfl (Nat.le_of_ble_eq_true rfl) dX6_factor_1 ⟨Nat.le_of_ble_eq_true rfl, Nat.le_of_ble_eq_true rfl⟩ rfl (fun H locs hw => ?_)
    refine lv_if_ne (tgt := 9) hx hb dX6_factor_4 (by decide) (fun c_4 => ?_) (fun c_4 => ?_)
    · skip
      refine lv_iload_n hx hb dX6_factor_9 rfl (lv_at hl 2 rfl) ?_
      refine lv_i2l hx hb dX6_factor_10 rfl ?_
      refine lv_lconst (v := 0) hx hb dX6_factor_11 (by decide) ?_
      refine lv_aload_n hx hb dX6_factor_12 rfl (lv_at hl 0 rfl) ?_
      refine h_get hx hb hE hw hts hinX6 hown (ci := 6) rfl 5 (by decide) lk_177 (fun _ h9 => h9) hM.ob rfl dX6_factor_13 ?_
      refine lv_iconst (v := 1) hx hb dX6_factor_16 (by decide) ?_
      refine lv_isub hx hb dX6_factor_17 ?_
      refine lv_i2l hx hb dX6_factor_18 rfl ?_
      rcases ix_cases cnt (by omega) vk with hvk | ⟨kk, hkk, rfl⟩
      · skip
        have xvk := ix_none hvk
        refine h_callS (st1 := [.int 0]) [.long vk.toInt64, .long 0, .long ((mcn - 1).toInt64)] [] ⟨hx, hb, hml, hown, hts⟩ hE hw (HT.to (c_X6_in l G A (ML ma) F vk.toInt64 0 ((mcn - 1).toInt64)) (V2 := some (.int 0)) (congrArg (fun y => some (Value.int y)) (bI_f (by rw [show mcn = nI cnt from hk5]; exact cnt_out hc12 hvk))) rfl) (va_cwS 3 hts gX6_factor_X6_in rfl rfl rfl (by decide +kernel) ⟨Nat.le_of_ble_eq_true rfl, Nat.le_of_ble_eq_true rfl⟩) rfl hl.1 rfl (Nat.le_of_ble_eq_true rfl) dX6_factor_19 ⟨Nat.le_of_ble_eq_true rfl, Nat.le_of_ble_eq_true rfl⟩ rfl (fun H locs hw => ?_)
        refine lv_if_ne (tgt := 28) hx hb dX6_factor_22 (by decide) (fun c_22 => ?_) (fun c_22 => ?_)
        · skip
          first | exact absurd c_22 (by decide) | exact absurd (by decide) c_22
        · skip
          refine lv_bipush (v := (-2)) hx hb dX6_factor_25 (by decide) ?_
          exact h_iretP hx hb hlk hr hw dX6_factor_27 (by simp only [sp_factor, xvs, xvk, hldN]) (by simp only [sp_factor, xvs, xvk, hldN]; exact ⟨_, hM, rel_v hrel⟩)
      · skip
        have xvk := ix_in hkk (by omega)
        have hfq : rg (16 + kk) = (mfc ((4 * kk) + 0), mfc ((4 * kk) + 1), mfc ((4 * kk) + 2), mfc ((4 * kk) + 3)) := (hk6 kk hkk).symm
        refine h_callS (st1 := [.int 1]) [.long ((nI kk).toInt64), .long 0, .long ((mcn - 1).toInt64)] [] ⟨hx, hb, hml, hown, hts⟩ hE hw (HT.to (c_X6_in l G A (ML ma) F (nI kk).toInt64 0 ((mcn - 1).toInt64)) (V2 := some (.int 1)) (congrArg (fun y => some (Value.int y)) (bI_t (by rw [show mcn = nI cnt from hk5]; exact cnt_in hc12 hkk))) rfl) (va_cwS 3 hts gX6_factor_X6_in rfl rfl rfl (by decide +kernel) ⟨Nat.le_of_ble_eq_true rfl, Nat.le_of_ble_eq_true rfl⟩) rfl hl.1 rfl (Nat.le_of_ble_eq_true rfl) dX6_factor_19 ⟨Nat.le_of_ble_eq_true rfl, Nat.le_of_ble_eq_true rfl⟩ rfl (fun H locs hw => ?_)
        refine lv_if_ne (tgt := 28) hx hb dX6_factor_22 (by decide) (fun c_22 => ?_) (fun c_22 => ?_)
        · skip
          refine lv_iconst (v := 0) hx hb dX6_factor_28 (by decide) ?_
          refine lv_istore_n (lv' := [(3, .int 0), (0, .ref (ma 0)), (1, .int (nI kvs)), (2, .int (nI kk))]) hx hb dX6_factor_29 rfl hl (by decide) rfl (fun ls hl => ?_)
          refine lv_iload_n hx hb dX6_factor_30 rfl (lv_at hl 0 rfl) ?_
          refine lv_iconst (v := 4) hx hb dX6_factor_31 (by decide) ?_
          refine lv_icmp_ge (tgt := 57) hx hb dX6_factor_32 (by decide) (fun c_32 => ?_) (fun c_32 => ?_)
          · skip
            first | exact absurd c_32 (by decide) | exact absurd (by decide) c_32
          · skip
            refine lv_aload_n hx hb dX6_factor_35 rfl (lv_at hl 1 rfl) ?_
            refine h_get hx hb hE hw hts hinX6 hown (ci := 6) rfl 8 (by decide) lk_32 (fun _ h9 => h9) hM.ob rfl dX6_factor_36 ?_
            refine lv_iload_n hx hb dX6_factor_39 rfl (lv_at hl 0 rfl) ?_
            refine lv_aload_n hx hb dX6_factor_40 rfl (lv_at hl 1 rfl) ?_
            refine h_get hx hb hE hw hts hinX6 hown (ci := 6) rfl 6 (by decide) lk_26 (fun _ h9 => h9) hM.ob rfl dX6_factor_41 ?_
            refine lv_iconst (v := 4) hx hb dX6_factor_44 (by decide) ?_
            refine lv_iload_n hx hb dX6_factor_45 rfl (lv_at hl 3 rfl) ?_
            refine h_imulN hx hb 4 kk dX6_factor_46 ?_
            refine lv_iload_n hx hb dX6_factor_47 rfl (lv_at hl 0 rfl) ?_
            refine h_iaddN hx hb (4 * kk) 0 dX6_factor_48 ?_
            refine h_lald hx hb hE hw hM.fc (vp_in_nI (n := ((4 * kk) + 0)) (N := 48) (by omega) (by decide)) (v := mfc ((4 * kk) + 0)) (by rw [nI_clamp (by omega)]) dX6_factor_49 ?_
            refine h_last hx hb hE hw (hM.v (i := 8) (by decide) (by decide)) (n := 4) (vp_in_nI (n := 0) (N := 4) (by decide) (by decide)) (g := vp_updL (q4f (mv 8)) 0 (mfc ((4 * kk) + 0))) rfl dX6_factor_50 (fun H locs hw => ?_)
            have hw := wo_same hw (at_sameJ (G := G) (n := 4) (st4_0 (mv 8) (mfc ((4 * kk) + 0))))
            refine lv_iinc (v := 1) (lv' := [(3, .int 1), (0, .ref (ma 0)), (1, .int (nI kvs)), (2, .int (nI kk))]) hx hb dX6_factor_51 hl (k := 0) rfl (by decide) (by decide) rfl (fun ls hl => ?_)
            refine lv_goto (tgt := 30) hx hb dX6_factor_54 (by decide) ?_
            refine lv_iload_n hx hb dX6_factor_30 rfl (lv_at hl 0 rfl) ?_
            refine lv_iconst (v := 4) hx hb dX6_factor_31 (by decide) ?_
            refine lv_icmp_ge (tgt := 57) hx hb dX6_factor_32 (by decide) (fun c_32 => ?_) (fun c_32 => ?_)
            · skip
              first | exact absurd c_32 (by decide) | exact absurd (by decide) c_32
            · skip
              refine lv_aload_n hx hb dX6_factor_35 rfl (lv_at hl 1 rfl) ?_
              refine h_get hx hb hE hw hts hinX6 hown (ci := 6) rfl 8 (by decide) lk_32 (fun _ h9 => h9) (pt_ne hM.ob (hM.ne (i := 0) (j := 8) (by decide) (by decide) (by decide))) rfl dX6_factor_36 ?_
              refine lv_iload_n hx hb dX6_factor_39 rfl (lv_at hl 0 rfl) ?_
              refine lv_aload_n hx hb dX6_factor_40 rfl (lv_at hl 1 rfl) ?_
              refine h_get hx hb hE hw hts hinX6 hown (ci := 6) rfl 6 (by decide) lk_26 (fun _ h9 => h9) (pt_ne hM.ob (hM.ne (i := 0) (j := 8) (by decide) (by decide) (by decide))) rfl dX6_factor_41 ?_
              refine lv_iconst (v := 4) hx hb dX6_factor_44 (by decide) ?_
              refine lv_iload_n hx hb dX6_factor_45 rfl (lv_at hl 3 rfl) ?_
              refine h_imulN hx hb 4 kk dX6_factor_46 ?_
              refine lv_iload_n hx hb dX6_factor_47 rfl (lv_at hl 0 rfl) ?_
              refine h_iaddN hx hb (4 * kk) 1 dX6_factor_48 ?_
              refine h_lald hx hb hE hw (pt_ne hM.fc (hM.ne (i := 6) (j := 8) (by decide) (by decide) (by decide))) (vp_in_nI (n := ((4 * kk) + 1)) (N := 48) (by omega) (by decide)) (v := mfc ((4 * kk) + 1)) (by rw [nI_clamp (by omega)]) dX6_factor_49 ?_
              refine h_last hx hb hE hw (pt_up (hM.v (i := 8) (by decide) (by decide))) (n := 4) (vp_in_nI (n := 1) (N := 4) (by decide) (by decide)) (g := vp_updL (q4f (mfc ((4 * kk) + 0), (mv 8).2.1, (mv 8).2.2.1, (mv 8).2.2.2)) 1 (mfc ((4 * kk) + 1))) rfl dX6_factor_50 (fun H locs hw => ?_)
              have hw := wo_same hw (at_sameJ (G := G) (n := 4) (st4_1 (mfc ((4 * kk) + 0), (mv 8).2.1, (mv 8).2.2.1, (mv 8).2.2.2) (mfc ((4 * kk) + 1))))
              refine lv_iinc (v := 2) (lv' := [(3, .int 2), (0, .ref (ma 0)), (1, .int (nI kvs)), (2, .int (nI kk))]) hx hb dX6_factor_51 hl (k := 0) rfl (by decide) (by decide) rfl (fun ls hl => ?_)
              refine lv_goto (tgt := 30) hx hb dX6_factor_54 (by decide) ?_
              refine lv_iload_n hx hb dX6_factor_30 rfl (lv_at hl 0 rfl) ?_
              refine lv_iconst (v := 4) hx hb dX6_factor_31 (by decide) ?_
              refine lv_icmp_ge (tgt := 57) hx hb dX6_factor_32 (by decide) (fun c_32 => ?_) (fun c_32 => ?_)
              · skip
                first | exact absurd c_32 (by decide) | exact absurd (by decide) c_32
              · skip
                refine lv_aload_n hx hb dX6_factor_35 rfl (lv_at hl 1 rfl) ?_
                refine h_get hx hb hE hw hts hinX6 hown (ci := 6) rfl 8 (by decide) lk_32 (fun _ h9 => h9) (pt_ne (pt_ne hM.ob (hM.ne (i := 0) (j := 8) (by decide) (by decide) (by decide))) (hM.ne (i := 0) (j := 8) (by decide) (by decide) (by decide))) rfl dX6_factor_36 ?_
                refine lv_iload_n hx hb dX6_factor_39 rfl (lv_at hl 0 rfl) ?_
                refine lv_aload_n hx hb dX6_factor_40 rfl (lv_at hl 1 rfl) ?_
                refine h_get hx hb hE hw hts hinX6 hown (ci := 6) rfl 6 (by decide) lk_26 (fun _ h9 => h9) (pt_ne (pt_ne hM.ob (hM.ne (i := 0) (j := 8) (by decide) (by decide) (by decide))) (hM.ne (i := 0) (j := 8) (by decide) (by decide) (by decide))) rfl dX6_factor_41 ?_
                refine lv_iconst (v := 4) hx hb dX6_factor_44 (by decide) ?_
                refine lv_iload_n hx hb dX6_factor_45 rfl (lv_at hl 3 rfl) ?_
                refine h_imulN hx hb 4 kk dX6_factor_46 ?_
                refine lv_iload_n hx hb dX6_factor_47 rfl (lv_at hl 0 rfl) ?_
                refine h_iaddN hx hb (4 * kk) 2 dX6_factor_48 ?_
                refine h_lald hx hb hE hw (pt_ne (pt_ne hM.fc (hM.ne (i := 6) (j := 8) (by decide) (by decide) (by decide))) (hM.ne (i := 6) (j := 8) (by decide) (by decide) (by decide))) (vp_in_nI (n := ((4 * kk) + 2)) (N := 48) (by omega) (by decide)) (v := mfc ((4 * kk) + 2)) (by rw [nI_clamp (by omega)]) dX6_factor_49 ?_
                refine h_last hx hb hE hw (pt_up (pt_up (hM.v (i := 8) (by decide) (by decide)))) (n := 4) (vp_in_nI (n := 2) (N := 4) (by decide) (by decide)) (g := vp_updL (q4f (mfc ((4 * kk) + 0), mfc ((4 * kk) + 1), (mv 8).2.2.1, (mv 8).2.2.2)) 2 (mfc ((4 * kk) + 2))) rfl dX6_factor_50 (fun H locs hw => ?_)
                have hw := wo_same hw (at_sameJ (G := G) (n := 4) (st4_2 (mfc ((4 * kk) + 0), mfc ((4 * kk) + 1), (mv 8).2.2.1, (mv 8).2.2.2) (mfc ((4 * kk) + 2))))
                refine lv_iinc (v := 3) (lv' := [(3, .int 3), (0, .ref (ma 0)), (1, .int (nI kvs)), (2, .int (nI kk))]) hx hb dX6_factor_51 hl (k := 0) rfl (by decide) (by decide) rfl (fun ls hl => ?_)
                refine lv_goto (tgt := 30) hx hb dX6_factor_54 (by decide) ?_
                refine lv_iload_n hx hb dX6_factor_30 rfl (lv_at hl 0 rfl) ?_
                refine lv_iconst (v := 4) hx hb dX6_factor_31 (by decide) ?_
                refine lv_icmp_ge (tgt := 57) hx hb dX6_factor_32 (by decide) (fun c_32 => ?_) (fun c_32 => ?_)
                · skip
                  first | exact absurd c_32 (by decide) | exact absurd (by decide) c_32
                · skip
                  refine lv_aload_n hx hb dX6_factor_35 rfl (lv_at hl 1 rfl) ?_
                  refine h_get hx hb hE hw hts hinX6 hown (ci := 6) rfl 8 (by decide) lk_32 (fun _ h9 => h9) (pt_ne (pt_ne (pt_ne hM.ob (hM.ne (i := 0) (j := 8) (by decide) (by decide) (by decide))) (hM.ne (i := 0) (j := 8) (by decide) (by decide) (by decide))) (hM.ne (i := 0) (j := 8) (by decide) (by decide) (by decide))) rfl dX6_factor_36 ?_
                  refine lv_iload_n hx hb dX6_factor_39 rfl (lv_at hl 0 rfl) ?_
                  refine lv_aload_n hx hb dX6_factor_40 rfl (lv_at hl 1 rfl) ?_
                  refine h_get hx hb hE hw hts hinX6 hown (ci := 6) rfl 6 (by decide) lk_26 (fun _ h9 => h9) (pt_ne (pt_ne (pt_ne hM.ob (hM.ne (i := 0) (j := 8) (by decide) (by decide) (by decide))) (hM.ne (i := 0) (j := 8) (by decide) (by decide) (by decide))) (hM.ne (i := 0) (j := 8) (by decide) (by decide) (by decide))) rfl dX6_factor_41 ?_
                  refine lv_iconst (v := 4) hx hb dX6_factor_44 (by decide) ?_
                  refine lv_iload_n hx hb dX6_factor_45 rfl (lv_at hl 3 rfl) ?_
                  refine h_imulN hx hb 4 kk dX6_factor_46 ?_
                  refine lv_iload_n hx hb dX6_factor_47 rfl (lv_at hl 0 rfl) ?_
                  refine h_iaddN hx hb (4 * kk) 3 dX6_factor_48 ?_
                  refine h_lald hx hb hE hw (pt_ne (pt_ne (pt_ne hM.fc (hM.ne (i := 6) (j := 8) (by decide) (by decide) (by decide))) (hM.ne (i := 6) (j := 8) (by decide) (by decide) (by decide))) (hM.ne (i := 6) (j := 8) (by decide) (by decide) (by decide))) (vp_in_nI (n := ((4 * kk) + 3)) (N := 48) (by omega) (by decide)) (v := mfc ((4 * kk) + 3)) (by rw [nI_clamp (by omega)]) dX6_factor_49 ?_
                  refine h_last hx hb hE hw (pt_up (pt_up (pt_up (hM.v (i := 8) (by decide) (by decide))))) (n := 4) (vp_in_nI (n := 3) (N := 4) (by decide) (by decide)) (g := vp_updL (q4f (mfc ((4 * kk) + 0), mfc ((4 * kk) + 1), mfc ((4 * kk) + 2), (mv 8).2.2.2)) 3 (mfc ((4 * kk) + 3))) rfl dX6_factor_50 (fun H locs hw => ?_)
                  have hw := wo_same hw (at_sameJ (G := G) (n := 4) (st4_3 (mfc ((4 * kk) + 0), mfc ((4 * kk) + 1), mfc ((4 * kk) + 2), (mv 8).2.2.2) (mfc ((4 * kk) + 3))))
                  refine lv_iinc (v := 4) (lv' := [(3, .int 4), (0, .ref (ma 0)), (1, .int (nI kvs)), (2, .int (nI kk))]) hx hb dX6_factor_51 hl (k := 0) rfl (by decide) (by decide) rfl (fun ls hl => ?_)
                  refine lv_goto (tgt := 30) hx hb dX6_factor_54 (by decide) ?_
                  refine lv_iload_n hx hb dX6_factor_30 rfl (lv_at hl 0 rfl) ?_
                  refine lv_iconst (v := 4) hx hb dX6_factor_31 (by decide) ?_
                  refine lv_icmp_ge (tgt := 57) hx hb dX6_factor_32 (by decide) (fun c_32 => ?_) (fun c_32 => ?_)
                  · skip
                    refine lv_aload_n hx hb dX6_factor_57 rfl (lv_at hl 1 rfl) ?_
                    refine lv_iload_n hx hb dX6_factor_58 rfl (lv_at hl 2 rfl) ?_
                    refine lv_aload_n hx hb dX6_factor_59 rfl (lv_at hl 1 rfl) ?_
                    refine h_get hx hb hE hw hts hinX6 hown (ci := 6) rfl 8 (by decide) lk_32 (fun _ h9 => h9) (pt_ne (pt_ne (pt_ne (pt_ne hM.ob (hM.ne (i := 0) (j := 8) (by decide) (by decide) (by decide))) (hM.ne (i := 0) (j := 8) (by decide) (by decide) (by decide))) (hM.ne (i := 0) (j := 8) (by decide) (by decide) (by decide))) (hM.ne (i := 0) (j := 8) (by decide) (by decide) (by decide))) rfl dX6_factor_60 ?_
                    by_cases hh : qhigh (mfc ((4 * kk) + 0), mfc ((4 * kk) + 1), mfc ((4 * kk) + 2), mfc ((4 * kk) + 3))
                    · skip
                      refine h_callV (st1 := [.int (-3)]) [.int (nI kvs), .ref (ma 8)] [] ⟨hx, hb, hml, hown, hts⟩ hE hw (c_X6_holds_hi l G A ma (va_up (va_up (va_up (va_up F (ma 8) (eJ4 G (mfc ((4 * kk) + 0), (mv 8).2.1, (mv 8).2.2.1, (mv 8).2.2.2))) (ma 8) (eJ4 G (mfc ((4 * kk) + 0), mfc ((4 * kk) + 1), (mv 8).2.2.1, (mv 8).2.2.2))) (ma 8) (eJ4 G (mfc ((4 * kk) + 0), mfc ((4 * kk) + 1), mfc ((4 * kk) + 2), (mv 8).2.2.2))) (ma 8) (eJ4 G (mfc ((4 * kk) + 0), mfc ((4 * kk) + 1), mfc ((4 * kk) + 2), mfc ((4 * kk) + 3)))) _ _ _ _ _ _ _ _ (MW.setv (MW.setv (MW.setv (MW.setv hM (i := 8) (by decide) (by decide) (mfc ((4 * kk) + 0), (mv 8).2.1, (mv 8).2.2.1, (mv 8).2.2.2)) (i := 8) (by decide) (by decide) (mfc ((4 * kk) + 0), mfc ((4 * kk) + 1), (mv 8).2.2.1, (mv 8).2.2.2)) (i := 8) (by decide) (by decide) (mfc ((4 * kk) + 0), mfc ((4 * kk) + 1), mfc ((4 * kk) + 2), (mv 8).2.2.2)) (i := 8) (by decide) (by decide) (mfc ((4 * kk) + 0), mfc ((4 * kk) + 1), mfc ((4 * kk) + 2), mfc ((4 * kk) + 3))) 8 kvs (mfc ((4 * kk) + 0), mfc ((4 * kk) + 1), mfc ((4 * kk) + 2), mfc ((4 * kk) + 3)) (by decide) (by decide) (pt_up (pt_up (pt_up (pt_up (hM.v (i := 8) (by decide) (by decide)))))) hkvs hh) (cwV 2 hts gX6_factor_X6_holds rfl rfl rfl (by decide +kernel) ⟨Nat.le_of_ble_eq_true rfl, Nat.le_of_ble_eq_true rfl⟩) (pt_ne (pt_ne (pt_ne (pt_ne hM.ob (hM.ne (i := 0) (j := 8) (by decide) (by decide) (by decide))) (hM.ne (i := 0) (j := 8) (by decide) (by decide) (by decide))) (hM.ne (i := 0) (j := 8) (by decide) (by decide) (by decide))) (hM.ne (i := 0) (j := 8) (by decide) (by decide) (by decide))) rfl rfl rfl hl.1 rfl (Nat.le_of_ble_eq_true rfl) dX6_factor_63 ⟨Nat.le_of_ble_eq_true rfl, Nat.le_of_ble_eq_true rfl⟩ rfl (fun H locs hw => ?_)
                      refine lv_if_ne (tgt := 80) hx hb dX6_factor_66 (by decide) (fun c_66 => ?_) (fun c_66 => ?_)
                      · skip
                        refine lv_bipush (v := (-3)) hx hb dX6_factor_80 (by decide) ?_
                        exact h_iretP hx hb hlk hr hw dX6_factor_82 (by simp only [sp_factor, xvs, xvk, hfq, cif_t hh, hldN]) (by simp only [sp_factor, xvs, xvk, hfq, cif_t hh, hldN]; exact ⟨_, (MW.setv (MW.setv (MW.setv (MW.setv hM (i := 8) (by decide) (by decide) (mfc ((4 * kk) + 0), (mv 8).2.1, (mv 8).2.2.1, (mv 8).2.2.2)) (i := 8) (by decide) (by decide) (mfc ((4 * kk) + 0), mfc ((4 * kk) + 1), (mv 8).2.2.1, (mv 8).2.2.2)) (i := 8) (by decide) (by decide) (mfc ((4 * kk) + 0), mfc ((4 * kk) + 1), mfc ((4 * kk) + 2), (mv 8).2.2.2)) (i := 8) (by decide) (by decide) (mfc ((4 * kk) + 0), mfc ((4 * kk) + 1), mfc ((4 * kk) + 2), mfc ((4 * kk) + 3))), rel_v hrel⟩)
                      · skip
                        first | exact absurd c_66 (by decide) | exact absurd (by decide) c_66
                    · skip
                      refine h_callV (st1 := [.int 0]) [.int (nI kvs), .ref (ma 8)] [] ⟨hx, hb, hml, hown, hts⟩ hE hw (c_X6_holds_lo l G A ma (va_up (va_up (va_up (va_up F (ma 8) (eJ4 G (mfc ((4 * kk) + 0), (mv 8).2.1, (mv 8).2.2.1, (mv 8).2.2.2))) (ma 8) (eJ4 G (mfc ((4 * kk) + 0), mfc ((4 * kk) + 1), (mv 8).2.2.1, (mv 8).2.2.2))) (ma 8) (eJ4 G (mfc ((4 * kk) + 0), mfc ((4 * kk) + 1), mfc ((4 * kk) + 2), (mv 8).2.2.2))) (ma 8) (eJ4 G (mfc ((4 * kk) + 0), mfc ((4 * kk) + 1), mfc ((4 * kk) + 2), mfc ((4 * kk) + 3)))) _ _ _ _ _ _ _ _ (MW.setv (MW.setv (MW.setv (MW.setv hM (i := 8) (by decide) (by decide) (mfc ((4 * kk) + 0), (mv 8).2.1, (mv 8).2.2.1, (mv 8).2.2.2)) (i := 8) (by decide) (by decide) (mfc ((4 * kk) + 0), mfc ((4 * kk) + 1), (mv 8).2.2.1, (mv 8).2.2.2)) (i := 8) (by decide) (by decide) (mfc ((4 * kk) + 0), mfc ((4 * kk) + 1), mfc ((4 * kk) + 2), (mv 8).2.2.2)) (i := 8) (by decide) (by decide) (mfc ((4 * kk) + 0), mfc ((4 * kk) + 1), mfc ((4 * kk) + 2), mfc ((4 * kk) + 3))) 8 kvs (mfc ((4 * kk) + 0), mfc ((4 * kk) + 1), mfc ((4 * kk) + 2), mfc ((4 * kk) + 3)) (by decide) (by decide) (pt_up (pt_up (pt_up (pt_up (hM.v (i := 8) (by decide) (by decide)))))) hkvs hh) (cwV 2 hts gX6_factor_X6_holds rfl rfl rfl (by decide +kernel) ⟨Nat.le_of_ble_eq_true rfl, Nat.le_of_ble_eq_true rfl⟩) (pt_ne (pt_ne (pt_ne (pt_ne hM.ob (hM.ne (i := 0) (j := 8) (by decide) (by decide) (by decide))) (hM.ne (i := 0) (j := 8) (by decide) (by decide) (by decide))) (hM.ne (i := 0) (j := 8) (by decide) (by decide) (by decide))) (hM.ne (i := 0) (j := 8) (by decide) (by decide) (by decide))) rfl rfl rfl hl.1 rfl (Nat.le_of_ble_eq_true rfl) dX6_factor_63 ⟨Nat.le_of_ble_eq_true rfl, Nat.le_of_ble_eq_true rfl⟩ rfl (fun H locs hw => ?_)
                      refine lv_if_ne (tgt := 80) hx hb dX6_factor_66 (by decide) (fun c_66 => ?_) (fun c_66 => ?_)
                      · skip
                        first | exact absurd c_66 (by decide) | exact absurd (by decide) c_66
                      · skip
                        refine lv_aload_n hx hb dX6_factor_69 rfl (lv_at hl 1 rfl) ?_
                        refine h_get hx hb hE hw hts hinX6 hown (ci := 6) rfl 8 (by decide) lk_32 (fun _ h9 => h9) (pt_ne (pt_ne (pt_ne (pt_ne (pt_ne hM.ob (hM.ne (i := 0) (j := 8) (by decide) (by decide) (by decide))) (hM.ne (i := 0) (j := 8) (by decide) (by decide) (by decide))) (hM.ne (i := 0) (j := 8) (by decide) (by decide) (by decide))) (hM.ne (i := 0) (j := 8) (by decide) (by decide) (by decide))) (hM.ne (i := 0) (j := 4) (by decide) (by decide) (by decide))) rfl dX6_factor_70 ?_
                        refine h_callS (st1 := [.long (qnorm (mfc ((4 * kk) + 0), mfc ((4 * kk) + 1), mfc ((4 * kk) + 2), mfc ((4 * kk) + 3)))]) [.ref (ma 8)] [] ⟨hx, hb, hml, hown, hts⟩ hE hw (c_X6_norm l G A (ML ma) (va_up (va_up (va_up (va_up (va_up F (ma 8) (eJ4 G (mfc ((4 * kk) + 0), (mv 8).2.1, (mv 8).2.2.1, (mv 8).2.2.2))) (ma 8) (eJ4 G (mfc ((4 * kk) + 0), mfc ((4 * kk) + 1), (mv 8).2.2.1, (mv 8).2.2.2))) (ma 8) (eJ4 G (mfc ((4 * kk) + 0), mfc ((4 * kk) + 1), mfc ((4 * kk) + 2), (mv 8).2.2.2))) (ma 8) (eJ4 G (mfc ((4 * kk) + 0), mfc ((4 * kk) + 1), mfc ((4 * kk) + 2), mfc ((4 * kk) + 3)))) (ma 4) (eI G 64 (stq mrg kvs (mfc ((4 * kk) + 0), mfc ((4 * kk) + 1), mfc ((4 * kk) + 2), mfc ((4 * kk) + 3))))) (ma 8) (mfc ((4 * kk) + 0), mfc ((4 * kk) + 1), mfc ((4 * kk) + 2), mfc ((4 * kk) + 3)) (pt_ne (pt_up (pt_up (pt_up (pt_up (hM.v (i := 8) (by decide) (by decide)))))) (hM.ne (i := 8) (j := 4) (by decide) (by decide) (by decide)))) (va_cwS 1 hts gX6_factor_X6_norm rfl rfl rfl (by decide +kernel) ⟨Nat.le_of_ble_eq_true rfl, Nat.le_of_ble_eq_true rfl⟩) rfl hl.1 rfl (Nat.le_of_ble_eq_true rfl) dX6_factor_73 ⟨Nat.le_of_ble_eq_true rfl, Nat.le_of_ble_eq_true rfl⟩ rfl (fun H locs hw => ?_)
                        refine lv_l2i hx hb dX6_factor_76 rfl ?_
                        refine lv_goto (tgt := 82) hx hb dX6_factor_77 (by decide) ?_
                        exact h_iretP hx hb hlk hr hw dX6_factor_82 (by simp only [sp_factor, xvs, xvk, hfq, cif_f hh, hldN]) (by simp only [sp_factor, xvs, xvk, hfq, cif_f hh, hldN]; exact ⟨_, (MW.setr (MW.setv (MW.setv (MW.setv (MW.setv hM (i := 8) (by decide) (by decide) (mfc ((4 * kk) + 0), (mv 8).2.1, (mv 8).2.2.1, (mv 8).2.2.2)) (i := 8) (by decide) (by decide) (mfc ((4 * kk) + 0), mfc ((4 * kk) + 1), (mv 8).2.2.1, (mv 8).2.2.2)) (i := 8) (by decide) (by decide) (mfc ((4 * kk) + 0), mfc ((4 * kk) + 1), mfc ((4 * kk) + 2), (mv 8).2.2.2)) (i := 8) (by decide) (by decide) (mfc ((4 * kk) + 0), mfc ((4 * kk) + 1), mfc ((4 * kk) + 2), mfc ((4 * kk) + 3))) (stq mrg kvs (mfc ((4 * kk) + 0), mfc ((4 * kk) + 1), mfc ((4 * kk) + 2), mfc ((4 * kk) + 3)))), rel_rg hrel hkvs hh⟩)
                  · skip
                    first | exact absurd c_32 (by decide) | exact absurd (by decide) c_32
        · skip
          first | exact absurd c_22 (by decide) | exact absurd (by decide) c_22
    · skip
      first | exact absurd c_4 (by decide) | exact absurd (by decide) c_4

set_option maxHeartbeats 4000000 in
set_option maxRecDepth 100000 in
theorem c_X6_entry_00 (l : Launch) (G : GG) (A : Nat → Prop) (ma : Nat → Nat) (F : FM) (mk msz : Nat → Int32) (msh : Nat → Int64) (mrg : Nat → Int32) (mfc mmd : Nat → Int64) (mv : Nat → Q4) (mcn : Int32) (hM : MW G ma (mk, msz, msh, mrg, mfc, mmd, mv, mcn) F) (k : Nat) (hk : k < 16) : PT l yX6_entry wsX6_entry { frames := 1, cells := 0, slots := 0, locals := 23 } G A (ML ma) [.ref (ma 0), .int (nI k), .int 0, .int 0] F (some (.long (qtn (rgq mrg k) 0))) (fun F2 => ∃ mv2 : Nat → Q4, MW G ma (mk, msz, msh, mrg, mfc, mmd, mv2, mcn) F2) := by
  refine PT.ofW (cc := cX6_entry) (maxL := 14) (ret := (some .long)) (plainFor_of_name (by decide)) rfl (Nat.le_of_ble_eq_true rfl) ?_
  intro p e s m below meth c ls hx hb hr hml hown hts hlk hE hw hl
  have hl : lv_has ls 14 [(0, .ref (ma 0)), (1, .int (nI k)), (2, .int 0), (3, .int 0)] := hl
  have hown : s.vm.findClass RX6 = some m.cls := hown
  have lk_20 := hts (.fieldLink RX6 20 "FourPartsModel" "registers" "[I") (by decide +kernel)
  have hinX6 : ∀ w ∈ u_ws RX6 TX6 18, w ∈ wsX6_entry := by decide +kernel
  have lk_32 := hts (.fieldLink RX6 32 "FourPartsModel" "x" "[J") (by decide +kernel)
  have cl_77 := hts (.constantLong RX6 77 (2)) (by decide +kernel)
  have cl_106 := hts (.constantLong RX6 106 (4)) (by decide +kernel)
  refine lv_aload_n hx hb dX6_entry_0 rfl (lv_at hl 0 rfl) ?_
  refine h_get hx hb hE hw hts hinX6 hown (ci := 6) rfl 3 (by decide) lk_20 (fun _ h9 => h9) hM.ob rfl dX6_entry_1 ?_
  refine lv_iconst (v := 4) hx hb dX6_entry_4 (by decide) ?_
  refine lv_iload_n hx hb dX6_entry_5 rfl (lv_at hl 1 rfl) ?_
  refine h_imulN hx hb 4 k dX6_entry_6 ?_
  refine h_iald hx hb hE hw hM.rg (vp_in_nI (n := (4 * k)) (N := 64) (by omega) (by decide)) (v := mrg (4 * k)) (by rw [nI_clamp (by omega)]) dX6_entry_7 ?_
  refine lv_i2l hx hb dX6_entry_8 rfl ?_
  refine lv_lstore (lv' := [(4, .long ((mrg (4 * k)).toInt64)), (0, .ref (ma 0)), (1, .int (nI k)), (2, .int 0), (3, .int 0)]) hx hb dX6_entry_9 hl (by decide) rfl (fun ls hl => ?_)
  refine lv_aload_n hx hb dX6_entry_11 rfl (lv_at hl 1 rfl) ?_
  refine h_get hx hb hE hw hts hinX6 hown (ci := 6) rfl 3 (by decide) lk_20 (fun _ h9 => h9) hM.ob rfl dX6_entry_12 ?_
  refine lv_iconst (v := 4) hx hb dX6_entry_15 (by decide) ?_
  refine lv_iload_n hx hb dX6_entry_16 rfl (lv_at hl 2 rfl) ?_
  refine h_imulN hx hb 4 k dX6_entry_17 ?_
  refine lv_iconst (v := 1) hx hb dX6_entry_18 (by decide) ?_
  refine h_iaddN hx hb (4 * k) 1 dX6_entry_19 ?_
  refine lv_iload_n hx hb dX6_entry_20 rfl (lv_at hl 3 rfl) ?_
  refine h_iaddN hx hb ((4 * k) + 1) 0 dX6_entry_21 ?_
  refine h_iald hx hb hE hw hM.rg (vp_in_nI (n := (((4 * k) + 1) + 0)) (N := 64) (by omega) (by decide)) (v := mrg (((4 * k) + 1) + 0)) (by rw [nI_clamp (by omega)]) dX6_entry_22 ?_
  refine lv_i2l hx hb dX6_entry_23 rfl ?_
  refine lv_lstore (lv' := [(6, .long ((mrg (((4 * k) + 1) + 0)).toInt64)), (4, .long ((mrg (4 * k)).toInt64)), (0, .ref (ma 0)), (1, .int (nI k)), (2, .int 0), (3, .int 0)]) hx hb dX6_entry_24 hl (by decide) rfl (fun ls hl => ?_)
  refine lv_aload_n hx hb dX6_entry_26 rfl (lv_at hl 2 rfl) ?_
  refine h_get hx hb hE hw hts hinX6 hown (ci := 6) rfl 3 (by decide) lk_20 (fun _ h9 => h9) hM.ob rfl dX6_entry_27 ?_
  refine lv_iconst (v := 4) hx hb dX6_entry_30 (by decide) ?_
  refine lv_iload_n hx hb dX6_entry_31 rfl (lv_at hl 3 rfl) ?_
  refine h_imulN hx hb 4 k dX6_entry_32 ?_
  refine lv_iconst (v := 1) hx hb dX6_entry_33 (by decide) ?_
  refine h_iaddN hx hb (4 * k) 1 dX6_entry_34 ?_
  refine lv_iload_n hx hb dX6_entry_35 rfl (lv_at hl 5 rfl) ?_
  refine h_iaddN hx hb ((4 * k) + 1) 0 dX6_entry_36 ?_
  refine h_iald hx hb hE hw hM.rg (vp_in_nI (n := (((4 * k) + 1) + 0)) (N := 64) (by omega) (by decide)) (v := mrg (((4 * k) + 1) + 0)) (by rw [nI_clamp (by omega)]) dX6_entry_37 ?_
  refine lv_i2l hx hb dX6_entry_38 rfl ?_
  refine lv_lstore (lv' := [(8, .long ((mrg (((4 * k) + 1) + 0)).toInt64)), (6, .long ((mrg (((4 * k) + 1) + 0)).toInt64)), (4, .long ((mrg (4 * k)).toInt64)), (0, .ref (ma 0)), (1, .int (nI k)), (2, .int 0), (3, .int 0)]) hx hb dX6_entry_39 hl (by decide) rfl (fun ls hl => ?_)
  refine lv_iload_n hx hb dX6_entry_41 rfl (lv_at hl 5 rfl) ?_
  refine lv_iload_n hx hb dX6_entry_42 rfl (lv_at hl 6 rfl) ?_
  refine lv_icmp_ne (tgt := 125) hx hb dX6_entry_43 (by decide) (fun c_43 => ?_) (fun c_43 => ?_)
  · skip
    first | exact absurd c_43 (by decide) | exact absurd (by decide) c_43
  · skip
    refine lv_aload_n hx hb dX6_entry_46 rfl (lv_at hl 3 rfl) ?_
    refine lv_aload_n hx hb dX6_entry_47 rfl (lv_at hl 3 rfl) ?_
    refine h_get hx hb hE hw hts hinX6 hown (ci := 6) rfl 8 (by decide) lk_32 (fun _ h9 => h9) hM.ob rfl dX6_entry_48 ?_
    refine lv_iload_n hx hb dX6_entry_51 rfl (lv_at hl 4 rfl) ?_
    refine h_callV (st1 := []) [.ref (ma 8), .int (nI k)] [] ⟨hx, hb, hml, hown, hts⟩ hE hw (c_X6_load l G A ma F _ _ _ _ _ _ _ _ hM 8 k (by decide) (by decide) hk) (cwV 2 hts gX6_entry_X6_load rfl rfl rfl (by decide +kernel) ⟨Nat.le_of_ble_eq_true rfl, Nat.le_of_ble_eq_true rfl⟩) hM.ob rfl rfl rfl hl.1 rfl (Nat.le_of_ble_eq_true rfl) dX6_entry_52 ⟨Nat.le_of_ble_eq_true rfl, Nat.le_of_ble_eq_true rfl⟩ rfl (fun H locs hw => ?_)
    refine lv_aload_n hx hb dX6_entry_55 rfl (lv_at hl 3 rfl) ?_
    refine h_get hx hb hE hw hts hinX6 hown (ci := 6) rfl 8 (by decide) lk_32 (fun _ h9 => h9) (pt_ne hM.ob (hM.ne (i := 0) (j := 8) (by decide) (by decide) (by decide))) rfl dX6_entry_56 ?_
    refine lv_iconst (v := 0) hx hb dX6_entry_59 (by decide) ?_
    refine h_lald hx hb hE hw (pt_up (hM.v (i := 8) (by decide) (by decide))) (n := 4) (vp_in_nI (n := 0) (N := 4) (by decide) (by decide)) (v := (rgq mrg k).1) rfl dX6_entry_60 ?_
    refine lv_aload_n hx hb dX6_entry_61 rfl (lv_at hl 3 rfl) ?_
    refine h_get hx hb hE hw hts hinX6 hown (ci := 6) rfl 8 (by decide) lk_32 (fun _ h9 => h9) (pt_ne hM.ob (hM.ne (i := 0) (j := 8) (by decide) (by decide) (by decide))) rfl dX6_entry_62 ?_
    refine lv_iconst (v := 0) hx hb dX6_entry_65 (by decide) ?_
    refine h_lald hx hb hE hw (pt_up (hM.v (i := 8) (by decide) (by decide))) (n := 4) (vp_in_nI (n := 0) (N := 4) (by decide) (by decide)) (v := (rgq mrg k).1) rfl dX6_entry_66 ?_
    refine lv_lmul hx hb dX6_entry_67 ?_
    refine lv_aload_n hx hb dX6_entry_68 rfl (lv_at hl 3 rfl) ?_
    refine h_get hx hb hE hw hts hinX6 hown (ci := 6) rfl 8 (by decide) lk_32 (fun _ h9 => h9) (pt_ne hM.ob (hM.ne (i := 0) (j := 8) (by decide) (by decide) (by decide))) rfl dX6_entry_69 ?_
    refine lv_iconst (v := 1) hx hb dX6_entry_72 (by decide) ?_
    refine h_lald hx hb hE hw (pt_up (hM.v (i := 8) (by decide) (by decide))) (n := 4) (vp_in_nI (n := 1) (N := 4) (by decide) (by decide)) (v := (rgq mrg k).2.1) rfl dX6_entry_73 ?_
    refine lv_aload_n hx hb dX6_entry_74 rfl (lv_at hl 3 rfl) ?_
    refine h_get hx hb hE hw hts hinX6 hown (ci := 6) rfl 8 (by decide) lk_32 (fun _ h9 => h9) (pt_ne hM.ob (hM.ne (i := 0) (j := 8) (by decide) (by decide) (by decide))) rfl dX6_entry_75 ?_
    refine lv_iconst (v := 1) hx hb dX6_entry_78 (by decide) ?_
    refine h_lald hx hb hE hw (pt_up (hM.v (i := 8) (by decide) (by decide))) (n := 4) (vp_in_nI (n := 1) (N := 4) (by decide) (by decide)) (v := (rgq mrg k).2.1) rfl dX6_entry_79 ?_
    refine lv_lmul hx hb dX6_entry_80 ?_
    refine lv_lsub hx hb dX6_entry_81 ?_
    refine lv_aload_n hx hb dX6_entry_82 rfl (lv_at hl 3 rfl) ?_
    refine h_get hx hb hE hw hts hinX6 hown (ci := 6) rfl 8 (by decide) lk_32 (fun _ h9 => h9) (pt_ne hM.ob (hM.ne (i := 0) (j := 8) (by decide) (by decide) (by decide))) rfl dX6_entry_83 ?_
    refine lv_iconst (v := 2) hx hb dX6_entry_86 (by decide) ?_
    refine h_lald hx hb hE hw (pt_up (hM.v (i := 8) (by decide) (by decide))) (n := 4) (vp_in_nI (n := 2) (N := 4) (by decide) (by decide)) (v := (rgq mrg k).2.2.1) rfl dX6_entry_87 ?_
    refine lv_aload_n hx hb dX6_entry_88 rfl (lv_at hl 3 rfl) ?_
    refine h_get hx hb hE hw hts hinX6 hown (ci := 6) rfl 8 (by decide) lk_32 (fun _ h9 => h9) (pt_ne hM.ob (hM.ne (i := 0) (j := 8) (by decide) (by decide) (by decide))) rfl dX6_entry_89 ?_
    refine lv_iconst (v := 2) hx hb dX6_entry_92 (by decide) ?_
    refine h_lald hx hb hE hw (pt_up (hM.v (i := 8) (by decide) (by decide))) (n := 4) (vp_in_nI (n := 2) (N := 4) (by decide) (by decide)) (v := (rgq mrg k).2.2.1) rfl dX6_entry_93 ?_
    refine lv_lmul hx hb dX6_entry_94 ?_
    refine lv_lsub hx hb dX6_entry_95 ?_
    refine lv_aload_n hx hb dX6_entry_96 rfl (lv_at hl 3 rfl) ?_
    refine h_get hx hb hE hw hts hinX6 hown (ci := 6) rfl 8 (by decide) lk_32 (fun _ h9 => h9) (pt_ne hM.ob (hM.ne (i := 0) (j := 8) (by decide) (by decide) (by decide))) rfl dX6_entry_97 ?_
    refine lv_iconst (v := 3) hx hb dX6_entry_100 (by decide) ?_
    refine h_lald hx hb hE hw (pt_up (hM.v (i := 8) (by decide) (by decide))) (n := 4) (vp_in_nI (n := 3) (N := 4) (by decide) (by decide)) (v := (rgq mrg k).2.2.2) rfl dX6_entry_101 ?_
    refine lv_aload_n hx hb dX6_entry_102 rfl (lv_at hl 3 rfl) ?_
    refine h_get hx hb hE hw hts hinX6 hown (ci := 6) rfl 8 (by decide) lk_32 (fun _ h9 => h9) (pt_ne hM.ob (hM.ne (i := 0) (j := 8) (by decide) (by decide) (by decide))) rfl dX6_entry_103 ?_
    refine lv_iconst (v := 3) hx hb dX6_entry_106 (by decide) ?_
    refine h_lald hx hb hE hw (pt_up (hM.v (i := 8) (by decide) (by decide))) (n := 4) (vp_in_nI (n := 3) (N := 4) (by decide) (by decide)) (v := (rgq mrg k).2.2.2) rfl dX6_entry_107 ?_
    refine lv_lmul hx hb dX6_entry_108 ?_
    refine lv_lsub hx hb dX6_entry_109 ?_
    refine lv_ldc2 hx hb (v := (2)) hown cl_77 dX6_entry_110 ?_
    refine lv_lload hx hb dX6_entry_113 (lv_at hl 1 rfl) ?_
    refine lv_lmul hx hb dX6_entry_115 ?_
    refine lv_lload hx hb dX6_entry_116 (lv_at hl 1 rfl) ?_
    refine lv_lmul hx hb dX6_entry_118 ?_
    refine lv_ladd hx hb dX6_entry_119 ?_
    refine lv_ldc2 hx hb (v := (4)) hown cl_106 dX6_entry_120 ?_
    refine lv_ldiv hx hb dX6_entry_123 (by decide) ?_
    exact h_lretP hx hb hlk hr hw dX6_entry_124 (congrArg (fun y => some (Value.long y)) (en_0 (mrg (4 * k)).toInt64 (mrg (4 * k + 1)).toInt64 (mrg (4 * k + 2)).toInt64 (mrg (4 * k + 3)).toInt64)) ⟨_, (MW.setv hM (i := 8) (by decide) (by decide) (rgq mrg k))⟩

set_option maxHeartbeats 4000000 in
set_option maxRecDepth 100000 in
theorem c_X6_entry_01 (l : Launch) (G : GG) (A : Nat → Prop) (ma : Nat → Nat) (F : FM) (mk msz : Nat → Int32) (msh : Nat → Int64) (mrg : Nat → Int32) (mfc mmd : Nat → Int64) (mv : Nat → Q4) (mcn : Int32) (hM : MW G ma (mk, msz, msh, mrg, mfc, mmd, mv, mcn) F) (k : Nat) (hk : k < 16) : PT l yX6_entry wsX6_entry { frames := 1, cells := 0, slots := 0, locals := 23 } G A (ML ma) [.ref (ma 0), .int (nI k), .int 0, .int 1] F (some (.long (qtn (rgq mrg k) 1))) (fun F2 => ∃ mv2 : Nat → Q4, MW G ma (mk, msz, msh, mrg, mfc, mmd, mv2, mcn) F2) := by
  refine PT.ofW (cc := cX6_entry) (maxL := 14) (ret := (some .long)) (plainFor_of_name (by decide)) rfl (Nat.le_of_ble_eq_true rfl) ?_
  intro p e s m below meth c ls hx hb hr hml hown hts hlk hE hw hl
  have hl : lv_has ls 14 [(0, .ref (ma 0)), (1, .int (nI k)), (2, .int 0), (3, .int 1)] := hl
  have hown : s.vm.findClass RX6 = some m.cls := hown
  have lk_20 := hts (.fieldLink RX6 20 "FourPartsModel" "registers" "[I") (by decide +kernel)
  have hinX6 : ∀ w ∈ u_ws RX6 TX6 18, w ∈ wsX6_entry := by decide +kernel
  have cl_77 := hts (.constantLong RX6 77 (2)) (by decide +kernel)
  refine lv_aload_n hx hb dX6_entry_0 rfl (lv_at hl 0 rfl) ?_
  refine h_get hx hb hE hw hts hinX6 hown (ci := 6) rfl 3 (by decide) lk_20 (fun _ h9 => h9) hM.ob rfl dX6_entry_1 ?_
  refine lv_iconst (v := 4) hx hb dX6_entry_4 (by decide) ?_
  refine lv_iload_n hx hb dX6_entry_5 rfl (lv_at hl 1 rfl) ?_
  refine h_imulN hx hb 4 k dX6_entry_6 ?_
  refine h_iald hx hb hE hw hM.rg (vp_in_nI (n := (4 * k)) (N := 64) (by omega) (by decide)) (v := mrg (4 * k)) (by rw [nI_clamp (by omega)]) dX6_entry_7 ?_
  refine lv_i2l hx hb dX6_entry_8 rfl ?_
  refine lv_lstore (lv' := [(4, .long ((mrg (4 * k)).toInt64)), (0, .ref (ma 0)), (1, .int (nI k)), (2, .int 0), (3, .int 1)]) hx hb dX6_entry_9 hl (by decide) rfl (fun ls hl => ?_)
  refine lv_aload_n hx hb dX6_entry_11 rfl (lv_at hl 1 rfl) ?_
  refine h_get hx hb hE hw hts hinX6 hown (ci := 6) rfl 3 (by decide) lk_20 (fun _ h9 => h9) hM.ob rfl dX6_entry_12 ?_
  refine lv_iconst (v := 4) hx hb dX6_entry_15 (by decide) ?_
  refine lv_iload_n hx hb dX6_entry_16 rfl (lv_at hl 2 rfl) ?_
  refine h_imulN hx hb 4 k dX6_entry_17 ?_
  refine lv_iconst (v := 1) hx hb dX6_entry_18 (by decide) ?_
  refine h_iaddN hx hb (4 * k) 1 dX6_entry_19 ?_
  refine lv_iload_n hx hb dX6_entry_20 rfl (lv_at hl 3 rfl) ?_
  refine h_iaddN hx hb ((4 * k) + 1) 0 dX6_entry_21 ?_
  refine h_iald hx hb hE hw hM.rg (vp_in_nI (n := (((4 * k) + 1) + 0)) (N := 64) (by omega) (by decide)) (v := mrg (((4 * k) + 1) + 0)) (by rw [nI_clamp (by omega)]) dX6_entry_22 ?_
  refine lv_i2l hx hb dX6_entry_23 rfl ?_
  refine lv_lstore (lv' := [(6, .long ((mrg (((4 * k) + 1) + 0)).toInt64)), (4, .long ((mrg (4 * k)).toInt64)), (0, .ref (ma 0)), (1, .int (nI k)), (2, .int 0), (3, .int 1)]) hx hb dX6_entry_24 hl (by decide) rfl (fun ls hl => ?_)
  refine lv_aload_n hx hb dX6_entry_26 rfl (lv_at hl 2 rfl) ?_
  refine h_get hx hb hE hw hts hinX6 hown (ci := 6) rfl 3 (by decide) lk_20 (fun _ h9 => h9) hM.ob rfl dX6_entry_27 ?_
  refine lv_iconst (v := 4) hx hb dX6_entry_30 (by decide) ?_
  refine lv_iload_n hx hb dX6_entry_31 rfl (lv_at hl 3 rfl) ?_
  refine h_imulN hx hb 4 k dX6_entry_32 ?_
  refine lv_iconst (v := 1) hx hb dX6_entry_33 (by decide) ?_
  refine h_iaddN hx hb (4 * k) 1 dX6_entry_34 ?_
  refine lv_iload_n hx hb dX6_entry_35 rfl (lv_at hl 5 rfl) ?_
  refine h_iaddN hx hb ((4 * k) + 1) 1 dX6_entry_36 ?_
  refine h_iald hx hb hE hw hM.rg (vp_in_nI (n := (((4 * k) + 1) + 1)) (N := 64) (by omega) (by decide)) (v := mrg (((4 * k) + 1) + 1)) (by rw [nI_clamp (by omega)]) dX6_entry_37 ?_
  refine lv_i2l hx hb dX6_entry_38 rfl ?_
  refine lv_lstore (lv' := [(8, .long ((mrg (((4 * k) + 1) + 1)).toInt64)), (6, .long ((mrg (((4 * k) + 1) + 0)).toInt64)), (4, .long ((mrg (4 * k)).toInt64)), (0, .ref (ma 0)), (1, .int (nI k)), (2, .int 0), (3, .int 1)]) hx hb dX6_entry_39 hl (by decide) rfl (fun ls hl => ?_)
  refine lv_iload_n hx hb dX6_entry_41 rfl (lv_at hl 5 rfl) ?_
  refine lv_iload_n hx hb dX6_entry_42 rfl (lv_at hl 6 rfl) ?_
  refine lv_icmp_ne (tgt := 125) hx hb dX6_entry_43 (by decide) (fun c_43 => ?_) (fun c_43 => ?_)
  · skip
    refine lv_iconst (v := 3) hx hb dX6_entry_125 (by decide) ?_
    refine lv_iload_n hx hb dX6_entry_126 rfl (lv_at hl 5 rfl) ?_
    refine lv_isub hx hb dX6_entry_127 ?_
    refine W.eq (g2 := F0 m 128 ls [.int 3]) rfl ?_
    refine lv_iload_n hx hb dX6_entry_128 rfl (lv_at hl 6 rfl) ?_
    refine lv_isub hx hb dX6_entry_129 ?_
    refine W.eq (g2 := F0 m 130 ls [.int 2]) rfl ?_
    refine lv_istore (lv' := [(10, .int 2), (8, .long ((mrg (((4 * k) + 1) + 1)).toInt64)), (6, .long ((mrg (((4 * k) + 1) + 0)).toInt64)), (4, .long ((mrg (4 * k)).toInt64)), (0, .ref (ma 0)), (1, .int (nI k)), (2, .int 0), (3, .int 1)]) hx hb dX6_entry_130 hl (by decide) rfl (fun ls hl => ?_)
    refine lv_aload_n hx hb dX6_entry_132 rfl (lv_at hl 4 rfl) ?_
    refine h_get hx hb hE hw hts hinX6 hown (ci := 6) rfl 3 (by decide) lk_20 (fun _ h9 => h9) hM.ob rfl dX6_entry_133 ?_
    refine lv_iconst (v := 4) hx hb dX6_entry_136 (by decide) ?_
    refine lv_iload_n hx hb dX6_entry_137 rfl (lv_at hl 5 rfl) ?_
    refine h_imulN hx hb 4 k dX6_entry_138 ?_
    refine lv_iconst (v := 1) hx hb dX6_entry_139 (by decide) ?_
    refine h_iaddN hx hb (4 * k) 1 dX6_entry_140 ?_
    refine lv_iload hx hb dX6_entry_141 (lv_at hl 0 rfl) ?_
    refine h_iaddN hx hb ((4 * k) + 1) 2 dX6_entry_143 ?_
    refine h_iald hx hb hE hw hM.rg (vp_in_nI (n := (((4 * k) + 1) + 2)) (N := 64) (by omega) (by decide)) (v := mrg (((4 * k) + 1) + 2)) (by rw [nI_clamp (by omega)]) dX6_entry_144 ?_
    refine lv_i2l hx hb dX6_entry_145 rfl ?_
    refine lv_lstore (lv' := [(11, .long ((mrg (((4 * k) + 1) + 2)).toInt64)), (10, .int 2), (8, .long ((mrg (((4 * k) + 1) + 1)).toInt64)), (6, .long ((mrg (((4 * k) + 1) + 0)).toInt64)), (4, .long ((mrg (4 * k)).toInt64)), (0, .ref (ma 0)), (1, .int (nI k)), (2, .int 0), (3, .int 1)]) hx hb dX6_entry_146 hl (by decide) rfl (fun ls hl => ?_)
    refine lv_iload_n hx hb dX6_entry_148 rfl (lv_at hl 8 rfl) ?_
    refine lv_iload_n hx hb dX6_entry_149 rfl (lv_at hl 7 rfl) ?_
    refine lv_iconst (v := 1) hx hb dX6_entry_150 (by decide) ?_
    refine lv_iadd hx hb dX6_entry_151 ?_
    refine W.eq (g2 := F0 m 152 ls [.int 1, .int 1]) rfl ?_
    refine lv_iconst (v := 3) hx hb dX6_entry_152 (by decide) ?_
    refine lv_irem hx hb dX6_entry_153 (by decide) ?_
    refine W.eq (g2 := F0 m 154 ls [.int 1, .int 1]) rfl ?_
    refine lv_icmp_ne (tgt := 161) hx hb dX6_entry_154 (by decide) (fun c_154 => ?_) (fun c_154 => ?_)
    · skip
      first | exact absurd c_154 (by decide) | exact absurd (by decide) c_154
    · skip
      refine lv_iconst (v := 1) hx hb dX6_entry_157 (by decide) ?_
      refine lv_goto (tgt := 162) hx hb dX6_entry_158 (by decide) ?_
      refine lv_istore (lv' := [(13, .int 1), (11, .long ((mrg (((4 * k) + 1) + 2)).toInt64)), (10, .int 2), (8, .long ((mrg (((4 * k) + 1) + 1)).toInt64)), (6, .long ((mrg (((4 * k) + 1) + 0)).toInt64)), (4, .long ((mrg (4 * k)).toInt64)), (0, .ref (ma 0)), (1, .int (nI k)), (2, .int 0), (3, .int 1)]) hx hb dX6_entry_162 hl (by decide) rfl (fun ls hl => ?_)
      refine lv_lload hx hb dX6_entry_164 (lv_at hl 4 rfl) ?_
      refine lv_lload hx hb dX6_entry_166 (lv_at hl 3 rfl) ?_
      refine lv_lmul hx hb dX6_entry_168 ?_
      refine lv_iload hx hb dX6_entry_169 (lv_at hl 0 rfl) ?_
      refine lv_if_eq (tgt := 183) hx hb dX6_entry_171 (by decide) (fun c_171 => ?_) (fun c_171 => ?_)
      · skip
        first | exact absurd c_171 (by decide) | exact absurd (by decide) c_171
      · skip
        refine lv_lload hx hb dX6_entry_174 (lv_at hl 5 rfl) ?_
        refine lv_lneg hx hb dX6_entry_176 ?_
        refine lv_lload hx hb dX6_entry_177 (lv_at hl 1 rfl) ?_
        refine lv_lmul hx hb dX6_entry_179 ?_
        refine lv_goto (tgt := 188) hx hb dX6_entry_180 (by decide) ?_
        refine lv_ladd hx hb dX6_entry_188 ?_
        refine lv_ldc2 hx hb (v := (2)) hown cl_77 dX6_entry_189 ?_
        refine lv_ldiv hx hb dX6_entry_192 (by decide) ?_
        exact h_lretP hx hb hlk hr hw dX6_entry_193 (congrArg (fun y => some (Value.long y)) (en_1 (mrg (4 * k)).toInt64 (mrg (4 * k + 1)).toInt64 (mrg (4 * k + 2)).toInt64 (mrg (4 * k + 3)).toInt64)) ⟨_, hM⟩
  · skip
    first | exact absurd c_43 (by decide) | exact absurd (by decide) c_43

set_option maxHeartbeats 4000000 in
set_option maxRecDepth 100000 in
theorem c_X6_entry_02 (l : Launch) (G : GG) (A : Nat → Prop) (ma : Nat → Nat) (F : FM) (mk msz : Nat → Int32) (msh : Nat → Int64) (mrg : Nat → Int32) (mfc mmd : Nat → Int64) (mv : Nat → Q4) (mcn : Int32) (hM : MW G ma (mk, msz, msh, mrg, mfc, mmd, mv, mcn) F) (k : Nat) (hk : k < 16) : PT l yX6_entry wsX6_entry { frames := 1, cells := 0, slots := 0, locals := 23 } G A (ML ma) [.ref (ma 0), .int (nI k), .int 0, .int 2] F (some (.long (qtn (rgq mrg k) 2))) (fun F2 => ∃ mv2 : Nat → Q4, MW G ma (mk, msz, msh, mrg, mfc, mmd, mv2, mcn) F2) := by
  refine PT.ofW (cc := cX6_entry) (maxL := 14) (ret := (some .long)) (plainFor_of_name (by decide)) rfl (Nat.le_of_ble_eq_true rfl) ?_
  intro p e s m below meth c ls hx hb hr hml hown hts hlk hE hw hl
  have hl : lv_has ls 14 [(0, .ref (ma 0)), (1, .int (nI k)), (2, .int 0), (3, .int 2)] := hl
  have hown : s.vm.findClass RX6 = some m.cls := hown
  have lk_20 := hts (.fieldLink RX6 20 "FourPartsModel" "registers" "[I") (by decide +kernel)
  have hinX6 : ∀ w ∈ u_ws RX6 TX6 18, w ∈ wsX6_entry := by decide +kernel
  have cl_77 := hts (.constantLong RX6 77 (2)) (by decide +kernel)
  refine lv_aload_n hx hb dX6_entry_0 rfl (lv_at hl 0 rfl) ?_
  refine h_get hx hb hE hw hts hinX6 hown (ci := 6) rfl 3 (by decide) lk_20 (fun _ h9 => h9) hM.ob rfl dX6_entry_1 ?_
  refine lv_iconst (v := 4) hx hb dX6_entry_4 (by decide) ?_
  refine lv_iload_n hx hb dX6_entry_5 rfl (lv_at hl 1 rfl) ?_
  refine h_imulN hx hb 4 k dX6_entry_6 ?_
  refine h_iald hx hb hE hw hM.rg (vp_in_nI (n := (4 * k)) (N := 64) (by omega) (by decide)) (v := mrg (4 * k)) (by rw [nI_clamp (by omega)]) dX6_entry_7 ?_
  refine lv_i2l hx hb dX6_entry_8 rfl ?_
  refine lv_lstore (lv' := [(4, .long ((mrg (4 * k)).toInt64)), (0, .ref (ma 0)), (1, .int (nI k)), (2, .int 0), (3, .int 2)]) hx hb dX6_entry_9 hl (by decide) rfl (fun ls hl => ?_)
  refine lv_aload_n hx hb dX6_entry_11 rfl (lv_at hl 1 rfl) ?_
  refine h_get hx hb hE hw hts hinX6 hown (ci := 6) rfl 3 (by decide) lk_20 (fun _ h9 => h9) hM.ob rfl dX6_entry_12 ?_
  refine lv_iconst (v := 4) hx hb dX6_entry_15 (by decide) ?_
  refine lv_iload_n hx hb dX6_entry_16 rfl (lv_at hl 2 rfl) ?_
  refine h_imulN hx hb 4 k dX6_entry_17 ?_
  refine lv_iconst (v := 1) hx hb dX6_entry_18 (by decide) ?_
  refine h_iaddN hx hb (4 * k) 1 dX6_entry_19 ?_
  refine lv_iload_n hx hb dX6_entry_20 rfl (lv_at hl 3 rfl) ?_
  refine h_iaddN hx hb ((4 * k) + 1) 0 dX6_entry_21 ?_
  refine h_iald hx hb hE hw hM.rg (vp_in_nI (n := (((4 * k) + 1) + 0)) (N := 64) (by omega) (by decide)) (v := mrg (((4 * k) + 1) + 0)) (by rw [nI_clamp (by omega)]) dX6_entry_22 ?_
  refine lv_i2l hx hb dX6_entry_23 rfl ?_
  refine lv_lstore (lv' := [(6, .long ((mrg (((4 * k) + 1) + 0)).toInt64)), (4, .long ((mrg (4 * k)).toInt64)), (0, .ref (ma 0)), (1, .int (nI k)), (2, .int 0), (3, .int 2)]) hx hb dX6_entry_24 hl (by decide) rfl (fun ls hl => ?_)
  refine lv_aload_n hx hb dX6_entry_26 rfl (lv_at hl 2 rfl) ?_
  refine h_get hx hb hE hw hts hinX6 hown (ci := 6) rfl 3 (by decide) lk_20 (fun _ h9 => h9) hM.ob rfl dX6_entry_27 ?_
  refine lv_iconst (v := 4) hx hb dX6_entry_30 (by decide) ?_
  refine lv_iload_n hx hb dX6_entry_31 rfl (lv_at hl 3 rfl) ?_
  refine h_imulN hx hb 4 k dX6_entry_32 ?_
  refine lv_iconst (v := 1) hx hb dX6_entry_33 (by decide) ?_
  refine h_iaddN hx hb (4 * k) 1 dX6_entry_34 ?_
  refine lv_iload_n hx hb dX6_entry_35 rfl (lv_at hl 5 rfl) ?_
  refine h_iaddN hx hb ((4 * k) + 1) 2 dX6_entry_36 ?_
  refine h_iald hx hb hE hw hM.rg (vp_in_nI (n := (((4 * k) + 1) + 2)) (N := 64) (by omega) (by decide)) (v := mrg (((4 * k) + 1) + 2)) (by rw [nI_clamp (by omega)]) dX6_entry_37 ?_
  refine lv_i2l hx hb dX6_entry_38 rfl ?_
  refine lv_lstore (lv' := [(8, .long ((mrg (((4 * k) + 1) + 2)).toInt64)), (6, .long ((mrg (((4 * k) + 1) + 0)).toInt64)), (4, .long ((mrg (4 * k)).toInt64)), (0, .ref (ma 0)), (1, .int (nI k)), (2, .int 0), (3, .int 2)]) hx hb dX6_entry_39 hl (by decide) rfl (fun ls hl => ?_)
  refine lv_iload_n hx hb dX6_entry_41 rfl (lv_at hl 5 rfl) ?_
  refine lv_iload_n hx hb dX6_entry_42 rfl (lv_at hl 6 rfl) ?_
  refine lv_icmp_ne (tgt := 125) hx hb dX6_entry_43 (by decide) (fun c_43 => ?_) (fun c_43 => ?_)
  · skip
    refine lv_iconst (v := 3) hx hb dX6_entry_125 (by decide) ?_
    refine lv_iload_n hx hb dX6_entry_126 rfl (lv_at hl 5 rfl) ?_
    refine lv_isub hx hb dX6_entry_127 ?_
    refine W.eq (g2 := F0 m 128 ls [.int 3]) rfl ?_
    refine lv_iload_n hx hb dX6_entry_128 rfl (lv_at hl 6 rfl) ?_
    refine lv_isub hx hb dX6_entry_129 ?_
    refine W.eq (g2 := F0 m 130 ls [.int 1]) rfl ?_
    refine lv_istore (lv' := [(10, .int 1), (8, .long ((mrg (((4 * k) + 1) + 2)).toInt64)), (6, .long ((mrg (((4 * k) + 1) + 0)).toInt64)), (4, .long ((mrg (4 * k)).toInt64)), (0, .ref (ma 0)), (1, .int (nI k)), (2, .int 0), (3, .int 2)]) hx hb dX6_entry_130 hl (by decide) rfl (fun ls hl => ?_)
    refine lv_aload_n hx hb dX6_entry_132 rfl (lv_at hl 4 rfl) ?_
    refine h_get hx hb hE hw hts hinX6 hown (ci := 6) rfl 3 (by decide) lk_20 (fun _ h9 => h9) hM.ob rfl dX6_entry_133 ?_
    refine lv_iconst (v := 4) hx hb dX6_entry_136 (by decide) ?_
    refine lv_iload_n hx hb dX6_entry_137 rfl (lv_at hl 5 rfl) ?_
    refine h_imulN hx hb 4 k dX6_entry_138 ?_
    refine lv_iconst (v := 1) hx hb dX6_entry_139 (by decide) ?_
    refine h_iaddN hx hb (4 * k) 1 dX6_entry_140 ?_
    refine lv_iload hx hb dX6_entry_141 (lv_at hl 0 rfl) ?_
    refine h_iaddN hx hb ((4 * k) + 1) 1 dX6_entry_143 ?_
    refine h_iald hx hb hE hw hM.rg (vp_in_nI (n := (((4 * k) + 1) + 1)) (N := 64) (by omega) (by decide)) (v := mrg (((4 * k) + 1) + 1)) (by rw [nI_clamp (by omega)]) dX6_entry_144 ?_
    refine lv_i2l hx hb dX6_entry_145 rfl ?_
    refine lv_lstore (lv' := [(11, .long ((mrg (((4 * k) + 1) + 1)).toInt64)), (10, .int 1), (8, .long ((mrg (((4 * k) + 1) + 2)).toInt64)), (6, .long ((mrg (((4 * k) + 1) + 0)).toInt64)), (4, .long ((mrg (4 * k)).toInt64)), (0, .ref (ma 0)), (1, .int (nI k)), (2, .int 0), (3, .int 2)]) hx hb dX6_entry_146 hl (by decide) rfl (fun ls hl => ?_)
    refine lv_iload_n hx hb dX6_entry_148 rfl (lv_at hl 8 rfl) ?_
    refine lv_iload_n hx hb dX6_entry_149 rfl (lv_at hl 7 rfl) ?_
    refine lv_iconst (v := 1) hx hb dX6_entry_150 (by decide) ?_
    refine lv_iadd hx hb dX6_entry_151 ?_
    refine W.eq (g2 := F0 m 152 ls [.int 1, .int 2]) rfl ?_
    refine lv_iconst (v := 3) hx hb dX6_entry_152 (by decide) ?_
    refine lv_irem hx hb dX6_entry_153 (by decide) ?_
    refine W.eq (g2 := F0 m 154 ls [.int 1, .int 2]) rfl ?_
    refine lv_icmp_ne (tgt := 161) hx hb dX6_entry_154 (by decide) (fun c_154 => ?_) (fun c_154 => ?_)
    · skip
      refine lv_iconst (v := 0) hx hb dX6_entry_161 (by decide) ?_
      refine lv_istore (lv' := [(13, .int 0), (11, .long ((mrg (((4 * k) + 1) + 1)).toInt64)), (10, .int 1), (8, .long ((mrg (((4 * k) + 1) + 2)).toInt64)), (6, .long ((mrg (((4 * k) + 1) + 0)).toInt64)), (4, .long ((mrg (4 * k)).toInt64)), (0, .ref (ma 0)), (1, .int (nI k)), (2, .int 0), (3, .int 2)]) hx hb dX6_entry_162 hl (by decide) rfl (fun ls hl => ?_)
      refine lv_lload hx hb dX6_entry_164 (lv_at hl 4 rfl) ?_
      refine lv_lload hx hb dX6_entry_166 (lv_at hl 3 rfl) ?_
      refine lv_lmul hx hb dX6_entry_168 ?_
      refine lv_iload hx hb dX6_entry_169 (lv_at hl 0 rfl) ?_
      refine lv_if_eq (tgt := 183) hx hb dX6_entry_171 (by decide) (fun c_171 => ?_) (fun c_171 => ?_)
      · skip
        refine lv_lload hx hb dX6_entry_183 (lv_at hl 5 rfl) ?_
        refine lv_lload hx hb dX6_entry_185 (lv_at hl 1 rfl) ?_
        refine lv_lmul hx hb dX6_entry_187 ?_
        refine lv_ladd hx hb dX6_entry_188 ?_
        refine lv_ldc2 hx hb (v := (2)) hown cl_77 dX6_entry_189 ?_
        refine lv_ldiv hx hb dX6_entry_192 (by decide) ?_
        exact h_lretP hx hb hlk hr hw dX6_entry_193 (congrArg (fun y => some (Value.long y)) (en_2 (mrg (4 * k)).toInt64 (mrg (4 * k + 1)).toInt64 (mrg (4 * k + 2)).toInt64 (mrg (4 * k + 3)).toInt64)) ⟨_, hM⟩
      · skip
        first | exact absurd c_171 (by decide) | exact absurd (by decide) c_171
    · skip
      first | exact absurd c_154 (by decide) | exact absurd (by decide) c_154
  · skip
    first | exact absurd c_43 (by decide) | exact absurd (by decide) c_43

set_option maxHeartbeats 4000000 in
set_option maxRecDepth 100000 in
theorem c_X6_entry_10 (l : Launch) (G : GG) (A : Nat → Prop) (ma : Nat → Nat) (F : FM) (mk msz : Nat → Int32) (msh : Nat → Int64) (mrg : Nat → Int32) (mfc mmd : Nat → Int64) (mv : Nat → Q4) (mcn : Int32) (hM : MW G ma (mk, msz, msh, mrg, mfc, mmd, mv, mcn) F) (k : Nat) (hk : k < 16) : PT l yX6_entry wsX6_entry { frames := 1, cells := 0, slots := 0, locals := 23 } G A (ML ma) [.ref (ma 0), .int (nI k), .int 1, .int 0] F (some (.long (qtn (rgq mrg k) 3))) (fun F2 => ∃ mv2 : Nat → Q4, MW G ma (mk, msz, msh, mrg, mfc, mmd, mv2, mcn) F2) := by
  refine PT.ofW (cc := cX6_entry) (maxL := 14) (ret := (some .long)) (plainFor_of_name (by decide)) rfl (Nat.le_of_ble_eq_true rfl) ?_
  intro p e s m below meth c ls hx hb hr hml hown hts hlk hE hw hl
  have hl : lv_has ls 14 [(0, .ref (ma 0)), (1, .int (nI k)), (2, .int 1), (3, .int 0)] := hl
  have hown : s.vm.findClass RX6 = some m.cls := hown
  have lk_20 := hts (.fieldLink RX6 20 "FourPartsModel" "registers" "[I") (by decide +kernel)
  have hinX6 : ∀ w ∈ u_ws RX6 TX6 18, w ∈ wsX6_entry := by decide +kernel
  have cl_77 := hts (.constantLong RX6 77 (2)) (by decide +kernel)
  refine lv_aload_n hx hb dX6_entry_0 rfl (lv_at hl 0 rfl) ?_
  refine h_get hx hb hE hw hts hinX6 hown (ci := 6) rfl 3 (by decide) lk_20 (fun _ h9 => h9) hM.ob rfl dX6_entry_1 ?_
  refine lv_iconst (v := 4) hx hb dX6_entry_4 (by decide) ?_
  refine lv_iload_n hx hb dX6_entry_5 rfl (lv_at hl 1 rfl) ?_
  refine h_imulN hx hb 4 k dX6_entry_6 ?_
  refine h_iald hx hb hE hw hM.rg (vp_in_nI (n := (4 * k)) (N := 64) (by omega) (by decide)) (v := mrg (4 * k)) (by rw [nI_clamp (by omega)]) dX6_entry_7 ?_
  refine lv_i2l hx hb dX6_entry_8 rfl ?_
  refine lv_lstore (lv' := [(4, .long ((mrg (4 * k)).toInt64)), (0, .ref (ma 0)), (1, .int (nI k)), (2, .int 1), (3, .int 0)]) hx hb dX6_entry_9 hl (by decide) rfl (fun ls hl => ?_)
  refine lv_aload_n hx hb dX6_entry_11 rfl (lv_at hl 1 rfl) ?_
  refine h_get hx hb hE hw hts hinX6 hown (ci := 6) rfl 3 (by decide) lk_20 (fun _ h9 => h9) hM.ob rfl dX6_entry_12 ?_
  refine lv_iconst (v := 4) hx hb dX6_entry_15 (by decide) ?_
  refine lv_iload_n hx hb dX6_entry_16 rfl (lv_at hl 2 rfl) ?_
  refine h_imulN hx hb 4 k dX6_entry_17 ?_
  refine lv_iconst (v := 1) hx hb dX6_entry_18 (by decide) ?_
  refine h_iaddN hx hb (4 * k) 1 dX6_entry_19 ?_
  refine lv_iload_n hx hb dX6_entry_20 rfl (lv_at hl 3 rfl) ?_
  refine h_iaddN hx hb ((4 * k) + 1) 1 dX6_entry_21 ?_
  refine h_iald hx hb hE hw hM.rg (vp_in_nI (n := (((4 * k) + 1) + 1)) (N := 64) (by omega) (by decide)) (v := mrg (((4 * k) + 1) + 1)) (by rw [nI_clamp (by omega)]) dX6_entry_22 ?_
  refine lv_i2l hx hb dX6_entry_23 rfl ?_
  refine lv_lstore (lv' := [(6, .long ((mrg (((4 * k) + 1) + 1)).toInt64)), (4, .long ((mrg (4 * k)).toInt64)), (0, .ref (ma 0)), (1, .int (nI k)), (2, .int 1), (3, .int 0)]) hx hb dX6_entry_24 hl (by decide) rfl (fun ls hl => ?_)
  refine lv_aload_n hx hb dX6_entry_26 rfl (lv_at hl 2 rfl) ?_
  refine h_get hx hb hE hw hts hinX6 hown (ci := 6) rfl 3 (by decide) lk_20 (fun _ h9 => h9) hM.ob rfl dX6_entry_27 ?_
  refine lv_iconst (v := 4) hx hb dX6_entry_30 (by decide) ?_
  refine lv_iload_n hx hb dX6_entry_31 rfl (lv_at hl 3 rfl) ?_
  refine h_imulN hx hb 4 k dX6_entry_32 ?_
  refine lv_iconst (v := 1) hx hb dX6_entry_33 (by decide) ?_
  refine h_iaddN hx hb (4 * k) 1 dX6_entry_34 ?_
  refine lv_iload_n hx hb dX6_entry_35 rfl (lv_at hl 5 rfl) ?_
  refine h_iaddN hx hb ((4 * k) + 1) 0 dX6_entry_36 ?_
  refine h_iald hx hb hE hw hM.rg (vp_in_nI (n := (((4 * k) + 1) + 0)) (N := 64) (by omega) (by decide)) (v := mrg (((4 * k) + 1) + 0)) (by rw [nI_clamp (by omega)]) dX6_entry_37 ?_
  refine lv_i2l hx hb dX6_entry_38 rfl ?_
  refine lv_lstore (lv' := [(8, .long ((mrg (((4 * k) + 1) + 0)).toInt64)), (6, .long ((mrg (((4 * k) + 1) + 1)).toInt64)), (4, .long ((mrg (4 * k)).toInt64)), (0, .ref (ma 0)), (1, .int (nI k)), (2, .int 1), (3, .int 0)]) hx hb dX6_entry_39 hl (by decide) rfl (fun ls hl => ?_)
  refine lv_iload_n hx hb dX6_entry_41 rfl (lv_at hl 5 rfl) ?_
  refine lv_iload_n hx hb dX6_entry_42 rfl (lv_at hl 6 rfl) ?_
  refine lv_icmp_ne (tgt := 125) hx hb dX6_entry_43 (by decide) (fun c_43 => ?_) (fun c_43 => ?_)
  · skip
    refine lv_iconst (v := 3) hx hb dX6_entry_125 (by decide) ?_
    refine lv_iload_n hx hb dX6_entry_126 rfl (lv_at hl 5 rfl) ?_
    refine lv_isub hx hb dX6_entry_127 ?_
    refine W.eq (g2 := F0 m 128 ls [.int 2]) rfl ?_
    refine lv_iload_n hx hb dX6_entry_128 rfl (lv_at hl 6 rfl) ?_
    refine lv_isub hx hb dX6_entry_129 ?_
    refine W.eq (g2 := F0 m 130 ls [.int 2]) rfl ?_
    refine lv_istore (lv' := [(10, .int 2), (8, .long ((mrg (((4 * k) + 1) + 0)).toInt64)), (6, .long ((mrg (((4 * k) + 1) + 1)).toInt64)), (4, .long ((mrg (4 * k)).toInt64)), (0, .ref (ma 0)), (1, .int (nI k)), (2, .int 1), (3, .int 0)]) hx hb dX6_entry_130 hl (by decide) rfl (fun ls hl => ?_)
    refine lv_aload_n hx hb dX6_entry_132 rfl (lv_at hl 4 rfl) ?_
    refine h_get hx hb hE hw hts hinX6 hown (ci := 6) rfl 3 (by decide) lk_20 (fun _ h9 => h9) hM.ob rfl dX6_entry_133 ?_
    refine lv_iconst (v := 4) hx hb dX6_entry_136 (by decide) ?_
    refine lv_iload_n hx hb dX6_entry_137 rfl (lv_at hl 5 rfl) ?_
    refine h_imulN hx hb 4 k dX6_entry_138 ?_
    refine lv_iconst (v := 1) hx hb dX6_entry_139 (by decide) ?_
    refine h_iaddN hx hb (4 * k) 1 dX6_entry_140 ?_
    refine lv_iload hx hb dX6_entry_141 (lv_at hl 0 rfl) ?_
    refine h_iaddN hx hb ((4 * k) + 1) 2 dX6_entry_143 ?_
    refine h_iald hx hb hE hw hM.rg (vp_in_nI (n := (((4 * k) + 1) + 2)) (N := 64) (by omega) (by decide)) (v := mrg (((4 * k) + 1) + 2)) (by rw [nI_clamp (by omega)]) dX6_entry_144 ?_
    refine lv_i2l hx hb dX6_entry_145 rfl ?_
    refine lv_lstore (lv' := [(11, .long ((mrg (((4 * k) + 1) + 2)).toInt64)), (10, .int 2), (8, .long ((mrg (((4 * k) + 1) + 0)).toInt64)), (6, .long ((mrg (((4 * k) + 1) + 1)).toInt64)), (4, .long ((mrg (4 * k)).toInt64)), (0, .ref (ma 0)), (1, .int (nI k)), (2, .int 1), (3, .int 0)]) hx hb dX6_entry_146 hl (by decide) rfl (fun ls hl => ?_)
    refine lv_iload_n hx hb dX6_entry_148 rfl (lv_at hl 8 rfl) ?_
    refine lv_iload_n hx hb dX6_entry_149 rfl (lv_at hl 7 rfl) ?_
    refine lv_iconst (v := 1) hx hb dX6_entry_150 (by decide) ?_
    refine lv_iadd hx hb dX6_entry_151 ?_
    refine W.eq (g2 := F0 m 152 ls [.int 2, .int 0]) rfl ?_
    refine lv_iconst (v := 3) hx hb dX6_entry_152 (by decide) ?_
    refine lv_irem hx hb dX6_entry_153 (by decide) ?_
    refine W.eq (g2 := F0 m 154 ls [.int 2, .int 0]) rfl ?_
    refine lv_icmp_ne (tgt := 161) hx hb dX6_entry_154 (by decide) (fun c_154 => ?_) (fun c_154 => ?_)
    · skip
      refine lv_iconst (v := 0) hx hb dX6_entry_161 (by decide) ?_
      refine lv_istore (lv' := [(13, .int 0), (11, .long ((mrg (((4 * k) + 1) + 2)).toInt64)), (10, .int 2), (8, .long ((mrg (((4 * k) + 1) + 0)).toInt64)), (6, .long ((mrg (((4 * k) + 1) + 1)).toInt64)), (4, .long ((mrg (4 * k)).toInt64)), (0, .ref (ma 0)), (1, .int (nI k)), (2, .int 1), (3, .int 0)]) hx hb dX6_entry_162 hl (by decide) rfl (fun ls hl => ?_)
      refine lv_lload hx hb dX6_entry_164 (lv_at hl 4 rfl) ?_
      refine lv_lload hx hb dX6_entry_166 (lv_at hl 3 rfl) ?_
      refine lv_lmul hx hb dX6_entry_168 ?_
      refine lv_iload hx hb dX6_entry_169 (lv_at hl 0 rfl) ?_
      refine lv_if_eq (tgt := 183) hx hb dX6_entry_171 (by decide) (fun c_171 => ?_) (fun c_171 => ?_)
      · skip
        refine lv_lload hx hb dX6_entry_183 (lv_at hl 5 rfl) ?_
        refine lv_lload hx hb dX6_entry_185 (lv_at hl 1 rfl) ?_
        refine lv_lmul hx hb dX6_entry_187 ?_
        refine lv_ladd hx hb dX6_entry_188 ?_
        refine lv_ldc2 hx hb (v := (2)) hown cl_77 dX6_entry_189 ?_
        refine lv_ldiv hx hb dX6_entry_192 (by decide) ?_
        exact h_lretP hx hb hlk hr hw dX6_entry_193 (congrArg (fun y => some (Value.long y)) (en_3 (mrg (4 * k)).toInt64 (mrg (4 * k + 1)).toInt64 (mrg (4 * k + 2)).toInt64 (mrg (4 * k + 3)).toInt64)) ⟨_, hM⟩
      · skip
        first | exact absurd c_171 (by decide) | exact absurd (by decide) c_171
    · skip
      first | exact absurd c_154 (by decide) | exact absurd (by decide) c_154
  · skip
    first | exact absurd c_43 (by decide) | exact absurd (by decide) c_43

set_option maxHeartbeats 4000000 in
set_option maxRecDepth 100000 in
theorem c_X6_entry_11 (l : Launch) (G : GG) (A : Nat → Prop) (ma : Nat → Nat) (F : FM) (mk msz : Nat → Int32) (msh : Nat → Int64) (mrg : Nat → Int32) (mfc mmd : Nat → Int64) (mv : Nat → Q4) (mcn : Int32) (hM : MW G ma (mk, msz, msh, mrg, mfc, mmd, mv, mcn) F) (k : Nat) (hk : k < 16) : PT l yX6_entry wsX6_entry { frames := 1, cells := 0, slots := 0, locals := 23 } G A (ML ma) [.ref (ma 0), .int (nI k), .int 1, .int 1] F (some (.long (qtn (rgq mrg k) 4))) (fun F2 => ∃ mv2 : Nat → Q4, MW G ma (mk, msz, msh, mrg, mfc, mmd, mv2, mcn) F2) := by
  refine PT.ofW (cc := cX6_entry) (maxL := 14) (ret := (some .long)) (plainFor_of_name (by decide)) rfl (Nat.le_of_ble_eq_true rfl) ?_
  intro p e s m below meth c ls hx hb hr hml hown hts hlk hE hw hl
  have hl : lv_has ls 14 [(0, .ref (ma 0)), (1, .int (nI k)), (2, .int 1), (3, .int 1)] := hl
  have hown : s.vm.findClass RX6 = some m.cls := hown
  have lk_20 := hts (.fieldLink RX6 20 "FourPartsModel" "registers" "[I") (by decide +kernel)
  have hinX6 : ∀ w ∈ u_ws RX6 TX6 18, w ∈ wsX6_entry := by decide +kernel
  have lk_32 := hts (.fieldLink RX6 32 "FourPartsModel" "x" "[J") (by decide +kernel)
  have cl_77 := hts (.constantLong RX6 77 (2)) (by decide +kernel)
  have cl_106 := hts (.constantLong RX6 106 (4)) (by decide +kernel)
  refine lv_aload_n hx hb dX6_entry_0 rfl (lv_at hl 0 rfl) ?_
  refine h_get hx hb hE hw hts hinX6 hown (ci := 6) rfl 3 (by decide) lk_20 (fun _ h9 => h9) hM.ob rfl dX6_entry_1 ?_
  refine lv_iconst (v := 4) hx hb dX6_entry_4 (by decide) ?_
  refine lv_iload_n hx hb dX6_entry_5 rfl (lv_at hl 1 rfl) ?_
  refine h_imulN hx hb 4 k dX6_entry_6 ?_
  refine h_iald hx hb hE hw hM.rg (vp_in_nI (n := (4 * k)) (N := 64) (by omega) (by decide)) (v := mrg (4 * k)) (by rw [nI_clamp (by omega)]) dX6_entry_7 ?_
  refine lv_i2l hx hb dX6_entry_8 rfl ?_
  refine lv_lstore (lv' := [(4, .long ((mrg (4 * k)).toInt64)), (0, .ref (ma 0)), (1, .int (nI k)), (2, .int 1), (3, .int 1)]) hx hb dX6_entry_9 hl (by decide) rfl (fun ls hl => ?_)
  refine lv_aload_n hx hb dX6_entry_11 rfl (lv_at hl 1 rfl) ?_
  refine h_get hx hb hE hw hts hinX6 hown (ci := 6) rfl 3 (by decide) lk_20 (fun _ h9 => h9) hM.ob rfl dX6_entry_12 ?_
  refine lv_iconst (v := 4) hx hb dX6_entry_15 (by decide) ?_
  refine lv_iload_n hx hb dX6_entry_16 rfl (lv_at hl 2 rfl) ?_
  refine h_imulN hx hb 4 k dX6_entry_17 ?_
  refine lv_iconst (v := 1) hx hb dX6_entry_18 (by decide) ?_
  refine h_iaddN hx hb (4 * k) 1 dX6_entry_19 ?_
  refine lv_iload_n hx hb dX6_entry_20 rfl (lv_at hl 3 rfl) ?_
  refine h_iaddN hx hb ((4 * k) + 1) 1 dX6_entry_21 ?_
  refine h_iald hx hb hE hw hM.rg (vp_in_nI (n := (((4 * k) + 1) + 1)) (N := 64) (by omega) (by decide)) (v := mrg (((4 * k) + 1) + 1)) (by rw [nI_clamp (by omega)]) dX6_entry_22 ?_
  refine lv_i2l hx hb dX6_entry_23 rfl ?_
  refine lv_lstore (lv' := [(6, .long ((mrg (((4 * k) + 1) + 1)).toInt64)), (4, .long ((mrg (4 * k)).toInt64)), (0, .ref (ma 0)), (1, .int (nI k)), (2, .int 1), (3, .int 1)]) hx hb dX6_entry_24 hl (by decide) rfl (fun ls hl => ?_)
  refine lv_aload_n hx hb dX6_entry_26 rfl (lv_at hl 2 rfl) ?_
  refine h_get hx hb hE hw hts hinX6 hown (ci := 6) rfl 3 (by decide) lk_20 (fun _ h9 => h9) hM.ob rfl dX6_entry_27 ?_
  refine lv_iconst (v := 4) hx hb dX6_entry_30 (by decide) ?_
  refine lv_iload_n hx hb dX6_entry_31 rfl (lv_at hl 3 rfl) ?_
  refine h_imulN hx hb 4 k dX6_entry_32 ?_
  refine lv_iconst (v := 1) hx hb dX6_entry_33 (by decide) ?_
  refine h_iaddN hx hb (4 * k) 1 dX6_entry_34 ?_
  refine lv_iload_n hx hb dX6_entry_35 rfl (lv_at hl 5 rfl) ?_
  refine h_iaddN hx hb ((4 * k) + 1) 1 dX6_entry_36 ?_
  refine h_iald hx hb hE hw hM.rg (vp_in_nI (n := (((4 * k) + 1) + 1)) (N := 64) (by omega) (by decide)) (v := mrg (((4 * k) + 1) + 1)) (by rw [nI_clamp (by omega)]) dX6_entry_37 ?_
  refine lv_i2l hx hb dX6_entry_38 rfl ?_
  refine lv_lstore (lv' := [(8, .long ((mrg (((4 * k) + 1) + 1)).toInt64)), (6, .long ((mrg (((4 * k) + 1) + 1)).toInt64)), (4, .long ((mrg (4 * k)).toInt64)), (0, .ref (ma 0)), (1, .int (nI k)), (2, .int 1), (3, .int 1)]) hx hb dX6_entry_39 hl (by decide) rfl (fun ls hl => ?_)
  refine lv_iload_n hx hb dX6_entry_41 rfl (lv_at hl 5 rfl) ?_
  refine lv_iload_n hx hb dX6_entry_42 rfl (lv_at hl 6 rfl) ?_
  refine lv_icmp_ne (tgt := 125) hx hb dX6_entry_43 (by decide) (fun c_43 => ?_) (fun c_43 => ?_)
  · skip
    first | exact absurd c_43 (by decide) | exact absurd (by decide) c_43
  · skip
    refine lv_aload_n hx hb dX6_entry_46 rfl (lv_at hl 3 rfl) ?_
    refine lv_aload_n hx hb dX6_entry_47 rfl (lv_at hl 3 rfl) ?_
    refine h_get hx hb hE hw hts hinX6 hown (ci := 6) rfl 8 (by decide) lk_32 (fun _ h9 => h9) hM.ob rfl dX6_entry_48 ?_
    refine lv_iload_n hx hb dX6_entry_51 rfl (lv_at hl 4 rfl) ?_
    refine h_callV (st1 := []) [.ref (ma 8), .int (nI k)] [] ⟨hx, hb, hml, hown, hts⟩ hE hw (c_X6_load l G A ma F _ _ _ _ _ _ _ _ hM 8 k (by decide) (by decide) hk) (cwV 2 hts gX6_entry_X6_load rfl rfl rfl (by decide +kernel) ⟨Nat.le_of_ble_eq_true rfl, Nat.le_of_ble_eq_true rfl⟩) hM.ob rfl rfl rfl hl.1 rfl (Nat.le_of_ble_eq_true rfl) dX6_entry_52 ⟨Nat.le_of_ble_eq_true rfl, Nat.le_of_ble_eq_true rfl⟩ rfl (fun H locs hw => ?_)
    refine lv_aload_n hx hb dX6_entry_55 rfl (lv_at hl 3 rfl) ?_
    refine h_get hx hb hE hw hts hinX6 hown (ci := 6) rfl 8 (by decide) lk_32 (fun _ h9 => h9) (pt_ne hM.ob (hM.ne (i := 0) (j := 8) (by decide) (by decide) (by decide))) rfl dX6_entry_56 ?_
    refine lv_iconst (v := 0) hx hb dX6_entry_59 (by decide) ?_
    refine h_lald hx hb hE hw (pt_up (hM.v (i := 8) (by decide) (by decide))) (n := 4) (vp_in_nI (n := 0) (N := 4) (by decide) (by decide)) (v := (rgq mrg k).1) rfl dX6_entry_60 ?_
    refine lv_aload_n hx hb dX6_entry_61 rfl (lv_at hl 3 rfl) ?_
    refine h_get hx hb hE hw hts hinX6 hown (ci := 6) rfl 8 (by decide) lk_32 (fun _ h9 => h9) (pt_ne hM.ob (hM.ne (i := 0) (j := 8) (by decide) (by decide) (by decide))) rfl dX6_entry_62 ?_
    refine lv_iconst (v := 0) hx hb dX6_entry_65 (by decide) ?_
    refine h_lald hx hb hE hw (pt_up (hM.v (i := 8) (by decide) (by decide))) (n := 4) (vp_in_nI (n := 0) (N := 4) (by decide) (by decide)) (v := (rgq mrg k).1) rfl dX6_entry_66 ?_
    refine lv_lmul hx hb dX6_entry_67 ?_
    refine lv_aload_n hx hb dX6_entry_68 rfl (lv_at hl 3 rfl) ?_
    refine h_get hx hb hE hw hts hinX6 hown (ci := 6) rfl 8 (by decide) lk_32 (fun _ h9 => h9) (pt_ne hM.ob (hM.ne (i := 0) (j := 8) (by decide) (by decide) (by decide))) rfl dX6_entry_69 ?_
    refine lv_iconst (v := 1) hx hb dX6_entry_72 (by decide) ?_
    refine h_lald hx hb hE hw (pt_up (hM.v (i := 8) (by decide) (by decide))) (n := 4) (vp_in_nI (n := 1) (N := 4) (by decide) (by decide)) (v := (rgq mrg k).2.1) rfl dX6_entry_73 ?_
    refine lv_aload_n hx hb dX6_entry_74 rfl (lv_at hl 3 rfl) ?_
    refine h_get hx hb hE hw hts hinX6 hown (ci := 6) rfl 8 (by decide) lk_32 (fun _ h9 => h9) (pt_ne hM.ob (hM.ne (i := 0) (j := 8) (by decide) (by decide) (by decide))) rfl dX6_entry_75 ?_
    refine lv_iconst (v := 1) hx hb dX6_entry_78 (by decide) ?_
    refine h_lald hx hb hE hw (pt_up (hM.v (i := 8) (by decide) (by decide))) (n := 4) (vp_in_nI (n := 1) (N := 4) (by decide) (by decide)) (v := (rgq mrg k).2.1) rfl dX6_entry_79 ?_
    refine lv_lmul hx hb dX6_entry_80 ?_
    refine lv_lsub hx hb dX6_entry_81 ?_
    refine lv_aload_n hx hb dX6_entry_82 rfl (lv_at hl 3 rfl) ?_
    refine h_get hx hb hE hw hts hinX6 hown (ci := 6) rfl 8 (by decide) lk_32 (fun _ h9 => h9) (pt_ne hM.ob (hM.ne (i := 0) (j := 8) (by decide) (by decide) (by decide))) rfl dX6_entry_83 ?_
    refine lv_iconst (v := 2) hx hb dX6_entry_86 (by decide) ?_
    refine h_lald hx hb hE hw (pt_up (hM.v (i := 8) (by decide) (by decide))) (n := 4) (vp_in_nI (n := 2) (N := 4) (by decide) (by decide)) (v := (rgq mrg k).2.2.1) rfl dX6_entry_87 ?_
    refine lv_aload_n hx hb dX6_entry_88 rfl (lv_at hl 3 rfl) ?_
    refine h_get hx hb hE hw hts hinX6 hown (ci := 6) rfl 8 (by decide) lk_32 (fun _ h9 => h9) (pt_ne hM.ob (hM.ne (i := 0) (j := 8) (by decide) (by decide) (by decide))) rfl dX6_entry_89 ?_
    refine lv_iconst (v := 2) hx hb dX6_entry_92 (by decide) ?_
    refine h_lald hx hb hE hw (pt_up (hM.v (i := 8) (by decide) (by decide))) (n := 4) (vp_in_nI (n := 2) (N := 4) (by decide) (by decide)) (v := (rgq mrg k).2.2.1) rfl dX6_entry_93 ?_
    refine lv_lmul hx hb dX6_entry_94 ?_
    refine lv_lsub hx hb dX6_entry_95 ?_
    refine lv_aload_n hx hb dX6_entry_96 rfl (lv_at hl 3 rfl) ?_
    refine h_get hx hb hE hw hts hinX6 hown (ci := 6) rfl 8 (by decide) lk_32 (fun _ h9 => h9) (pt_ne hM.ob (hM.ne (i := 0) (j := 8) (by decide) (by decide) (by decide))) rfl dX6_entry_97 ?_
    refine lv_iconst (v := 3) hx hb dX6_entry_100 (by decide) ?_
    refine h_lald hx hb hE hw (pt_up (hM.v (i := 8) (by decide) (by decide))) (n := 4) (vp_in_nI (n := 3) (N := 4) (by decide) (by decide)) (v := (rgq mrg k).2.2.2) rfl dX6_entry_101 ?_
    refine lv_aload_n hx hb dX6_entry_102 rfl (lv_at hl 3 rfl) ?_
    refine h_get hx hb hE hw hts hinX6 hown (ci := 6) rfl 8 (by decide) lk_32 (fun _ h9 => h9) (pt_ne hM.ob (hM.ne (i := 0) (j := 8) (by decide) (by decide) (by decide))) rfl dX6_entry_103 ?_
    refine lv_iconst (v := 3) hx hb dX6_entry_106 (by decide) ?_
    refine h_lald hx hb hE hw (pt_up (hM.v (i := 8) (by decide) (by decide))) (n := 4) (vp_in_nI (n := 3) (N := 4) (by decide) (by decide)) (v := (rgq mrg k).2.2.2) rfl dX6_entry_107 ?_
    refine lv_lmul hx hb dX6_entry_108 ?_
    refine lv_lsub hx hb dX6_entry_109 ?_
    refine lv_ldc2 hx hb (v := (2)) hown cl_77 dX6_entry_110 ?_
    refine lv_lload hx hb dX6_entry_113 (lv_at hl 1 rfl) ?_
    refine lv_lmul hx hb dX6_entry_115 ?_
    refine lv_lload hx hb dX6_entry_116 (lv_at hl 1 rfl) ?_
    refine lv_lmul hx hb dX6_entry_118 ?_
    refine lv_ladd hx hb dX6_entry_119 ?_
    refine lv_ldc2 hx hb (v := (4)) hown cl_106 dX6_entry_120 ?_
    refine lv_ldiv hx hb dX6_entry_123 (by decide) ?_
    exact h_lretP hx hb hlk hr hw dX6_entry_124 (congrArg (fun y => some (Value.long y)) (en_4 (mrg (4 * k)).toInt64 (mrg (4 * k + 1)).toInt64 (mrg (4 * k + 2)).toInt64 (mrg (4 * k + 3)).toInt64)) ⟨_, (MW.setv hM (i := 8) (by decide) (by decide) (rgq mrg k))⟩

set_option maxHeartbeats 4000000 in
set_option maxRecDepth 100000 in
theorem c_X6_entry_12 (l : Launch) (G : GG) (A : Nat → Prop) (ma : Nat → Nat) (F : FM) (mk msz : Nat → Int32) (msh : Nat → Int64) (mrg : Nat → Int32) (mfc mmd : Nat → Int64) (mv : Nat → Q4) (mcn : Int32) (hM : MW G ma (mk, msz, msh, mrg, mfc, mmd, mv, mcn) F) (k : Nat) (hk : k < 16) : PT l yX6_entry wsX6_entry { frames := 1, cells := 0, slots := 0, locals := 23 } G A (ML ma) [.ref (ma 0), .int (nI k), .int 1, .int 2] F (some (.long (qtn (rgq mrg k) 5))) (fun F2 => ∃ mv2 : Nat → Q4, MW G ma (mk, msz, msh, mrg, mfc, mmd, mv2, mcn) F2) := by
  refine PT.ofW (cc := cX6_entry) (maxL := 14) (ret := (some .long)) (plainFor_of_name (by decide)) rfl (Nat.le_of_ble_eq_true rfl) ?_
  intro p e s m below meth c ls hx hb hr hml hown hts hlk hE hw hl
  have hl : lv_has ls 14 [(0, .ref (ma 0)), (1, .int (nI k)), (2, .int 1), (3, .int 2)] := hl
  have hown : s.vm.findClass RX6 = some m.cls := hown
  have lk_20 := hts (.fieldLink RX6 20 "FourPartsModel" "registers" "[I") (by decide +kernel)
  have hinX6 : ∀ w ∈ u_ws RX6 TX6 18, w ∈ wsX6_entry := by decide +kernel
  have cl_77 := hts (.constantLong RX6 77 (2)) (by decide +kernel)
  refine lv_aload_n hx hb dX6_entry_0 rfl (lv_at hl 0 rfl) ?_
  refine h_get hx hb hE hw hts hinX6 hown (ci := 6) rfl 3 (by decide) lk_20 (fun _ h9 => h9) hM.ob rfl dX6_entry_1 ?_
  refine lv_iconst (v := 4) hx hb dX6_entry_4 (by decide) ?_
  refine lv_iload_n hx hb dX6_entry_5 rfl (lv_at hl 1 rfl) ?_
  refine h_imulN hx hb 4 k dX6_entry_6 ?_
  refine h_iald hx hb hE hw hM.rg (vp_in_nI (n := (4 * k)) (N := 64) (by omega) (by decide)) (v := mrg (4 * k)) (by rw [nI_clamp (by omega)]) dX6_entry_7 ?_
  refine lv_i2l hx hb dX6_entry_8 rfl ?_
  refine lv_lstore (lv' := [(4, .long ((mrg (4 * k)).toInt64)), (0, .ref (ma 0)), (1, .int (nI k)), (2, .int 1), (3, .int 2)]) hx hb dX6_entry_9 hl (by decide) rfl (fun ls hl => ?_)
  refine lv_aload_n hx hb dX6_entry_11 rfl (lv_at hl 1 rfl) ?_
  refine h_get hx hb hE hw hts hinX6 hown (ci := 6) rfl 3 (by decide) lk_20 (fun _ h9 => h9) hM.ob rfl dX6_entry_12 ?_
  refine lv_iconst (v := 4) hx hb dX6_entry_15 (by decide) ?_
  refine lv_iload_n hx hb dX6_entry_16 rfl (lv_at hl 2 rfl) ?_
  refine h_imulN hx hb 4 k dX6_entry_17 ?_
  refine lv_iconst (v := 1) hx hb dX6_entry_18 (by decide) ?_
  refine h_iaddN hx hb (4 * k) 1 dX6_entry_19 ?_
  refine lv_iload_n hx hb dX6_entry_20 rfl (lv_at hl 3 rfl) ?_
  refine h_iaddN hx hb ((4 * k) + 1) 1 dX6_entry_21 ?_
  refine h_iald hx hb hE hw hM.rg (vp_in_nI (n := (((4 * k) + 1) + 1)) (N := 64) (by omega) (by decide)) (v := mrg (((4 * k) + 1) + 1)) (by rw [nI_clamp (by omega)]) dX6_entry_22 ?_
  refine lv_i2l hx hb dX6_entry_23 rfl ?_
  refine lv_lstore (lv' := [(6, .long ((mrg (((4 * k) + 1) + 1)).toInt64)), (4, .long ((mrg (4 * k)).toInt64)), (0, .ref (ma 0)), (1, .int (nI k)), (2, .int 1), (3, .int 2)]) hx hb dX6_entry_24 hl (by decide) rfl (fun ls hl => ?_)
  refine lv_aload_n hx hb dX6_entry_26 rfl (lv_at hl 2 rfl) ?_
  refine h_get hx hb hE hw hts hinX6 hown (ci := 6) rfl 3 (by decide) lk_20 (fun _ h9 => h9) hM.ob rfl dX6_entry_27 ?_
  refine lv_iconst (v := 4) hx hb dX6_entry_30 (by decide) ?_
  refine lv_iload_n hx hb dX6_entry_31 rfl (lv_at hl 3 rfl) ?_
  refine h_imulN hx hb 4 k dX6_entry_32 ?_
  refine lv_iconst (v := 1) hx hb dX6_entry_33 (by decide) ?_
  refine h_iaddN hx hb (4 * k) 1 dX6_entry_34 ?_
  refine lv_iload_n hx hb dX6_entry_35 rfl (lv_at hl 5 rfl) ?_
  refine h_iaddN hx hb ((4 * k) + 1) 2 dX6_entry_36 ?_
  refine h_iald hx hb hE hw hM.rg (vp_in_nI (n := (((4 * k) + 1) + 2)) (N := 64) (by omega) (by decide)) (v := mrg (((4 * k) + 1) + 2)) (by rw [nI_clamp (by omega)]) dX6_entry_37 ?_
  refine lv_i2l hx hb dX6_entry_38 rfl ?_
  refine lv_lstore (lv' := [(8, .long ((mrg (((4 * k) + 1) + 2)).toInt64)), (6, .long ((mrg (((4 * k) + 1) + 1)).toInt64)), (4, .long ((mrg (4 * k)).toInt64)), (0, .ref (ma 0)), (1, .int (nI k)), (2, .int 1), (3, .int 2)]) hx hb dX6_entry_39 hl (by decide) rfl (fun ls hl => ?_)
  refine lv_iload_n hx hb dX6_entry_41 rfl (lv_at hl 5 rfl) ?_
  refine lv_iload_n hx hb dX6_entry_42 rfl (lv_at hl 6 rfl) ?_
  refine lv_icmp_ne (tgt := 125) hx hb dX6_entry_43 (by decide) (fun c_43 => ?_) (fun c_43 => ?_)
  · skip
    refine lv_iconst (v := 3) hx hb dX6_entry_125 (by decide) ?_
    refine lv_iload_n hx hb dX6_entry_126 rfl (lv_at hl 5 rfl) ?_
    refine lv_isub hx hb dX6_entry_127 ?_
    refine W.eq (g2 := F0 m 128 ls [.int 2]) rfl ?_
    refine lv_iload_n hx hb dX6_entry_128 rfl (lv_at hl 6 rfl) ?_
    refine lv_isub hx hb dX6_entry_129 ?_
    refine W.eq (g2 := F0 m 130 ls [.int 0]) rfl ?_
    refine lv_istore (lv' := [(10, .int 0), (8, .long ((mrg (((4 * k) + 1) + 2)).toInt64)), (6, .long ((mrg (((4 * k) + 1) + 1)).toInt64)), (4, .long ((mrg (4 * k)).toInt64)), (0, .ref (ma 0)), (1, .int (nI k)), (2, .int 1), (3, .int 2)]) hx hb dX6_entry_130 hl (by decide) rfl (fun ls hl => ?_)
    refine lv_aload_n hx hb dX6_entry_132 rfl (lv_at hl 4 rfl) ?_
    refine h_get hx hb hE hw hts hinX6 hown (ci := 6) rfl 3 (by decide) lk_20 (fun _ h9 => h9) hM.ob rfl dX6_entry_133 ?_
    refine lv_iconst (v := 4) hx hb dX6_entry_136 (by decide) ?_
    refine lv_iload_n hx hb dX6_entry_137 rfl (lv_at hl 5 rfl) ?_
    refine h_imulN hx hb 4 k dX6_entry_138 ?_
    refine lv_iconst (v := 1) hx hb dX6_entry_139 (by decide) ?_
    refine h_iaddN hx hb (4 * k) 1 dX6_entry_140 ?_
    refine lv_iload hx hb dX6_entry_141 (lv_at hl 0 rfl) ?_
    refine h_iaddN hx hb ((4 * k) + 1) 0 dX6_entry_143 ?_
    refine h_iald hx hb hE hw hM.rg (vp_in_nI (n := (((4 * k) + 1) + 0)) (N := 64) (by omega) (by decide)) (v := mrg (((4 * k) + 1) + 0)) (by rw [nI_clamp (by omega)]) dX6_entry_144 ?_
    refine lv_i2l hx hb dX6_entry_145 rfl ?_
    refine lv_lstore (lv' := [(11, .long ((mrg (((4 * k) + 1) + 0)).toInt64)), (10, .int 0), (8, .long ((mrg (((4 * k) + 1) + 2)).toInt64)), (6, .long ((mrg (((4 * k) + 1) + 1)).toInt64)), (4, .long ((mrg (4 * k)).toInt64)), (0, .ref (ma 0)), (1, .int (nI k)), (2, .int 1), (3, .int 2)]) hx hb dX6_entry_146 hl (by decide) rfl (fun ls hl => ?_)
    refine lv_iload_n hx hb dX6_entry_148 rfl (lv_at hl 8 rfl) ?_
    refine lv_iload_n hx hb dX6_entry_149 rfl (lv_at hl 7 rfl) ?_
    refine lv_iconst (v := 1) hx hb dX6_entry_150 (by decide) ?_
    refine lv_iadd hx hb dX6_entry_151 ?_
    refine W.eq (g2 := F0 m 152 ls [.int 2, .int 2]) rfl ?_
    refine lv_iconst (v := 3) hx hb dX6_entry_152 (by decide) ?_
    refine lv_irem hx hb dX6_entry_153 (by decide) ?_
    refine W.eq (g2 := F0 m 154 ls [.int 2, .int 2]) rfl ?_
    refine lv_icmp_ne (tgt := 161) hx hb dX6_entry_154 (by decide) (fun c_154 => ?_) (fun c_154 => ?_)
    · skip
      first | exact absurd c_154 (by decide) | exact absurd (by decide) c_154
    · skip
      refine lv_iconst (v := 1) hx hb dX6_entry_157 (by decide) ?_
      refine lv_goto (tgt := 162) hx hb dX6_entry_158 (by decide) ?_
      refine lv_istore (lv' := [(13, .int 1), (11, .long ((mrg (((4 * k) + 1) + 0)).toInt64)), (10, .int 0), (8, .long ((mrg (((4 * k) + 1) + 2)).toInt64)), (6, .long ((mrg (((4 * k) + 1) + 1)).toInt64)), (4, .long ((mrg (4 * k)).toInt64)), (0, .ref (ma 0)), (1, .int (nI k)), (2, .int 1), (3, .int 2)]) hx hb dX6_entry_162 hl (by decide) rfl (fun ls hl => ?_)
      refine lv_lload hx hb dX6_entry_164 (lv_at hl 4 rfl) ?_
      refine lv_lload hx hb dX6_entry_166 (lv_at hl 3 rfl) ?_
      refine lv_lmul hx hb dX6_entry_168 ?_
      refine lv_iload hx hb dX6_entry_169 (lv_at hl 0 rfl) ?_
      refine lv_if_eq (tgt := 183) hx hb dX6_entry_171 (by decide) (fun c_171 => ?_) (fun c_171 => ?_)
      · skip
        first | exact absurd c_171 (by decide) | exact absurd (by decide) c_171
      · skip
        refine lv_lload hx hb dX6_entry_174 (lv_at hl 5 rfl) ?_
        refine lv_lneg hx hb dX6_entry_176 ?_
        refine lv_lload hx hb dX6_entry_177 (lv_at hl 1 rfl) ?_
        refine lv_lmul hx hb dX6_entry_179 ?_
        refine lv_goto (tgt := 188) hx hb dX6_entry_180 (by decide) ?_
        refine lv_ladd hx hb dX6_entry_188 ?_
        refine lv_ldc2 hx hb (v := (2)) hown cl_77 dX6_entry_189 ?_
        refine lv_ldiv hx hb dX6_entry_192 (by decide) ?_
        exact h_lretP hx hb hlk hr hw dX6_entry_193 (congrArg (fun y => some (Value.long y)) (en_5 (mrg (4 * k)).toInt64 (mrg (4 * k + 1)).toInt64 (mrg (4 * k + 2)).toInt64 (mrg (4 * k + 3)).toInt64)) ⟨_, hM⟩
  · skip
    first | exact absurd c_43 (by decide) | exact absurd (by decide) c_43

set_option maxHeartbeats 4000000 in
set_option maxRecDepth 100000 in
theorem c_X6_entry_20 (l : Launch) (G : GG) (A : Nat → Prop) (ma : Nat → Nat) (F : FM) (mk msz : Nat → Int32) (msh : Nat → Int64) (mrg : Nat → Int32) (mfc mmd : Nat → Int64) (mv : Nat → Q4) (mcn : Int32) (hM : MW G ma (mk, msz, msh, mrg, mfc, mmd, mv, mcn) F) (k : Nat) (hk : k < 16) : PT l yX6_entry wsX6_entry { frames := 1, cells := 0, slots := 0, locals := 23 } G A (ML ma) [.ref (ma 0), .int (nI k), .int 2, .int 0] F (some (.long (qtn (rgq mrg k) 6))) (fun F2 => ∃ mv2 : Nat → Q4, MW G ma (mk, msz, msh, mrg, mfc, mmd, mv2, mcn) F2) := by
  refine PT.ofW (cc := cX6_entry) (maxL := 14) (ret := (some .long)) (plainFor_of_name (by decide)) rfl (Nat.le_of_ble_eq_true rfl) ?_
  intro p e s m below meth c ls hx hb hr hml hown hts hlk hE hw hl
  have hl : lv_has ls 14 [(0, .ref (ma 0)), (1, .int (nI k)), (2, .int 2), (3, .int 0)] := hl
  have hown : s.vm.findClass RX6 = some m.cls := hown
  have lk_20 := hts (.fieldLink RX6 20 "FourPartsModel" "registers" "[I") (by decide +kernel)
  have hinX6 : ∀ w ∈ u_ws RX6 TX6 18, w ∈ wsX6_entry := by decide +kernel
  have cl_77 := hts (.constantLong RX6 77 (2)) (by decide +kernel)
  refine lv_aload_n hx hb dX6_entry_0 rfl (lv_at hl 0 rfl) ?_
  refine h_get hx hb hE hw hts hinX6 hown (ci := 6) rfl 3 (by decide) lk_20 (fun _ h9 => h9) hM.ob rfl dX6_entry_1 ?_
  refine lv_iconst (v := 4) hx hb dX6_entry_4 (by decide) ?_
  refine lv_iload_n hx hb dX6_entry_5 rfl (lv_at hl 1 rfl) ?_
  refine h_imulN hx hb 4 k dX6_entry_6 ?_
  refine h_iald hx hb hE hw hM.rg (vp_in_nI (n := (4 * k)) (N := 64) (by omega) (by decide)) (v := mrg (4 * k)) (by rw [nI_clamp (by omega)]) dX6_entry_7 ?_
  refine lv_i2l hx hb dX6_entry_8 rfl ?_
  refine lv_lstore (lv' := [(4, .long ((mrg (4 * k)).toInt64)), (0, .ref (ma 0)), (1, .int (nI k)), (2, .int 2), (3, .int 0)]) hx hb dX6_entry_9 hl (by decide) rfl (fun ls hl => ?_)
  refine lv_aload_n hx hb dX6_entry_11 rfl (lv_at hl 1 rfl) ?_
  refine h_get hx hb hE hw hts hinX6 hown (ci := 6) rfl 3 (by decide) lk_20 (fun _ h9 => h9) hM.ob rfl dX6_entry_12 ?_
  refine lv_iconst (v := 4) hx hb dX6_entry_15 (by decide) ?_
  refine lv_iload_n hx hb dX6_entry_16 rfl (lv_at hl 2 rfl) ?_
  refine h_imulN hx hb 4 k dX6_entry_17 ?_
  refine lv_iconst (v := 1) hx hb dX6_entry_18 (by decide) ?_
  refine h_iaddN hx hb (4 * k) 1 dX6_entry_19 ?_
  refine lv_iload_n hx hb dX6_entry_20 rfl (lv_at hl 3 rfl) ?_
  refine h_iaddN hx hb ((4 * k) + 1) 2 dX6_entry_21 ?_
  refine h_iald hx hb hE hw hM.rg (vp_in_nI (n := (((4 * k) + 1) + 2)) (N := 64) (by omega) (by decide)) (v := mrg (((4 * k) + 1) + 2)) (by rw [nI_clamp (by omega)]) dX6_entry_22 ?_
  refine lv_i2l hx hb dX6_entry_23 rfl ?_
  refine lv_lstore (lv' := [(6, .long ((mrg (((4 * k) + 1) + 2)).toInt64)), (4, .long ((mrg (4 * k)).toInt64)), (0, .ref (ma 0)), (1, .int (nI k)), (2, .int 2), (3, .int 0)]) hx hb dX6_entry_24 hl (by decide) rfl (fun ls hl => ?_)
  refine lv_aload_n hx hb dX6_entry_26 rfl (lv_at hl 2 rfl) ?_
  refine h_get hx hb hE hw hts hinX6 hown (ci := 6) rfl 3 (by decide) lk_20 (fun _ h9 => h9) hM.ob rfl dX6_entry_27 ?_
  refine lv_iconst (v := 4) hx hb dX6_entry_30 (by decide) ?_
  refine lv_iload_n hx hb dX6_entry_31 rfl (lv_at hl 3 rfl) ?_
  refine h_imulN hx hb 4 k dX6_entry_32 ?_
  refine lv_iconst (v := 1) hx hb dX6_entry_33 (by decide) ?_
  refine h_iaddN hx hb (4 * k) 1 dX6_entry_34 ?_
  refine lv_iload_n hx hb dX6_entry_35 rfl (lv_at hl 5 rfl) ?_
  refine h_iaddN hx hb ((4 * k) + 1) 0 dX6_entry_36 ?_
  refine h_iald hx hb hE hw hM.rg (vp_in_nI (n := (((4 * k) + 1) + 0)) (N := 64) (by omega) (by decide)) (v := mrg (((4 * k) + 1) + 0)) (by rw [nI_clamp (by omega)]) dX6_entry_37 ?_
  refine lv_i2l hx hb dX6_entry_38 rfl ?_
  refine lv_lstore (lv' := [(8, .long ((mrg (((4 * k) + 1) + 0)).toInt64)), (6, .long ((mrg (((4 * k) + 1) + 2)).toInt64)), (4, .long ((mrg (4 * k)).toInt64)), (0, .ref (ma 0)), (1, .int (nI k)), (2, .int 2), (3, .int 0)]) hx hb dX6_entry_39 hl (by decide) rfl (fun ls hl => ?_)
  refine lv_iload_n hx hb dX6_entry_41 rfl (lv_at hl 5 rfl) ?_
  refine lv_iload_n hx hb dX6_entry_42 rfl (lv_at hl 6 rfl) ?_
  refine lv_icmp_ne (tgt := 125) hx hb dX6_entry_43 (by decide) (fun c_43 => ?_) (fun c_43 => ?_)
  · skip
    refine lv_iconst (v := 3) hx hb dX6_entry_125 (by decide) ?_
    refine lv_iload_n hx hb dX6_entry_126 rfl (lv_at hl 5 rfl) ?_
    refine lv_isub hx hb dX6_entry_127 ?_
    refine W.eq (g2 := F0 m 128 ls [.int 1]) rfl ?_
    refine lv_iload_n hx hb dX6_entry_128 rfl (lv_at hl 6 rfl) ?_
    refine lv_isub hx hb dX6_entry_129 ?_
    refine W.eq (g2 := F0 m 130 ls [.int 1]) rfl ?_
    refine lv_istore (lv' := [(10, .int 1), (8, .long ((mrg (((4 * k) + 1) + 0)).toInt64)), (6, .long ((mrg (((4 * k) + 1) + 2)).toInt64)), (4, .long ((mrg (4 * k)).toInt64)), (0, .ref (ma 0)), (1, .int (nI k)), (2, .int 2), (3, .int 0)]) hx hb dX6_entry_130 hl (by decide) rfl (fun ls hl => ?_)
    refine lv_aload_n hx hb dX6_entry_132 rfl (lv_at hl 4 rfl) ?_
    refine h_get hx hb hE hw hts hinX6 hown (ci := 6) rfl 3 (by decide) lk_20 (fun _ h9 => h9) hM.ob rfl dX6_entry_133 ?_
    refine lv_iconst (v := 4) hx hb dX6_entry_136 (by decide) ?_
    refine lv_iload_n hx hb dX6_entry_137 rfl (lv_at hl 5 rfl) ?_
    refine h_imulN hx hb 4 k dX6_entry_138 ?_
    refine lv_iconst (v := 1) hx hb dX6_entry_139 (by decide) ?_
    refine h_iaddN hx hb (4 * k) 1 dX6_entry_140 ?_
    refine lv_iload hx hb dX6_entry_141 (lv_at hl 0 rfl) ?_
    refine h_iaddN hx hb ((4 * k) + 1) 1 dX6_entry_143 ?_
    refine h_iald hx hb hE hw hM.rg (vp_in_nI (n := (((4 * k) + 1) + 1)) (N := 64) (by omega) (by decide)) (v := mrg (((4 * k) + 1) + 1)) (by rw [nI_clamp (by omega)]) dX6_entry_144 ?_
    refine lv_i2l hx hb dX6_entry_145 rfl ?_
    refine lv_lstore (lv' := [(11, .long ((mrg (((4 * k) + 1) + 1)).toInt64)), (10, .int 1), (8, .long ((mrg (((4 * k) + 1) + 0)).toInt64)), (6, .long ((mrg (((4 * k) + 1) + 2)).toInt64)), (4, .long ((mrg (4 * k)).toInt64)), (0, .ref (ma 0)), (1, .int (nI k)), (2, .int 2), (3, .int 0)]) hx hb dX6_entry_146 hl (by decide) rfl (fun ls hl => ?_)
    refine lv_iload_n hx hb dX6_entry_148 rfl (lv_at hl 8 rfl) ?_
    refine lv_iload_n hx hb dX6_entry_149 rfl (lv_at hl 7 rfl) ?_
    refine lv_iconst (v := 1) hx hb dX6_entry_150 (by decide) ?_
    refine lv_iadd hx hb dX6_entry_151 ?_
    refine W.eq (g2 := F0 m 152 ls [.int 3, .int 0]) rfl ?_
    refine lv_iconst (v := 3) hx hb dX6_entry_152 (by decide) ?_
    refine lv_irem hx hb dX6_entry_153 (by decide) ?_
    refine W.eq (g2 := F0 m 154 ls [.int 0, .int 0]) rfl ?_
    refine lv_icmp_ne (tgt := 161) hx hb dX6_entry_154 (by decide) (fun c_154 => ?_) (fun c_154 => ?_)
    · skip
      first | exact absurd c_154 (by decide) | exact absurd (by decide) c_154
    · skip
      refine lv_iconst (v := 1) hx hb dX6_entry_157 (by decide) ?_
      refine lv_goto (tgt := 162) hx hb dX6_entry_158 (by decide) ?_
      refine lv_istore (lv' := [(13, .int 1), (11, .long ((mrg (((4 * k) + 1) + 1)).toInt64)), (10, .int 1), (8, .long ((mrg (((4 * k) + 1) + 0)).toInt64)), (6, .long ((mrg (((4 * k) + 1) + 2)).toInt64)), (4, .long ((mrg (4 * k)).toInt64)), (0, .ref (ma 0)), (1, .int (nI k)), (2, .int 2), (3, .int 0)]) hx hb dX6_entry_162 hl (by decide) rfl (fun ls hl => ?_)
      refine lv_lload hx hb dX6_entry_164 (lv_at hl 4 rfl) ?_
      refine lv_lload hx hb dX6_entry_166 (lv_at hl 3 rfl) ?_
      refine lv_lmul hx hb dX6_entry_168 ?_
      refine lv_iload hx hb dX6_entry_169 (lv_at hl 0 rfl) ?_
      refine lv_if_eq (tgt := 183) hx hb dX6_entry_171 (by decide) (fun c_171 => ?_) (fun c_171 => ?_)
      · skip
        first | exact absurd c_171 (by decide) | exact absurd (by decide) c_171
      · skip
        refine lv_lload hx hb dX6_entry_174 (lv_at hl 5 rfl) ?_
        refine lv_lneg hx hb dX6_entry_176 ?_
        refine lv_lload hx hb dX6_entry_177 (lv_at hl 1 rfl) ?_
        refine lv_lmul hx hb dX6_entry_179 ?_
        refine lv_goto (tgt := 188) hx hb dX6_entry_180 (by decide) ?_
        refine lv_ladd hx hb dX6_entry_188 ?_
        refine lv_ldc2 hx hb (v := (2)) hown cl_77 dX6_entry_189 ?_
        refine lv_ldiv hx hb dX6_entry_192 (by decide) ?_
        exact h_lretP hx hb hlk hr hw dX6_entry_193 (congrArg (fun y => some (Value.long y)) (en_6 (mrg (4 * k)).toInt64 (mrg (4 * k + 1)).toInt64 (mrg (4 * k + 2)).toInt64 (mrg (4 * k + 3)).toInt64)) ⟨_, hM⟩
  · skip
    first | exact absurd c_43 (by decide) | exact absurd (by decide) c_43

set_option maxHeartbeats 4000000 in
set_option maxRecDepth 100000 in
theorem c_X6_entry_21 (l : Launch) (G : GG) (A : Nat → Prop) (ma : Nat → Nat) (F : FM) (mk msz : Nat → Int32) (msh : Nat → Int64) (mrg : Nat → Int32) (mfc mmd : Nat → Int64) (mv : Nat → Q4) (mcn : Int32) (hM : MW G ma (mk, msz, msh, mrg, mfc, mmd, mv, mcn) F) (k : Nat) (hk : k < 16) : PT l yX6_entry wsX6_entry { frames := 1, cells := 0, slots := 0, locals := 23 } G A (ML ma) [.ref (ma 0), .int (nI k), .int 2, .int 1] F (some (.long (qtn (rgq mrg k) 7))) (fun F2 => ∃ mv2 : Nat → Q4, MW G ma (mk, msz, msh, mrg, mfc, mmd, mv2, mcn) F2) := by
  refine PT.ofW (cc := cX6_entry) (maxL := 14) (ret := (some .long)) (plainFor_of_name (by decide)) rfl (Nat.le_of_ble_eq_true rfl) ?_
  intro p e s m below meth c ls hx hb hr hml hown hts hlk hE hw hl
  have hl : lv_has ls 14 [(0, .ref (ma 0)), (1, .int (nI k)), (2, .int 2), (3, .int 1)] := hl
  have hown : s.vm.findClass RX6 = some m.cls := hown
  have lk_20 := hts (.fieldLink RX6 20 "FourPartsModel" "registers" "[I") (by decide +kernel)
  have hinX6 : ∀ w ∈ u_ws RX6 TX6 18, w ∈ wsX6_entry := by decide +kernel
  have cl_77 := hts (.constantLong RX6 77 (2)) (by decide +kernel)
  refine lv_aload_n hx hb dX6_entry_0 rfl (lv_at hl 0 rfl) ?_
  refine h_get hx hb hE hw hts hinX6 hown (ci := 6) rfl 3 (by decide) lk_20 (fun _ h9 => h9) hM.ob rfl dX6_entry_1 ?_
  refine lv_iconst (v := 4) hx hb dX6_entry_4 (by decide) ?_
  refine lv_iload_n hx hb dX6_entry_5 rfl (lv_at hl 1 rfl) ?_
  refine h_imulN hx hb 4 k dX6_entry_6 ?_
  refine h_iald hx hb hE hw hM.rg (vp_in_nI (n := (4 * k)) (N := 64) (by omega) (by decide)) (v := mrg (4 * k)) (by rw [nI_clamp (by omega)]) dX6_entry_7 ?_
  refine lv_i2l hx hb dX6_entry_8 rfl ?_
  refine lv_lstore (lv' := [(4, .long ((mrg (4 * k)).toInt64)), (0, .ref (ma 0)), (1, .int (nI k)), (2, .int 2), (3, .int 1)]) hx hb dX6_entry_9 hl (by decide) rfl (fun ls hl => ?_)
  refine lv_aload_n hx hb dX6_entry_11 rfl (lv_at hl 1 rfl) ?_
  refine h_get hx hb hE hw hts hinX6 hown (ci := 6) rfl 3 (by decide) lk_20 (fun _ h9 => h9) hM.ob rfl dX6_entry_12 ?_
  refine lv_iconst (v := 4) hx hb dX6_entry_15 (by decide) ?_
  refine lv_iload_n hx hb dX6_entry_16 rfl (lv_at hl 2 rfl) ?_
  refine h_imulN hx hb 4 k dX6_entry_17 ?_
  refine lv_iconst (v := 1) hx hb dX6_entry_18 (by decide) ?_
  refine h_iaddN hx hb (4 * k) 1 dX6_entry_19 ?_
  refine lv_iload_n hx hb dX6_entry_20 rfl (lv_at hl 3 rfl) ?_
  refine h_iaddN hx hb ((4 * k) + 1) 2 dX6_entry_21 ?_
  refine h_iald hx hb hE hw hM.rg (vp_in_nI (n := (((4 * k) + 1) + 2)) (N := 64) (by omega) (by decide)) (v := mrg (((4 * k) + 1) + 2)) (by rw [nI_clamp (by omega)]) dX6_entry_22 ?_
  refine lv_i2l hx hb dX6_entry_23 rfl ?_
  refine lv_lstore (lv' := [(6, .long ((mrg (((4 * k) + 1) + 2)).toInt64)), (4, .long ((mrg (4 * k)).toInt64)), (0, .ref (ma 0)), (1, .int (nI k)), (2, .int 2), (3, .int 1)]) hx hb dX6_entry_24 hl (by decide) rfl (fun ls hl => ?_)
  refine lv_aload_n hx hb dX6_entry_26 rfl (lv_at hl 2 rfl) ?_
  refine h_get hx hb hE hw hts hinX6 hown (ci := 6) rfl 3 (by decide) lk_20 (fun _ h9 => h9) hM.ob rfl dX6_entry_27 ?_
  refine lv_iconst (v := 4) hx hb dX6_entry_30 (by decide) ?_
  refine lv_iload_n hx hb dX6_entry_31 rfl (lv_at hl 3 rfl) ?_
  refine h_imulN hx hb 4 k dX6_entry_32 ?_
  refine lv_iconst (v := 1) hx hb dX6_entry_33 (by decide) ?_
  refine h_iaddN hx hb (4 * k) 1 dX6_entry_34 ?_
  refine lv_iload_n hx hb dX6_entry_35 rfl (lv_at hl 5 rfl) ?_
  refine h_iaddN hx hb ((4 * k) + 1) 1 dX6_entry_36 ?_
  refine h_iald hx hb hE hw hM.rg (vp_in_nI (n := (((4 * k) + 1) + 1)) (N := 64) (by omega) (by decide)) (v := mrg (((4 * k) + 1) + 1)) (by rw [nI_clamp (by omega)]) dX6_entry_37 ?_
  refine lv_i2l hx hb dX6_entry_38 rfl ?_
  refine lv_lstore (lv' := [(8, .long ((mrg (((4 * k) + 1) + 1)).toInt64)), (6, .long ((mrg (((4 * k) + 1) + 2)).toInt64)), (4, .long ((mrg (4 * k)).toInt64)), (0, .ref (ma 0)), (1, .int (nI k)), (2, .int 2), (3, .int 1)]) hx hb dX6_entry_39 hl (by decide) rfl (fun ls hl => ?_)
  refine lv_iload_n hx hb dX6_entry_41 rfl (lv_at hl 5 rfl) ?_
  refine lv_iload_n hx hb dX6_entry_42 rfl (lv_at hl 6 rfl) ?_
  refine lv_icmp_ne (tgt := 125) hx hb dX6_entry_43 (by decide) (fun c_43 => ?_) (fun c_43 => ?_)
  · skip
    refine lv_iconst (v := 3) hx hb dX6_entry_125 (by decide) ?_
    refine lv_iload_n hx hb dX6_entry_126 rfl (lv_at hl 5 rfl) ?_
    refine lv_isub hx hb dX6_entry_127 ?_
    refine W.eq (g2 := F0 m 128 ls [.int 1]) rfl ?_
    refine lv_iload_n hx hb dX6_entry_128 rfl (lv_at hl 6 rfl) ?_
    refine lv_isub hx hb dX6_entry_129 ?_
    refine W.eq (g2 := F0 m 130 ls [.int 0]) rfl ?_
    refine lv_istore (lv' := [(10, .int 0), (8, .long ((mrg (((4 * k) + 1) + 1)).toInt64)), (6, .long ((mrg (((4 * k) + 1) + 2)).toInt64)), (4, .long ((mrg (4 * k)).toInt64)), (0, .ref (ma 0)), (1, .int (nI k)), (2, .int 2), (3, .int 1)]) hx hb dX6_entry_130 hl (by decide) rfl (fun ls hl => ?_)
    refine lv_aload_n hx hb dX6_entry_132 rfl (lv_at hl 4 rfl) ?_
    refine h_get hx hb hE hw hts hinX6 hown (ci := 6) rfl 3 (by decide) lk_20 (fun _ h9 => h9) hM.ob rfl dX6_entry_133 ?_
    refine lv_iconst (v := 4) hx hb dX6_entry_136 (by decide) ?_
    refine lv_iload_n hx hb dX6_entry_137 rfl (lv_at hl 5 rfl) ?_
    refine h_imulN hx hb 4 k dX6_entry_138 ?_
    refine lv_iconst (v := 1) hx hb dX6_entry_139 (by decide) ?_
    refine h_iaddN hx hb (4 * k) 1 dX6_entry_140 ?_
    refine lv_iload hx hb dX6_entry_141 (lv_at hl 0 rfl) ?_
    refine h_iaddN hx hb ((4 * k) + 1) 0 dX6_entry_143 ?_
    refine h_iald hx hb hE hw hM.rg (vp_in_nI (n := (((4 * k) + 1) + 0)) (N := 64) (by omega) (by decide)) (v := mrg (((4 * k) + 1) + 0)) (by rw [nI_clamp (by omega)]) dX6_entry_144 ?_
    refine lv_i2l hx hb dX6_entry_145 rfl ?_
    refine lv_lstore (lv' := [(11, .long ((mrg (((4 * k) + 1) + 0)).toInt64)), (10, .int 0), (8, .long ((mrg (((4 * k) + 1) + 1)).toInt64)), (6, .long ((mrg (((4 * k) + 1) + 2)).toInt64)), (4, .long ((mrg (4 * k)).toInt64)), (0, .ref (ma 0)), (1, .int (nI k)), (2, .int 2), (3, .int 1)]) hx hb dX6_entry_146 hl (by decide) rfl (fun ls hl => ?_)
    refine lv_iload_n hx hb dX6_entry_148 rfl (lv_at hl 8 rfl) ?_
    refine lv_iload_n hx hb dX6_entry_149 rfl (lv_at hl 7 rfl) ?_
    refine lv_iconst (v := 1) hx hb dX6_entry_150 (by decide) ?_
    refine lv_iadd hx hb dX6_entry_151 ?_
    refine W.eq (g2 := F0 m 152 ls [.int 3, .int 1]) rfl ?_
    refine lv_iconst (v := 3) hx hb dX6_entry_152 (by decide) ?_
    refine lv_irem hx hb dX6_entry_153 (by decide) ?_
    refine W.eq (g2 := F0 m 154 ls [.int 0, .int 1]) rfl ?_
    refine lv_icmp_ne (tgt := 161) hx hb dX6_entry_154 (by decide) (fun c_154 => ?_) (fun c_154 => ?_)
    · skip
      refine lv_iconst (v := 0) hx hb dX6_entry_161 (by decide) ?_
      refine lv_istore (lv' := [(13, .int 0), (11, .long ((mrg (((4 * k) + 1) + 0)).toInt64)), (10, .int 0), (8, .long ((mrg (((4 * k) + 1) + 1)).toInt64)), (6, .long ((mrg (((4 * k) + 1) + 2)).toInt64)), (4, .long ((mrg (4 * k)).toInt64)), (0, .ref (ma 0)), (1, .int (nI k)), (2, .int 2), (3, .int 1)]) hx hb dX6_entry_162 hl (by decide) rfl (fun ls hl => ?_)
      refine lv_lload hx hb dX6_entry_164 (lv_at hl 4 rfl) ?_
      refine lv_lload hx hb dX6_entry_166 (lv_at hl 3 rfl) ?_
      refine lv_lmul hx hb dX6_entry_168 ?_
      refine lv_iload hx hb dX6_entry_169 (lv_at hl 0 rfl) ?_
      refine lv_if_eq (tgt := 183) hx hb dX6_entry_171 (by decide) (fun c_171 => ?_) (fun c_171 => ?_)
      · skip
        refine lv_lload hx hb dX6_entry_183 (lv_at hl 5 rfl) ?_
        refine lv_lload hx hb dX6_entry_185 (lv_at hl 1 rfl) ?_
        refine lv_lmul hx hb dX6_entry_187 ?_
        refine lv_ladd hx hb dX6_entry_188 ?_
        refine lv_ldc2 hx hb (v := (2)) hown cl_77 dX6_entry_189 ?_
        refine lv_ldiv hx hb dX6_entry_192 (by decide) ?_
        exact h_lretP hx hb hlk hr hw dX6_entry_193 (congrArg (fun y => some (Value.long y)) (en_7 (mrg (4 * k)).toInt64 (mrg (4 * k + 1)).toInt64 (mrg (4 * k + 2)).toInt64 (mrg (4 * k + 3)).toInt64)) ⟨_, hM⟩
      · skip
        first | exact absurd c_171 (by decide) | exact absurd (by decide) c_171
    · skip
      first | exact absurd c_154 (by decide) | exact absurd (by decide) c_154
  · skip
    first | exact absurd c_43 (by decide) | exact absurd (by decide) c_43

set_option maxHeartbeats 4000000 in
set_option maxRecDepth 100000 in
theorem c_X6_entry_22 (l : Launch) (G : GG) (A : Nat → Prop) (ma : Nat → Nat) (F : FM) (mk msz : Nat → Int32) (msh : Nat → Int64) (mrg : Nat → Int32) (mfc mmd : Nat → Int64) (mv : Nat → Q4) (mcn : Int32) (hM : MW G ma (mk, msz, msh, mrg, mfc, mmd, mv, mcn) F) (k : Nat) (hk : k < 16) : PT l yX6_entry wsX6_entry { frames := 1, cells := 0, slots := 0, locals := 23 } G A (ML ma) [.ref (ma 0), .int (nI k), .int 2, .int 2] F (some (.long (qtn (rgq mrg k) 8))) (fun F2 => ∃ mv2 : Nat → Q4, MW G ma (mk, msz, msh, mrg, mfc, mmd, mv2, mcn) F2) := by
  refine PT.ofW (cc := cX6_entry) (maxL := 14) (ret := (some .long)) (plainFor_of_name (by decide)) rfl (Nat.le_of_ble_eq_true rfl) ?_
  intro p e s m below meth c ls hx hb hr hml hown hts hlk hE hw hl
  have hl : lv_has ls 14 [(0, .ref (ma 0)), (1, .int (nI k)), (2, .int 2), (3, .int 2)] := hl
  have hown : s.vm.findClass RX6 = some m.cls := hown
  have lk_20 := hts (.fieldLink RX6 20 "FourPartsModel" "registers" "[I") (by decide +kernel)
  have hinX6 : ∀ w ∈ u_ws RX6 TX6 18, w ∈ wsX6_entry := by decide +kernel
  have lk_32 := hts (.fieldLink RX6 32 "FourPartsModel" "x" "[J") (by decide +kernel)
  have cl_77 := hts (.constantLong RX6 77 (2)) (by decide +kernel)
  have cl_106 := hts (.constantLong RX6 106 (4)) (by decide +kernel)
  refine lv_aload_n hx hb dX6_entry_0 rfl (lv_at hl 0 rfl) ?_
  refine h_get hx hb hE hw hts hinX6 hown (ci := 6) rfl 3 (by decide) lk_20 (fun _ h9 => h9) hM.ob rfl dX6_entry_1 ?_
  refine lv_iconst (v := 4) hx hb dX6_entry_4 (by decide) ?_
  refine lv_iload_n hx hb dX6_entry_5 rfl (lv_at hl 1 rfl) ?_
  refine h_imulN hx hb 4 k dX6_entry_6 ?_
  refine h_iald hx hb hE hw hM.rg (vp_in_nI (n := (4 * k)) (N := 64) (by omega) (by decide)) (v := mrg (4 * k)) (by rw [nI_clamp (by omega)]) dX6_entry_7 ?_
  refine lv_i2l hx hb dX6_entry_8 rfl ?_
  refine lv_lstore (lv' := [(4, .long ((mrg (4 * k)).toInt64)), (0, .ref (ma 0)), (1, .int (nI k)), (2, .int 2), (3, .int 2)]) hx hb dX6_entry_9 hl (by decide) rfl (fun ls hl => ?_)
  refine lv_aload_n hx hb dX6_entry_11 rfl (lv_at hl 1 rfl) ?_
  refine h_get hx hb hE hw hts hinX6 hown (ci := 6) rfl 3 (by decide) lk_20 (fun _ h9 => h9) hM.ob rfl dX6_entry_12 ?_
  refine lv_iconst (v := 4) hx hb dX6_entry_15 (by decide) ?_
  refine lv_iload_n hx hb dX6_entry_16 rfl (lv_at hl 2 rfl) ?_
  refine h_imulN hx hb 4 k dX6_entry_17 ?_
  refine lv_iconst (v := 1) hx hb dX6_entry_18 (by decide) ?_
  refine h_iaddN hx hb (4 * k) 1 dX6_entry_19 ?_
  refine lv_iload_n hx hb dX6_entry_20 rfl (lv_at hl 3 rfl) ?_
  refine h_iaddN hx hb ((4 * k) + 1) 2 dX6_entry_21 ?_
  refine h_iald hx hb hE hw hM.rg (vp_in_nI (n := (((4 * k) + 1) + 2)) (N := 64) (by omega) (by decide)) (v := mrg (((4 * k) + 1) + 2)) (by rw [nI_clamp (by omega)]) dX6_entry_22 ?_
  refine lv_i2l hx hb dX6_entry_23 rfl ?_
  refine lv_lstore (lv' := [(6, .long ((mrg (((4 * k) + 1) + 2)).toInt64)), (4, .long ((mrg (4 * k)).toInt64)), (0, .ref (ma 0)), (1, .int (nI k)), (2, .int 2), (3, .int 2)]) hx hb dX6_entry_24 hl (by decide) rfl (fun ls hl => ?_)
  refine lv_aload_n hx hb dX6_entry_26 rfl (lv_at hl 2 rfl) ?_
  refine h_get hx hb hE hw hts hinX6 hown (ci := 6) rfl 3 (by decide) lk_20 (fun _ h9 => h9) hM.ob rfl dX6_entry_27 ?_
  refine lv_iconst (v := 4) hx hb dX6_entry_30 (by decide) ?_
  refine lv_iload_n hx hb dX6_entry_31 rfl (lv_at hl 3 rfl) ?_
  refine h_imulN hx hb 4 k dX6_entry_32 ?_
  refine lv_iconst (v := 1) hx hb dX6_entry_33 (by decide) ?_
  refine h_iaddN hx hb (4 * k) 1 dX6_entry_34 ?_
  refine lv_iload_n hx hb dX6_entry_35 rfl (lv_at hl 5 rfl) ?_
  refine h_iaddN hx hb ((4 * k) + 1) 2 dX6_entry_36 ?_
  refine h_iald hx hb hE hw hM.rg (vp_in_nI (n := (((4 * k) + 1) + 2)) (N := 64) (by omega) (by decide)) (v := mrg (((4 * k) + 1) + 2)) (by rw [nI_clamp (by omega)]) dX6_entry_37 ?_
  refine lv_i2l hx hb dX6_entry_38 rfl ?_
  refine lv_lstore (lv' := [(8, .long ((mrg (((4 * k) + 1) + 2)).toInt64)), (6, .long ((mrg (((4 * k) + 1) + 2)).toInt64)), (4, .long ((mrg (4 * k)).toInt64)), (0, .ref (ma 0)), (1, .int (nI k)), (2, .int 2), (3, .int 2)]) hx hb dX6_entry_39 hl (by decide) rfl (fun ls hl => ?_)
  refine lv_iload_n hx hb dX6_entry_41 rfl (lv_at hl 5 rfl) ?_
  refine lv_iload_n hx hb dX6_entry_42 rfl (lv_at hl 6 rfl) ?_
  refine lv_icmp_ne (tgt := 125) hx hb dX6_entry_43 (by decide) (fun c_43 => ?_) (fun c_43 => ?_)
  · skip
    first | exact absurd c_43 (by decide) | exact absurd (by decide) c_43
  · skip
    refine lv_aload_n hx hb dX6_entry_46 rfl (lv_at hl 3 rfl) ?_
    refine lv_aload_n hx hb dX6_entry_47 rfl (lv_at hl 3 rfl) ?_
    refine h_get hx hb hE hw hts hinX6 hown (ci := 6) rfl 8 (by decide) lk_32 (fun _ h9 => h9) hM.ob rfl dX6_entry_48 ?_
    refine lv_iload_n hx hb dX6_entry_51 rfl (lv_at hl 4 rfl) ?_
    refine h_callV (st1 := []) [.ref (ma 8), .int (nI k)] [] ⟨hx, hb, hml, hown, hts⟩ hE hw (c_X6_load l G A ma F _ _ _ _ _ _ _ _ hM 8 k (by decide) (by decide) hk) (cwV 2 hts gX6_entry_X6_load rfl rfl rfl (by decide +kernel) ⟨Nat.le_of_ble_eq_true rfl, Nat.le_of_ble_eq_true rfl⟩) hM.ob rfl rfl rfl hl.1 rfl (Nat.le_of_ble_eq_true rfl) dX6_entry_52 ⟨Nat.le_of_ble_eq_true rfl, Nat.le_of_ble_eq_true rfl⟩ rfl (fun H locs hw => ?_)
    refine lv_aload_n hx hb dX6_entry_55 rfl (lv_at hl 3 rfl) ?_
    refine h_get hx hb hE hw hts hinX6 hown (ci := 6) rfl 8 (by decide) lk_32 (fun _ h9 => h9) (pt_ne hM.ob (hM.ne (i := 0) (j := 8) (by decide) (by decide) (by decide))) rfl dX6_entry_56 ?_
    refine lv_iconst (v := 0) hx hb dX6_entry_59 (by decide) ?_
    refine h_lald hx hb hE hw (pt_up (hM.v (i := 8) (by decide) (by decide))) (n := 4) (vp_in_nI (n := 0) (N := 4) (by decide) (by decide)) (v := (rgq mrg k).1) rfl dX6_entry_60 ?_
    refine lv_aload_n hx hb dX6_entry_61 rfl (lv_at hl 3 rfl) ?_
    refine h_get hx hb hE hw hts hinX6 hown (ci := 6) rfl 8 (by decide) lk_32 (fun _ h9 => h9) (pt_ne hM.ob (hM.ne (i := 0) (j := 8) (by decide) (by decide) (by decide))) rfl dX6_entry_62 ?_
    refine lv_iconst (v := 0) hx hb dX6_entry_65 (by decide) ?_
    refine h_lald hx hb hE hw (pt_up (hM.v (i := 8) (by decide) (by decide))) (n := 4) (vp_in_nI (n := 0) (N := 4) (by decide) (by decide)) (v := (rgq mrg k).1) rfl dX6_entry_66 ?_
    refine lv_lmul hx hb dX6_entry_67 ?_
    refine lv_aload_n hx hb dX6_entry_68 rfl (lv_at hl 3 rfl) ?_
    refine h_get hx hb hE hw hts hinX6 hown (ci := 6) rfl 8 (by decide) lk_32 (fun _ h9 => h9) (pt_ne hM.ob (hM.ne (i := 0) (j := 8) (by decide) (by decide) (by decide))) rfl dX6_entry_69 ?_
    refine lv_iconst (v := 1) hx hb dX6_entry_72 (by decide) ?_
    refine h_lald hx hb hE hw (pt_up (hM.v (i := 8) (by decide) (by decide))) (n := 4) (vp_in_nI (n := 1) (N := 4) (by decide) (by decide)) (v := (rgq mrg k).2.1) rfl dX6_entry_73 ?_
    refine lv_aload_n hx hb dX6_entry_74 rfl (lv_at hl 3 rfl) ?_
    refine h_get hx hb hE hw hts hinX6 hown (ci := 6) rfl 8 (by decide) lk_32 (fun _ h9 => h9) (pt_ne hM.ob (hM.ne (i := 0) (j := 8) (by decide) (by decide) (by decide))) rfl dX6_entry_75 ?_
    refine lv_iconst (v := 1) hx hb dX6_entry_78 (by decide) ?_
    refine h_lald hx hb hE hw (pt_up (hM.v (i := 8) (by decide) (by decide))) (n := 4) (vp_in_nI (n := 1) (N := 4) (by decide) (by decide)) (v := (rgq mrg k).2.1) rfl dX6_entry_79 ?_
    refine lv_lmul hx hb dX6_entry_80 ?_
    refine lv_lsub hx hb dX6_entry_81 ?_
    refine lv_aload_n hx hb dX6_entry_82 rfl (lv_at hl 3 rfl) ?_
    refine h_get hx hb hE hw hts hinX6 hown (ci := 6) rfl 8 (by decide) lk_32 (fun _ h9 => h9) (pt_ne hM.ob (hM.ne (i := 0) (j := 8) (by decide) (by decide) (by decide))) rfl dX6_entry_83 ?_
    refine lv_iconst (v := 2) hx hb dX6_entry_86 (by decide) ?_
    refine h_lald hx hb hE hw (pt_up (hM.v (i := 8) (by decide) (by decide))) (n := 4) (vp_in_nI (n := 2) (N := 4) (by decide) (by decide)) (v := (rgq mrg k).2.2.1) rfl dX6_entry_87 ?_
    refine lv_aload_n hx hb dX6_entry_88 rfl (lv_at hl 3 rfl) ?_
    refine h_get hx hb hE hw hts hinX6 hown (ci := 6) rfl 8 (by decide) lk_32 (fun _ h9 => h9) (pt_ne hM.ob (hM.ne (i := 0) (j := 8) (by decide) (by decide) (by decide))) rfl dX6_entry_89 ?_
    refine lv_iconst (v := 2) hx hb dX6_entry_92 (by decide) ?_
    refine h_lald hx hb hE hw (pt_up (hM.v (i := 8) (by decide) (by decide))) (n := 4) (vp_in_nI (n := 2) (N := 4) (by decide) (by decide)) (v := (rgq mrg k).2.2.1) rfl dX6_entry_93 ?_
    refine lv_lmul hx hb dX6_entry_94 ?_
    refine lv_lsub hx hb dX6_entry_95 ?_
    refine lv_aload_n hx hb dX6_entry_96 rfl (lv_at hl 3 rfl) ?_
    refine h_get hx hb hE hw hts hinX6 hown (ci := 6) rfl 8 (by decide) lk_32 (fun _ h9 => h9) (pt_ne hM.ob (hM.ne (i := 0) (j := 8) (by decide) (by decide) (by decide))) rfl dX6_entry_97 ?_
    refine lv_iconst (v := 3) hx hb dX6_entry_100 (by decide) ?_
    refine h_lald hx hb hE hw (pt_up (hM.v (i := 8) (by decide) (by decide))) (n := 4) (vp_in_nI (n := 3) (N := 4) (by decide) (by decide)) (v := (rgq mrg k).2.2.2) rfl dX6_entry_101 ?_
    refine lv_aload_n hx hb dX6_entry_102 rfl (lv_at hl 3 rfl) ?_
    refine h_get hx hb hE hw hts hinX6 hown (ci := 6) rfl 8 (by decide) lk_32 (fun _ h9 => h9) (pt_ne hM.ob (hM.ne (i := 0) (j := 8) (by decide) (by decide) (by decide))) rfl dX6_entry_103 ?_
    refine lv_iconst (v := 3) hx hb dX6_entry_106 (by decide) ?_
    refine h_lald hx hb hE hw (pt_up (hM.v (i := 8) (by decide) (by decide))) (n := 4) (vp_in_nI (n := 3) (N := 4) (by decide) (by decide)) (v := (rgq mrg k).2.2.2) rfl dX6_entry_107 ?_
    refine lv_lmul hx hb dX6_entry_108 ?_
    refine lv_lsub hx hb dX6_entry_109 ?_
    refine lv_ldc2 hx hb (v := (2)) hown cl_77 dX6_entry_110 ?_
    refine lv_lload hx hb dX6_entry_113 (lv_at hl 1 rfl) ?_
    refine lv_lmul hx hb dX6_entry_115 ?_
    refine lv_lload hx hb dX6_entry_116 (lv_at hl 1 rfl) ?_
    refine lv_lmul hx hb dX6_entry_118 ?_
    refine lv_ladd hx hb dX6_entry_119 ?_
    refine lv_ldc2 hx hb (v := (4)) hown cl_106 dX6_entry_120 ?_
    refine lv_ldiv hx hb dX6_entry_123 (by decide) ?_
    exact h_lretP hx hb hlk hr hw dX6_entry_124 (congrArg (fun y => some (Value.long y)) (en_8 (mrg (4 * k)).toInt64 (mrg (4 * k + 1)).toInt64 (mrg (4 * k + 2)).toInt64 (mrg (4 * k + 3)).toInt64)) ⟨_, (MW.setv hM (i := 8) (by decide) (by decide) (rgq mrg k))⟩

set_option maxHeartbeats 4000000 in
set_option maxRecDepth 100000 in
theorem c_X6_turn (l : Launch) (G : GG) (A : Nat → Prop) (ma : Nat → Nat) (F : FM) (rg : Nat → Q4) (kd : Nat → Int32) (z : Nat → Nat) (pl : Nat → Nat → Int64) (cnt : Nat) (hR : MR G ma (rg, kd, z, pl, cnt) F) (hz : ∀ k, k < 6 → z k ≤ 16) (hkd : ∀ k, k < 6 → kd k = -1 ∨ 0 ≤ kd k) (hc12 : cnt ≤ 12) (vs : Int32) (vi : Int32) (vj : Int32) : PT l yX6_turn wsX6_turn { frames := 2, cells := 0, slots := 0, locals := 56 } G A (ML ma) [.ref (ma 0), .int vs, .int vi, .int vj] F (some (.int (sp_turn (rg, kd, z, pl, cnt) vs vi vj).1)) (MR G ma (sp_turn (rg, kd, z, pl, cnt) vs vi vj).2) := by
  refine PT.ofW (cc := cX6_turn) (maxL := 4) (ret := (some .int)) (plainFor_of_name (by decide)) rfl (Nat.le_of_ble_eq_true rfl) ?_
  intro p e s m below meth c ls hx hb hr hml hown hts hlk hE hw hl
  have hl : lv_has ls 4 [(0, .ref (ma 0)), (1, .int vs), (2, .int vi), (3, .int vj)] := hl
  have hown : s.vm.findClass RX6 = some m.cls := hown
  have cl_77 := hts (.constantLong RX6 77 (2)) (by decide +kernel)
  have lk_32 := hts (.fieldLink RX6 32 "FourPartsModel" "x" "[J") (by decide +kernel)
  have hinX6 : ∀ w ∈ u_ws RX6 TX6 18, w ∈ wsX6_turn := by decide +kernel
  obtain ⟨⟨mk, msz, msh, mrg, mfc, mmd, mv, mcn⟩, hM, hrel⟩ := hR
  obtain ⟨hk1, hk2, hk3, hk4, hk5, hk6⟩ := id hrel
  refine lv_iload_n hx hb dX6_turn_0 rfl (lv_at hl 1 rfl) ?_
  rcases ix_cases 16 (by decide) vs with hvs | ⟨kvs, hkvs, rfl⟩
  · skip
    have xvs := ix_none hvs
    refine h_callS (st1 := [.int 0]) [.int vs] [] ⟨hx, hb, hml, hown, hts⟩ hE hw (HT.to (c_X6_isRegister l G A (ML ma) F vs) (V2 := some (.int 0)) (congrArg (fun y => some (Value.int y)) (bI_f (show ¬ inL vs.toInt64 0 15 from inL_out (n := 15) (by decide) hvs))) rfl) (va_cwS 1 hts gX6_turn_X6_isRegister rfl rfl rfl (by decide +kernel) ⟨Nat.le_of_ble_eq_true rfl, Nat.le_of_ble_eq_true rfl⟩) rfl hl.1 rfl (Nat.le_of_ble_eq_true rfl) dX6_turn_1 ⟨Nat.le_of_ble_eq_true rfl, Nat.le_of_ble_eq_true rfl⟩ rfl (fun H locs hw => ?_)
    refine lv_if_eq (tgt := 31) hx hb dX6_turn_4 (by decide) (fun c_4 => ?_) (fun c_4 => ?_)
    · skip
      refine lv_ldc hx hb (v := (-2000000000)) hown (hts (.constant RX6 190 (-2000000000)) (by decide +kernel)) dX6_turn_31 ?_
      exact h_iretP hx hb hlk hr hw dX6_turn_33 (by simp only [sp_turn, xvs, cif_T, not_false_eq_true, and_self, true_and, and_true]) (by simp only [sp_turn, xvs, cif_T, not_false_eq_true, and_self, true_and, and_true]; exact ⟨_, hM, rel_v hrel⟩)
    · skip
      first | exact absurd c_4 (by decide) | exact absurd (by decide) c_4
  · skip
    have xvs := ix_in (n := 16) hkvs (by decide)
    refine h_callS (st1 := [.int 1]) [.int (nI kvs)] [] ⟨hx, hb, hml, hown, hts⟩ hE hw (HT.to (c_X6_isRegister l G A (ML ma) F (nI kvs)) (V2 := some (.int 1)) (congrArg (fun y => some (Value.int y)) (bI_t (show inL (nI kvs).toInt64 0 15 from inL_in (n := 15) (by decide) hkvs))) rfl) (va_cwS 1 hts gX6_turn_X6_isRegister rfl rfl rfl (by decide +kernel) ⟨Nat.le_of_ble_eq_true rfl, Nat.le_of_ble_eq_true rfl⟩) rfl hl.1 rfl (Nat.le_of_ble_eq_true rfl) dX6_turn_1 ⟨Nat.le_of_ble_eq_true rfl, Nat.le_of_ble_eq_true rfl⟩ rfl (fun H locs hw => ?_)
    refine lv_if_eq (tgt := 31) hx hb dX6_turn_4 (by decide) (fun c_4 => ?_) (fun c_4 => ?_)
    · skip
      first | exact absurd c_4 (by decide) | exact absurd (by decide) c_4
    · skip
      refine lv_iload_n hx hb dX6_turn_7 rfl (lv_at hl 2 rfl) ?_
      refine lv_i2l hx hb dX6_turn_8 rfl ?_
      refine lv_lconst (v := 0) hx hb dX6_turn_9 (by decide) ?_
      refine lv_ldc2 hx hb (v := (2)) hown cl_77 dX6_turn_10 ?_
      rcases in_2 vi with hovi | rfl | rfl | rfl
      · skip
        refine h_callS (st1 := [.int 0]) [.long vi.toInt64, .long 0, .long (2)] [] ⟨hx, hb, hml, hown, hts⟩ hE hw (HT.to (c_X6_in l G A (ML ma) F vi.toInt64 0 2) (V2 := some (.int 0)) (congrArg (fun y => some (Value.int y)) (bI_f hovi.1)) rfl) (va_cwS 3 hts gX6_turn_X6_in rfl rfl rfl (by decide +kernel) ⟨Nat.le_of_ble_eq_true rfl, Nat.le_of_ble_eq_true rfl⟩) rfl hl.1 rfl (Nat.le_of_ble_eq_true rfl) dX6_turn_13 ⟨Nat.le_of_ble_eq_true rfl, Nat.le_of_ble_eq_true rfl⟩ rfl (fun H locs hw => ?_)
        refine lv_if_eq (tgt := 31) hx hb dX6_turn_16 (by decide) (fun c_16 => ?_) (fun c_16 => ?_)
        · skip
          refine lv_ldc hx hb (v := (-2000000000)) hown (hts (.constant RX6 190 (-2000000000)) (by decide +kernel)) dX6_turn_31 ?_
          exact h_iretP hx hb hlk hr hw dX6_turn_33 (by simp only [sp_turn, xvs, cif_T, not_false_eq_true, and_self, true_and, and_true, cif_f hovi.2]) (by simp only [sp_turn, xvs, cif_T, not_false_eq_true, and_self, true_and, and_true, cif_f hovi.2]; exact ⟨_, hM, rel_v hrel⟩)
        · skip
          first | exact absurd c_16 (by decide) | exact absurd (by decide) c_16
      · skip
        refine h_callS (st1 := [.int 1]) [.long ((0 : Int32).toInt64), .long 0, .long (2)] [] ⟨hx, hb, hml, hown, hts⟩ hE hw (HT.to (c_X6_in l G A (ML ma) F (0 : Int32).toInt64 0 2) (V2 := some (.int 1)) (congrArg (fun y => some (Value.int y)) (bI_t (show inL (0 : Int32).toInt64 0 2 from ⟨by decide, by decide⟩))) rfl) (va_cwS 3 hts gX6_turn_X6_in rfl rfl rfl (by decide +kernel) ⟨Nat.le_of_ble_eq_true rfl, Nat.le_of_ble_eq_true rfl⟩) rfl hl.1 rfl (Nat.le_of_ble_eq_true rfl) dX6_turn_13 ⟨Nat.le_of_ble_eq_true rfl, Nat.le_of_ble_eq_true rfl⟩ rfl (fun H locs hw => ?_)
        refine lv_if_eq (tgt := 31) hx hb dX6_turn_16 (by decide) (fun c_16 => ?_) (fun c_16 => ?_)
        · skip
          first | exact absurd c_16 (by decide) | exact absurd (by decide) c_16
        · skip
          refine lv_iload_n hx hb dX6_turn_19 rfl (lv_at hl 3 rfl) ?_
          refine lv_i2l hx hb dX6_turn_20 rfl ?_
          refine lv_lconst (v := 0) hx hb dX6_turn_21 (by decide) ?_
          refine lv_ldc2 hx hb (v := (2)) hown cl_77 dX6_turn_22 ?_
          rcases in_2 vj with hovj | rfl | rfl | rfl
          · skip
            refine h_callS (st1 := [.int 0]) [.long vj.toInt64, .long 0, .long (2)] [] ⟨hx, hb, hml, hown, hts⟩ hE hw (HT.to (c_X6_in l G A (ML ma) F vj.toInt64 0 2) (V2 := some (.int 0)) (congrArg (fun y => some (Value.int y)) (bI_f hovj.1)) rfl) (va_cwS 3 hts gX6_turn_X6_in rfl rfl rfl (by decide +kernel) ⟨Nat.le_of_ble_eq_true rfl, Nat.le_of_ble_eq_true rfl⟩) rfl hl.1 rfl (Nat.le_of_ble_eq_true rfl) dX6_turn_25 ⟨Nat.le_of_ble_eq_true rfl, Nat.le_of_ble_eq_true rfl⟩ rfl (fun H locs hw => ?_)
            refine lv_if_ne (tgt := 34) hx hb dX6_turn_28 (by decide) (fun c_28 => ?_) (fun c_28 => ?_)
            · skip
              first | exact absurd c_28 (by decide) | exact absurd (by decide) c_28
            · skip
              refine lv_ldc hx hb (v := (-2000000000)) hown (hts (.constant RX6 190 (-2000000000)) (by decide +kernel)) dX6_turn_31 ?_
              exact h_iretP hx hb hlk hr hw dX6_turn_33 (by simp only [sp_turn, xvs, cif_t (show (¬ (0 : Int32) < 0 ∧ ¬ 2 < (0 : Int32)) by decide), cif_T, not_false_eq_true, and_self, true_and, and_true, cif_f hovj.2]) (by simp only [sp_turn, xvs, cif_t (show (¬ (0 : Int32) < 0 ∧ ¬ 2 < (0 : Int32)) by decide), cif_T, not_false_eq_true, and_self, true_and, and_true, cif_f hovj.2]; exact ⟨_, hM, rel_v hrel⟩)
          · skip
            refine h_callS (st1 := [.int 1]) [.long ((0 : Int32).toInt64), .long 0, .long (2)] [] ⟨hx, hb, hml, hown, hts⟩ hE hw (HT.to (c_X6_in l G A (ML ma) F (0 : Int32).toInt64 0 2) (V2 := some (.int 1)) (congrArg (fun y => some (Value.int y)) (bI_t (show inL (0 : Int32).toInt64 0 2 from ⟨by decide, by decide⟩))) rfl) (va_cwS 3 hts gX6_turn_X6_in rfl rfl rfl (by decide +kernel) ⟨Nat.le_of_ble_eq_true rfl, Nat.le_of_ble_eq_true rfl⟩) rfl hl.1 rfl (Nat.le_of_ble_eq_true rfl) dX6_turn_25 ⟨Nat.le_of_ble_eq_true rfl, Nat.le_of_ble_eq_true rfl⟩ rfl (fun H locs hw => ?_)
            refine lv_if_ne (tgt := 34) hx hb dX6_turn_28 (by decide) (fun c_28 => ?_) (fun c_28 => ?_)
            · skip
              refine lv_aload_n hx hb dX6_turn_34 rfl (lv_at hl 0 rfl) ?_
              refine lv_aload_n hx hb dX6_turn_35 rfl (lv_at hl 0 rfl) ?_
              refine h_get hx hb hE hw hts hinX6 hown (ci := 6) rfl 8 (by decide) lk_32 (fun _ h9 => h9) hM.ob rfl dX6_turn_36 ?_
              refine lv_iload_n hx hb dX6_turn_39 rfl (lv_at hl 1 rfl) ?_
              refine h_callV (st1 := []) [.ref (ma 8), .int (nI kvs)] [] ⟨hx, hb, hml, hown, hts⟩ hE hw (HT.to (c_X6_load l G A ma F _ _ _ _ _ _ _ _ hM 8 kvs (by decide) (by decide) hkvs) rfl (F3 := va_up F (ma 8) (eJ4 G (rg kvs))) (by rw [show rgq mrg kvs = rg kvs from hk4 kvs hkvs])) (cwV 2 hts gX6_turn_X6_load rfl rfl rfl (by decide +kernel) ⟨Nat.le_of_ble_eq_true rfl, Nat.le_of_ble_eq_true rfl⟩) hM.ob rfl rfl rfl hl.1 rfl (Nat.le_of_ble_eq_true rfl) dX6_turn_40 ⟨Nat.le_of_ble_eq_true rfl, Nat.le_of_ble_eq_true rfl⟩ rfl (fun H locs hw => ?_)
              refine lv_aload_n hx hb dX6_turn_43 rfl (lv_at hl 0 rfl) ?_
              refine h_get hx hb hE hw hts hinX6 hown (ci := 6) rfl 8 (by decide) lk_32 (fun _ h9 => h9) (pt_ne hM.ob (hM.ne (i := 0) (j := 8) (by decide) (by decide) (by decide))) rfl dX6_turn_44 ?_
              refine h_callS (st1 := [.int (bI (qzero (rg kvs)))]) [.ref (ma 8)] [] ⟨hx, hb, hml, hown, hts⟩ hE hw (c_X6_isNull l G A (ML ma) (va_up F (ma 8) (eJ4 G (rg kvs))) (ma 8) (rg kvs) (pt_up (hM.v (i := 8) (by decide) (by decide)))) (va_cwS 1 hts gX6_turn_X6_isNull rfl rfl rfl (by decide +kernel) ⟨Nat.le_of_ble_eq_true rfl, Nat.le_of_ble_eq_true rfl⟩) rfl hl.1 rfl (Nat.le_of_ble_eq_true rfl) dX6_turn_47 ⟨Nat.le_of_ble_eq_true rfl, Nat.le_of_ble_eq_true rfl⟩ rfl (fun H locs hw => ?_)
              refine lv_if_eq (tgt := 58) hx hb dX6_turn_50 (by decide) (fun c_50 => ?_) (fun c_50 => ?_)
              · skip
                have c_50 := bI_eq.mp c_50
                refine lv_aload_n hx hb dX6_turn_58 rfl (lv_at hl 0 rfl) ?_
                refine lv_iload_n hx hb dX6_turn_59 rfl (lv_at hl 1 rfl) ?_
                refine lv_iload_n hx hb dX6_turn_60 rfl (lv_at hl 2 rfl) ?_
                refine lv_iload_n hx hb dX6_turn_61 rfl (lv_at hl 3 rfl) ?_
                have hen1 : qtn (rgq mrg kvs) 0 = qtn (rg kvs) 0 := by rw [show rgq mrg kvs = rg kvs from hk4 kvs hkvs]
                refine h_callVP (st1 := [.long (qtn (rgq mrg kvs) 0)]) [.int (nI kvs), .int 0, .int 0] [] ⟨hx, hb, hml, hown, hts⟩ hE hw (c_X6_entry_00 l G A ma (va_up F (ma 8) (eJ4 G (rg kvs))) _ _ _ _ _ _ _ _ (MW.setv hM (i := 8) (by decide) (by decide) (rg kvs)) kvs hkvs) (cwV 3 hts gX6_turn_X6_entry rfl rfl rfl (by decide +kernel) ⟨Nat.le_of_ble_eq_true rfl, Nat.le_of_ble_eq_true rfl⟩) (pt_ne hM.ob (hM.ne (i := 0) (j := 8) (by decide) (by decide) (by decide))) rfl rfl rfl hl.1 rfl (Nat.le_of_ble_eq_true rfl) dX6_turn_62 ⟨Nat.le_of_ble_eq_true rfl, Nat.le_of_ble_eq_true rfl⟩ rfl (fun F H locs hP hw => ?_)
                obtain ⟨mv3, hM3⟩ := hP
                refine lv_l2i hx hb dX6_turn_65 rfl ?_
                exact h_iretP hx hb hlk hr hw dX6_turn_66 (by rw [hen1]; simp only [sp_turn, xvs, cif_t (show (¬ (0 : Int32) < 0 ∧ ¬ 2 < (0 : Int32)) by decide), cif_t (show (¬ (0 : Int32) < 0 ∧ ¬ 2 < (0 : Int32)) by decide), cif_T, not_false_eq_true, and_self, true_and, and_true, cif_f c_50]; rfl) (by simp only [sp_turn, xvs, cif_t (show (¬ (0 : Int32) < 0 ∧ ¬ 2 < (0 : Int32)) by decide), cif_t (show (¬ (0 : Int32) < 0 ∧ ¬ 2 < (0 : Int32)) by decide), cif_T, not_false_eq_true, and_self, true_and, and_true, cif_f c_50]; exact ⟨_, hM3, rel_v hrel⟩)
              · skip
                have c_50 := bI_ne.mp c_50
                refine lv_ldc hx hb (v := (-2000000001)) hown (hts (.constant RX6 191 (-2000000001)) (by decide +kernel)) dX6_turn_53 ?_
                refine lv_goto (tgt := 66) hx hb dX6_turn_55 (by decide) ?_
                exact h_iretP hx hb hlk hr hw dX6_turn_66 (by simp only [sp_turn, xvs, cif_t (show (¬ (0 : Int32) < 0 ∧ ¬ 2 < (0 : Int32)) by decide), cif_t (show (¬ (0 : Int32) < 0 ∧ ¬ 2 < (0 : Int32)) by decide), cif_T, not_false_eq_true, and_self, true_and, and_true, cif_t c_50]) (by simp only [sp_turn, xvs, cif_t (show (¬ (0 : Int32) < 0 ∧ ¬ 2 < (0 : Int32)) by decide), cif_t (show (¬ (0 : Int32) < 0 ∧ ¬ 2 < (0 : Int32)) by decide), cif_T, not_false_eq_true, and_self, true_and, and_true, cif_t c_50]; exact ⟨_, (MW.setv hM (i := 8) (by decide) (by decide) (rg kvs)), rel_v hrel⟩)
            · skip
              first | exact absurd c_28 (by decide) | exact absurd (by decide) c_28
          · skip
            refine h_callS (st1 := [.int 1]) [.long ((1 : Int32).toInt64), .long 0, .long (2)] [] ⟨hx, hb, hml, hown, hts⟩ hE hw (HT.to (c_X6_in l G A (ML ma) F (1 : Int32).toInt64 0 2) (V2 := some (.int 1)) (congrArg (fun y => some (Value.int y)) (bI_t (show inL (1 : Int32).toInt64 0 2 from ⟨by decide, by decide⟩))) rfl) (va_cwS 3 hts gX6_turn_X6_in rfl rfl rfl (by decide +kernel) ⟨Nat.le_of_ble_eq_true rfl, Nat.le_of_ble_eq_true rfl⟩) rfl hl.1 rfl (Nat.le_of_ble_eq_true rfl) dX6_turn_25 ⟨Nat.le_of_ble_eq_true rfl, Nat.le_of_ble_eq_true rfl⟩ rfl (fun H locs hw => ?_)
            refine lv_if_ne (tgt := 34) hx hb dX6_turn_28 (by decide) (fun c_28 => ?_) (fun c_28 => ?_)
            · skip
              refine lv_aload_n hx hb dX6_turn_34 rfl (lv_at hl 0 rfl) ?_
              refine lv_aload_n hx hb dX6_turn_35 rfl (lv_at hl 0 rfl) ?_
              refine h_get hx hb hE hw hts hinX6 hown (ci := 6) rfl 8 (by decide) lk_32 (fun _ h9 => h9) hM.ob rfl dX6_turn_36 ?_
              refine lv_iload_n hx hb dX6_turn_39 rfl (lv_at hl 1 rfl) ?_
              refine h_callV (st1 := []) [.ref (ma 8), .int (nI kvs)] [] ⟨hx, hb, hml, hown, hts⟩ hE hw (HT.to (c_X6_load l G A ma F _ _ _ _ _ _ _ _ hM 8 kvs (by decide) (by decide) hkvs) rfl (F3 := va_up F (ma 8) (eJ4 G (rg kvs))) (by rw [show rgq mrg kvs = rg kvs from hk4 kvs hkvs])) (cwV 2 hts gX6_turn_X6_load rfl rfl rfl (by decide +kernel) ⟨Nat.le_of_ble_eq_true rfl, Nat.le_of_ble_eq_true rfl⟩) hM.ob rfl rfl rfl hl.1 rfl (Nat.le_of_ble_eq_true rfl) dX6_turn_40 ⟨Nat.le_of_ble_eq_true rfl, Nat.le_of_ble_eq_true rfl⟩ rfl (fun H locs hw => ?_)
              refine lv_aload_n hx hb dX6_turn_43 rfl (lv_at hl 0 rfl) ?_
              refine h_get hx hb hE hw hts hinX6 hown (ci := 6) rfl 8 (by decide) lk_32 (fun _ h9 => h9) (pt_ne hM.ob (hM.ne (i := 0) (j := 8) (by decide) (by decide) (by decide))) rfl dX6_turn_44 ?_
              refine h_callS (st1 := [.int (bI (qzero (rg kvs)))]) [.ref (ma 8)] [] ⟨hx, hb, hml, hown, hts⟩ hE hw (c_X6_isNull l G A (ML ma) (va_up F (ma 8) (eJ4 G (rg kvs))) (ma 8) (rg kvs) (pt_up (hM.v (i := 8) (by decide) (by decide)))) (va_cwS 1 hts gX6_turn_X6_isNull rfl rfl rfl (by decide +kernel) ⟨Nat.le_of_ble_eq_true rfl, Nat.le_of_ble_eq_true rfl⟩) rfl hl.1 rfl (Nat.le_of_ble_eq_true rfl) dX6_turn_47 ⟨Nat.le_of_ble_eq_true rfl, Nat.le_of_ble_eq_true rfl⟩ rfl (fun H locs hw => ?_)
              refine lv_if_eq (tgt := 58) hx hb dX6_turn_50 (by decide) (fun c_50 => ?_) (fun c_50 => ?_)
              · skip
                have c_50 := bI_eq.mp c_50
                refine lv_aload_n hx hb dX6_turn_58 rfl (lv_at hl 0 rfl) ?_
                refine lv_iload_n hx hb dX6_turn_59 rfl (lv_at hl 1 rfl) ?_
                refine lv_iload_n hx hb dX6_turn_60 rfl (lv_at hl 2 rfl) ?_
                refine lv_iload_n hx hb dX6_turn_61 rfl (lv_at hl 3 rfl) ?_
                have hen1 : qtn (rgq mrg kvs) 1 = qtn (rg kvs) 1 := by rw [show rgq mrg kvs = rg kvs from hk4 kvs hkvs]
                refine h_callVP (st1 := [.long (qtn (rgq mrg kvs) 1)]) [.int (nI kvs), .int 0, .int 1] [] ⟨hx, hb, hml, hown, hts⟩ hE hw (c_X6_entry_01 l G A ma (va_up F (ma 8) (eJ4 G (rg kvs))) _ _ _ _ _ _ _ _ (MW.setv hM (i := 8) (by decide) (by decide) (rg kvs)) kvs hkvs) (cwV 3 hts gX6_turn_X6_entry rfl rfl rfl (by decide +kernel) ⟨Nat.le_of_ble_eq_true rfl, Nat.le_of_ble_eq_true rfl⟩) (pt_ne hM.ob (hM.ne (i := 0) (j := 8) (by decide) (by decide) (by decide))) rfl rfl rfl hl.1 rfl (Nat.le_of_ble_eq_true rfl) dX6_turn_62 ⟨Nat.le_of_ble_eq_true rfl, Nat.le_of_ble_eq_true rfl⟩ rfl (fun F H locs hP hw => ?_)
                obtain ⟨mv3, hM3⟩ := hP
                refine lv_l2i hx hb dX6_turn_65 rfl ?_
                exact h_iretP hx hb hlk hr hw dX6_turn_66 (by rw [hen1]; simp only [sp_turn, xvs, cif_t (show (¬ (0 : Int32) < 0 ∧ ¬ 2 < (0 : Int32)) by decide), cif_t (show (¬ (1 : Int32) < 0 ∧ ¬ 2 < (1 : Int32)) by decide), cif_T, not_false_eq_true, and_self, true_and, and_true, cif_f c_50]; rfl) (by simp only [sp_turn, xvs, cif_t (show (¬ (0 : Int32) < 0 ∧ ¬ 2 < (0 : Int32)) by decide), cif_t (show (¬ (1 : Int32) < 0 ∧ ¬ 2 < (1 : Int32)) by decide), cif_T, not_false_eq_true, and_self, true_and, and_true, cif_f c_50]; exact ⟨_, hM3, rel_v hrel⟩)
              · skip
                have c_50 := bI_ne.mp c_50
                refine lv_ldc hx hb (v := (-2000000001)) hown (hts (.constant RX6 191 (-2000000001)) (by decide +kernel)) dX6_turn_53 ?_
                refine lv_goto (tgt := 66) hx hb dX6_turn_55 (by decide) ?_
                exact h_iretP hx hb hlk hr hw dX6_turn_66 (by simp only [sp_turn, xvs, cif_t (show (¬ (0 : Int32) < 0 ∧ ¬ 2 < (0 : Int32)) by decide), cif_t (show (¬ (1 : Int32) < 0 ∧ ¬ 2 < (1 : Int32)) by decide), cif_T, not_false_eq_true, and_self, true_and, and_true, cif_t c_50]) (by simp only [sp_turn, xvs, cif_t (show (¬ (0 : Int32) < 0 ∧ ¬ 2 < (0 : Int32)) by decide), cif_t (show (¬ (1 : Int32) < 0 ∧ ¬ 2 < (1 : Int32)) by decide), cif_T, not_false_eq_true, and_self, true_and, and_true, cif_t c_50]; exact ⟨_, (MW.setv hM (i := 8) (by decide) (by decide) (rg kvs)), rel_v hrel⟩)
            · skip
              first | exact absurd c_28 (by decide) | exact absurd (by decide) c_28
          · skip
            refine h_callS (st1 := [.int 1]) [.long ((2 : Int32).toInt64), .long 0, .long (2)] [] ⟨hx, hb, hml, hown, hts⟩ hE hw (HT.to (c_X6_in l G A (ML ma) F (2 : Int32).toInt64 0 2) (V2 := some (.int 1)) (congrArg (fun y => some (Value.int y)) (bI_t (show inL (2 : Int32).toInt64 0 2 from ⟨by decide, by decide⟩))) rfl) (va_cwS 3 hts gX6_turn_X6_in rfl rfl rfl (by decide +kernel) ⟨Nat.le_of_ble_eq_true rfl, Nat.le_of_ble_eq_true rfl⟩) rfl hl.1 rfl (Nat.le_of_ble_eq_true rfl) dX6_turn_25 ⟨Nat.le_of_ble_eq_true rfl, Nat.le_of_ble_eq_true rfl⟩ rfl (fun H locs hw => ?_)
            refine lv_if_ne (tgt := 34) hx hb dX6_turn_28 (by decide) (fun c_28 => ?_) (fun c_28 => ?_)
            · skip
              refine lv_aload_n hx hb dX6_turn_34 rfl (lv_at hl 0 rfl) ?_
              refine lv_aload_n hx hb dX6_turn_35 rfl (lv_at hl 0 rfl) ?_
              refine h_get hx hb hE hw hts hinX6 hown (ci := 6) rfl 8 (by decide) lk_32 (fun _ h9 => h9) hM.ob rfl dX6_turn_36 ?_
              refine lv_iload_n hx hb dX6_turn_39 rfl (lv_at hl 1 rfl) ?_
              refine h_callV (st1 := []) [.ref (ma 8), .int (nI kvs)] [] ⟨hx, hb, hml, hown, hts⟩ hE hw (HT.to (c_X6_load l G A ma F _ _ _ _ _ _ _ _ hM 8 kvs (by decide) (by decide) hkvs) rfl (F3 := va_up F (ma 8) (eJ4 G (rg kvs))) (by rw [show rgq mrg kvs = rg kvs from hk4 kvs hkvs])) (cwV 2 hts gX6_turn_X6_load rfl rfl rfl (by decide +kernel) ⟨Nat.le_of_ble_eq_true rfl, Nat.le_of_ble_eq_true rfl⟩) hM.ob rfl rfl rfl hl.1 rfl (Nat.le_of_ble_eq_true rfl) dX6_turn_40 ⟨Nat.le_of_ble_eq_true rfl, Nat.le_of_ble_eq_true rfl⟩ rfl (fun H locs hw => ?_)
              refine lv_aload_n hx hb dX6_turn_43 rfl (lv_at hl 0 rfl) ?_
              refine h_get hx hb hE hw hts hinX6 hown (ci := 6) rfl 8 (by decide) lk_32 (fun _ h9 => h9) (pt_ne hM.ob (hM.ne (i := 0) (j := 8) (by decide) (by decide) (by decide))) rfl dX6_turn_44 ?_
              refine h_callS (st1 := [.int (bI (qzero (rg kvs)))]) [.ref (ma 8)] [] ⟨hx, hb, hml, hown, hts⟩ hE hw (c_X6_isNull l G A (ML ma) (va_up F (ma 8) (eJ4 G (rg kvs))) (ma 8) (rg kvs) (pt_up (hM.v (i := 8) (by decide) (by decide)))) (va_cwS 1 hts gX6_turn_X6_isNull rfl rfl rfl (by decide +kernel) ⟨Nat.le_of_ble_eq_true rfl, Nat.le_of_ble_eq_true rfl⟩) rfl hl.1 rfl (Nat.le_of_ble_eq_true rfl) dX6_turn_47 ⟨Nat.le_of_ble_eq_true rfl, Nat.le_of_ble_eq_true rfl⟩ rfl (fun H locs hw => ?_)
              refine lv_if_eq (tgt := 58) hx hb dX6_turn_50 (by decide) (fun c_50 => ?_) (fun c_50 => ?_)
              · skip
                have c_50 := bI_eq.mp c_50
                refine lv_aload_n hx hb dX6_turn_58 rfl (lv_at hl 0 rfl) ?_
                refine lv_iload_n hx hb dX6_turn_59 rfl (lv_at hl 1 rfl) ?_
                refine lv_iload_n hx hb dX6_turn_60 rfl (lv_at hl 2 rfl) ?_
                refine lv_iload_n hx hb dX6_turn_61 rfl (lv_at hl 3 rfl) ?_
                have hen1 : qtn (rgq mrg kvs) 2 = qtn (rg kvs) 2 := by rw [show rgq mrg kvs = rg kvs from hk4 kvs hkvs]
                refine h_callVP (st1 := [.long (qtn (rgq mrg kvs) 2)]) [.int (nI kvs), .int 0, .int 2] [] ⟨hx, hb, hml, hown, hts⟩ hE hw (c_X6_entry_02 l G A ma (va_up F (ma 8) (eJ4 G (rg kvs))) _ _ _ _ _ _ _ _ (MW.setv hM (i := 8) (by decide) (by decide) (rg kvs)) kvs hkvs) (cwV 3 hts gX6_turn_X6_entry rfl rfl rfl (by decide +kernel) ⟨Nat.le_of_ble_eq_true rfl, Nat.le_of_ble_eq_true rfl⟩) (pt_ne hM.ob (hM.ne (i := 0) (j := 8) (by decide) (by decide) (by decide))) rfl rfl rfl hl.1 rfl (Nat.le_of_ble_eq_true rfl) dX6_turn_62 ⟨Nat.le_of_ble_eq_true rfl, Nat.le_of_ble_eq_true rfl⟩ rfl (fun F H locs hP hw => ?_)
                obtain ⟨mv3, hM3⟩ := hP
                refine lv_l2i hx hb dX6_turn_65 rfl ?_
                exact h_iretP hx hb hlk hr hw dX6_turn_66 (by rw [hen1]; simp only [sp_turn, xvs, cif_t (show (¬ (0 : Int32) < 0 ∧ ¬ 2 < (0 : Int32)) by decide), cif_t (show (¬ (2 : Int32) < 0 ∧ ¬ 2 < (2 : Int32)) by decide), cif_T, not_false_eq_true, and_self, true_and, and_true, cif_f c_50]; rfl) (by simp only [sp_turn, xvs, cif_t (show (¬ (0 : Int32) < 0 ∧ ¬ 2 < (0 : Int32)) by decide), cif_t (show (¬ (2 : Int32) < 0 ∧ ¬ 2 < (2 : Int32)) by decide), cif_T, not_false_eq_true, and_self, true_and, and_true, cif_f c_50]; exact ⟨_, hM3, rel_v hrel⟩)
              · skip
                have c_50 := bI_ne.mp c_50
                refine lv_ldc hx hb (v := (-2000000001)) hown (hts (.constant RX6 191 (-2000000001)) (by decide +kernel)) dX6_turn_53 ?_
                refine lv_goto (tgt := 66) hx hb dX6_turn_55 (by decide) ?_
                exact h_iretP hx hb hlk hr hw dX6_turn_66 (by simp only [sp_turn, xvs, cif_t (show (¬ (0 : Int32) < 0 ∧ ¬ 2 < (0 : Int32)) by decide), cif_t (show (¬ (2 : Int32) < 0 ∧ ¬ 2 < (2 : Int32)) by decide), cif_T, not_false_eq_true, and_self, true_and, and_true, cif_t c_50]) (by simp only [sp_turn, xvs, cif_t (show (¬ (0 : Int32) < 0 ∧ ¬ 2 < (0 : Int32)) by decide), cif_t (show (¬ (2 : Int32) < 0 ∧ ¬ 2 < (2 : Int32)) by decide), cif_T, not_false_eq_true, and_self, true_and, and_true, cif_t c_50]; exact ⟨_, (MW.setv hM (i := 8) (by decide) (by decide) (rg kvs)), rel_v hrel⟩)
            · skip
              first | exact absurd c_28 (by decide) | exact absurd (by decide) c_28
      · skip
        refine h_callS (st1 := [.int 1]) [.long ((1 : Int32).toInt64), .long 0, .long (2)] [] ⟨hx, hb, hml, hown, hts⟩ hE hw (HT.to (c_X6_in l G A (ML ma) F (1 : Int32).toInt64 0 2) (V2 := some (.int 1)) (congrArg (fun y => some (Value.int y)) (bI_t (show inL (1 : Int32).toInt64 0 2 from ⟨by decide, by decide⟩))) rfl) (va_cwS 3 hts gX6_turn_X6_in rfl rfl rfl (by decide +kernel) ⟨Nat.le_of_ble_eq_true rfl, Nat.le_of_ble_eq_true rfl⟩) rfl hl.1 rfl (Nat.le_of_ble_eq_true rfl) dX6_turn_13 ⟨Nat.le_of_ble_eq_true rfl, Nat.le_of_ble_eq_true rfl⟩ rfl (fun H locs hw => ?_)
        refine lv_if_eq (tgt := 31) hx hb dX6_turn_16 (by decide) (fun c_16 => ?_) (fun c_16 => ?_)
        · skip
          first | exact absurd c_16 (by decide) | exact absurd (by decide) c_16
        · skip
          refine lv_iload_n hx hb dX6_turn_19 rfl (lv_at hl 3 rfl) ?_
          refine lv_i2l hx hb dX6_turn_20 rfl ?_
          refine lv_lconst (v := 0) hx hb dX6_turn_21 (by decide) ?_
          refine lv_ldc2 hx hb (v := (2)) hown cl_77 dX6_turn_22 ?_
          rcases in_2 vj with hovj | rfl | rfl | rfl
          · skip
            refine h_callS (st1 := [.int 0]) [.long vj.toInt64, .long 0, .long (2)] [] ⟨hx, hb, hml, hown, hts⟩ hE hw (HT.to (c_X6_in l G A (ML ma) F vj.toInt64 0 2) (V2 := some (.int 0)) (congrArg (fun y => some (Value.int y)) (bI_f hovj.1)) rfl) (va_cwS 3 hts gX6_turn_X6_in rfl rfl rfl (by decide +kernel) ⟨Nat.le_of_ble_eq_true rfl, Nat.le_of_ble_eq_true rfl⟩) rfl hl.1 rfl (Nat.le_of_ble_eq_true rfl) dX6_turn_25 ⟨Nat.le_of_ble_eq_true rfl, Nat.le_of_ble_eq_true rfl⟩ rfl (fun H locs hw => ?_)
            refine lv_if_ne (tgt := 34) hx hb dX6_turn_28 (by decide) (fun c_28 => ?_) (fun c_28 => ?_)
            · skip
              first | exact absurd c_28 (by decide) | exact absurd (by decide) c_28
            · skip
              refine lv_ldc hx hb (v := (-2000000000)) hown (hts (.constant RX6 190 (-2000000000)) (by decide +kernel)) dX6_turn_31 ?_
              exact h_iretP hx hb hlk hr hw dX6_turn_33 (by simp only [sp_turn, xvs, cif_t (show (¬ (1 : Int32) < 0 ∧ ¬ 2 < (1 : Int32)) by decide), cif_T, not_false_eq_true, and_self, true_and, and_true, cif_f hovj.2]) (by simp only [sp_turn, xvs, cif_t (show (¬ (1 : Int32) < 0 ∧ ¬ 2 < (1 : Int32)) by decide), cif_T, not_false_eq_true, and_self, true_and, and_true, cif_f hovj.2]; exact ⟨_, hM, rel_v hrel⟩)
          · skip
            refine h_callS (st1 := [.int 1]) [.long ((0 : Int32).toInt64), .long 0, .long (2)] [] ⟨hx, hb, hml, hown, hts⟩ hE hw (HT.to (c_X6_in l G A (ML ma) F (0 : Int32).toInt64 0 2) (V2 := some (.int 1)) (congrArg (fun y => some (Value.int y)) (bI_t (show inL (0 : Int32).toInt64 0 2 from ⟨by decide, by decide⟩))) rfl) (va_cwS 3 hts gX6_turn_X6_in rfl rfl rfl (by decide +kernel) ⟨Nat.le_of_ble_eq_true rfl, Nat.le_of_ble_eq_true rfl⟩) rfl hl.1 rfl (Nat.le_of_ble_eq_true rfl) dX6_turn_25 ⟨Nat.le_of_ble_eq_true rfl, Nat.le_of_ble_eq_true rfl⟩ rfl (fun H locs hw => ?_)
            refine lv_if_ne (tgt := 34) hx hb dX6_turn_28 (by decide) (fun c_28 => ?_) (fun c_28 => ?_)
            · skip
              refine lv_aload_n hx hb dX6_turn_34 rfl (lv_at hl 0 rfl) ?_
              refine lv_aload_n hx hb dX6_turn_35 rfl (lv_at hl 0 rfl) ?_
              refine h_get hx hb hE hw hts hinX6 hown (ci := 6) rfl 8 (by decide) lk_32 (fun _ h9 => h9) hM.ob rfl dX6_turn_36 ?_
              refine lv_iload_n hx hb dX6_turn_39 rfl (lv_at hl 1 rfl) ?_
              refine h_callV (st1 := []) [.ref (ma 8), .int (nI kvs)] [] ⟨hx, hb, hml, hown, hts⟩ hE hw (HT.to (c_X6_load l G A ma F _ _ _ _ _ _ _ _ hM 8 kvs (by decide) (by decide) hkvs) rfl (F3 := va_up F (ma 8) (eJ4 G (rg kvs))) (by rw [show rgq mrg kvs = rg kvs from hk4 kvs hkvs])) (cwV 2 hts gX6_turn_X6_load rfl rfl rfl (by decide +kernel) ⟨Nat.le_of_ble_eq_true rfl, Nat.le_of_ble_eq_true rfl⟩) hM.ob rfl rfl rfl hl.1 rfl (Nat.le_of_ble_eq_true rfl) dX6_turn_40 ⟨Nat.le_of_ble_eq_true rfl, Nat.le_of_ble_eq_true rfl⟩ rfl (fun H locs hw => ?_)
              refine lv_aload_n hx hb dX6_turn_43 rfl (lv_at hl 0 rfl) ?_
              refine h_get hx hb hE hw hts hinX6 hown (ci := 6) rfl 8 (by decide) lk_32 (fun _ h9 => h9) (pt_ne hM.ob (hM.ne (i := 0) (j := 8) (by decide) (by decide) (by decide))) rfl dX6_turn_44 ?_
              refine h_callS (st1 := [.int (bI (qzero (rg kvs)))]) [.ref (ma 8)] [] ⟨hx, hb, hml, hown, hts⟩ hE hw (c_X6_isNull l G A (ML ma) (va_up F (ma 8) (eJ4 G (rg kvs))) (ma 8) (rg kvs) (pt_up (hM.v (i := 8) (by decide) (by decide)))) (va_cwS 1 hts gX6_turn_X6_isNull rfl rfl rfl (by decide +kernel) ⟨Nat.le_of_ble_eq_true rfl, Nat.le_of_ble_eq_true rfl⟩) rfl hl.1 rfl (Nat.le_of_ble_eq_true rfl) dX6_turn_47 ⟨Nat.le_of_ble_eq_true rfl, Nat.le_of_ble_eq_true rfl⟩ rfl (fun H locs hw => ?_)
              refine lv_if_eq (tgt := 58) hx hb dX6_turn_50 (by decide) (fun c_50 => ?_) (fun c_50 => ?_)
              · skip
                have c_50 := bI_eq.mp c_50
                refine lv_aload_n hx hb dX6_turn_58 rfl (lv_at hl 0 rfl) ?_
                refine lv_iload_n hx hb dX6_turn_59 rfl (lv_at hl 1 rfl) ?_
                refine lv_iload_n hx hb dX6_turn_60 rfl (lv_at hl 2 rfl) ?_
                refine lv_iload_n hx hb dX6_turn_61 rfl (lv_at hl 3 rfl) ?_
                have hen1 : qtn (rgq mrg kvs) 3 = qtn (rg kvs) 3 := by rw [show rgq mrg kvs = rg kvs from hk4 kvs hkvs]
                refine h_callVP (st1 := [.long (qtn (rgq mrg kvs) 3)]) [.int (nI kvs), .int 1, .int 0] [] ⟨hx, hb, hml, hown, hts⟩ hE hw (c_X6_entry_10 l G A ma (va_up F (ma 8) (eJ4 G (rg kvs))) _ _ _ _ _ _ _ _ (MW.setv hM (i := 8) (by decide) (by decide) (rg kvs)) kvs hkvs) (cwV 3 hts gX6_turn_X6_entry rfl rfl rfl (by decide +kernel) ⟨Nat.le_of_ble_eq_true rfl, Nat.le_of_ble_eq_true rfl⟩) (pt_ne hM.ob (hM.ne (i := 0) (j := 8) (by decide) (by decide) (by decide))) rfl rfl rfl hl.1 rfl (Nat.le_of_ble_eq_true rfl) dX6_turn_62 ⟨Nat.le_of_ble_eq_true rfl, Nat.le_of_ble_eq_true rfl⟩ rfl (fun F H locs hP hw => ?_)
                obtain ⟨mv3, hM3⟩ := hP
                refine lv_l2i hx hb dX6_turn_65 rfl ?_
                exact h_iretP hx hb hlk hr hw dX6_turn_66 (by rw [hen1]; simp only [sp_turn, xvs, cif_t (show (¬ (1 : Int32) < 0 ∧ ¬ 2 < (1 : Int32)) by decide), cif_t (show (¬ (0 : Int32) < 0 ∧ ¬ 2 < (0 : Int32)) by decide), cif_T, not_false_eq_true, and_self, true_and, and_true, cif_f c_50]; rfl) (by simp only [sp_turn, xvs, cif_t (show (¬ (1 : Int32) < 0 ∧ ¬ 2 < (1 : Int32)) by decide), cif_t (show (¬ (0 : Int32) < 0 ∧ ¬ 2 < (0 : Int32)) by decide), cif_T, not_false_eq_true, and_self, true_and, and_true, cif_f c_50]; exact ⟨_, hM3, rel_v hrel⟩)
              · skip
                have c_50 := bI_ne.mp c_50
                refine lv_ldc hx hb (v := (-2000000001)) hown (hts (.constant RX6 191 (-2000000001)) (by decide +kernel)) dX6_turn_53 ?_
                refine lv_goto (tgt := 66) hx hb dX6_turn_55 (by decide) ?_
                exact h_iretP hx hb hlk hr hw dX6_turn_66 (by simp only [sp_turn, xvs, cif_t (show (¬ (1 : Int32) < 0 ∧ ¬ 2 < (1 : Int32)) by decide), cif_t (show (¬ (0 : Int32) < 0 ∧ ¬ 2 < (0 : Int32)) by decide), cif_T, not_false_eq_true, and_self, true_and, and_true, cif_t c_50]) (by simp only [sp_turn, xvs, cif_t (show (¬ (1 : Int32) < 0 ∧ ¬ 2 < (1 : Int32)) by decide), cif_t (show (¬ (0 : Int32) < 0 ∧ ¬ 2 < (0 : Int32)) by decide), cif_T, not_false_eq_true, and_self, true_and, and_true, cif_t c_50]; exact ⟨_, (MW.setv hM (i := 8) (by decide) (by decide) (rg kvs)), rel_v hrel⟩)
            · skip
              first | exact absurd c_28 (by decide) | exact absurd (by decide) c_28
          · skip
            refine h_callS (st1 := [.int 1]) [.long ((1 : Int32).toInt64), .long 0, .long (2)] [] ⟨hx, hb, hml, hown, hts⟩ hE hw (HT.to (c_X6_in l G A (ML ma) F (1 : Int32).toInt64 0 2) (V2 := some (.int 1)) (congrArg (fun y => some (Value.int y)) (bI_t (show inL (1 : Int32).toInt64 0 2 from ⟨by decide, by decide⟩))) rfl) (va_cwS 3 hts gX6_turn_X6_in rfl rfl rfl (by decide +kernel) ⟨Nat.le_of_ble_eq_true rfl, Nat.le_of_ble_eq_true rfl⟩) rfl hl.1 rfl (Nat.le_of_ble_eq_true rfl) dX6_turn_25 ⟨Nat.le_of_ble_eq_true rfl, Nat.le_of_ble_eq_true rfl⟩ rfl (fun H locs hw => ?_)
            refine lv_if_ne (tgt := 34) hx hb dX6_turn_28 (by decide) (fun c_28 => ?_) (fun c_28 => ?_)
            · skip
              refine lv_aload_n hx hb dX6_turn_34 rfl (lv_at hl 0 rfl) ?_
              refine lv_aload_n hx hb dX6_turn_35 rfl (lv_at hl 0 rfl) ?_
              refine h_get hx hb hE hw hts hinX6 hown (ci := 6) rfl 8 (by decide) lk_32 (fun _ h9 => h9) hM.ob rfl dX6_turn_36 ?_
              refine lv_iload_n hx hb dX6_turn_39 rfl (lv_at hl 1 rfl) ?_
              refine h_callV (st1 := []) [.ref (ma 8), .int (nI kvs)] [] ⟨hx, hb, hml, hown, hts⟩ hE hw (HT.to (c_X6_load l G A ma F _ _ _ _ _ _ _ _ hM 8 kvs (by decide) (by decide) hkvs) rfl (F3 := va_up F (ma 8) (eJ4 G (rg kvs))) (by rw [show rgq mrg kvs = rg kvs from hk4 kvs hkvs])) (cwV 2 hts gX6_turn_X6_load rfl rfl rfl (by decide +kernel) ⟨Nat.le_of_ble_eq_true rfl, Nat.le_of_ble_eq_true rfl⟩) hM.ob rfl rfl rfl hl.1 rfl (Nat.le_of_ble_eq_true rfl) dX6_turn_40 ⟨Nat.le_of_ble_eq_true rfl, Nat.le_of_ble_eq_true rfl⟩ rfl (fun H locs hw => ?_)
              refine lv_aload_n hx hb dX6_turn_43 rfl (lv_at hl 0 rfl) ?_
              refine h_get hx hb hE hw hts hinX6 hown (ci := 6) rfl 8 (by decide) lk_32 (fun _ h9 => h9) (pt_ne hM.ob (hM.ne (i := 0) (j := 8) (by decide) (by decide) (by decide))) rfl dX6_turn_44 ?_
              refine h_callS (st1 := [.int (bI (qzero (rg kvs)))]) [.ref (ma 8)] [] ⟨hx, hb, hml, hown, hts⟩ hE hw (c_X6_isNull l G A (ML ma) (va_up F (ma 8) (eJ4 G (rg kvs))) (ma 8) (rg kvs) (pt_up (hM.v (i := 8) (by decide) (by decide)))) (va_cwS 1 hts gX6_turn_X6_isNull rfl rfl rfl (by decide +kernel) ⟨Nat.le_of_ble_eq_true rfl, Nat.le_of_ble_eq_true rfl⟩) rfl hl.1 rfl (Nat.le_of_ble_eq_true rfl) dX6_turn_47 ⟨Nat.le_of_ble_eq_true rfl, Nat.le_of_ble_eq_true rfl⟩ rfl (fun H locs hw => ?_)
              refine lv_if_eq (tgt := 58) hx hb dX6_turn_50 (by decide) (fun c_50 => ?_) (fun c_50 => ?_)
              · skip
                have c_50 := bI_eq.mp c_50
                refine lv_aload_n hx hb dX6_turn_58 rfl (lv_at hl 0 rfl) ?_
                refine lv_iload_n hx hb dX6_turn_59 rfl (lv_at hl 1 rfl) ?_
                refine lv_iload_n hx hb dX6_turn_60 rfl (lv_at hl 2 rfl) ?_
                refine lv_iload_n hx hb dX6_turn_61 rfl (lv_at hl 3 rfl) ?_
                have hen1 : qtn (rgq mrg kvs) 4 = qtn (rg kvs) 4 := by rw [show rgq mrg kvs = rg kvs from hk4 kvs hkvs]
                refine h_callVP (st1 := [.long (qtn (rgq mrg kvs) 4)]) [.int (nI kvs), .int 1, .int 1] [] ⟨hx, hb, hml, hown, hts⟩ hE hw (c_X6_entry_11 l G A ma (va_up F (ma 8) (eJ4 G (rg kvs))) _ _ _ _ _ _ _ _ (MW.setv hM (i := 8) (by decide) (by decide) (rg kvs)) kvs hkvs) (cwV 3 hts gX6_turn_X6_entry rfl rfl rfl (by decide +kernel) ⟨Nat.le_of_ble_eq_true rfl, Nat.le_of_ble_eq_true rfl⟩) (pt_ne hM.ob (hM.ne (i := 0) (j := 8) (by decide) (by decide) (by decide))) rfl rfl rfl hl.1 rfl (Nat.le_of_ble_eq_true rfl) dX6_turn_62 ⟨Nat.le_of_ble_eq_true rfl, Nat.le_of_ble_eq_true rfl⟩ rfl (fun F H locs hP hw => ?_)
                obtain ⟨mv3, hM3⟩ := hP
                refine lv_l2i hx hb dX6_turn_65 rfl ?_
                exact h_iretP hx hb hlk hr hw dX6_turn_66 (by rw [hen1]; simp only [sp_turn, xvs, cif_t (show (¬ (1 : Int32) < 0 ∧ ¬ 2 < (1 : Int32)) by decide), cif_t (show (¬ (1 : Int32) < 0 ∧ ¬ 2 < (1 : Int32)) by decide), cif_T, not_false_eq_true, and_self, true_and, and_true, cif_f c_50]; rfl) (by simp only [sp_turn, xvs, cif_t (show (¬ (1 : Int32) < 0 ∧ ¬ 2 < (1 : Int32)) by decide), cif_t (show (¬ (1 : Int32) < 0 ∧ ¬ 2 < (1 : Int32)) by decide), cif_T, not_false_eq_true, and_self, true_and, and_true, cif_f c_50]; exact ⟨_, hM3, rel_v hrel⟩)
              · skip
                have c_50 := bI_ne.mp c_50
                refine lv_ldc hx hb (v := (-2000000001)) hown (hts (.constant RX6 191 (-2000000001)) (by decide +kernel)) dX6_turn_53 ?_
                refine lv_goto (tgt := 66) hx hb dX6_turn_55 (by decide) ?_
                exact h_iretP hx hb hlk hr hw dX6_turn_66 (by simp only [sp_turn, xvs, cif_t (show (¬ (1 : Int32) < 0 ∧ ¬ 2 < (1 : Int32)) by decide), cif_t (show (¬ (1 : Int32) < 0 ∧ ¬ 2 < (1 : Int32)) by decide), cif_T, not_false_eq_true, and_self, true_and, and_true, cif_t c_50]) (by simp only [sp_turn, xvs, cif_t (show (¬ (1 : Int32) < 0 ∧ ¬ 2 < (1 : Int32)) by decide), cif_t (show (¬ (1 : Int32) < 0 ∧ ¬ 2 < (1 : Int32)) by decide), cif_T, not_false_eq_true, and_self, true_and, and_true, cif_t c_50]; exact ⟨_, (MW.setv hM (i := 8) (by decide) (by decide) (rg kvs)), rel_v hrel⟩)
            · skip
              first | exact absurd c_28 (by decide) | exact absurd (by decide) c_28
          · skip
            refine h_callS (st1 := [.int 1]) [.long ((2 : Int32).toInt64), .long 0, .long (2)] [] ⟨hx, hb, hml, hown, hts⟩ hE hw (HT.to (c_X6_in l G A (ML ma) F (2 : Int32).toInt64 0 2) (V2 := some (.int 1)) (congrArg (fun y => some (Value.int y)) (bI_t (show inL (2 : Int32).toInt64 0 2 from ⟨by decide, by decide⟩))) rfl) (va_cwS 3 hts gX6_turn_X6_in rfl rfl rfl (by decide +kernel) ⟨Nat.le_of_ble_eq_true rfl, Nat.le_of_ble_eq_true rfl⟩) rfl hl.1 rfl (Nat.le_of_ble_eq_true rfl) dX6_turn_25 ⟨Nat.le_of_ble_eq_true rfl, Nat.le_of_ble_eq_true rfl⟩ rfl (fun H locs hw => ?_)
            refine lv_if_ne (tgt := 34) hx hb dX6_turn_28 (by decide) (fun c_28 => ?_) (fun c_28 => ?_)
            · skip
              refine lv_aload_n hx hb dX6_turn_34 rfl (lv_at hl 0 rfl) ?_
              refine lv_aload_n hx hb dX6_turn_35 rfl (lv_at hl 0 rfl) ?_
              refine h_get hx hb hE hw hts hinX6 hown (ci := 6) rfl 8 (by decide) lk_32 (fun _ h9 => h9) hM.ob rfl dX6_turn_36 ?_
              refine lv_iload_n hx hb dX6_turn_39 rfl (lv_at hl 1 rfl) ?_
              refine h_callV (st1 := []) [.ref (ma 8), .int (nI kvs)] [] ⟨hx, hb, hml, hown, hts⟩ hE hw (HT.to (c_X6_load l G A ma F _ _ _ _ _ _ _ _ hM 8 kvs (by decide) (by decide) hkvs) rfl (F3 := va_up F (ma 8) (eJ4 G (rg kvs))) (by rw [show rgq mrg kvs = rg kvs from hk4 kvs hkvs])) (cwV 2 hts gX6_turn_X6_load rfl rfl rfl (by decide +kernel) ⟨Nat.le_of_ble_eq_true rfl, Nat.le_of_ble_eq_true rfl⟩) hM.ob rfl rfl rfl hl.1 rfl (Nat.le_of_ble_eq_true rfl) dX6_turn_40 ⟨Nat.le_of_ble_eq_true rfl, Nat.le_of_ble_eq_true rfl⟩ rfl (fun H locs hw => ?_)
              refine lv_aload_n hx hb dX6_turn_43 rfl (lv_at hl 0 rfl) ?_
              refine h_get hx hb hE hw hts hinX6 hown (ci := 6) rfl 8 (by decide) lk_32 (fun _ h9 => h9) (pt_ne hM.ob (hM.ne (i := 0) (j := 8) (by decide) (by decide) (by decide))) rfl dX6_turn_44 ?_
              refine h_callS (st1 := [.int (bI (qzero (rg kvs)))]) [.ref (ma 8)] [] ⟨hx, hb, hml, hown, hts⟩ hE hw (c_X6_isNull l G A (ML ma) (va_up F (ma 8) (eJ4 G (rg kvs))) (ma 8) (rg kvs) (pt_up (hM.v (i := 8) (by decide) (by decide)))) (va_cwS 1 hts gX6_turn_X6_isNull rfl rfl rfl (by decide +kernel) ⟨Nat.le_of_ble_eq_true rfl, Nat.le_of_ble_eq_true rfl⟩) rfl hl.1 rfl (Nat.le_of_ble_eq_true rfl) dX6_turn_47 ⟨Nat.le_of_ble_eq_true rfl, Nat.le_of_ble_eq_true rfl⟩ rfl (fun H locs hw => ?_)
              refine lv_if_eq (tgt := 58) hx hb dX6_turn_50 (by decide) (fun c_50 => ?_) (fun c_50 => ?_)
              · skip
                have c_50 := bI_eq.mp c_50
                refine lv_aload_n hx hb dX6_turn_58 rfl (lv_at hl 0 rfl) ?_
                refine lv_iload_n hx hb dX6_turn_59 rfl (lv_at hl 1 rfl) ?_
                refine lv_iload_n hx hb dX6_turn_60 rfl (lv_at hl 2 rfl) ?_
                refine lv_iload_n hx hb dX6_turn_61 rfl (lv_at hl 3 rfl) ?_
                have hen1 : qtn (rgq mrg kvs) 5 = qtn (rg kvs) 5 := by rw [show rgq mrg kvs = rg kvs from hk4 kvs hkvs]
                refine h_callVP (st1 := [.long (qtn (rgq mrg kvs) 5)]) [.int (nI kvs), .int 1, .int 2] [] ⟨hx, hb, hml, hown, hts⟩ hE hw (c_X6_entry_12 l G A ma (va_up F (ma 8) (eJ4 G (rg kvs))) _ _ _ _ _ _ _ _ (MW.setv hM (i := 8) (by decide) (by decide) (rg kvs)) kvs hkvs) (cwV 3 hts gX6_turn_X6_entry rfl rfl rfl (by decide +kernel) ⟨Nat.le_of_ble_eq_true rfl, Nat.le_of_ble_eq_true rfl⟩) (pt_ne hM.ob (hM.ne (i := 0) (j := 8) (by decide) (by decide) (by decide))) rfl rfl rfl hl.1 rfl (Nat.le_of_ble_eq_true rfl) dX6_turn_62 ⟨Nat.le_of_ble_eq_true rfl, Nat.le_of_ble_eq_true rfl⟩ rfl (fun F H locs hP hw => ?_)
                obtain ⟨mv3, hM3⟩ := hP
                refine lv_l2i hx hb dX6_turn_65 rfl ?_
                exact h_iretP hx hb hlk hr hw dX6_turn_66 (by rw [hen1]; simp only [sp_turn, xvs, cif_t (show (¬ (1 : Int32) < 0 ∧ ¬ 2 < (1 : Int32)) by decide), cif_t (show (¬ (2 : Int32) < 0 ∧ ¬ 2 < (2 : Int32)) by decide), cif_T, not_false_eq_true, and_self, true_and, and_true, cif_f c_50]; rfl) (by simp only [sp_turn, xvs, cif_t (show (¬ (1 : Int32) < 0 ∧ ¬ 2 < (1 : Int32)) by decide), cif_t (show (¬ (2 : Int32) < 0 ∧ ¬ 2 < (2 : Int32)) by decide), cif_T, not_false_eq_true, and_self, true_and, and_true, cif_f c_50]; exact ⟨_, hM3, rel_v hrel⟩)
              · skip
                have c_50 := bI_ne.mp c_50
                refine lv_ldc hx hb (v := (-2000000001)) hown (hts (.constant RX6 191 (-2000000001)) (by decide +kernel)) dX6_turn_53 ?_
                refine lv_goto (tgt := 66) hx hb dX6_turn_55 (by decide) ?_
                exact h_iretP hx hb hlk hr hw dX6_turn_66 (by simp only [sp_turn, xvs, cif_t (show (¬ (1 : Int32) < 0 ∧ ¬ 2 < (1 : Int32)) by decide), cif_t (show (¬ (2 : Int32) < 0 ∧ ¬ 2 < (2 : Int32)) by decide), cif_T, not_false_eq_true, and_self, true_and, and_true, cif_t c_50]) (by simp only [sp_turn, xvs, cif_t (show (¬ (1 : Int32) < 0 ∧ ¬ 2 < (1 : Int32)) by decide), cif_t (show (¬ (2 : Int32) < 0 ∧ ¬ 2 < (2 : Int32)) by decide), cif_T, not_false_eq_true, and_self, true_and, and_true, cif_t c_50]; exact ⟨_, (MW.setv hM (i := 8) (by decide) (by decide) (rg kvs)), rel_v hrel⟩)
            · skip
              first | exact absurd c_28 (by decide) | exact absurd (by decide) c_28
      · skip
        refine h_callS (st1 := [.int 1]) [.long ((2 : Int32).toInt64), .long 0, .long (2)] [] ⟨hx, hb, hml, hown, hts⟩ hE hw (HT.to (c_X6_in l G A (ML ma) F (2 : Int32).toInt64 0 2) (V2 := some (.int 1)) (congrArg (fun y => some (Value.int y)) (bI_t (show inL (2 : Int32).toInt64 0 2 from ⟨by decide, by decide⟩))) rfl) (va_cwS 3 hts gX6_turn_X6_in rfl rfl rfl (by decide +kernel) ⟨Nat.le_of_ble_eq_true rfl, Nat.le_of_ble_eq_true rfl⟩) rfl hl.1 rfl (Nat.le_of_ble_eq_true rfl) dX6_turn_13 ⟨Nat.le_of_ble_eq_true rfl, Nat.le_of_ble_eq_true rfl⟩ rfl (fun H locs hw => ?_)
        refine lv_if_eq (tgt := 31) hx hb dX6_turn_16 (by decide) (fun c_16 => ?_) (fun c_16 => ?_)
        · skip
          first | exact absurd c_16 (by decide) | exact absurd (by decide) c_16
        · skip
          refine lv_iload_n hx hb dX6_turn_19 rfl (lv_at hl 3 rfl) ?_
          refine lv_i2l hx hb dX6_turn_20 rfl ?_
          refine lv_lconst (v := 0) hx hb dX6_turn_21 (by decide) ?_
          refine lv_ldc2 hx hb (v := (2)) hown cl_77 dX6_turn_22 ?_
          rcases in_2 vj with hovj | rfl | rfl | rfl
          · skip
            refine h_callS (st1 := [.int 0]) [.long vj.toInt64, .long 0, .long (2)] [] ⟨hx, hb, hml, hown, hts⟩ hE hw (HT.to (c_X6_in l G A (ML ma) F vj.toInt64 0 2) (V2 := some (.int 0)) (congrArg (fun y => some (Value.int y)) (bI_f hovj.1)) rfl) (va_cwS 3 hts gX6_turn_X6_in rfl rfl rfl (by decide +kernel) ⟨Nat.le_of_ble_eq_true rfl, Nat.le_of_ble_eq_true rfl⟩) rfl hl.1 rfl (Nat.le_of_ble_eq_true rfl) dX6_turn_25 ⟨Nat.le_of_ble_eq_true rfl, Nat.le_of_ble_eq_true rfl⟩ rfl (fun H locs hw => ?_)
            refine lv_if_ne (tgt := 34) hx hb dX6_turn_28 (by decide) (fun c_28 => ?_) (fun c_28 => ?_)
            · skip
              first | exact absurd c_28 (by decide) | exact absurd (by decide) c_28
            · skip
              refine lv_ldc hx hb (v := (-2000000000)) hown (hts (.constant RX6 190 (-2000000000)) (by decide +kernel)) dX6_turn_31 ?_
              exact h_iretP hx hb hlk hr hw dX6_turn_33 (by simp only [sp_turn, xvs, cif_t (show (¬ (2 : Int32) < 0 ∧ ¬ 2 < (2 : Int32)) by decide), cif_T, not_false_eq_true, and_self, true_and, and_true, cif_f hovj.2]) (by simp only [sp_turn, xvs, cif_t (show (¬ (2 : Int32) < 0 ∧ ¬ 2 < (2 : Int32)) by decide), cif_T, not_false_eq_true, and_self, true_and, and_true, cif_f hovj.2]; exact ⟨_, hM, rel_v hrel⟩)
          · skip
            refine h_callS (st1 := [.int 1]) [.long ((0 : Int32).toInt64), .long 0, .long (2)] [] ⟨hx, hb, hml, hown, hts⟩ hE hw (HT.to (c_X6_in l G A (ML ma) F (0 : Int32).toInt64 0 2) (V2 := some (.int 1)) (congrArg (fun y => some (Value.int y)) (bI_t (show inL (0 : Int32).toInt64 0 2 from ⟨by decide, by decide⟩))) rfl) (va_cwS 3 hts gX6_turn_X6_in rfl rfl rfl (by decide +kernel) ⟨Nat.le_of_ble_eq_true rfl, Nat.le_of_ble_eq_true rfl⟩) rfl hl.1 rfl (Nat.le_of_ble_eq_true rfl) dX6_turn_25 ⟨Nat.le_of_ble_eq_true rfl, Nat.le_of_ble_eq_true rfl⟩ rfl (fun H locs hw => ?_)
            refine lv_if_ne (tgt := 34) hx hb dX6_turn_28 (by decide) (fun c_28 => ?_) (fun c_28 => ?_)
            · skip
              refine lv_aload_n hx hb dX6_turn_34 rfl (lv_at hl 0 rfl) ?_
              refine lv_aload_n hx hb dX6_turn_35 rfl (lv_at hl 0 rfl) ?_
              refine h_get hx hb hE hw hts hinX6 hown (ci := 6) rfl 8 (by decide) lk_32 (fun _ h9 => h9) hM.ob rfl dX6_turn_36 ?_
              refine lv_iload_n hx hb dX6_turn_39 rfl (lv_at hl 1 rfl) ?_
              refine h_callV (st1 := []) [.ref (ma 8), .int (nI kvs)] [] ⟨hx, hb, hml, hown, hts⟩ hE hw (HT.to (c_X6_load l G A ma F _ _ _ _ _ _ _ _ hM 8 kvs (by decide) (by decide) hkvs) rfl (F3 := va_up F (ma 8) (eJ4 G (rg kvs))) (by rw [show rgq mrg kvs = rg kvs from hk4 kvs hkvs])) (cwV 2 hts gX6_turn_X6_load rfl rfl rfl (by decide +kernel) ⟨Nat.le_of_ble_eq_true rfl, Nat.le_of_ble_eq_true rfl⟩) hM.ob rfl rfl rfl hl.1 rfl (Nat.le_of_ble_eq_true rfl) dX6_turn_40 ⟨Nat.le_of_ble_eq_true rfl, Nat.le_of_ble_eq_true rfl⟩ rfl (fun H locs hw => ?_)
              refine lv_aload_n hx hb dX6_turn_43 rfl (lv_at hl 0 rfl) ?_
              refine h_get hx hb hE hw hts hinX6 hown (ci := 6) rfl 8 (by decide) lk_32 (fun _ h9 => h9) (pt_ne hM.ob (hM.ne (i := 0) (j := 8) (by decide) (by decide) (by decide))) rfl dX6_turn_44 ?_
              refine h_callS (st1 := [.int (bI (qzero (rg kvs)))]) [.ref (ma 8)] [] ⟨hx, hb, hml, hown, hts⟩ hE hw (c_X6_isNull l G A (ML ma) (va_up F (ma 8) (eJ4 G (rg kvs))) (ma 8) (rg kvs) (pt_up (hM.v (i := 8) (by decide) (by decide)))) (va_cwS 1 hts gX6_turn_X6_isNull rfl rfl rfl (by decide +kernel) ⟨Nat.le_of_ble_eq_true rfl, Nat.le_of_ble_eq_true rfl⟩) rfl hl.1 rfl (Nat.le_of_ble_eq_true rfl) dX6_turn_47 ⟨Nat.le_of_ble_eq_true rfl, Nat.le_of_ble_eq_true rfl⟩ rfl (fun H locs hw => ?_)
              refine lv_if_eq (tgt := 58) hx hb dX6_turn_50 (by decide) (fun c_50 => ?_) (fun c_50 => ?_)
              · skip
                have c_50 := bI_eq.mp c_50
                refine lv_aload_n hx hb dX6_turn_58 rfl (lv_at hl 0 rfl) ?_
                refine lv_iload_n hx hb dX6_turn_59 rfl (lv_at hl 1 rfl) ?_
                refine lv_iload_n hx hb dX6_turn_60 rfl (lv_at hl 2 rfl) ?_
                refine lv_iload_n hx hb dX6_turn_61 rfl (lv_at hl 3 rfl) ?_
                have hen1 : qtn (rgq mrg kvs) 6 = qtn (rg kvs) 6 := by rw [show rgq mrg kvs = rg kvs from hk4 kvs hkvs]
                refine h_callVP (st1 := [.long (qtn (rgq mrg kvs) 6)]) [.int (nI kvs), .int 2, .int 0] [] ⟨hx, hb, hml, hown, hts⟩ hE hw (c_X6_entry_20 l G A ma (va_up F (ma 8) (eJ4 G (rg kvs))) _ _ _ _ _ _ _ _ (MW.setv hM (i := 8) (by decide) (by decide) (rg kvs)) kvs hkvs) (cwV 3 hts gX6_turn_X6_entry rfl rfl rfl (by decide +kernel) ⟨Nat.le_of_ble_eq_true rfl, Nat.le_of_ble_eq_true rfl⟩) (pt_ne hM.ob (hM.ne (i := 0) (j := 8) (by decide) (by decide) (by decide))) rfl rfl rfl hl.1 rfl (Nat.le_of_ble_eq_true rfl) dX6_turn_62 ⟨Nat.le_of_ble_eq_true rfl, Nat.le_of_ble_eq_true rfl⟩ rfl (fun F H locs hP hw => ?_)
                obtain ⟨mv3, hM3⟩ := hP
                refine lv_l2i hx hb dX6_turn_65 rfl ?_
                exact h_iretP hx hb hlk hr hw dX6_turn_66 (by rw [hen1]; simp only [sp_turn, xvs, cif_t (show (¬ (2 : Int32) < 0 ∧ ¬ 2 < (2 : Int32)) by decide), cif_t (show (¬ (0 : Int32) < 0 ∧ ¬ 2 < (0 : Int32)) by decide), cif_T, not_false_eq_true, and_self, true_and, and_true, cif_f c_50]; rfl) (by simp only [sp_turn, xvs, cif_t (show (¬ (2 : Int32) < 0 ∧ ¬ 2 < (2 : Int32)) by decide), cif_t (show (¬ (0 : Int32) < 0 ∧ ¬ 2 < (0 : Int32)) by decide), cif_T, not_false_eq_true, and_self, true_and, and_true, cif_f c_50]; exact ⟨_, hM3, rel_v hrel⟩)
              · skip
                have c_50 := bI_ne.mp c_50
                refine lv_ldc hx hb (v := (-2000000001)) hown (hts (.constant RX6 191 (-2000000001)) (by decide +kernel)) dX6_turn_53 ?_
                refine lv_goto (tgt := 66) hx hb dX6_turn_55 (by decide) ?_
                exact h_iretP hx hb hlk hr hw dX6_turn_66 (by simp only [sp_turn, xvs, cif_t (show (¬ (2 : Int32) < 0 ∧ ¬ 2 < (2 : Int32)) by decide), cif_t (show (¬ (0 : Int32) < 0 ∧ ¬ 2 < (0 : Int32)) by decide), cif_T, not_false_eq_true, and_self, true_and, and_true, cif_t c_50]) (by simp only [sp_turn, xvs, cif_t (show (¬ (2 : Int32) < 0 ∧ ¬ 2 < (2 : Int32)) by decide), cif_t (show (¬ (0 : Int32) < 0 ∧ ¬ 2 < (0 : Int32)) by decide), cif_T, not_false_eq_true, and_self, true_and, and_true, cif_t c_50]; exact ⟨_, (MW.setv hM (i := 8) (by decide) (by decide) (rg kvs)), rel_v hrel⟩)
            · skip
              first | exact absurd c_28 (by decide) | exact absurd (by decide) c_28
          · skip
            refine h_callS (st1 := [.int 1]) [.long ((1 : Int32).toInt64), .long 0, .long (2)] [] ⟨hx, hb, hml, hown, hts⟩ hE hw (HT.to (c_X6_in l G A (ML ma) F (1 : Int32).toInt64 0 2) (V2 := some (.int 1)) (congrArg (fun y => some (Value.int y)) (bI_t (show inL (1 : Int32).toInt64 0 2 from ⟨by decide, by decide⟩))) rfl) (va_cwS 3 hts gX6_turn_X6_in rfl rfl rfl (by decide +kernel) ⟨Nat.le_of_ble_eq_true rfl, Nat.le_of_ble_eq_true rfl⟩) rfl hl.1 rfl (Nat.le_of_ble_eq_true rfl) dX6_turn_25 ⟨Nat.le_of_ble_eq_true rfl, Nat.le_of_ble_eq_true rfl⟩ rfl (fun H locs hw => ?_)
            refine lv_if_ne (tgt := 34) hx hb dX6_turn_28 (by decide) (fun c_28 => ?_) (fun c_28 => ?_)
            · skip
              refine lv_aload_n hx hb dX6_turn_34 rfl (lv_at hl 0 rfl) ?_
              refine lv_aload_n hx hb dX6_turn_35 rfl (lv_at hl 0 rfl) ?_
              refine h_get hx hb hE hw hts hinX6 hown (ci := 6) rfl 8 (by decide) lk_32 (fun _ h9 => h9) hM.ob rfl dX6_turn_36 ?_
              refine lv_iload_n hx hb dX6_turn_39 rfl (lv_at hl 1 rfl) ?_
              refine h_callV (st1 := []) [.ref (ma 8), .int (nI kvs)] [] ⟨hx, hb, hml, hown, hts⟩ hE hw (HT.to (c_X6_load l G A ma F _ _ _ _ _ _ _ _ hM 8 kvs (by decide) (by decide) hkvs) rfl (F3 := va_up F (ma 8) (eJ4 G (rg kvs))) (by rw [show rgq mrg kvs = rg kvs from hk4 kvs hkvs])) (cwV 2 hts gX6_turn_X6_load rfl rfl rfl (by decide +kernel) ⟨Nat.le_of_ble_eq_true rfl, Nat.le_of_ble_eq_true rfl⟩) hM.ob rfl rfl rfl hl.1 rfl (Nat.le_of_ble_eq_true rfl) dX6_turn_40 ⟨Nat.le_of_ble_eq_true rfl, Nat.le_of_ble_eq_true rfl⟩ rfl (fun H locs hw => ?_)
              refine lv_aload_n hx hb dX6_turn_43 rfl (lv_at hl 0 rfl) ?_
              refine h_get hx hb hE hw hts hinX6 hown (ci := 6) rfl 8 (by decide) lk_32 (fun _ h9 => h9) (pt_ne hM.ob (hM.ne (i := 0) (j := 8) (by decide) (by decide) (by decide))) rfl dX6_turn_44 ?_
              refine h_callS (st1 := [.int (bI (qzero (rg kvs)))]) [.ref (ma 8)] [] ⟨hx, hb, hml, hown, hts⟩ hE hw (c_X6_isNull l G A (ML ma) (va_up F (ma 8) (eJ4 G (rg kvs))) (ma 8) (rg kvs) (pt_up (hM.v (i := 8) (by decide) (by decide)))) (va_cwS 1 hts gX6_turn_X6_isNull rfl rfl rfl (by decide +kernel) ⟨Nat.le_of_ble_eq_true rfl, Nat.le_of_ble_eq_true rfl⟩) rfl hl.1 rfl (Nat.le_of_ble_eq_true rfl) dX6_turn_47 ⟨Nat.le_of_ble_eq_true rfl, Nat.le_of_ble_eq_true rfl⟩ rfl (fun H locs hw => ?_)
              refine lv_if_eq (tgt := 58) hx hb dX6_turn_50 (by decide) (fun c_50 => ?_) (fun c_50 => ?_)
              · skip
                have c_50 := bI_eq.mp c_50
                refine lv_aload_n hx hb dX6_turn_58 rfl (lv_at hl 0 rfl) ?_
                refine lv_iload_n hx hb dX6_turn_59 rfl (lv_at hl 1 rfl) ?_
                refine lv_iload_n hx hb dX6_turn_60 rfl (lv_at hl 2 rfl) ?_
                refine lv_iload_n hx hb dX6_turn_61 rfl (lv_at hl 3 rfl) ?_
                have hen1 : qtn (rgq mrg kvs) 7 = qtn (rg kvs) 7 := by rw [show rgq mrg kvs = rg kvs from hk4 kvs hkvs]
                refine h_callVP (st1 := [.long (qtn (rgq mrg kvs) 7)]) [.int (nI kvs), .int 2, .int 1] [] ⟨hx, hb, hml, hown, hts⟩ hE hw (c_X6_entry_21 l G A ma (va_up F (ma 8) (eJ4 G (rg kvs))) _ _ _ _ _ _ _ _ (MW.setv hM (i := 8) (by decide) (by decide) (rg kvs)) kvs hkvs) (cwV 3 hts gX6_turn_X6_entry rfl rfl rfl (by decide +kernel) ⟨Nat.le_of_ble_eq_true rfl, Nat.le_of_ble_eq_true rfl⟩) (pt_ne hM.ob (hM.ne (i := 0) (j := 8) (by decide) (by decide) (by decide))) rfl rfl rfl hl.1 rfl (Nat.le_of_ble_eq_true rfl) dX6_turn_62 ⟨Nat.le_of_ble_eq_true rfl, Nat.le_of_ble_eq_true rfl⟩ rfl (fun F H locs hP hw => ?_)
                obtain ⟨mv3, hM3⟩ := hP
                refine lv_l2i hx hb dX6_turn_65 rfl ?_
                exact h_iretP hx hb hlk hr hw dX6_turn_66 (by rw [hen1]; simp only [sp_turn, xvs, cif_t (show (¬ (2 : Int32) < 0 ∧ ¬ 2 < (2 : Int32)) by decide), cif_t (show (¬ (1 : Int32) < 0 ∧ ¬ 2 < (1 : Int32)) by decide), cif_T, not_false_eq_true, and_self, true_and, and_true, cif_f c_50]; rfl) (by simp only [sp_turn, xvs, cif_t (show (¬ (2 : Int32) < 0 ∧ ¬ 2 < (2 : Int32)) by decide), cif_t (show (¬ (1 : Int32) < 0 ∧ ¬ 2 < (1 : Int32)) by decide), cif_T, not_false_eq_true, and_self, true_and, and_true, cif_f c_50]; exact ⟨_, hM3, rel_v hrel⟩)
              · skip
                have c_50 := bI_ne.mp c_50
                refine lv_ldc hx hb (v := (-2000000001)) hown (hts (.constant RX6 191 (-2000000001)) (by decide +kernel)) dX6_turn_53 ?_
                refine lv_goto (tgt := 66) hx hb dX6_turn_55 (by decide) ?_
                exact h_iretP hx hb hlk hr hw dX6_turn_66 (by simp only [sp_turn, xvs, cif_t (show (¬ (2 : Int32) < 0 ∧ ¬ 2 < (2 : Int32)) by decide), cif_t (show (¬ (1 : Int32) < 0 ∧ ¬ 2 < (1 : Int32)) by decide), cif_T, not_false_eq_true, and_self, true_and, and_true, cif_t c_50]) (by simp only [sp_turn, xvs, cif_t (show (¬ (2 : Int32) < 0 ∧ ¬ 2 < (2 : Int32)) by decide), cif_t (show (¬ (1 : Int32) < 0 ∧ ¬ 2 < (1 : Int32)) by decide), cif_T, not_false_eq_true, and_self, true_and, and_true, cif_t c_50]; exact ⟨_, (MW.setv hM (i := 8) (by decide) (by decide) (rg kvs)), rel_v hrel⟩)
            · skip
              first | exact absurd c_28 (by decide) | exact absurd (by decide) c_28
          · skip
            refine h_callS (st1 := [.int 1]) [.long ((2 : Int32).toInt64), .long 0, .long (2)] [] ⟨hx, hb, hml, hown, hts⟩ hE hw (HT.to (c_X6_in l G A (ML ma) F (2 : Int32).toInt64 0 2) (V2 := some (.int 1)) (congrArg (fun y => some (Value.int y)) (bI_t (show inL (2 : Int32).toInt64 0 2 from ⟨by decide, by decide⟩))) rfl) (va_cwS 3 hts gX6_turn_X6_in rfl rfl rfl (by decide +kernel) ⟨Nat.le_of_ble_eq_true rfl, Nat.le_of_ble_eq_true rfl⟩) rfl hl.1 rfl (Nat.le_of_ble_eq_true rfl) dX6_turn_25 ⟨Nat.le_of_ble_eq_true rfl, Nat.le_of_ble_eq_true rfl⟩ rfl (fun H locs hw => ?_)
            refine lv_if_ne (tgt := 34) hx hb dX6_turn_28 (by decide) (fun c_28 => ?_) (fun c_28 => ?_)
            · skip
              refine lv_aload_n hx hb dX6_turn_34 rfl (lv_at hl 0 rfl) ?_
              refine lv_aload_n hx hb dX6_turn_35 rfl (lv_at hl 0 rfl) ?_
              refine h_get hx hb hE hw hts hinX6 hown (ci := 6) rfl 8 (by decide) lk_32 (fun _ h9 => h9) hM.ob rfl dX6_turn_36 ?_
              refine lv_iload_n hx hb dX6_turn_39 rfl (lv_at hl 1 rfl) ?_
              refine h_callV (st1 := []) [.ref (ma 8), .int (nI kvs)] [] ⟨hx, hb, hml, hown, hts⟩ hE hw (HT.to (c_X6_load l G A ma F _ _ _ _ _ _ _ _ hM 8 kvs (by decide) (by decide) hkvs) rfl (F3 := va_up F (ma 8) (eJ4 G (rg kvs))) (by rw [show rgq mrg kvs = rg kvs from hk4 kvs hkvs])) (cwV 2 hts gX6_turn_X6_load rfl rfl rfl (by decide +kernel) ⟨Nat.le_of_ble_eq_true rfl, Nat.le_of_ble_eq_true rfl⟩) hM.ob rfl rfl rfl hl.1 rfl (Nat.le_of_ble_eq_true rfl) dX6_turn_40 ⟨Nat.le_of_ble_eq_true rfl, Nat.le_of_ble_eq_true rfl⟩ rfl (fun H locs hw => ?_)
              refine lv_aload_n hx hb dX6_turn_43 rfl (lv_at hl 0 rfl) ?_
              refine h_get hx hb hE hw hts hinX6 hown (ci := 6) rfl 8 (by decide) lk_32 (fun _ h9 => h9) (pt_ne hM.ob (hM.ne (i := 0) (j := 8) (by decide) (by decide) (by decide))) rfl dX6_turn_44 ?_
              refine h_callS (st1 := [.int (bI (qzero (rg kvs)))]) [.ref (ma 8)] [] ⟨hx, hb, hml, hown, hts⟩ hE hw (c_X6_isNull l G A (ML ma) (va_up F (ma 8) (eJ4 G (rg kvs))) (ma 8) (rg kvs) (pt_up (hM.v (i := 8) (by decide) (by decide)))) (va_cwS 1 hts gX6_turn_X6_isNull rfl rfl rfl (by decide +kernel) ⟨Nat.le_of_ble_eq_true rfl, Nat.le_of_ble_eq_true rfl⟩) rfl hl.1 rfl (Nat.le_of_ble_eq_true rfl) dX6_turn_47 ⟨Nat.le_of_ble_eq_true rfl, Nat.le_of_ble_eq_true rfl⟩ rfl (fun H locs hw => ?_)
              refine lv_if_eq (tgt := 58) hx hb dX6_turn_50 (by decide) (fun c_50 => ?_) (fun c_50 => ?_)
              · skip
                have c_50 := bI_eq.mp c_50
                refine lv_aload_n hx hb dX6_turn_58 rfl (lv_at hl 0 rfl) ?_
                refine lv_iload_n hx hb dX6_turn_59 rfl (lv_at hl 1 rfl) ?_
                refine lv_iload_n hx hb dX6_turn_60 rfl (lv_at hl 2 rfl) ?_
                refine lv_iload_n hx hb dX6_turn_61 rfl (lv_at hl 3 rfl) ?_
                have hen1 : qtn (rgq mrg kvs) 8 = qtn (rg kvs) 8 := by rw [show rgq mrg kvs = rg kvs from hk4 kvs hkvs]
                refine h_callVP (st1 := [.long (qtn (rgq mrg kvs) 8)]) [.int (nI kvs), .int 2, .int 2] [] ⟨hx, hb, hml, hown, hts⟩ hE hw (c_X6_entry_22 l G A ma (va_up F (ma 8) (eJ4 G (rg kvs))) _ _ _ _ _ _ _ _ (MW.setv hM (i := 8) (by decide) (by decide) (rg kvs)) kvs hkvs) (cwV 3 hts gX6_turn_X6_entry rfl rfl rfl (by decide +kernel) ⟨Nat.le_of_ble_eq_true rfl, Nat.le_of_ble_eq_true rfl⟩) (pt_ne hM.ob (hM.ne (i := 0) (j := 8) (by decide) (by decide) (by decide))) rfl rfl rfl hl.1 rfl (Nat.le_of_ble_eq_true rfl) dX6_turn_62 ⟨Nat.le_of_ble_eq_true rfl, Nat.le_of_ble_eq_true rfl⟩ rfl (fun F H locs hP hw => ?_)
                obtain ⟨mv3, hM3⟩ := hP
                refine lv_l2i hx hb dX6_turn_65 rfl ?_
                exact h_iretP hx hb hlk hr hw dX6_turn_66 (by rw [hen1]; simp only [sp_turn, xvs, cif_t (show (¬ (2 : Int32) < 0 ∧ ¬ 2 < (2 : Int32)) by decide), cif_t (show (¬ (2 : Int32) < 0 ∧ ¬ 2 < (2 : Int32)) by decide), cif_T, not_false_eq_true, and_self, true_and, and_true, cif_f c_50]; rfl) (by simp only [sp_turn, xvs, cif_t (show (¬ (2 : Int32) < 0 ∧ ¬ 2 < (2 : Int32)) by decide), cif_t (show (¬ (2 : Int32) < 0 ∧ ¬ 2 < (2 : Int32)) by decide), cif_T, not_false_eq_true, and_self, true_and, and_true, cif_f c_50]; exact ⟨_, hM3, rel_v hrel⟩)
              · skip
                have c_50 := bI_ne.mp c_50
                refine lv_ldc hx hb (v := (-2000000001)) hown (hts (.constant RX6 191 (-2000000001)) (by decide +kernel)) dX6_turn_53 ?_
                refine lv_goto (tgt := 66) hx hb dX6_turn_55 (by decide) ?_
                exact h_iretP hx hb hlk hr hw dX6_turn_66 (by simp only [sp_turn, xvs, cif_t (show (¬ (2 : Int32) < 0 ∧ ¬ 2 < (2 : Int32)) by decide), cif_t (show (¬ (2 : Int32) < 0 ∧ ¬ 2 < (2 : Int32)) by decide), cif_T, not_false_eq_true, and_self, true_and, and_true, cif_t c_50]) (by simp only [sp_turn, xvs, cif_t (show (¬ (2 : Int32) < 0 ∧ ¬ 2 < (2 : Int32)) by decide), cif_t (show (¬ (2 : Int32) < 0 ∧ ¬ 2 < (2 : Int32)) by decide), cif_T, not_false_eq_true, and_self, true_and, and_true, cif_t c_50]; exact ⟨_, (MW.setv hM (i := 8) (by decide) (by decide) (rg kvs)), rel_v hrel⟩)
            · skip
              first | exact absurd c_28 (by decide) | exact absurd (by decide) c_28

set_option maxHeartbeats 4000000 in
set_option maxRecDepth 100000 in
theorem c_X6_turned (l : Launch) (G : GG) (A : Nat → Prop) (ma : Nat → Nat) (F : FM) (rg : Nat → Q4) (kd : Nat → Int32) (z : Nat → Nat) (pl : Nat → Nat → Int64) (cnt : Nat) (hR : MR G ma (rg, kd, z, pl, cnt) F) (hz : ∀ k, k < 6 → z k ≤ 16) (hkd : ∀ k, k < 6 → kd k = -1 ∨ 0 ≤ kd k) (hc12 : cnt ≤ 12) (vs : Int32) (vx : Int32) (vy : Int32) (vw : Int32) (vi : Int32) : PT l yX6_turned wsX6_turned { frames := 2, cells := 0, slots := 0, locals := 56 } G A (ML ma) [.ref (ma 0), .int vs, .int vx, .int vy, .int vw, .int vi] F (some (.long (sp_turned (rg, kd, z, pl, cnt) vs vx vy vw vi).1)) (MR G ma (sp_turned (rg, kd, z, pl, cnt) vs vx vy vw vi).2) := by
  refine PT.ofW (cc := cX6_turned) (maxL := 6) (ret := (some .long)) (plainFor_of_name (by decide)) rfl (Nat.le_of_ble_eq_true rfl) ?_
  intro p e s m below meth c ls hx hb hr hml hown hts hlk hE hw hl
  have hl : lv_has ls 6 [(0, .ref (ma 0)), (1, .int vs), (2, .int vx), (3, .int vy), (4, .int vw), (5, .int vi)] := hl
  have hown : s.vm.findClass RX6 = some m.cls := hown
  have cl_75 := hts (.constantLong RX6 75 (-1)) (by decide +kernel)
  have cl_196 := hts (.constantLong RX6 196 (-100)) (by decide +kernel)
  have cl_198 := hts (.constantLong RX6 198 (100)) (by decide +kernel)
  have cl_77 := hts (.constantLong RX6 77 (2)) (by decide +kernel)
  obtain ⟨⟨mk, msz, msh, mrg, mfc, mmd, mv, mcn⟩, hM, hrel⟩ := hR
  obtain ⟨hk1, hk2, hk3, hk4, hk5, hk6⟩ := id hrel
  refine lv_iload_n hx hb dX6_turned_0 rfl (lv_at hl 1 rfl) ?_
  rcases ix_cases 16 (by decide) vs with hvs | ⟨kvs, hkvs, rfl⟩
  · skip
    have xvs := ix_none hvs
    refine h_callS (st1 := [.int 0]) [.int vs] [] ⟨hx, hb, hml, hown, hts⟩ hE hw (HT.to (c_X6_isRegister l G A (ML ma) F vs) (V2 := some (.int 0)) (congrArg (fun y => some (Value.int y)) (bI_f (show ¬ inL vs.toInt64 0 15 from inL_out (n := 15) (by decide) hvs))) rfl) (va_cwS 1 hts gX6_turned_X6_isRegister rfl rfl rfl (by decide +kernel) ⟨Nat.le_of_ble_eq_true rfl, Nat.le_of_ble_eq_true rfl⟩) rfl hl.1 rfl (Nat.le_of_ble_eq_true rfl) dX6_turned_1 ⟨Nat.le_of_ble_eq_true rfl, Nat.le_of_ble_eq_true rfl⟩ rfl (fun H locs hw => ?_)
    refine lv_if_eq (tgt := 63) hx hb dX6_turned_4 (by decide) (fun c_4 => ?_) (fun c_4 => ?_)
    · skip
      refine lv_ldc2 hx hb (v := (-1)) hown cl_75 dX6_turned_63 ?_
      exact h_lretP hx hb hlk hr hw dX6_turned_66 (by simp only [sp_turned, xvs, cif_T, not_false_eq_true, and_self, true_and, and_true]) (by simp only [sp_turned, xvs, cif_T, not_false_eq_true, and_self, true_and, and_true]; exact ⟨_, hM, rel_v hrel⟩)
    · skip
      first | exact absurd c_4 (by decide) | exact absurd (by decide) c_4
  · skip
    have xvs := ix_in (n := 16) hkvs (by decide)
    refine h_callS (st1 := [.int 1]) [.int (nI kvs)] [] ⟨hx, hb, hml, hown, hts⟩ hE hw (HT.to (c_X6_isRegister l G A (ML ma) F (nI kvs)) (V2 := some (.int 1)) (congrArg (fun y => some (Value.int y)) (bI_t (show inL (nI kvs).toInt64 0 15 from inL_in (n := 15) (by decide) hkvs))) rfl) (va_cwS 1 hts gX6_turned_X6_isRegister rfl rfl rfl (by decide +kernel) ⟨Nat.le_of_ble_eq_true rfl, Nat.le_of_ble_eq_true rfl⟩) rfl hl.1 rfl (Nat.le_of_ble_eq_true rfl) dX6_turned_1 ⟨Nat.le_of_ble_eq_true rfl, Nat.le_of_ble_eq_true rfl⟩ rfl (fun H locs hw => ?_)
    refine lv_if_eq (tgt := 63) hx hb dX6_turned_4 (by decide) (fun c_4 => ?_) (fun c_4 => ?_)
    · skip
      first | exact absurd c_4 (by decide) | exact absurd (by decide) c_4
    · skip
      refine lv_iload_n hx hb dX6_turned_7 rfl (lv_at hl 2 rfl) ?_
      refine lv_i2l hx hb dX6_turned_8 rfl ?_
      refine lv_ldc2 hx hb (v := (-100)) hown cl_196 dX6_turned_9 ?_
      refine lv_ldc2 hx hb (v := (100)) hown cl_198 dX6_turned_12 ?_
      refine h_callS (st1 := [.int (bI (inL vx.toInt64 (-100) (100)))]) [.long vx.toInt64, .long (-100), .long (100)] [] ⟨hx, hb, hml, hown, hts⟩ hE hw (c_X6_in l G A (ML ma) F vx.toInt64 (-100) (100)) (va_cwS 3 hts gX6_turned_X6_in rfl rfl rfl (by decide +kernel) ⟨Nat.le_of_ble_eq_true rfl, Nat.le_of_ble_eq_true rfl⟩) rfl hl.1 rfl (Nat.le_of_ble_eq_true rfl) dX6_turned_15 ⟨Nat.le_of_ble_eq_true rfl, Nat.le_of_ble_eq_true rfl⟩ rfl (fun H locs hw => ?_)
      refine lv_if_eq (tgt := 63) hx hb dX6_turned_18 (by decide) (fun c_18 => ?_) (fun c_18 => ?_)
      · skip
        have c_18 := bI_eq.mp c_18
        refine lv_ldc2 hx hb (v := (-1)) hown cl_75 dX6_turned_63 ?_
        exact h_lretP hx hb hlk hr hw dX6_turned_66 (by simp only [sp_turned, xvs, cif_T, not_false_eq_true, and_self, true_and, and_true, cif_f (fun w => c_18 (in_100.mpr w))]) (by simp only [sp_turned, xvs, cif_T, not_false_eq_true, and_self, true_and, and_true, cif_f (fun w => c_18 (in_100.mpr w))]; exact ⟨_, hM, rel_v hrel⟩)
      · skip
        have c_18 := bI_ne.mp c_18
        refine lv_iload_n hx hb dX6_turned_21 rfl (lv_at hl 3 rfl) ?_
        refine lv_i2l hx hb dX6_turned_22 rfl ?_
        refine lv_ldc2 hx hb (v := (-100)) hown cl_196 dX6_turned_23 ?_
        refine lv_ldc2 hx hb (v := (100)) hown cl_198 dX6_turned_26 ?_
        refine h_callS (st1 := [.int (bI (inL vy.toInt64 (-100) (100)))]) [.long vy.toInt64, .long (-100), .long (100)] [] ⟨hx, hb, hml, hown, hts⟩ hE hw (c_X6_in l G A (ML ma) F vy.toInt64 (-100) (100)) (va_cwS 3 hts gX6_turned_X6_in rfl rfl rfl (by decide +kernel) ⟨Nat.le_of_ble_eq_true rfl, Nat.le_of_ble_eq_true rfl⟩) rfl hl.1 rfl (Nat.le_of_ble_eq_true rfl) dX6_turned_29 ⟨Nat.le_of_ble_eq_true rfl, Nat.le_of_ble_eq_true rfl⟩ rfl (fun H locs hw => ?_)
        refine lv_if_eq (tgt := 63) hx hb dX6_turned_32 (by decide) (fun c_32 => ?_) (fun c_32 => ?_)
        · skip
          have c_32 := bI_eq.mp c_32
          refine lv_ldc2 hx hb (v := (-1)) hown cl_75 dX6_turned_63 ?_
          exact h_lretP hx hb hlk hr hw dX6_turned_66 (by simp only [sp_turned, xvs, cif_T, not_false_eq_true, and_self, true_and, and_true, cif_t (in_100.mp c_18), cif_f (fun w => c_32 (in_100.mpr w))]) (by simp only [sp_turned, xvs, cif_T, not_false_eq_true, and_self, true_and, and_true, cif_t (in_100.mp c_18), cif_f (fun w => c_32 (in_100.mpr w))]; exact ⟨_, hM, rel_v hrel⟩)
        · skip
          have c_32 := bI_ne.mp c_32
          refine lv_iload hx hb dX6_turned_35 (lv_at hl 4 rfl) ?_
          refine lv_i2l hx hb dX6_turned_37 rfl ?_
          refine lv_ldc2 hx hb (v := (-100)) hown cl_196 dX6_turned_38 ?_
          refine lv_ldc2 hx hb (v := (100)) hown cl_198 dX6_turned_41 ?_
          refine h_callS (st1 := [.int (bI (inL vw.toInt64 (-100) (100)))]) [.long vw.toInt64, .long (-100), .long (100)] [] ⟨hx, hb, hml, hown, hts⟩ hE hw (c_X6_in l G A (ML ma) F vw.toInt64 (-100) (100)) (va_cwS 3 hts gX6_turned_X6_in rfl rfl rfl (by decide +kernel) ⟨Nat.le_of_ble_eq_true rfl, Nat.le_of_ble_eq_true rfl⟩) rfl hl.1 rfl (Nat.le_of_ble_eq_true rfl) dX6_turned_44 ⟨Nat.le_of_ble_eq_true rfl, Nat.le_of_ble_eq_true rfl⟩ rfl (fun H locs hw => ?_)
          refine lv_if_eq (tgt := 63) hx hb dX6_turned_47 (by decide) (fun c_47 => ?_) (fun c_47 => ?_)
          · skip
            have c_47 := bI_eq.mp c_47
            refine lv_ldc2 hx hb (v := (-1)) hown cl_75 dX6_turned_63 ?_
            exact h_lretP hx hb hlk hr hw dX6_turned_66 (by simp only [sp_turned, xvs, cif_T, not_false_eq_true, and_self, true_and, and_true, cif_t (in_100.mp c_18), cif_t (in_100.mp c_32), cif_f (fun w => c_47 (in_100.mpr w))]) (by simp only [sp_turned, xvs, cif_T, not_false_eq_true, and_self, true_and, and_true, cif_t (in_100.mp c_18), cif_t (in_100.mp c_32), cif_f (fun w => c_47 (in_100.mpr w))]; exact ⟨_, hM, rel_v hrel⟩)
          · skip
            have c_47 := bI_ne.mp c_47
            refine lv_iload hx hb dX6_turned_50 (lv_at hl 5 rfl) ?_
            refine lv_i2l hx hb dX6_turned_52 rfl ?_
            refine lv_lconst (v := 0) hx hb dX6_turned_53 (by decide) ?_
            refine lv_ldc2 hx hb (v := (2)) hown cl_77 dX6_turned_54 ?_
            rcases in_2 vi with hovi | rfl | rfl | rfl
            · skip
              refine h_callS (st1 := [.int 0]) [.long vi.toInt64, .long 0, .long (2)] [] ⟨hx, hb, hml, hown, hts⟩ hE hw (HT.to (c_X6_in l G A (ML ma) F vi.toInt64 0 2) (V2 := some (.int 0)) (congrArg (fun y => some (Value.int y)) (bI_f hovi.1)) rfl) (va_cwS 3 hts gX6_turned_X6_in rfl rfl rfl (by decide +kernel) ⟨Nat.le_of_ble_eq_true rfl, Nat.le_of_ble_eq_true rfl⟩) rfl hl.1 rfl (Nat.le_of_ble_eq_true rfl) dX6_turned_57 ⟨Nat.le_of_ble_eq_true rfl, Nat.le_of_ble_eq_true rfl⟩ rfl (fun H locs hw => ?_)
              refine lv_if_ne (tgt := 67) hx hb dX6_turned_60 (by decide) (fun c_60 => ?_) (fun c_60 => ?_)
              · skip
                first | exact absurd c_60 (by decide) | exact absurd (by decide) c_60
              · skip
                refine lv_ldc2 hx hb (v := (-1)) hown cl_75 dX6_turned_63 ?_
                exact h_lretP hx hb hlk hr hw dX6_turned_66 (by simp only [sp_turned, xvs, cif_T, not_false_eq_true, and_self, true_and, and_true, cif_t (in_100.mp c_18), cif_t (in_100.mp c_32), cif_t (in_100.mp c_47), cif_f hovi.2]) (by simp only [sp_turned, xvs, cif_T, not_false_eq_true, and_self, true_and, and_true, cif_t (in_100.mp c_18), cif_t (in_100.mp c_32), cif_t (in_100.mp c_47), cif_f hovi.2]; exact ⟨_, hM, rel_v hrel⟩)
            · skip
              refine h_callS (st1 := [.int 1]) [.long ((0 : Int32).toInt64), .long 0, .long (2)] [] ⟨hx, hb, hml, hown, hts⟩ hE hw (HT.to (c_X6_in l G A (ML ma) F (0 : Int32).toInt64 0 2) (V2 := some (.int 1)) (congrArg (fun y => some (Value.int y)) (bI_t (show inL (0 : Int32).toInt64 0 2 from ⟨by decide, by decide⟩))) rfl) (va_cwS 3 hts gX6_turned_X6_in rfl rfl rfl (by decide +kernel) ⟨Nat.le_of_ble_eq_true rfl, Nat.le_of_ble_eq_true rfl⟩) rfl hl.1 rfl (Nat.le_of_ble_eq_true rfl) dX6_turned_57 ⟨Nat.le_of_ble_eq_true rfl, Nat.le_of_ble_eq_true rfl⟩ rfl (fun H locs hw => ?_)
              refine lv_if_ne (tgt := 67) hx hb dX6_turned_60 (by decide) (fun c_60 => ?_) (fun c_60 => ?_)
              · skip
                refine lv_aload_n hx hb dX6_turned_67 rfl (lv_at hl 0 rfl) ?_
                refine lv_iload_n hx hb dX6_turned_68 rfl (lv_at hl 1 rfl) ?_
                refine lv_iload hx hb dX6_turned_69 (lv_at hl 5 rfl) ?_
                refine lv_iconst (v := 0) hx hb dX6_turned_71 (by decide) ?_
                have hen1 : qtn (rgq mrg kvs) 0 = qtn (rg kvs) 0 := by rw [show rgq mrg kvs = rg kvs from hk4 kvs hkvs]
                refine h_callVP (st1 := [.long (qtn (rgq mrg kvs) 0)]) [.int (nI kvs), .int 0, .int 0] [] ⟨hx, hb, hml, hown, hts⟩ hE hw (c_X6_entry_00 l G A ma F _ _ _ _ _ _ _ _ hM kvs hkvs) (cwV 3 hts gX6_turned_X6_entry rfl rfl rfl (by decide +kernel) ⟨Nat.le_of_ble_eq_true rfl, Nat.le_of_ble_eq_true rfl⟩) hM.ob rfl rfl rfl hl.1 rfl (Nat.le_of_ble_eq_true rfl) dX6_turned_72 ⟨Nat.le_of_ble_eq_true rfl, Nat.le_of_ble_eq_true rfl⟩ rfl (fun F H locs hP hw => ?_)
                obtain ⟨mv3, hM3⟩ := hP
                refine lv_iload_n hx hb dX6_turned_75 rfl (lv_at hl 2 rfl) ?_
                refine lv_i2l hx hb dX6_turned_76 rfl ?_
                refine lv_lmul hx hb dX6_turned_77 ?_
                refine lv_aload_n hx hb dX6_turned_78 rfl (lv_at hl 0 rfl) ?_
                refine lv_iload_n hx hb dX6_turned_79 rfl (lv_at hl 1 rfl) ?_
                refine lv_iload hx hb dX6_turned_80 (lv_at hl 5 rfl) ?_
                refine lv_iconst (v := 1) hx hb dX6_turned_82 (by decide) ?_
                have hen2 : qtn (rgq mrg kvs) 1 = qtn (rg kvs) 1 := by rw [show rgq mrg kvs = rg kvs from hk4 kvs hkvs]
                refine h_callVP (st1 := [.long (qtn (rgq mrg kvs) 1), .long ((qtn (rgq mrg kvs) 0) * vx.toInt64)]) [.int (nI kvs), .int 0, .int 1] [.long ((qtn (rgq mrg kvs) 0) * vx.toInt64)] ⟨hx, hb, hml, hown, hts⟩ hE hw (c_X6_entry_01 l G A ma F _ _ _ _ _ _ _ _ hM3 kvs hkvs) (cwV 3 hts gX6_turned_X6_entry rfl rfl rfl (by decide +kernel) ⟨Nat.le_of_ble_eq_true rfl, Nat.le_of_ble_eq_true rfl⟩) hM3.ob rfl rfl rfl hl.1 rfl (Nat.le_of_ble_eq_true rfl) dX6_turned_83 ⟨Nat.le_of_ble_eq_true rfl, Nat.le_of_ble_eq_true rfl⟩ rfl (fun F H locs hP hw => ?_)
                obtain ⟨mv4, hM4⟩ := hP
                refine lv_iload_n hx hb dX6_turned_86 rfl (lv_at hl 3 rfl) ?_
                refine lv_i2l hx hb dX6_turned_87 rfl ?_
                refine lv_lmul hx hb dX6_turned_88 ?_
                refine lv_ladd hx hb dX6_turned_89 ?_
                refine lv_aload_n hx hb dX6_turned_90 rfl (lv_at hl 0 rfl) ?_
                refine lv_iload_n hx hb dX6_turned_91 rfl (lv_at hl 1 rfl) ?_
                refine lv_iload hx hb dX6_turned_92 (lv_at hl 5 rfl) ?_
                refine lv_iconst (v := 2) hx hb dX6_turned_94 (by decide) ?_
                have hen3 : qtn (rgq mrg kvs) 2 = qtn (rg kvs) 2 := by rw [show rgq mrg kvs = rg kvs from hk4 kvs hkvs]
                refine h_callVP (st1 := [.long (qtn (rgq mrg kvs) 2), .long (((qtn (rgq mrg kvs) 0) * vx.toInt64) + ((qtn (rgq mrg kvs) 1) * vy.toInt64))]) [.int (nI kvs), .int 0, .int 2] [.long (((qtn (rgq mrg kvs) 0) * vx.toInt64) + ((qtn (rgq mrg kvs) 1) * vy.toInt64))] ⟨hx, hb, hml, hown, hts⟩ hE hw (c_X6_entry_02 l G A ma F _ _ _ _ _ _ _ _ hM4 kvs hkvs) (cwV 3 hts gX6_turned_X6_entry rfl rfl rfl (by decide +kernel) ⟨Nat.le_of_ble_eq_true rfl, Nat.le_of_ble_eq_true rfl⟩) hM4.ob rfl rfl rfl hl.1 rfl (Nat.le_of_ble_eq_true rfl) dX6_turned_95 ⟨Nat.le_of_ble_eq_true rfl, Nat.le_of_ble_eq_true rfl⟩ rfl (fun F H locs hP hw => ?_)
                obtain ⟨mv5, hM5⟩ := hP
                refine lv_iload hx hb dX6_turned_98 (lv_at hl 4 rfl) ?_
                refine lv_i2l hx hb dX6_turned_100 rfl ?_
                refine lv_lmul hx hb dX6_turned_101 ?_
                refine lv_ladd hx hb dX6_turned_102 ?_
                exact h_lretP hx hb hlk hr hw dX6_turned_103 (by rw [hen1, hen2, hen3]; simp only [sp_turned, xvs, cif_t (show (¬ (0 : Int32) < 0 ∧ ¬ 2 < (0 : Int32)) by decide), cif_T, not_false_eq_true, and_self, true_and, and_true, cif_t (in_100.mp c_18), cif_t (in_100.mp c_32), cif_t (in_100.mp c_47)]; rfl) (by simp only [sp_turned, xvs, cif_t (show (¬ (0 : Int32) < 0 ∧ ¬ 2 < (0 : Int32)) by decide), cif_T, not_false_eq_true, and_self, true_and, and_true, cif_t (in_100.mp c_18), cif_t (in_100.mp c_32), cif_t (in_100.mp c_47)]; exact ⟨_, hM5, rel_v hrel⟩)
              · skip
                first | exact absurd c_60 (by decide) | exact absurd (by decide) c_60
            · skip
              refine h_callS (st1 := [.int 1]) [.long ((1 : Int32).toInt64), .long 0, .long (2)] [] ⟨hx, hb, hml, hown, hts⟩ hE hw (HT.to (c_X6_in l G A (ML ma) F (1 : Int32).toInt64 0 2) (V2 := some (.int 1)) (congrArg (fun y => some (Value.int y)) (bI_t (show inL (1 : Int32).toInt64 0 2 from ⟨by decide, by decide⟩))) rfl) (va_cwS 3 hts gX6_turned_X6_in rfl rfl rfl (by decide +kernel) ⟨Nat.le_of_ble_eq_true rfl, Nat.le_of_ble_eq_true rfl⟩) rfl hl.1 rfl (Nat.le_of_ble_eq_true rfl) dX6_turned_57 ⟨Nat.le_of_ble_eq_true rfl, Nat.le_of_ble_eq_true rfl⟩ rfl (fun H locs hw => ?_)
              refine lv_if_ne (tgt := 67) hx hb dX6_turned_60 (by decide) (fun c_60 => ?_) (fun c_60 => ?_)
              · skip
                refine lv_aload_n hx hb dX6_turned_67 rfl (lv_at hl 0 rfl) ?_
                refine lv_iload_n hx hb dX6_turned_68 rfl (lv_at hl 1 rfl) ?_
                refine lv_iload hx hb dX6_turned_69 (lv_at hl 5 rfl) ?_
                refine lv_iconst (v := 0) hx hb dX6_turned_71 (by decide) ?_
                have hen1 : qtn (rgq mrg kvs) 3 = qtn (rg kvs) 3 := by rw [show rgq mrg kvs = rg kvs from hk4 kvs hkvs]
                refine h_callVP (st1 := [.long (qtn (rgq mrg kvs) 3)]) [.int (nI kvs), .int 1, .int 0] [] ⟨hx, hb, hml, hown, hts⟩ hE hw (c_X6_entry_10 l G A ma F _ _ _ _ _ _ _ _ hM kvs hkvs) (cwV 3 hts gX6_turned_X6_entry rfl rfl rfl (by decide +kernel) ⟨Nat.le_of_ble_eq_true rfl, Nat.le_of_ble_eq_true rfl⟩) hM.ob rfl rfl rfl hl.1 rfl (Nat.le_of_ble_eq_true rfl) dX6_turned_72 ⟨Nat.le_of_ble_eq_true rfl, Nat.le_of_ble_eq_true rfl⟩ rfl (fun F H locs hP hw => ?_)
                obtain ⟨mv3, hM3⟩ := hP
                refine lv_iload_n hx hb dX6_turned_75 rfl (lv_at hl 2 rfl) ?_
                refine lv_i2l hx hb dX6_turned_76 rfl ?_
                refine lv_lmul hx hb dX6_turned_77 ?_
                refine lv_aload_n hx hb dX6_turned_78 rfl (lv_at hl 0 rfl) ?_
                refine lv_iload_n hx hb dX6_turned_79 rfl (lv_at hl 1 rfl) ?_
                refine lv_iload hx hb dX6_turned_80 (lv_at hl 5 rfl) ?_
                refine lv_iconst (v := 1) hx hb dX6_turned_82 (by decide) ?_
                have hen2 : qtn (rgq mrg kvs) 4 = qtn (rg kvs) 4 := by rw [show rgq mrg kvs = rg kvs from hk4 kvs hkvs]
                refine h_callVP (st1 := [.long (qtn (rgq mrg kvs) 4), .long ((qtn (rgq mrg kvs) 3) * vx.toInt64)]) [.int (nI kvs), .int 1, .int 1] [.long ((qtn (rgq mrg kvs) 3) * vx.toInt64)] ⟨hx, hb, hml, hown, hts⟩ hE hw (c_X6_entry_11 l G A ma F _ _ _ _ _ _ _ _ hM3 kvs hkvs) (cwV 3 hts gX6_turned_X6_entry rfl rfl rfl (by decide +kernel) ⟨Nat.le_of_ble_eq_true rfl, Nat.le_of_ble_eq_true rfl⟩) hM3.ob rfl rfl rfl hl.1 rfl (Nat.le_of_ble_eq_true rfl) dX6_turned_83 ⟨Nat.le_of_ble_eq_true rfl, Nat.le_of_ble_eq_true rfl⟩ rfl (fun F H locs hP hw => ?_)
                obtain ⟨mv4, hM4⟩ := hP
                refine lv_iload_n hx hb dX6_turned_86 rfl (lv_at hl 3 rfl) ?_
                refine lv_i2l hx hb dX6_turned_87 rfl ?_
                refine lv_lmul hx hb dX6_turned_88 ?_
                refine lv_ladd hx hb dX6_turned_89 ?_
                refine lv_aload_n hx hb dX6_turned_90 rfl (lv_at hl 0 rfl) ?_
                refine lv_iload_n hx hb dX6_turned_91 rfl (lv_at hl 1 rfl) ?_
                refine lv_iload hx hb dX6_turned_92 (lv_at hl 5 rfl) ?_
                refine lv_iconst (v := 2) hx hb dX6_turned_94 (by decide) ?_
                have hen3 : qtn (rgq mrg kvs) 5 = qtn (rg kvs) 5 := by rw [show rgq mrg kvs = rg kvs from hk4 kvs hkvs]
                refine h_callVP (st1 := [.long (qtn (rgq mrg kvs) 5), .long (((qtn (rgq mrg kvs) 3) * vx.toInt64) + ((qtn (rgq mrg kvs) 4) * vy.toInt64))]) [.int (nI kvs), .int 1, .int 2] [.long (((qtn (rgq mrg kvs) 3) * vx.toInt64) + ((qtn (rgq mrg kvs) 4) * vy.toInt64))] ⟨hx, hb, hml, hown, hts⟩ hE hw (c_X6_entry_12 l G A ma F _ _ _ _ _ _ _ _ hM4 kvs hkvs) (cwV 3 hts gX6_turned_X6_entry rfl rfl rfl (by decide +kernel) ⟨Nat.le_of_ble_eq_true rfl, Nat.le_of_ble_eq_true rfl⟩) hM4.ob rfl rfl rfl hl.1 rfl (Nat.le_of_ble_eq_true rfl) dX6_turned_95 ⟨Nat.le_of_ble_eq_true rfl, Nat.le_of_ble_eq_true rfl⟩ rfl (fun F H locs hP hw => ?_)
                obtain ⟨mv5, hM5⟩ := hP
                refine lv_iload hx hb dX6_turned_98 (lv_at hl 4 rfl) ?_
                refine lv_i2l hx hb dX6_turned_100 rfl ?_
                refine lv_lmul hx hb dX6_turned_101 ?_
                refine lv_ladd hx hb dX6_turned_102 ?_
                exact h_lretP hx hb hlk hr hw dX6_turned_103 (by rw [hen1, hen2, hen3]; simp only [sp_turned, xvs, cif_t (show (¬ (1 : Int32) < 0 ∧ ¬ 2 < (1 : Int32)) by decide), cif_T, not_false_eq_true, and_self, true_and, and_true, cif_t (in_100.mp c_18), cif_t (in_100.mp c_32), cif_t (in_100.mp c_47)]; rfl) (by simp only [sp_turned, xvs, cif_t (show (¬ (1 : Int32) < 0 ∧ ¬ 2 < (1 : Int32)) by decide), cif_T, not_false_eq_true, and_self, true_and, and_true, cif_t (in_100.mp c_18), cif_t (in_100.mp c_32), cif_t (in_100.mp c_47)]; exact ⟨_, hM5, rel_v hrel⟩)
              · skip
                first | exact absurd c_60 (by decide) | exact absurd (by decide) c_60
            · skip
              refine h_callS (st1 := [.int 1]) [.long ((2 : Int32).toInt64), .long 0, .long (2)] [] ⟨hx, hb, hml, hown, hts⟩ hE hw (HT.to (c_X6_in l G A (ML ma) F (2 : Int32).toInt64 0 2) (V2 := some (.int 1)) (congrArg (fun y => some (Value.int y)) (bI_t (show inL (2 : Int32).toInt64 0 2 from ⟨by decide, by decide⟩))) rfl) (va_cwS 3 hts gX6_turned_X6_in rfl rfl rfl (by decide +kernel) ⟨Nat.le_of_ble_eq_true rfl, Nat.le_of_ble_eq_true rfl⟩) rfl hl.1 rfl (Nat.le_of_ble_eq_true rfl) dX6_turned_57 ⟨Nat.le_of_ble_eq_true rfl, Nat.le_of_ble_eq_true rfl⟩ rfl (fun H locs hw => ?_)
              refine lv_if_ne (tgt := 67) hx hb dX6_turned_60 (by decide) (fun c_60 => ?_) (fun c_60 => ?_)
              · skip
                refine lv_aload_n hx hb dX6_turned_67 rfl (lv_at hl 0 rfl) ?_
                refine lv_iload_n hx hb dX6_turned_68 rfl (lv_at hl 1 rfl) ?_
                refine lv_iload hx hb dX6_turned_69 (lv_at hl 5 rfl) ?_
                refine lv_iconst (v := 0) hx hb dX6_turned_71 (by decide) ?_
                have hen1 : qtn (rgq mrg kvs) 6 = qtn (rg kvs) 6 := by rw [show rgq mrg kvs = rg kvs from hk4 kvs hkvs]
                refine h_callVP (st1 := [.long (qtn (rgq mrg kvs) 6)]) [.int (nI kvs), .int 2, .int 0] [] ⟨hx, hb, hml, hown, hts⟩ hE hw (c_X6_entry_20 l G A ma F _ _ _ _ _ _ _ _ hM kvs hkvs) (cwV 3 hts gX6_turned_X6_entry rfl rfl rfl (by decide +kernel) ⟨Nat.le_of_ble_eq_true rfl, Nat.le_of_ble_eq_true rfl⟩) hM.ob rfl rfl rfl hl.1 rfl (Nat.le_of_ble_eq_true rfl) dX6_turned_72 ⟨Nat.le_of_ble_eq_true rfl, Nat.le_of_ble_eq_true rfl⟩ rfl (fun F H locs hP hw => ?_)
                obtain ⟨mv3, hM3⟩ := hP
                refine lv_iload_n hx hb dX6_turned_75 rfl (lv_at hl 2 rfl) ?_
                refine lv_i2l hx hb dX6_turned_76 rfl ?_
                refine lv_lmul hx hb dX6_turned_77 ?_
                refine lv_aload_n hx hb dX6_turned_78 rfl (lv_at hl 0 rfl) ?_
                refine lv_iload_n hx hb dX6_turned_79 rfl (lv_at hl 1 rfl) ?_
                refine lv_iload hx hb dX6_turned_80 (lv_at hl 5 rfl) ?_
                refine lv_iconst (v := 1) hx hb dX6_turned_82 (by decide) ?_
                have hen2 : qtn (rgq mrg kvs) 7 = qtn (rg kvs) 7 := by rw [show rgq mrg kvs = rg kvs from hk4 kvs hkvs]
                refine h_callVP (st1 := [.long (qtn (rgq mrg kvs) 7), .long ((qtn (rgq mrg kvs) 6) * vx.toInt64)]) [.int (nI kvs), .int 2, .int 1] [.long ((qtn (rgq mrg kvs) 6) * vx.toInt64)] ⟨hx, hb, hml, hown, hts⟩ hE hw (c_X6_entry_21 l G A ma F _ _ _ _ _ _ _ _ hM3 kvs hkvs) (cwV 3 hts gX6_turned_X6_entry rfl rfl rfl (by decide +kernel) ⟨Nat.le_of_ble_eq_true rfl, Nat.le_of_ble_eq_true rfl⟩) hM3.ob rfl rfl rfl hl.1 rfl (Nat.le_of_ble_eq_true rfl) dX6_turned_83 ⟨Nat.le_of_ble_eq_true rfl, Nat.le_of_ble_eq_true rfl⟩ rfl (fun F H locs hP hw => ?_)
                obtain ⟨mv4, hM4⟩ := hP
                refine lv_iload_n hx hb dX6_turned_86 rfl (lv_at hl 3 rfl) ?_
                refine lv_i2l hx hb dX6_turned_87 rfl ?_
                refine lv_lmul hx hb dX6_turned_88 ?_
                refine lv_ladd hx hb dX6_turned_89 ?_
                refine lv_aload_n hx hb dX6_turned_90 rfl (lv_at hl 0 rfl) ?_
                refine lv_iload_n hx hb dX6_turned_91 rfl (lv_at hl 1 rfl) ?_
                refine lv_iload hx hb dX6_turned_92 (lv_at hl 5 rfl) ?_
                refine lv_iconst (v := 2) hx hb dX6_turned_94 (by decide) ?_
                have hen3 : qtn (rgq mrg kvs) 8 = qtn (rg kvs) 8 := by rw [show rgq mrg kvs = rg kvs from hk4 kvs hkvs]
                refine h_callVP (st1 := [.long (qtn (rgq mrg kvs) 8), .long (((qtn (rgq mrg kvs) 6) * vx.toInt64) + ((qtn (rgq mrg kvs) 7) * vy.toInt64))]) [.int (nI kvs), .int 2, .int 2] [.long (((qtn (rgq mrg kvs) 6) * vx.toInt64) + ((qtn (rgq mrg kvs) 7) * vy.toInt64))] ⟨hx, hb, hml, hown, hts⟩ hE hw (c_X6_entry_22 l G A ma F _ _ _ _ _ _ _ _ hM4 kvs hkvs) (cwV 3 hts gX6_turned_X6_entry rfl rfl rfl (by decide +kernel) ⟨Nat.le_of_ble_eq_true rfl, Nat.le_of_ble_eq_true rfl⟩) hM4.ob rfl rfl rfl hl.1 rfl (Nat.le_of_ble_eq_true rfl) dX6_turned_95 ⟨Nat.le_of_ble_eq_true rfl, Nat.le_of_ble_eq_true rfl⟩ rfl (fun F H locs hP hw => ?_)
                obtain ⟨mv5, hM5⟩ := hP
                refine lv_iload hx hb dX6_turned_98 (lv_at hl 4 rfl) ?_
                refine lv_i2l hx hb dX6_turned_100 rfl ?_
                refine lv_lmul hx hb dX6_turned_101 ?_
                refine lv_ladd hx hb dX6_turned_102 ?_
                exact h_lretP hx hb hlk hr hw dX6_turned_103 (by rw [hen1, hen2, hen3]; simp only [sp_turned, xvs, cif_t (show (¬ (2 : Int32) < 0 ∧ ¬ 2 < (2 : Int32)) by decide), cif_T, not_false_eq_true, and_self, true_and, and_true, cif_t (in_100.mp c_18), cif_t (in_100.mp c_32), cif_t (in_100.mp c_47)]; rfl) (by simp only [sp_turned, xvs, cif_t (show (¬ (2 : Int32) < 0 ∧ ¬ 2 < (2 : Int32)) by decide), cif_T, not_false_eq_true, and_self, true_and, and_true, cif_t (in_100.mp c_18), cif_t (in_100.mp c_32), cif_t (in_100.mp c_47)]; exact ⟨_, hM5, rel_v hrel⟩)
              · skip
                first | exact absurd c_60 (by decide) | exact absurd (by decide) c_60
