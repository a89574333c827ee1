set_option maxHeartbeats 4000000 in
set_option maxRecDepth 100000 in
theorem c_X6_findDivisor (l : Launch) (G : GG) (A : Nat → Prop) (ma : Nat → Nat) (F : FM) (mk msz : Nat → Int32) (msh : Nat → Int64) (mrg : Nat → Int32) (mfc mmd : Nat → Int64) (mv : Nat → Q4) (mcn : Int32) (hM : MW G ma (mk, msz, msh, mrg, mfc, mmd, mv, mcn) F) (x y : Q4) (h8 : mv 8 = x) (h9 : mv 9 = y) (sd : Int32) (n : Nat) (hT : dvT sd n x y) : PT l yX6_findDivisor wsX6_findDivisor { frames := 2, cells := 0, slots := 0, locals := 59 } G A (ML ma) [.ref (ma 0), .int sd] F none (fun F2 => ∃ mv2 : Nat → Q4, MW G ma (mk, msz, msh, mrg, mfc, mmd, mv2, mcn) F2 ∧ mv2 12 = grl (osd sd) (dvR sd n x y) 24 ∧ mv2 16 = mv 16) := by
  refine PT.ofW (cc := cX6_findDivisor) (maxL := 3) (ret := none) (plainFor_of_name (by decide)) rfl (Nat.le_of_ble_eq_true rfl) ?_
  intro p e s m below meth c ls hx hb hr hml hown hts hlk hE hw hl
  have hl : lv_has ls 3 [(0, .ref (ma 0)), (1, .int sd)] := hl
  have hown : s.vm.findClass RX6 = some m.cls := hown
  have lk_35 := hts (.fieldLink RX6 35 "FourPartsModel" "y" "[J") (by decide +kernel)
  have hinX6 : ∀ w ∈ u_ws RX6 TX6 18, w ∈ wsX6_findDivisor := by decide +kernel
  have lk_38 := hts (.fieldLink RX6 38 "FourPartsModel" "z" "[J") (by decide +kernel)
  have lk_32 := hts (.fieldLink RX6 32 "FourPartsModel" "x" "[J") (by decide +kernel)
  have lk_44 := hts (.fieldLink RX6 44 "FourPartsModel" "best" "[J") (by decide +kernel)
  have lk_41 := hts (.fieldLink RX6 41 "FourPartsModel" "rest" "[J") (by decide +kernel)
  generalize hR9 : dvR sd n x y = R9
  have lp2 : ∀ (d u : Nat) (F : FM) (mv2 : Nat → Q4) (H : Heap) (locs : List Loc) (ls : Array Slot), d + u = 24 → MW G ma (mk, msz, msh, mrg, mfc, mmd, mv2, mcn) F → mv2 8 = R9 → mv2 12 = grl (osd sd) R9 u → mv2 16 = mv 16 → wo G A s.heap (ML ma) F H locs → lv_has ls 3 [(0, .ref (ma 0)), (1, .int sd), (2, .int (nI u))] → W p l e { frames := 2, cells := 0, slots := 0, locals := 59 } s m ([.ref (ma 0), .int sd].toArray) below meth c H locs 0 0 (MQ below (QP G A (ML ma) none (fun F2 => ∃ mv2 : Nat → Q4, MW G ma (mk, msz, msh, mrg, mfc, mmd, mv2, mcn) F2 ∧ mv2 12 = grl (osd sd) (R9) 24 ∧ mv2 16 = mv 16)) ([.ref (ma 0), .int sd].toArray) s 0 0 A) (F0 m 61 ls []) := by
    intro d
    induction d with
    | zero =>
      intro u F mv2 H locs ls hu hM2 h8 h12 h16 hw hl
      refine lv_iload_n hx hb dX6_findDivisor_61 rfl (lv_at hl 2 rfl) ?_
      refine lv_bipush (v := 24) hx hb dX6_findDivisor_62 (by decide) ?_
      refine lv_icmp_ge (tgt := 144) hx hb dX6_findDivisor_64 (by decide) (fun c_64 => ?_) (fun c_64 => ?_)
      · skip
        exact h_vretP hx hb hlk hr hw dX6_findDivisor_144 rfl ⟨mv2, hM2, by rw [h12, show u = 24 by omega], h16⟩
      · skip
        exact absurd (nI_le (a := 24) (b := u) (by omega) (by omega)) c_64
    | succ d ih =>
      intro u F mv2 H locs ls hu hM2 h8 h12 h16 hw hl
      refine lv_iload_n hx hb dX6_findDivisor_61 rfl (lv_at hl 2 rfl) ?_
      refine lv_bipush (v := 24) hx hb dX6_findDivisor_62 (by decide) ?_
      refine lv_icmp_ge (tgt := 144) hx hb dX6_findDivisor_64 (by decide) (fun c_64 => ?_) (fun c_64 => ?_)
      · skip
        exact absurd c_64 (nI_ge (a := u) (b := 24) (by omega) (by decide))
      · skip
        refine lv_aload_n hx hb dX6_findDivisor_67 rfl (lv_at hl 0 rfl) ?_
        refine lv_aload_n hx hb dX6_findDivisor_68 rfl (lv_at hl 0 rfl) ?_
        refine h_get hx hb hE hw hts hinX6 hown (ci := 6) rfl 9 (by decide) lk_35 (fun _ h9 => h9) hM2.ob rfl dX6_findDivisor_69 ?_
        refine lv_iload_n hx hb dX6_findDivisor_72 rfl (lv_at hl 2 rfl) ?_
        refine h_callV (st1 := []) [.ref (ma 9), .int (nI u)] [] ⟨hx, hb, hml, hown, hts⟩ hE hw (c_X6_loadUnit l G A ma F _ _ _ _ _ _ _ _ hM2 9 u (by decide) (by decide) (by omega)) (cwV 2 hts gX6_findDivisor_X6_loadUnit rfl rfl rfl (by decide +kernel) ⟨Nat.le_of_ble_eq_true rfl, Nat.le_of_ble_eq_true rfl⟩) hM2.ob rfl rfl rfl hl.1 rfl (Nat.le_of_ble_eq_true rfl) dX6_findDivisor_73 ⟨Nat.le_of_ble_eq_true rfl, Nat.le_of_ble_eq_true rfl⟩ rfl (fun H locs hw => ?_)
        refine lv_iload_n hx hb dX6_findDivisor_76 rfl (lv_at hl 1 rfl) ?_
        refine lv_if_ne (tgt := 98) hx hb dX6_findDivisor_77 (by decide) (fun c_77 => ?_) (fun c_77 => ?_)
        · skip
          have hqo : qon (osd sd) R9 (uq4 u) = qmul R9 (uq4 u) := by rw [show osd sd = 0 from if_neg c_77]; exact qon_0 _ _
          refine lv_aload_n hx hb dX6_findDivisor_98 rfl (lv_at hl 0 rfl) ?_
          refine h_get hx hb hE hw hts hinX6 hown (ci := 6) rfl 10 (by decide) lk_38 (fun _ h9 => h9) (pt_ne hM2.ob (hM.ne (i := 0) (j := 9) (by decide) (by decide) (by decide))) rfl dX6_findDivisor_99 ?_
          refine lv_aload_n hx hb dX6_findDivisor_102 rfl (lv_at hl 0 rfl) ?_
          refine h_get hx hb hE hw hts hinX6 hown (ci := 6) rfl 8 (by decide) lk_32 (fun _ h9 => h9) (pt_ne hM2.ob (hM.ne (i := 0) (j := 9) (by decide) (by decide) (by decide))) rfl dX6_findDivisor_103 ?_
          refine lv_aload_n hx hb dX6_findDivisor_106 rfl (lv_at hl 0 rfl) ?_
          refine h_get hx hb hE hw hts hinX6 hown (ci := 6) rfl 9 (by decide) lk_35 (fun _ h9 => h9) (pt_ne hM2.ob (hM.ne (i := 0) (j := 9) (by decide) (by decide) (by decide))) rfl dX6_findDivisor_107 ?_
          refine h_callS (st1 := []) [.ref (ma 10), .ref (ma 8), .ref (ma 9)] [] ⟨hx, hb, hml, hown, hts⟩ hE hw (c_X6_times l G A (ML ma) (va_up F (ma 9) (eJ4 G (uq4 u))) (ma 10) (ma 8) (ma 9) (mv2 10) R9 (uq4 u) (pt_ne (hM2.v (i := 10) (by decide) (by decide)) (hM.ne (i := 10) (j := 9) (by decide) (by decide) (by decide))) (pt_ne (pt_eq (hM2.v (i := 8) (by decide) (by decide)) (by rw [show ((mk, msz, msh, mrg, mfc, mmd, mv2, mcn) : MS).2.2.2.2.2.2.1 8 = R9 from h8])) (hM.ne (i := 8) (j := 9) (by decide) (by decide) (by decide))) (pt_up (hM2.v (i := 9) (by decide) (by decide))) (hM.ne (i := 10) (j := 8) (by decide) (by decide) (by decide)) (hM.ne (i := 10) (j := 9) (by decide) (by decide) (by decide))) (va_cwS 3 hts gX6_findDivisor_X6_times rfl rfl rfl (by decide +kernel) ⟨Nat.le_of_ble_eq_true rfl, Nat.le_of_ble_eq_true rfl⟩) rfl hl.1 rfl (Nat.le_of_ble_eq_true rfl) dX6_findDivisor_110 ⟨Nat.le_of_ble_eq_true rfl, Nat.le_of_ble_eq_true rfl⟩ rfl (fun H locs hw => ?_)
          refine lv_aload_n hx hb dX6_findDivisor_113 rfl (lv_at hl 0 rfl) ?_
          refine h_get hx hb hE hw hts hinX6 hown (ci := 6) rfl 10 (by decide) lk_38 (fun _ h9 => h9) (pt_ne (pt_ne hM2.ob (hM.ne (i := 0) (j := 9) (by decide) (by decide) (by decide))) (hM.ne (i := 0) (j := 10) (by decide) (by decide) (by decide))) rfl dX6_findDivisor_114 ?_
          refine lv_aload_n hx hb dX6_findDivisor_117 rfl (lv_at hl 0 rfl) ?_
          refine h_get hx hb hE hw hts hinX6 hown (ci := 6) rfl 12 (by decide) lk_44 (fun _ h9 => h9) (pt_ne (pt_ne hM2.ob (hM.ne (i := 0) (j := 9) (by decide) (by decide) (by decide))) (hM.ne (i := 0) (j := 10) (by decide) (by decide) (by decide))) rfl dX6_findDivisor_118 ?_
          refine h_callS (st1 := [.int (bI (qgr (qmul R9 (uq4 u)) (grl (osd sd) R9 u)))]) [.ref (ma 10), .ref (ma 12)] [] ⟨hx, hb, hml, hown, hts⟩ hE hw (c_X6_isGreater l G A (ML ma) (va_up (va_up F (ma 9) (eJ4 G (uq4 u))) (ma 10) (eJ4 G (qmul R9 (uq4 u)))) (ma 10) (ma 12) (qmul R9 (uq4 u)) (grl (osd sd) R9 u) (pt_up (pt_ne (hM2.v (i := 10) (by decide) (by decide)) (hM.ne (i := 10) (j := 9) (by decide) (by decide) (by decide)))) (pt_ne (pt_ne (pt_eq (hM2.v (i := 12) (by decide) (by decide)) (by rw [show ((mk, msz, msh, mrg, mfc, mmd, mv2, mcn) : MS).2.2.2.2.2.2.1 12 = (grl (osd sd) R9 u) from h12])) (hM.ne (i := 12) (j := 9) (by decide) (by decide) (by decide))) (hM.ne (i := 12) (j := 10) (by decide) (by decide) (by decide)))) (va_cwS 2 hts gX6_findDivisor_X6_isGreater rfl rfl rfl (by decide +kernel) ⟨Nat.le_of_ble_eq_true rfl, Nat.le_of_ble_eq_true rfl⟩) rfl hl.1 rfl (Nat.le_of_ble_eq_true rfl) dX6_findDivisor_121 ⟨Nat.le_of_ble_eq_true rfl, Nat.le_of_ble_eq_true rfl⟩ rfl (fun H locs hw => ?_)
          refine lv_if_eq (tgt := 138) hx hb dX6_findDivisor_124 (by decide) (fun c_124 => ?_) (fun c_124 => ?_)
          · skip
            have c_124 := bI_eq.mp c_124
            obtain ⟨i9, ei9⟩ : ∃ y : Int32, y = (nI u) + 1 := ⟨_, rfl⟩
            refine lv_iinc (v := i9) (lv' := [(2, .int i9), (0, .ref (ma 0)), (1, .int sd)]) hx hb dX6_findDivisor_138 hl (k := 2) rfl (by rw [ei9, show Int32.ofInt (1) = 1 from by decide]) (by decide) rfl (fun ls hl => ?_)
            refine lv_goto (tgt := 61) hx hb dX6_findDivisor_141 (by decide) ?_
            exact ih (u + 1) _ _ H locs ls (by omega) (MW.setv (MW.setv hM2 (i := 9) (by decide) (by decide) (uq4 u)) (i := 10) (by decide) (by decide) (qmul R9 (uq4 u))) h8 (by rw [grl_f (by rw [hqo]; exact c_124)]; exact h12) h16 hw (lv_sub (l' := [(0, .ref (ma 0)), (1, .int sd), (2, .int (nI (u + 1)))]) hl [1, 2, 0] (by rw [← nI_1, ← ei9]; rfl))
          · skip
            have c_124 := bI_ne.mp c_124
            refine lv_aload_n hx hb dX6_findDivisor_127 rfl (lv_at hl 0 rfl) ?_
            refine h_get hx hb hE hw hts hinX6 hown (ci := 6) rfl 12 (by decide) lk_44 (fun _ h9 => h9) (pt_ne (pt_ne hM2.ob (hM.ne (i := 0) (j := 9) (by decide) (by decide) (by decide))) (hM.ne (i := 0) (j := 10) (by decide) (by decide) (by decide))) rfl dX6_findDivisor_128 ?_
            refine lv_aload_n hx hb dX6_findDivisor_131 rfl (lv_at hl 0 rfl) ?_
            refine h_get hx hb hE hw hts hinX6 hown (ci := 6) rfl 10 (by decide) lk_38 (fun _ h9 => h9) (pt_ne (pt_ne hM2.ob (hM.ne (i := 0) (j := 9) (by decide) (by decide) (by decide))) (hM.ne (i := 0) (j := 10) (by decide) (by decide) (by decide))) rfl dX6_findDivisor_132 ?_
            refine h_callS (st1 := []) [.ref (ma 12), .ref (ma 10)] [] ⟨hx, hb, hml, hown, hts⟩ hE hw (c_X6_copy4 l G A (ML ma) (va_up (va_up F (ma 9) (eJ4 G (uq4 u))) (ma 10) (eJ4 G (qmul R9 (uq4 u)))) (ma 12) (ma 10) (grl (osd sd) R9 u) (qmul R9 (uq4 u)) (pt_ne (pt_ne (pt_eq (hM2.v (i := 12) (by decide) (by decide)) (by rw [show ((mk, msz, msh, mrg, mfc, mmd, mv2, mcn) : MS).2.2.2.2.2.2.1 12 = (grl (osd sd) R9 u) from h12])) (hM.ne (i := 12) (j := 9) (by decide) (by decide) (by decide))) (hM.ne (i := 12) (j := 10) (by decide) (by decide) (by decide))) (pt_up (pt_ne (hM2.v (i := 10) (by decide) (by decide)) (hM.ne (i := 10) (j := 9) (by decide) (by decide) (by decide)))) (hM.ne (i := 12) (j := 10) (by decide) (by decide) (by decide))) (va_cwS 2 hts gX6_findDivisor_X6_copy4 rfl rfl rfl (by decide +kernel) ⟨Nat.le_of_ble_eq_true rfl, Nat.le_of_ble_eq_true rfl⟩) rfl hl.1 rfl (Nat.le_of_ble_eq_true rfl) dX6_findDivisor_135 ⟨Nat.le_of_ble_eq_true rfl, Nat.le_of_ble_eq_true rfl⟩ rfl (fun H locs hw => ?_)
            obtain ⟨i9, ei9⟩ : ∃ y : Int32, y = (nI u) + 1 := ⟨_, rfl⟩
            refine lv_iinc (v := i9) (lv' := [(2, .int i9), (0, .ref (ma 0)), (1, .int sd)]) hx hb dX6_findDivisor_138 hl (k := 2) rfl (by rw [ei9, show Int32.ofInt (1) = 1 from by decide]) (by decide) rfl (fun ls hl => ?_)
            refine lv_goto (tgt := 61) hx hb dX6_findDivisor_141 (by decide) ?_
            exact ih (u + 1) _ _ H locs ls (by omega) (MW.setv (MW.setv (MW.setv hM2 (i := 9) (by decide) (by decide) (uq4 u)) (i := 10) (by decide) (by decide) (qmul R9 (uq4 u))) (i := 12) (by decide) (by decide) (qmul R9 (uq4 u))) h8 (by rw [grl_t (by rw [hqo]; exact c_124), hqo]; rfl) h16 hw (lv_sub (l' := [(0, .ref (ma 0)), (1, .int sd), (2, .int (nI (u + 1)))]) hl [1, 2, 0] (by rw [← nI_1, ← ei9]; rfl))
        · skip
          have hqo : qon (osd sd) R9 (uq4 u) = qmul (uq4 u) R9 := by rw [show osd sd = 1 from if_pos c_77]; exact qon_1 _ _
          refine lv_aload_n hx hb dX6_findDivisor_80 rfl (lv_at hl 0 rfl) ?_
          refine h_get hx hb hE hw hts hinX6 hown (ci := 6) rfl 10 (by decide) lk_38 (fun _ h9 => h9) (pt_ne hM2.ob (hM.ne (i := 0) (j := 9) (by decide) (by decide) (by decide))) rfl dX6_findDivisor_81 ?_
          refine lv_aload_n hx hb dX6_findDivisor_84 rfl (lv_at hl 0 rfl) ?_
          refine h_get hx hb hE hw hts hinX6 hown (ci := 6) rfl 9 (by decide) lk_35 (fun _ h9 => h9) (pt_ne hM2.ob (hM.ne (i := 0) (j := 9) (by decide) (by decide) (by decide))) rfl dX6_findDivisor_85 ?_
          refine lv_aload_n hx hb dX6_findDivisor_88 rfl (lv_at hl 0 rfl) ?_
          refine h_get hx hb hE hw hts hinX6 hown (ci := 6) rfl 8 (by decide) lk_32 (fun _ h9 => h9) (pt_ne hM2.ob (hM.ne (i := 0) (j := 9) (by decide) (by decide) (by decide))) rfl dX6_findDivisor_89 ?_
          refine h_callS (st1 := []) [.ref (ma 10), .ref (ma 9), .ref (ma 8)] [] ⟨hx, hb, hml, hown, hts⟩ hE hw (c_X6_times l G A (ML ma) (va_up F (ma 9) (eJ4 G (uq4 u))) (ma 10) (ma 9) (ma 8) (mv2 10) (uq4 u) R9 (pt_ne (hM2.v (i := 10) (by decide) (by decide)) (hM.ne (i := 10) (j := 9) (by decide) (by decide) (by decide))) (pt_up (hM2.v (i := 9) (by decide) (by decide))) (pt_ne (pt_eq (hM2.v (i := 8) (by decide) (by decide)) (by rw [show ((mk, msz, msh, mrg, mfc, mmd, mv2, mcn) : MS).2.2.2.2.2.2.1 8 = R9 from h8])) (hM.ne (i := 8) (j := 9) (by decide) (by decide) (by decide))) (hM.ne (i := 10) (j := 9) (by decide) (by decide) (by decide)) (hM.ne (i := 10) (j := 8) (by decide) (by decide) (by decide))) (va_cwS 3 hts gX6_findDivisor_X6_times rfl rfl rfl (by decide +kernel) ⟨Nat.le_of_ble_eq_true rfl, Nat.le_of_ble_eq_true rfl⟩) rfl hl.1 rfl (Nat.le_of_ble_eq_true rfl) dX6_findDivisor_92 ⟨Nat.le_of_ble_eq_true rfl, Nat.le_of_ble_eq_true rfl⟩ rfl (fun H locs hw => ?_)
          refine lv_goto (tgt := 113) hx hb dX6_findDivisor_95 (by decide) ?_
          refine lv_aload_n hx hb dX6_findDivisor_113 rfl (lv_at hl 0 rfl) ?_
          refine h_get hx hb hE hw hts hinX6 hown (ci := 6) rfl 10 (by decide) lk_38 (fun _ h9 => h9) (pt_ne (pt_ne hM2.ob (hM.ne (i := 0) (j := 9) (by decide) (by decide) (by decide))) (hM.ne (i := 0) (j := 10) (by decide) (by decide) (by decide))) rfl dX6_findDivisor_114 ?_
          refine lv_aload_n hx hb dX6_findDivisor_117 rfl (lv_at hl 0 rfl) ?_
          refine h_get hx hb hE hw hts hinX6 hown (ci := 6) rfl 12 (by decide) lk_44 (fun _ h9 => h9) (pt_ne (pt_ne hM2.ob (hM.ne (i := 0) (j := 9) (by decide) (by decide) (by decide))) (hM.ne (i := 0) (j := 10) (by decide) (by decide) (by decide))) rfl dX6_findDivisor_118 ?_
          refine h_callS (st1 := [.int (bI (qgr (qmul (uq4 u) R9) (grl (osd sd) R9 u)))]) [.ref (ma 10), .ref (ma 12)] [] ⟨hx, hb, hml, hown, hts⟩ hE hw (c_X6_isGreater l G A (ML ma) (va_up (va_up F (ma 9) (eJ4 G (uq4 u))) (ma 10) (eJ4 G (qmul (uq4 u) R9))) (ma 10) (ma 12) (qmul (uq4 u) R9) (grl (osd sd) R9 u) (pt_up (pt_ne (hM2.v (i := 10) (by decide) (by decide)) (hM.ne (i := 10) (j := 9) (by decide) (by decide) (by decide)))) (pt_ne (pt_ne (pt_eq (hM2.v (i := 12) (by decide) (by decide)) (by rw [show ((mk, msz, msh, mrg, mfc, mmd, mv2, mcn) : MS).2.2.2.2.2.2.1 12 = (grl (osd sd) R9 u) from h12])) (hM.ne (i := 12) (j := 9) (by decide) (by decide) (by decide))) (hM.ne (i := 12) (j := 10) (by decide) (by decide) (by decide)))) (va_cwS 2 hts gX6_findDivisor_X6_isGreater rfl rfl rfl (by decide +kernel) ⟨Nat.le_of_ble_eq_true rfl, Nat.le_of_ble_eq_true rfl⟩) rfl hl.1 rfl (Nat.le_of_ble_eq_true rfl) dX6_findDivisor_121 ⟨Nat.le_of_ble_eq_true rfl, Nat.le_of_ble_eq_true rfl⟩ rfl (fun H locs hw => ?_)
          refine lv_if_eq (tgt := 138) hx hb dX6_findDivisor_124 (by decide) (fun c_124 => ?_) (fun c_124 => ?_)
          · skip
            have c_124 := bI_eq.mp c_124
            obtain ⟨i9, ei9⟩ : ∃ y : Int32, y = (nI u) + 1 := ⟨_, rfl⟩
            refine lv_iinc (v := i9) (lv' := [(2, .int i9), (0, .ref (ma 0)), (1, .int sd)]) hx hb dX6_findDivisor_138 hl (k := 2) rfl (by rw [ei9, show Int32.ofInt (1) = 1 from by decide]) (by decide) rfl (fun ls hl => ?_)
            refine lv_goto (tgt := 61) hx hb dX6_findDivisor_141 (by decide) ?_
            exact ih (u + 1) _ _ H locs ls (by omega) (MW.setv (MW.setv hM2 (i := 9) (by decide) (by decide) (uq4 u)) (i := 10) (by decide) (by decide) (qmul (uq4 u) R9)) h8 (by rw [grl_f (by rw [hqo]; exact c_124)]; exact h12) h16 hw (lv_sub (l' := [(0, .ref (ma 0)), (1, .int sd), (2, .int (nI (u + 1)))]) hl [1, 2, 0] (by rw [← nI_1, ← ei9]; rfl))
          · skip
            have c_124 := bI_ne.mp c_124
            refine lv_aload_n hx hb dX6_findDivisor_127 rfl (lv_at hl 0 rfl) ?_
            refine h_get hx hb hE hw hts hinX6 hown (ci := 6) rfl 12 (by decide) lk_44 (fun _ h9 => h9) (pt_ne (pt_ne hM2.ob (hM.ne (i := 0) (j := 9) (by decide) (by decide) (by decide))) (hM.ne (i := 0) (j := 10) (by decide) (by decide) (by decide))) rfl dX6_findDivisor_128 ?_
            refine lv_aload_n hx hb dX6_findDivisor_131 rfl (lv_at hl 0 rfl) ?_
            refine h_get hx hb hE hw hts hinX6 hown (ci := 6) rfl 10 (by decide) lk_38 (fun _ h9 => h9) (pt_ne (pt_ne hM2.ob (hM.ne (i := 0) (j := 9) (by decide) (by decide) (by decide))) (hM.ne (i := 0) (j := 10) (by decide) (by decide) (by decide))) rfl dX6_findDivisor_132 ?_
            refine h_callS (st1 := []) [.ref (ma 12), .ref (ma 10)] [] ⟨hx, hb, hml, hown, hts⟩ hE hw (c_X6_copy4 l G A (ML ma) (va_up (va_up F (ma 9) (eJ4 G (uq4 u))) (ma 10) (eJ4 G (qmul (uq4 u) R9))) (ma 12) (ma 10) (grl (osd sd) R9 u) (qmul (uq4 u) R9) (pt_ne (pt_ne (pt_eq (hM2.v (i := 12) (by decide) (by decide)) (by rw [show ((mk, msz, msh, mrg, mfc, mmd, mv2, mcn) : MS).2.2.2.2.2.2.1 12 = (grl (osd sd) R9 u) from h12])) (hM.ne (i := 12) (j := 9) (by decide) (by decide) (by decide))) (hM.ne (i := 12) (j := 10) (by decide) (by decide) (by decide))) (pt_up (pt_ne (hM2.v (i := 10) (by decide) (by decide)) (hM.ne (i := 10) (j := 9) (by decide) (by decide) (by decide)))) (hM.ne (i := 12) (j := 10) (by decide) (by decide) (by decide))) (va_cwS 2 hts gX6_findDivisor_X6_copy4 rfl rfl rfl (by decide +kernel) ⟨Nat.le_of_ble_eq_true rfl, Nat.le_of_ble_eq_true rfl⟩) rfl hl.1 rfl (Nat.le_of_ble_eq_true rfl) dX6_findDivisor_135 ⟨Nat.le_of_ble_eq_true rfl, Nat.le_of_ble_eq_true rfl⟩ rfl (fun H locs hw => ?_)
            obtain ⟨i9, ei9⟩ : ∃ y : Int32, y = (nI u) + 1 := ⟨_, rfl⟩
            refine lv_iinc (v := i9) (lv' := [(2, .int i9), (0, .ref (ma 0)), (1, .int sd)]) hx hb dX6_findDivisor_138 hl (k := 2) rfl (by rw [ei9, show Int32.ofInt (1) = 1 from by decide]) (by decide) rfl (fun ls hl => ?_)
            refine lv_goto (tgt := 61) hx hb dX6_findDivisor_141 (by decide) ?_
            exact ih (u + 1) _ _ H locs ls (by omega) (MW.setv (MW.setv (MW.setv hM2 (i := 9) (by decide) (by decide) (uq4 u)) (i := 10) (by decide) (by decide) (qmul (uq4 u) R9)) (i := 12) (by decide) (by decide) (qmul (uq4 u) R9)) h8 (by rw [grl_t (by rw [hqo]; exact c_124), hqo]; rfl) h16 hw (lv_sub (l' := [(0, .ref (ma 0)), (1, .int sd), (2, .int (nI (u + 1)))]) hl [1, 2, 0] (by rw [← nI_1, ← ei9]; rfl))
  have lp1 : ∀ (n : Nat) (F : FM) (mv2 : Nat → Q4) (H : Heap) (locs : List Loc) (ls : Array Slot), MW G ma (mk, msz, msh, mrg, mfc, mmd, mv2, mcn) F → dvT sd n (mv2 8) (mv2 9) → dvR sd n (mv2 8) (mv2 9) = R9 → mv2 16 = mv 16 → wo G A s.heap (ML ma) F H locs → lv_has ls 3 [(0, .ref (ma 0)), (1, .int sd)] → W p l e { frames := 2, cells := 0, slots := 0, locals := 59 } s m ([.ref (ma 0), .int sd].toArray) below meth c H locs 0 0 (MQ below (QP G A (ML ma) none (fun F2 => ∃ mv2 : Nat → Q4, MW G ma (mk, msz, msh, mrg, mfc, mmd, mv2, mcn) F2 ∧ mv2 12 = grl (osd sd) (R9) 24 ∧ mv2 16 = mv 16)) ([.ref (ma 0), .int sd].toArray) s 0 0 A) (F0 m 0 ls []) := by
    intro n
    induction n with
    | zero =>
      intro F mv2 H locs ls hM2 hT hr h16 hw hl
      refine lv_aload_n hx hb dX6_findDivisor_0 rfl (lv_at hl 0 rfl) ?_
      refine h_get hx hb hE hw hts hinX6 hown (ci := 6) rfl 9 (by decide) lk_35 (fun _ h9 => h9) hM2.ob rfl dX6_findDivisor_1 ?_
      refine h_callS (st1 := [.int (bI (qzero (mv2 9)))]) [.ref (ma 9)] [] ⟨hx, hb, hml, hown, hts⟩ hE hw (c_X6_isNull l G A (ML ma) F (ma 9) (mv2 9) (hM2.v (i := 9) (by decide) (by decide))) (va_cwS 1 hts gX6_findDivisor_X6_isNull rfl rfl rfl (by decide +kernel) ⟨Nat.le_of_ble_eq_true rfl, Nat.le_of_ble_eq_true rfl⟩) rfl hl.1 rfl (Nat.le_of_ble_eq_true rfl) dX6_findDivisor_4 ⟨Nat.le_of_ble_eq_true rfl, Nat.le_of_ble_eq_true rfl⟩ rfl (fun H locs hw => ?_)
      refine lv_if_ne (tgt := 48) hx hb dX6_findDivisor_7 (by decide) (fun c_7 => ?_) (fun c_7 => ?_)
      · skip
        have c_7 := bI_ne.mp c_7
        refine lv_aload_n hx hb dX6_findDivisor_48 rfl (lv_at hl 0 rfl) ?_
        refine h_get hx hb hE hw hts hinX6 hown (ci := 6) rfl 12 (by decide) lk_44 (fun _ h9 => h9) hM2.ob rfl dX6_findDivisor_49 ?_
        refine lv_aload_n hx hb dX6_findDivisor_52 rfl (lv_at hl 0 rfl) ?_
        refine h_get hx hb hE hw hts hinX6 hown (ci := 6) rfl 8 (by decide) lk_32 (fun _ h9 => h9) hM2.ob rfl dX6_findDivisor_53 ?_
        refine h_callS (st1 := []) [.ref (ma 12), .ref (ma 8)] [] ⟨hx, hb, hml, hown, hts⟩ hE hw (c_X6_copy4 l G A (ML ma) F (ma 12) (ma 8) (mv2 12) (mv2 8) (hM2.v (i := 12) (by decide) (by decide)) (hM2.v (i := 8) (by decide) (by decide)) (hM.ne (i := 12) (j := 8) (by decide) (by decide) (by decide))) (va_cwS 2 hts gX6_findDivisor_X6_copy4 rfl rfl rfl (by decide +kernel) ⟨Nat.le_of_ble_eq_true rfl, Nat.le_of_ble_eq_true rfl⟩) rfl hl.1 rfl (Nat.le_of_ble_eq_true rfl) dX6_findDivisor_56 ⟨Nat.le_of_ble_eq_true rfl, Nat.le_of_ble_eq_true rfl⟩ rfl (fun H locs hw => ?_)
        refine lv_iconst (v := 0) hx hb dX6_findDivisor_59 (by decide) ?_
        refine lv_istore_n (lv' := [(2, .int 0), (0, .ref (ma 0)), (1, .int sd)]) hx hb dX6_findDivisor_60 rfl hl (by decide) rfl (fun ls hl => ?_)
        have h8e : mv2 8 = R9 := hr
        exact lp2 24 0 _ _ _ _ ls rfl (MW.setv hM2 (i := 12) (by decide) (by decide) (mv2 8)) h8e h8e h16 hw (lv_sub (l' := [(0, .ref (ma 0)), (1, .int sd), (2, .int (nI 0))]) hl [1, 2, 0] rfl)
      · skip
        exact absurd hT (bI_eq.mp c_7)
    | succ n ih =>
      intro F mv2 H locs ls hM2 hT hr h16 hw hl
      refine lv_aload_n hx hb dX6_findDivisor_0 rfl (lv_at hl 0 rfl) ?_
      refine h_get hx hb hE hw hts hinX6 hown (ci := 6) rfl 9 (by decide) lk_35 (fun _ h9 => h9) hM2.ob rfl dX6_findDivisor_1 ?_
      refine h_callS (st1 := [.int (bI (qzero (mv2 9)))]) [.ref (ma 9)] [] ⟨hx, hb, hml, hown, hts⟩ hE hw (c_X6_isNull l G A (ML ma) F (ma 9) (mv2 9) (hM2.v (i := 9) (by decide) (by decide))) (va_cwS 1 hts gX6_findDivisor_X6_isNull rfl rfl rfl (by decide +kernel) ⟨Nat.le_of_ble_eq_true rfl, Nat.le_of_ble_eq_true rfl⟩) rfl hl.1 rfl (Nat.le_of_ble_eq_true rfl) dX6_findDivisor_4 ⟨Nat.le_of_ble_eq_true rfl, Nat.le_of_ble_eq_true rfl⟩ rfl (fun H locs hw => ?_)
      refine lv_if_ne (tgt := 48) hx hb dX6_findDivisor_7 (by decide) (fun c_7 => ?_) (fun c_7 => ?_)
      · skip
        have c_7 := bI_ne.mp c_7
        refine lv_aload_n hx hb dX6_findDivisor_48 rfl (lv_at hl 0 rfl) ?_
        refine h_get hx hb hE hw hts hinX6 hown (ci := 6) rfl 12 (by decide) lk_44 (fun _ h9 => h9) hM2.ob rfl dX6_findDivisor_49 ?_
        refine lv_aload_n hx hb dX6_findDivisor_52 rfl (lv_at hl 0 rfl) ?_
        refine h_get hx hb hE hw hts hinX6 hown (ci := 6) rfl 8 (by decide) lk_32 (fun _ h9 => h9) hM2.ob rfl dX6_findDivisor_53 ?_
        refine h_callS (st1 := []) [.ref (ma 12), .ref (ma 8)] [] ⟨hx, hb, hml, hown, hts⟩ hE hw (c_X6_copy4 l G A (ML ma) F (ma 12) (ma 8) (mv2 12) (mv2 8) (hM2.v (i := 12) (by decide) (by decide)) (hM2.v (i := 8) (by decide) (by decide)) (hM.ne (i := 12) (j := 8) (by decide) (by decide) (by decide))) (va_cwS 2 hts gX6_findDivisor_X6_copy4 rfl rfl rfl (by decide +kernel) ⟨Nat.le_of_ble_eq_true rfl, Nat.le_of_ble_eq_true rfl⟩) rfl hl.1 rfl (Nat.le_of_ble_eq_true rfl) dX6_findDivisor_56 ⟨Nat.le_of_ble_eq_true rfl, Nat.le_of_ble_eq_true rfl⟩ rfl (fun H locs hw => ?_)
        refine lv_iconst (v := 0) hx hb dX6_findDivisor_59 (by decide) ?_
        refine lv_istore_n (lv' := [(2, .int 0), (0, .ref (ma 0)), (1, .int sd)]) hx hb dX6_findDivisor_60 rfl hl (by decide) rfl (fun ls hl => ?_)
        have h8e : mv2 8 = R9 := by rw [← hr, dvR, cif_t c_7]
        exact lp2 24 0 _ _ _ _ ls rfl (MW.setv hM2 (i := 12) (by decide) (by decide) (mv2 8)) h8e h8e h16 hw (lv_sub (l' := [(0, .ref (ma 0)), (1, .int sd), (2, .int (nI 0))]) hl [1, 2, 0] rfl)
      · skip
        have c_7 := bI_eq.mp c_7
        obtain ⟨hn0, hT2⟩ := hT.resolve_left c_7
        refine lv_aload_n hx hb dX6_findDivisor_10 rfl (lv_at hl 0 rfl) ?_
        refine lv_aload_n hx hb dX6_findDivisor_11 rfl (lv_at hl 0 rfl) ?_
        refine h_get hx hb hE hw hts hinX6 hown (ci := 6) rfl 8 (by decide) lk_32 (fun _ h9 => h9) hM2.ob rfl dX6_findDivisor_12 ?_
        refine lv_aload_n hx hb dX6_findDivisor_15 rfl (lv_at hl 0 rfl) ?_
        refine h_get hx hb hE hw hts hinX6 hown (ci := 6) rfl 9 (by decide) lk_35 (fun _ h9 => h9) hM2.ob rfl dX6_findDivisor_16 ?_
        refine lv_iload_n hx hb dX6_findDivisor_19 rfl (lv_at hl 1 rfl) ?_
        refine h_callVP (st1 := []) [.ref (ma 8), .ref (ma 9), .int sd] [] ⟨hx, hb, hml, hown, hts⟩ hE hw (c_X6_divideBy l G A ma F _ _ _ _ _ _ _ _ hM2 (mv2 8) (mv2 9) rfl rfl sd hn0) (cwV 3 hts gX6_findDivisor_X6_divideBy rfl rfl rfl (by decide +kernel) ⟨Nat.le_of_ble_eq_true rfl, Nat.le_of_ble_eq_true rfl⟩) hM2.ob rfl rfl rfl hl.1 rfl (Nat.le_of_ble_eq_true rfl) dX6_findDivisor_20 ⟨Nat.le_of_ble_eq_true rfl, Nat.le_of_ble_eq_true rfl⟩ rfl (fun F H locs hP hw => ?_)
        obtain ⟨mv3, hM3, h313, h311, hk3⟩ := hP
        have h38 : mv3 8 = mv2 8 := hk3 8 (by decide) (by decide) (by decide) (by decide)
        have h39 : mv3 9 = mv2 9 := hk3 9 (by decide) (by decide) (by decide) (by decide)
        have h316 : mv3 16 = mv2 16 := hk3 16 (by decide) (by decide) (by decide) (by decide)
        refine lv_aload_n hx hb dX6_findDivisor_23 rfl (lv_at hl 0 rfl) ?_
        refine h_get hx hb hE hw hts hinX6 hown (ci := 6) rfl 8 (by decide) lk_32 (fun _ h9 => h9) hM3.ob rfl dX6_findDivisor_24 ?_
        refine lv_aload_n hx hb dX6_findDivisor_27 rfl (lv_at hl 0 rfl) ?_
        refine h_get hx hb hE hw hts hinX6 hown (ci := 6) rfl 9 (by decide) lk_35 (fun _ h9 => h9) hM3.ob rfl dX6_findDivisor_28 ?_
        refine h_callS (st1 := []) [.ref (ma 8), .ref (ma 9)] [] ⟨hx, hb, hml, hown, hts⟩ hE hw (c_X6_copy4 l G A (ML ma) F (ma 8) (ma 9) (mv3 8) (mv3 9) (hM3.v (i := 8) (by decide) (by decide)) (hM3.v (i := 9) (by decide) (by decide)) (hM.ne (i := 8) (j := 9) (by decide) (by decide) (by decide))) (va_cwS 2 hts gX6_findDivisor_X6_copy4 rfl rfl rfl (by decide +kernel) ⟨Nat.le_of_ble_eq_true rfl, Nat.le_of_ble_eq_true rfl⟩) rfl hl.1 rfl (Nat.le_of_ble_eq_true rfl) dX6_findDivisor_31 ⟨Nat.le_of_ble_eq_true rfl, Nat.le_of_ble_eq_true rfl⟩ rfl (fun H locs hw => ?_)
        refine lv_aload_n hx hb dX6_findDivisor_34 rfl (lv_at hl 0 rfl) ?_
        refine h_get hx hb hE hw hts hinX6 hown (ci := 6) rfl 9 (by decide) lk_35 (fun _ h9 => h9) (pt_ne hM3.ob (hM.ne (i := 0) (j := 8) (by decide) (by decide) (by decide))) rfl dX6_findDivisor_35 ?_
        refine lv_aload_n hx hb dX6_findDivisor_38 rfl (lv_at hl 0 rfl) ?_
        refine h_get hx hb hE hw hts hinX6 hown (ci := 6) rfl 11 (by decide) lk_41 (fun _ h9 => h9) (pt_ne hM3.ob (hM.ne (i := 0) (j := 8) (by decide) (by decide) (by decide))) rfl dX6_findDivisor_39 ?_
        refine h_callS (st1 := []) [.ref (ma 9), .ref (ma 11)] [] ⟨hx, hb, hml, hown, hts⟩ hE hw (c_X6_copy4 l G A (ML ma) (va_up F (ma 8) (eJ4 G (mv3 9))) (ma 9) (ma 11) (mv3 9) (mv3 11) (pt_ne (hM3.v (i := 9) (by decide) (by decide)) (hM.ne (i := 9) (j := 8) (by decide) (by decide) (by decide))) (pt_ne (hM3.v (i := 11) (by decide) (by decide)) (hM.ne (i := 11) (j := 8) (by decide) (by decide) (by decide))) (hM.ne (i := 9) (j := 11) (by decide) (by decide) (by decide))) (va_cwS 2 hts gX6_findDivisor_X6_copy4 rfl rfl rfl (by decide +kernel) ⟨Nat.le_of_ble_eq_true rfl, Nat.le_of_ble_eq_true rfl⟩) rfl hl.1 rfl (Nat.le_of_ble_eq_true rfl) dX6_findDivisor_42 ⟨Nat.le_of_ble_eq_true rfl, Nat.le_of_ble_eq_true rfl⟩ rfl (fun H locs hw => ?_)
        refine lv_goto (tgt := 0) hx hb dX6_findDivisor_45 (by decide) ?_
        exact ih _ _ _ _ ls (MW.setv (MW.setv hM3 (i := 8) (by decide) (by decide) (mv3 9)) (i := 9) (by decide) (by decide) (mv3 11)) (by show dvT sd n (mv3 9) (mv3 11); rw [h39, h311]; exact hT2) (by show dvR sd n (mv3 9) (mv3 11) = R9; rw [h39, h311, ← hr, dvR, cif_f c_7]) (h316.trans h16) hw (lv_sub (l' := [(0, .ref (ma 0)), (1, .int sd)]) hl [0, 1] rfl)
  exact lp1 n _ _ _ _ ls hM (by rw [h8, h9]; exact hT) (by rw [h8, h9]; exact hR9) rfl hw hl
