noncomputable def agf (kd sz i n : Int32) : Int32 := cif (0 ≤ kd) (cif (i < 0) (-12) (cif (i.toInt64 + n.toInt64 ≤ sz.toInt64) 0 (-12))) (-11)
theorem ag_null {kd sz i n : Int32} (h : kd = -1) : agf kd sz i n = -11 := by
  unfold agf; rw [cif_f (by rw [h]; decide)]
theorem add_l {a : Nat} {n : Int32} (ha : a < 2 ^ 31) : ((nI a).toInt64 + n.toInt64).toInt = (a : Int) + n.toInt := by
  rw [Int64.toInt_add, Int32.toInt_toInt64, Int32.toInt_toInt64, nI_toInt ha]
  have h1 := Int32.toInt_lt n
  have h2 := Int32.le_toInt n
  exact Int.bmod_eq_of_le (by omega) (by omega)
theorem ag_in {kd : Int32} {z a b : Nat} (h : 0 ≤ kd) (hz : z ≤ 16) (hab : a + b ≤ z) : agf kd (nI z) (nI a) (nI b) = 0 := by
  unfold agf
  rw [cif_t h, cif_f (nI_pos (by omega)), cif_t]
  rw [Int64.le_iff_toInt_le, add_l (by omega), Int32.toInt_toInt64, nI_toInt (by omega), nI_toInt (by omega)]
  omega
theorem ag_out {kd i n : Int32} {z : Nat} (h : 0 ≤ kd) (hz : z ≤ 16) (hn : ¬ n < 0) (hr : ¬ reach (nI z) i n) : agf kd (nI z) i n = -12 := by
  unfold agf
  rw [cif_t h]
  by_cases hi : i < 0
  · rw [cif_t hi]
  · rw [cif_f hi]
    by_cases hc : i.toInt64 + n.toInt64 ≤ (nI z).toInt64
    · obtain ⟨a, ha, rfl⟩ := nI_of hi
      obtain ⟨b, hb, rfl⟩ := nI_of hn
      rw [Int64.le_iff_toInt_le, add_l ha, Int32.toInt_toInt64, nI_toInt hb, nI_toInt (by omega)] at hc
      exact absurd ((reach_iff hz _ _).mpr ⟨a, b, rfl, rfl, by omega⟩) hr
    · rw [cif_f hc]
theorem rel_rg {M : MS} {S : SS} {k : Nat} {x : Q4} (h : mrel M S) (hk : k < 16) (hx : ¬ qhigh x) {g : Nat → Q4} : mrel (M.1, M.2.1, M.2.2.1, stq M.2.2.2.1 k x, M.2.2.2.2.1, M.2.2.2.2.2.1, g, M.2.2.2.2.2.2.2) (sRg S k x) := by
  obtain ⟨h1, h2, h3, h4, h5, h6⟩ := h
  refine ⟨h1, h2, h3, fun j hj => ?_, h5, fun j hj => ?_⟩
  · by_cases e : j = k
    · subst e
      show rgq (stq M.2.2.2.1 j x) j = upq S.1 j x j
      rw [rgq_s (low_hi.mpr hx), upq_s]
    · show rgq (stq M.2.2.2.1 k x) j = upq S.1 k x j
      rw [rgq_n e, upq_n _ _ e]; exact h4 j hj
  · show fq M.2.2.2.2.1 j = upq S.1 k x (16 + j)
    rw [upq_n _ _ (by omega)]; exact h6 j hj
theorem rel_v {M : MS} {S : SS} (h : mrel M S) {g : Nat → Q4} {md : Nat → Int64} : mrel (M.1, M.2.1, M.2.2.1, M.2.2.2.1, M.2.2.2.2.1, md, g, M.2.2.2.2.2.2.2) S := h
theorem rel_pl {M : MS} {S : SS} (h : mrel M S) {k : Nat} {sh : Nat → Int64} {g : Nat → Int64} {v : Nat → Q4} {md : Nat → Int64} (hs : ∀ j, j < 6 → j ≠ k → ∀ i, i < 16 → sh (16 * j + i) = M.2.2.1 (16 * j + i)) (hg : ∀ i, i < 16 → sh (16 * k + i) = g i) : mrel (M.1, M.2.1, sh, M.2.2.2.1, M.2.2.2.2.1, md, v, M.2.2.2.2.2.2.2) (sPl S k g) := by
  obtain ⟨h1, h2, h3, h4, h5, h6⟩ := h
  refine ⟨h1, h2, fun j hj i hi => ?_, h4, h5, h6⟩
  by_cases e : j = k
  · subst e
    show sh (16 * j + i) = upq S.2.2.2.1 j g j i
    rw [upq_s]; exact hg i hi
  · show sh (16 * j + i) = upq S.2.2.2.1 k g j i
    rw [upq_n _ _ e, hs j hj e i hi]; exact h3 j hj i hi
set_option maxHeartbeats 4000000 in
set_option maxRecDepth 100000 in
theorem c_X6_against (l : Launch) (G : GG) (A : Nat → Prop) (ma : Nat → Nat) (F : FM) (mk msz : Nat → Int32) (msh : Nat → Int64) (mrg : Nat → Int32) (mfc mmd : Nat → Int64) (mv : Nat → Q4) (mcn : Int32) (hM : MW G ma (mk, msz, msh, mrg, mfc, mmd, mv, mcn) F) (k : Nat) (hk : k < 6) (vi vn : Int32) : HT l yX6_against wsX6_against { frames := 0, cells := 0, slots := 0, locals := 0 } G A (ML ma) [.ref (ma 0), .int (nI k), .int vi, .int vn] F (some (.int (agf (mk k) (msz k) vi vn))) F := by
  refine HT.ofW (cc := cX6_against) (maxL := 4) (ret := (some .int)) (plainFor_of_name (by decide)) rfl (Nat.le_of_ble_eq_true rfl) ?_
  intro p e s m below meth c ls hx hb hr hml hown hts hlk hE hw hl
  have hl : lv_has ls 4 [(0, .ref (ma 0)), (1, .int (nI k)), (2, .int vi), (3, .int vn)] := hl
  have hown : s.vm.findClass RX6 = some m.cls := hown
  have lk_7 := hts (.fieldLink RX6 7 "FourPartsModel" "kind" "[I") (by decide +kernel)
  have hinX6 : ∀ w ∈ u_ws RX6 TX6 18, w ∈ wsX6_against := by decide +kernel
  have lk_13 := hts (.fieldLink RX6 13 "FourPartsModel" "size" "[I") (by decide +kernel)
  refine lv_aload_n hx hb dX6_against_0 rfl (lv_at hl 0 rfl) ?_
  refine h_get hx hb hE hw hts hinX6 hown (ci := 6) rfl 0 (by decide) lk_7 (fun _ h9 => h9) hM.ob rfl dX6_against_1 ?_
  refine lv_iload_n hx hb dX6_against_4 rfl (lv_at hl 1 rfl) ?_
  refine h_iald hx hb hE hw hM.kd (vp_in_nI (n := k) (N := 6) (by omega) (by decide)) (v := mk k) (by rw [nI_clamp (by omega)]) dX6_against_5 ?_
  refine lv_if_ge (tgt := 14) hx hb dX6_against_6 (by decide) (fun c_6 => ?_) (fun c_6 => ?_)
  · skip
    refine lv_iload_n hx hb dX6_against_14 rfl (lv_at hl 2 rfl) ?_
    refine lv_if_lt (tgt := 34) hx hb dX6_against_15 (by decide) (fun c_15 => ?_) (fun c_15 => ?_)
    · skip
      refine lv_bipush (v := (-12)) hx hb dX6_against_34 (by decide) ?_
      refine lv_goto (tgt := 40) hx hb dX6_against_36 (by decide) ?_
      exact h_iret hx hb hlk hr hw dX6_against_40 (by simp only [agf, cif_t c_6, cif_t c_15]) rfl
    · skip
      refine lv_iload_n hx hb dX6_against_18 rfl (lv_at hl 2 rfl) ?_
      refine lv_i2l hx hb dX6_against_19 rfl ?_
      refine lv_iload_n hx hb dX6_against_20 rfl (lv_at hl 3 rfl) ?_
      refine lv_i2l hx hb dX6_against_21 rfl ?_
      refine lv_ladd hx hb dX6_against_22 ?_
      refine lv_aload_n hx hb dX6_against_23 rfl (lv_at hl 0 rfl) ?_
      refine h_get hx hb hE hw hts hinX6 hown (ci := 6) rfl 1 (by decide) lk_13 (fun _ h9 => h9) hM.ob rfl dX6_against_24 ?_
      refine lv_iload_n hx hb dX6_against_27 rfl (lv_at hl 1 rfl) ?_
      refine h_iald hx hb hE hw hM.sz (vp_in_nI (n := k) (N := 6) (by omega) (by decide)) (v := msz k) (by rw [nI_clamp (by omega)]) dX6_against_28 ?_
      refine lv_i2l hx hb dX6_against_29 rfl ?_
      refine h_lc_le (x := vi.toInt64 + vn.toInt64) (y := (msz k).toInt64) (tgt := 39) hx hb dX6_against_30 dX6_against_31 (by decide) (fun c_30 => ?_) (fun c_30 => ?_)
      · skip
        refine lv_iconst (v := 0) hx hb dX6_against_39 (by decide) ?_
        exact h_iret hx hb hlk hr hw dX6_against_40 (by simp only [agf, cif_t c_6, cif_f c_15, cif_t c_30]) rfl
      · skip
        refine lv_bipush (v := (-12)) hx hb dX6_against_34 (by decide) ?_
        refine lv_goto (tgt := 40) hx hb dX6_against_36 (by decide) ?_
        exact h_iret hx hb hlk hr hw dX6_against_40 (by simp only [agf, cif_t c_6, cif_f c_15, cif_f c_30]) rfl
  · skip
    refine lv_bipush (v := (-11)) hx hb dX6_against_9 (by decide) ?_
    refine lv_goto (tgt := 40) hx hb dX6_against_11 (by decide) ?_
    exact h_iret hx hb hlk hr hw dX6_against_40 (by simp only [agf, cif_f c_6]) rfl

set_option maxHeartbeats 4000000 in
set_option maxRecDepth 100000 in
theorem c_X6_cut (l : Launch) (G : GG) (A : Nat → Prop) (ma : Nat → Nat) (F : FM) (mk msz : Nat → Int32) (msh : Nat → Int64) (mrg : Nat → Int32) (mfc mmd : Nat → Int64) (mv : Nat → Q4) (mcn : Int32) (hM : MW G ma (mk, msz, msh, mrg, mfc, mmd, mv, mcn) F) (k : Nat) (hk : k < 6) (lv : Int64) : HT l yX6_cut wsX6_cut { frames := 0, cells := 0, slots := 0, locals := 0 } G A (ML ma) [.ref (ma 0), .int (nI k), .long lv] F (some (.long (cutL (mk k) lv))) F := by
  refine HT.ofW (cc := cX6_cut) (maxL := 4) (ret := (some .long)) (plainFor_of_name (by decide)) rfl (Nat.le_of_ble_eq_true rfl) ?_
  intro p e s m below meth c ls hx hb hr hml hown hts hlk hE hw hl
  have hl : lv_has ls 4 [(0, .ref (ma 0)), (1, .int (nI k)), (2, .long lv)] := hl
  have hown : s.vm.findClass RX6 = some m.cls := hown
  have lk_7 := hts (.fieldLink RX6 7 "FourPartsModel" "kind" "[I") (by decide +kernel)
  have hinX6 : ∀ w ∈ u_ws RX6 TX6 18, w ∈ wsX6_cut := by decide +kernel
  refine lv_aload_n hx hb dX6_cut_0 rfl (lv_at hl 0 rfl) ?_
  refine h_get hx hb hE hw hts hinX6 hown (ci := 6) rfl 0 (by decide) lk_7 (fun _ h9 => h9) hM.ob rfl dX6_cut_1 ?_
  refine lv_iload_n hx hb dX6_cut_4 rfl (lv_at hl 1 rfl) ?_
  refine h_iald hx hb hE hw hM.kd (vp_in_nI (n := k) (N := 6) (by omega) (by decide)) (v := mk k) (by rw [nI_clamp (by omega)]) dX6_cut_5 ?_
  refine lv_if_ne (tgt := 16) hx hb dX6_cut_6 (by decide) (fun c_6 => ?_) (fun c_6 => ?_)
  · skip
    refine lv_aload_n hx hb dX6_cut_16 rfl (lv_at hl 0 rfl) ?_
    refine h_get hx hb hE hw hts hinX6 hown (ci := 6) rfl 0 (by decide) lk_7 (fun _ h9 => h9) hM.ob rfl dX6_cut_17 ?_
    refine lv_iload_n hx hb dX6_cut_20 rfl (lv_at hl 1 rfl) ?_
    refine h_iald hx hb hE hw hM.kd (vp_in_nI (n := k) (N := 6) (by omega) (by decide)) (v := mk k) (by rw [nI_clamp (by omega)]) dX6_cut_21 ?_
    refine lv_iconst (v := 1) hx hb dX6_cut_22 (by decide) ?_
    refine lv_icmp_ne (tgt := 32) hx hb dX6_cut_23 (by decide) (fun c_23 => ?_) (fun c_23 => ?_)
    · skip
      refine lv_lload_n hx hb dX6_cut_32 rfl (lv_at hl 2 rfl) ?_
      exact h_lret hx hb hlk hr hw dX6_cut_33 (by unfold cutL; rw [if_neg c_6, if_neg c_23]) rfl
    · skip
      refine lv_lload_n hx hb dX6_cut_26 rfl (lv_at hl 2 rfl) ?_
      refine lv_l2i hx hb dX6_cut_27 rfl ?_
      refine lv_i2l hx hb dX6_cut_28 rfl ?_
      refine lv_goto (tgt := 33) hx hb dX6_cut_29 (by decide) ?_
      exact h_lret hx hb hlk hr hw dX6_cut_33 (by unfold cutL; rw [if_neg c_6, if_pos c_23]) rfl
  · skip
    refine lv_lload_n hx hb dX6_cut_9 rfl (lv_at hl 2 rfl) ?_
    refine lv_l2i hx hb dX6_cut_10 rfl ?_
    refine lv_i2b hx hb dX6_cut_11 rfl ?_
    refine lv_i2l hx hb dX6_cut_12 rfl ?_
    refine lv_goto (tgt := 33) hx hb dX6_cut_13 (by decide) ?_
    exact h_lret hx hb hlk hr hw dX6_cut_33 (by unfold cutL; rw [if_pos c_6]) rfl

set_option maxHeartbeats 4000000 in
set_option maxRecDepth 100000 in
theorem c_X6_load (l : Launch) (G : GG) (A : Nat → Prop) (ma : Nat → Nat) (F : FM) (mk msz : Nat → Int32) (msh : Nat → Int64) (mrg : Nat → Int32) (mfc mmd : Nat → Int64) (mv : Nat → Q4) (mcn : Int32) (hM : MW G ma (mk, msz, msh, mrg, mfc, mmd, mv, mcn) F) (t k : Nat) (ht : 8 ≤ t) (ht2 : t < 17) (hk : k < 16) : HT l yX6_load wsX6_load { frames := 0, cells := 0, slots := 0, locals := 0 } G A (ML ma) [.ref (ma 0), .ref (ma t), .int (nI k)] F none (va_up F (ma t) (eJ4 G (rgq mrg k))) := by
  refine HT.ofW (cc := cX6_load) (maxL := 4) (ret := none) (plainFor_of_name (by decide)) rfl (Nat.le_of_ble_eq_true rfl) ?_
  intro p e s m below meth c ls hx hb hr hml hown hts hlk hE hw hl
  have hl : lv_has ls 4 [(0, .ref (ma 0)), (1, .ref (ma t)), (2, .int (nI k))] := hl
  have hown : s.vm.findClass RX6 = some m.cls := hown
  have lk_20 := hts (.fieldLink RX6 20 "FourPartsModel" "registers" "[I") (by decide +kernel)
  have hinX6 : ∀ w ∈ u_ws RX6 TX6 18, w ∈ wsX6_load := by decide +kernel
  refine lv_iconst (v := 0) hx hb dX6_load_0 (by decide) ?_
  refine lv_istore_n (lv' := [(3, .int 0), (0, .ref (ma 0)), (1, .ref (ma t)), (2, .int (nI k))]) hx hb dX6_load_1 rfl hl (by decide) rfl (fun ls hl => ?_)
  refine lv_iload_n hx hb dX6_load_2 rfl (lv_at hl 0 rfl) ?_
  refine lv_iconst (v := 4) hx hb dX6_load_3 (by decide) ?_
  refine lv_icmp_ge (tgt := 27) hx hb dX6_load_4 (by decide) (fun c_4 => ?_) (fun c_4 => ?_)
  · skip
    first | exact absurd c_4 (by decide) | exact absurd (by decide) c_4
  · skip
    refine lv_aload_n hx hb dX6_load_7 rfl (lv_at hl 2 rfl) ?_
    refine lv_iload_n hx hb dX6_load_8 rfl (lv_at hl 0 rfl) ?_
    refine lv_aload_n hx hb dX6_load_9 rfl (lv_at hl 1 rfl) ?_
    refine h_get hx hb hE hw hts hinX6 hown (ci := 6) rfl 3 (by decide) lk_20 (fun _ h9 => h9) hM.ob rfl dX6_load_10 ?_
    refine lv_iconst (v := 4) hx hb dX6_load_13 (by decide) ?_
    refine lv_iload_n hx hb dX6_load_14 rfl (lv_at hl 3 rfl) ?_
    refine h_imulN hx hb 4 k dX6_load_15 ?_
    refine lv_iload_n hx hb dX6_load_16 rfl (lv_at hl 0 rfl) ?_
    refine h_iaddN hx hb (4 * k) 0 dX6_load_17 ?_
    refine h_iald hx hb hE hw hM.rg (vp_in_nI (n := ((4 * k) + 0)) (N := 64) (by omega) (by decide)) (v := mrg ((4 * k) + 0)) (by rw [nI_clamp (by omega)]) dX6_load_18 ?_
    refine lv_i2l hx hb dX6_load_19 rfl ?_
    refine h_last hx hb hE hw (hM.v (i := t) ht ht2) (n := 4) (vp_in_nI (n := 0) (N := 4) (by decide) (by decide)) (g := vp_updL (q4f (mv t)) 0 ((mrg ((4 * k) + 0)).toInt64)) rfl dX6_load_20 (fun H locs hw => ?_)
    have hw := wo_same hw (at_sameJ (G := G) (n := 4) (st4_0 (mv t) ((mrg ((4 * k) + 0)).toInt64)))
    refine lv_iinc (v := 1) (lv' := [(3, .int 1), (0, .ref (ma 0)), (1, .ref (ma t)), (2, .int (nI k))]) hx hb dX6_load_21 hl (k := 0) rfl (by decide) (by decide) rfl (fun ls hl => ?_)
    refine lv_goto (tgt := 2) hx hb dX6_load_24 (by decide) ?_
    refine lv_iload_n hx hb dX6_load_2 rfl (lv_at hl 0 rfl) ?_
    refine lv_iconst (v := 4) hx hb dX6_load_3 (by decide) ?_
    refine lv_icmp_ge (tgt := 27) hx hb dX6_load_4 (by decide) (fun c_4 => ?_) (fun c_4 => ?_)
    · skip
      first | exact absurd c_4 (by decide) | exact absurd (by decide) c_4
    · skip
      refine lv_aload_n hx hb dX6_load_7 rfl (lv_at hl 2 rfl) ?_
      refine lv_iload_n hx hb dX6_load_8 rfl (lv_at hl 0 rfl) ?_
      refine lv_aload_n hx hb dX6_load_9 rfl (lv_at hl 1 rfl) ?_
      refine h_get hx hb hE hw hts hinX6 hown (ci := 6) rfl 3 (by decide) lk_20 (fun _ h9 => h9) (pt_ne hM.ob (hM.ne (i := 0) (j := t) (by decide) ht2 (by omega))) rfl dX6_load_10 ?_
      refine lv_iconst (v := 4) hx hb dX6_load_13 (by decide) ?_
      refine lv_iload_n hx hb dX6_load_14 rfl (lv_at hl 3 rfl) ?_
      refine h_imulN hx hb 4 k dX6_load_15 ?_
      refine lv_iload_n hx hb dX6_load_16 rfl (lv_at hl 0 rfl) ?_
      refine h_iaddN hx hb (4 * k) 1 dX6_load_17 ?_
      refine h_iald hx hb hE hw (pt_ne hM.rg (hM.ne (i := 4) (j := t) (by decide) ht2 (by omega))) (vp_in_nI (n := ((4 * k) + 1)) (N := 64) (by omega) (by decide)) (v := mrg ((4 * k) + 1)) (by rw [nI_clamp (by omega)]) dX6_load_18 ?_
      refine lv_i2l hx hb dX6_load_19 rfl ?_
      refine h_last hx hb hE hw (pt_up (hM.v (i := t) ht ht2)) (n := 4) (vp_in_nI (n := 1) (N := 4) (by decide) (by decide)) (g := vp_updL (q4f ((mrg ((4 * k) + 0)).toInt64, (mv t).2.1, (mv t).2.2.1, (mv t).2.2.2)) 1 ((mrg ((4 * k) + 1)).toInt64)) rfl dX6_load_20 (fun H locs hw => ?_)
      have hw := wo_same hw (at_sameJ (G := G) (n := 4) (st4_1 ((mrg ((4 * k) + 0)).toInt64, (mv t).2.1, (mv t).2.2.1, (mv t).2.2.2) ((mrg ((4 * k) + 1)).toInt64)))
      refine lv_iinc (v := 2) (lv' := [(3, .int 2), (0, .ref (ma 0)), (1, .ref (ma t)), (2, .int (nI k))]) hx hb dX6_load_21 hl (k := 0) rfl (by decide) (by decide) rfl (fun ls hl => ?_)
      refine lv_goto (tgt := 2) hx hb dX6_load_24 (by decide) ?_
      refine lv_iload_n hx hb dX6_load_2 rfl (lv_at hl 0 rfl) ?_
      refine lv_iconst (v := 4) hx hb dX6_load_3 (by decide) ?_
      refine lv_icmp_ge (tgt := 27) hx hb dX6_load_4 (by decide) (fun c_4 => ?_) (fun c_4 => ?_)
      · skip
        first | exact absurd c_4 (by decide) | exact absurd (by decide) c_4
      · skip
        refine lv_aload_n hx hb dX6_load_7 rfl (lv_at hl 2 rfl) ?_
        refine lv_iload_n hx hb dX6_load_8 rfl (lv_at hl 0 rfl) ?_
        refine lv_aload_n hx hb dX6_load_9 rfl (lv_at hl 1 rfl) ?_
        refine h_get hx hb hE hw hts hinX6 hown (ci := 6) rfl 3 (by decide) lk_20 (fun _ h9 => h9) (pt_ne (pt_ne hM.ob (hM.ne (i := 0) (j := t) (by decide) ht2 (by omega))) (hM.ne (i := 0) (j := t) (by decide) ht2 (by omega))) rfl dX6_load_10 ?_
        refine lv_iconst (v := 4) hx hb dX6_load_13 (by decide) ?_
        refine lv_iload_n hx hb dX6_load_14 rfl (lv_at hl 3 rfl) ?_
        refine h_imulN hx hb 4 k dX6_load_15 ?_
        refine lv_iload_n hx hb dX6_load_16 rfl (lv_at hl 0 rfl) ?_
        refine h_iaddN hx hb (4 * k) 2 dX6_load_17 ?_
        refine h_iald hx hb hE hw (pt_ne (pt_ne hM.rg (hM.ne (i := 4) (j := t) (by decide) ht2 (by omega))) (hM.ne (i := 4) (j := t) (by decide) ht2 (by omega))) (vp_in_nI (n := ((4 * k) + 2)) (N := 64) (by omega) (by decide)) (v := mrg ((4 * k) + 2)) (by rw [nI_clamp (by omega)]) dX6_load_18 ?_
        refine lv_i2l hx hb dX6_load_19 rfl ?_
        refine h_last hx hb hE hw (pt_up (pt_up (hM.v (i := t) ht ht2))) (n := 4) (vp_in_nI (n := 2) (N := 4) (by decide) (by decide)) (g := vp_updL (q4f ((mrg ((4 * k) + 0)).toInt64, (mrg ((4 * k) + 1)).toInt64, (mv t).2.2.1, (mv t).2.2.2)) 2 ((mrg ((4 * k) + 2)).toInt64)) rfl dX6_load_20 (fun H locs hw => ?_)
        have hw := wo_same hw (at_sameJ (G := G) (n := 4) (st4_2 ((mrg ((4 * k) + 0)).toInt64, (mrg ((4 * k) + 1)).toInt64, (mv t).2.2.1, (mv t).2.2.2) ((mrg ((4 * k) + 2)).toInt64)))
        refine lv_iinc (v := 3) (lv' := [(3, .int 3), (0, .ref (ma 0)), (1, .ref (ma t)), (2, .int (nI k))]) hx hb dX6_load_21 hl (k := 0) rfl (by decide) (by decide) rfl (fun ls hl => ?_)
        refine lv_goto (tgt := 2) hx hb dX6_load_24 (by decide) ?_
        refine lv_iload_n hx hb dX6_load_2 rfl (lv_at hl 0 rfl) ?_
        refine lv_iconst (v := 4) hx hb dX6_load_3 (by decide) ?_
        refine lv_icmp_ge (tgt := 27) hx hb dX6_load_4 (by decide) (fun c_4 => ?_) (fun c_4 => ?_)
        · skip
          first | exact absurd c_4 (by decide) | exact absurd (by decide) c_4
        · skip
          refine lv_aload_n hx hb dX6_load_7 rfl (lv_at hl 2 rfl) ?_
          refine lv_iload_n hx hb dX6_load_8 rfl (lv_at hl 0 rfl) ?_
          refine lv_aload_n hx hb dX6_load_9 rfl (lv_at hl 1 rfl) ?_
          refine h_get hx hb hE hw hts hinX6 hown (ci := 6) rfl 3 (by decide) lk_20 (fun _ h9 => h9) (pt_ne (pt_ne (pt_ne hM.ob (hM.ne (i := 0) (j := t) (by decide) ht2 (by omega))) (hM.ne (i := 0) (j := t) (by decide) ht2 (by omega))) (hM.ne (i := 0) (j := t) (by decide) ht2 (by omega))) rfl dX6_load_10 ?_
          refine lv_iconst (v := 4) hx hb dX6_load_13 (by decide) ?_
          refine lv_iload_n hx hb dX6_load_14 rfl (lv_at hl 3 rfl) ?_
          refine h_imulN hx hb 4 k dX6_load_15 ?_
          refine lv_iload_n hx hb dX6_load_16 rfl (lv_at hl 0 rfl) ?_
          refine h_iaddN hx hb (4 * k) 3 dX6_load_17 ?_
          refine h_iald hx hb hE hw (pt_ne (pt_ne (pt_ne hM.rg (hM.ne (i := 4) (j := t) (by decide) ht2 (by omega))) (hM.ne (i := 4) (j := t) (by decide) ht2 (by omega))) (hM.ne (i := 4) (j := t) (by decide) ht2 (by omega))) (vp_in_nI (n := ((4 * k) + 3)) (N := 64) (by omega) (by decide)) (v := mrg ((4 * k) + 3)) (by rw [nI_clamp (by omega)]) dX6_load_18 ?_
          refine lv_i2l hx hb dX6_load_19 rfl ?_
          refine h_last hx hb hE hw (pt_up (pt_up (pt_up (hM.v (i := t) ht ht2)))) (n := 4) (vp_in_nI (n := 3) (N := 4) (by decide) (by decide)) (g := vp_updL (q4f ((mrg ((4 * k) + 0)).toInt64, (mrg ((4 * k) + 1)).toInt64, (mrg ((4 * k) + 2)).toInt64, (mv t).2.2.2)) 3 ((mrg ((4 * k) + 3)).toInt64)) rfl dX6_load_20 (fun H locs hw => ?_)
          have hw := wo_same hw (at_sameJ (G := G) (n := 4) (st4_3 ((mrg ((4 * k) + 0)).toInt64, (mrg ((4 * k) + 1)).toInt64, (mrg ((4 * k) + 2)).toInt64, (mv t).2.2.2) ((mrg ((4 * k) + 3)).toInt64)))
          refine lv_iinc (v := 4) (lv' := [(3, .int 4), (0, .ref (ma 0)), (1, .ref (ma t)), (2, .int (nI k))]) hx hb dX6_load_21 hl (k := 0) rfl (by decide) (by decide) rfl (fun ls hl => ?_)
          refine lv_goto (tgt := 2) hx hb dX6_load_24 (by decide) ?_
          refine lv_iload_n hx hb dX6_load_2 rfl (lv_at hl 0 rfl) ?_
          refine lv_iconst (v := 4) hx hb dX6_load_3 (by decide) ?_
          refine lv_icmp_ge (tgt := 27) hx hb dX6_load_4 (by decide) (fun c_4 => ?_) (fun c_4 => ?_)
          · skip
            exact h_vret hx hb hlk hr hw dX6_load_27 rfl (by simp only [up_up]; rfl)
          · skip
            first | exact absurd c_4 (by decide) | exact absurd (by decide) c_4

set_option maxHeartbeats 4000000 in
set_option maxRecDepth 100000 in
theorem c_X6_loadUnit (l : Launch) (G : GG) (A : Nat → Prop) (ma : Nat → Nat) (F : FM) (mk msz : Nat → Int32) (msh : Nat → Int64) (mrg : Nat → Int32) (mfc mmd : Nat → Int64) (mv : Nat → Q4) (mcn : Int32) (hM : MW G ma (mk, msz, msh, mrg, mfc, mmd, mv, mcn) F) (t k : Nat) (ht : 8 ≤ t) (ht2 : t < 17) (hk : k < 24) : HT l yX6_loadUnit wsX6_loadUnit { frames := 0, cells := 0, slots := 0, locals := 0 } G A (ML ma) [.ref (ma 0), .ref (ma t), .int (nI k)] F none (va_up F (ma t) (eJ4 G (uq4 k))) := by
  refine HT.ofW (cc := cX6_loadUnit) (maxL := 4) (ret := none) (plainFor_of_name (by decide)) rfl (Nat.le_of_ble_eq_true rfl) ?_
  intro p e s m below meth c ls hx hb hr hml hown hts hlk hE hw hl
  have hl : lv_has ls 4 [(0, .ref (ma 0)), (1, .ref (ma t)), (2, .int (nI k))] := hl
  have hown : s.vm.findClass RX6 = some m.cls := hown
  have lk_23 := hts (.fieldLink RX6 23 "FourPartsModel" "units" "[I") (by decide +kernel)
  have hinX6 : ∀ w ∈ u_ws RX6 TX6 18, w ∈ wsX6_loadUnit := by decide +kernel
  refine lv_iconst (v := 0) hx hb dX6_loadUnit_0 (by decide) ?_
  refine lv_istore_n (lv' := [(3, .int 0), (0, .ref (ma 0)), (1, .ref (ma t)), (2, .int (nI k))]) hx hb dX6_loadUnit_1 rfl hl (by decide) rfl (fun ls hl => ?_)
  refine lv_iload_n hx hb dX6_loadUnit_2 rfl (lv_at hl 0 rfl) ?_
  refine lv_iconst (v := 4) hx hb dX6_loadUnit_3 (by decide) ?_
  refine lv_icmp_ge (tgt := 27) hx hb dX6_loadUnit_4 (by decide) (fun c_4 => ?_) (fun c_4 => ?_)
  · skip
    first | exact absurd c_4 (by decide) | exact absurd (by decide) c_4
  · skip
    refine lv_aload_n hx hb dX6_loadUnit_7 rfl (lv_at hl 2 rfl) ?_
    refine lv_iload_n hx hb dX6_loadUnit_8 rfl (lv_at hl 0 rfl) ?_
    refine lv_aload_n hx hb dX6_loadUnit_9 rfl (lv_at hl 1 rfl) ?_
    refine h_get hx hb hE hw hts hinX6 hown (ci := 6) rfl 4 (by decide) lk_23 (fun _ h9 => h9) hM.ob rfl dX6_loadUnit_10 ?_
    refine lv_iconst (v := 4) hx hb dX6_loadUnit_13 (by decide) ?_
    refine lv_iload_n hx hb dX6_loadUnit_14 rfl (lv_at hl 3 rfl) ?_
    refine h_imulN hx hb 4 k dX6_loadUnit_15 ?_
    refine lv_iload_n hx hb dX6_loadUnit_16 rfl (lv_at hl 0 rfl) ?_
    refine h_iaddN hx hb (4 * k) 0 dX6_loadUnit_17 ?_
    refine h_iald hx hb hE hw hM.un (vp_in_nI (n := ((4 * k) + 0)) (N := 96) (by omega) (by decide)) (v := uni ((4 * k) + 0)) (by rw [nI_clamp (by omega)]) dX6_loadUnit_18 ?_
    refine lv_i2l hx hb dX6_loadUnit_19 rfl ?_
    refine h_last hx hb hE hw (hM.v (i := t) ht ht2) (n := 4) (vp_in_nI (n := 0) (N := 4) (by decide) (by decide)) (g := vp_updL (q4f (mv t)) 0 ((uni ((4 * k) + 0)).toInt64)) rfl dX6_loadUnit_20 (fun H locs hw => ?_)
    have hw := wo_same hw (at_sameJ (G := G) (n := 4) (st4_0 (mv t) ((uni ((4 * k) + 0)).toInt64)))
    refine lv_iinc (v := 1) (lv' := [(3, .int 1), (0, .ref (ma 0)), (1, .ref (ma t)), (2, .int (nI k))]) hx hb dX6_loadUnit_21 hl (k := 0) rfl (by decide) (by decide) rfl (fun ls hl => ?_)
    refine lv_goto (tgt := 2) hx hb dX6_loadUnit_24 (by decide) ?_
    refine lv_iload_n hx hb dX6_loadUnit_2 rfl (lv_at hl 0 rfl) ?_
    refine lv_iconst (v := 4) hx hb dX6_loadUnit_3 (by decide) ?_
    refine lv_icmp_ge (tgt := 27) hx hb dX6_loadUnit_4 (by decide) (fun c_4 => ?_) (fun c_4 => ?_)
    · skip
      first | exact absurd c_4 (by decide) | exact absurd (by decide) c_4
    · skip
      refine lv_aload_n hx hb dX6_loadUnit_7 rfl (lv_at hl 2 rfl) ?_
      refine lv_iload_n hx hb dX6_loadUnit_8 rfl (lv_at hl 0 rfl) ?_
      refine lv_aload_n hx hb dX6_loadUnit_9 rfl (lv_at hl 1 rfl) ?_
      refine h_get hx hb hE hw hts hinX6 hown (ci := 6) rfl 4 (by decide) lk_23 (fun _ h9 => h9) (pt_ne hM.ob (hM.ne (i := 0) (j := t) (by decide) ht2 (by omega))) rfl dX6_loadUnit_10 ?_
      refine lv_iconst (v := 4) hx hb dX6_loadUnit_13 (by decide) ?_
      refine lv_iload_n hx hb dX6_loadUnit_14 rfl (lv_at hl 3 rfl) ?_
      refine h_imulN hx hb 4 k dX6_loadUnit_15 ?_
      refine lv_iload_n hx hb dX6_loadUnit_16 rfl (lv_at hl 0 rfl) ?_
      refine h_iaddN hx hb (4 * k) 1 dX6_loadUnit_17 ?_
      refine h_iald hx hb hE hw (pt_ne hM.un (hM.ne (i := 5) (j := t) (by decide) ht2 (by omega))) (vp_in_nI (n := ((4 * k) + 1)) (N := 96) (by omega) (by decide)) (v := uni ((4 * k) + 1)) (by rw [nI_clamp (by omega)]) dX6_loadUnit_18 ?_
      refine lv_i2l hx hb dX6_loadUnit_19 rfl ?_
      refine h_last hx hb hE hw (pt_up (hM.v (i := t) ht ht2)) (n := 4) (vp_in_nI (n := 1) (N := 4) (by decide) (by decide)) (g := vp_updL (q4f ((uni ((4 * k) + 0)).toInt64, (mv t).2.1, (mv t).2.2.1, (mv t).2.2.2)) 1 ((uni ((4 * k) + 1)).toInt64)) rfl dX6_loadUnit_20 (fun H locs hw => ?_)
      have hw := wo_same hw (at_sameJ (G := G) (n := 4) (st4_1 ((uni ((4 * k) + 0)).toInt64, (mv t).2.1, (mv t).2.2.1, (mv t).2.2.2) ((uni ((4 * k) + 1)).toInt64)))
      refine lv_iinc (v := 2) (lv' := [(3, .int 2), (0, .ref (ma 0)), (1, .ref (ma t)), (2, .int (nI k))]) hx hb dX6_loadUnit_21 hl (k := 0) rfl (by decide) (by decide) rfl (fun ls hl => ?_)
      refine lv_goto (tgt := 2) hx hb dX6_loadUnit_24 (by decide) ?_
      refine lv_iload_n hx hb dX6_loadUnit_2 rfl (lv_at hl 0 rfl) ?_
      refine lv_iconst (v := 4) hx hb dX6_loadUnit_3 (by decide) ?_
      refine lv_icmp_ge (tgt := 27) hx hb dX6_loadUnit_4 (by decide) (fun c_4 => ?_) (fun c_4 => ?_)
      · skip
        first | exact absurd c_4 (by decide) | exact absurd (by decide) c_4
      · skip
        refine lv_aload_n hx hb dX6_loadUnit_7 rfl (lv_at hl 2 rfl) ?_
        refine lv_iload_n hx hb dX6_loadUnit_8 rfl (lv_at hl 0 rfl) ?_
        refine lv_aload_n hx hb dX6_loadUnit_9 rfl (lv_at hl 1 rfl) ?_
        refine h_get hx hb hE hw hts hinX6 hown (ci := 6) rfl 4 (by decide) lk_23 (fun _ h9 => h9) (pt_ne (pt_ne hM.ob (hM.ne (i := 0) (j := t) (by decide) ht2 (by omega))) (hM.ne (i := 0) (j := t) (by decide) ht2 (by omega))) rfl dX6_loadUnit_10 ?_
        refine lv_iconst (v := 4) hx hb dX6_loadUnit_13 (by decide) ?_
        refine lv_iload_n hx hb dX6_loadUnit_14 rfl (lv_at hl 3 rfl) ?_
        refine h_imulN hx hb 4 k dX6_loadUnit_15 ?_
        refine lv_iload_n hx hb dX6_loadUnit_16 rfl (lv_at hl 0 rfl) ?_
        refine h_iaddN hx hb (4 * k) 2 dX6_loadUnit_17 ?_
        refine h_iald hx hb hE hw (pt_ne (pt_ne hM.un (hM.ne (i := 5) (j := t) (by decide) ht2 (by omega))) (hM.ne (i := 5) (j := t) (by decide) ht2 (by omega))) (vp_in_nI (n := ((4 * k) + 2)) (N := 96) (by omega) (by decide)) (v := uni ((4 * k) + 2)) (by rw [nI_clamp (by omega)]) dX6_loadUnit_18 ?_
        refine lv_i2l hx hb dX6_loadUnit_19 rfl ?_
        refine h_last hx hb hE hw (pt_up (pt_up (hM.v (i := t) ht ht2))) (n := 4) (vp_in_nI (n := 2) (N := 4) (by decide) (by decide)) (g := vp_updL (q4f ((uni ((4 * k) + 0)).toInt64, (uni ((4 * k) + 1)).toInt64, (mv t).2.2.1, (mv t).2.2.2)) 2 ((uni ((4 * k) + 2)).toInt64)) rfl dX6_loadUnit_20 (fun H locs hw => ?_)
        have hw := wo_same hw (at_sameJ (G := G) (n := 4) (st4_2 ((uni ((4 * k) + 0)).toInt64, (uni ((4 * k) + 1)).toInt64, (mv t).2.2.1, (mv t).2.2.2) ((uni ((4 * k) + 2)).toInt64)))
        refine lv_iinc (v := 3) (lv' := [(3, .int 3), (0, .ref (ma 0)), (1, .ref (ma t)), (2, .int (nI k))]) hx hb dX6_loadUnit_21 hl (k := 0) rfl (by decide) (by decide) rfl (fun ls hl => ?_)
        refine lv_goto (tgt := 2) hx hb dX6_loadUnit_24 (by decide) ?_
        refine lv_iload_n hx hb dX6_loadUnit_2 rfl (lv_at hl 0 rfl) ?_
        refine lv_iconst (v := 4) hx hb dX6_loadUnit_3 (by decide) ?_
        refine lv_icmp_ge (tgt := 27) hx hb dX6_loadUnit_4 (by decide) (fun c_4 => ?_) (fun c_4 => ?_)
        · skip
          first | exact absurd c_4 (by decide) | exact absurd (by decide) c_4
        · skip
          refine lv_aload_n hx hb dX6_loadUnit_7 rfl (lv_at hl 2 rfl) ?_
          refine lv_iload_n hx hb dX6_loadUnit_8 rfl (lv_at hl 0 rfl) ?_
          refine lv_aload_n hx hb dX6_loadUnit_9 rfl (lv_at hl 1 rfl) ?_
          refine h_get hx hb hE hw hts hinX6 hown (ci := 6) rfl 4 (by decide) lk_23 (fun _ h9 => h9) (pt_ne (pt_ne (pt_ne hM.ob (hM.ne (i := 0) (j := t) (by decide) ht2 (by omega))) (hM.ne (i := 0) (j := t) (by decide) ht2 (by omega))) (hM.ne (i := 0) (j := t) (by decide) ht2 (by omega))) rfl dX6_loadUnit_10 ?_
          refine lv_iconst (v := 4) hx hb dX6_loadUnit_13 (by decide) ?_
          refine lv_iload_n hx hb dX6_loadUnit_14 rfl (lv_at hl 3 rfl) ?_
          refine h_imulN hx hb 4 k dX6_loadUnit_15 ?_
          refine lv_iload_n hx hb dX6_loadUnit_16 rfl (lv_at hl 0 rfl) ?_
          refine h_iaddN hx hb (4 * k) 3 dX6_loadUnit_17 ?_
          refine h_iald hx hb hE hw (pt_ne (pt_ne (pt_ne hM.un (hM.ne (i := 5) (j := t) (by decide) ht2 (by omega))) (hM.ne (i := 5) (j := t) (by decide) ht2 (by omega))) (hM.ne (i := 5) (j := t) (by decide) ht2 (by omega))) (vp_in_nI (n := ((4 * k) + 3)) (N := 96) (by omega) (by decide)) (v := uni ((4 * k) + 3)) (by rw [nI_clamp (by omega)]) dX6_loadUnit_18 ?_
          refine lv_i2l hx hb dX6_loadUnit_19 rfl ?_
          refine h_last hx hb hE hw (pt_up (pt_up (pt_up (hM.v (i := t) ht ht2)))) (n := 4) (vp_in_nI (n := 3) (N := 4) (by decide) (by decide)) (g := vp_updL (q4f ((uni ((4 * k) + 0)).toInt64, (uni ((4 * k) + 1)).toInt64, (uni ((4 * k) + 2)).toInt64, (mv t).2.2.2)) 3 ((uni ((4 * k) + 3)).toInt64)) rfl dX6_loadUnit_20 (fun H locs hw => ?_)
          have hw := wo_same hw (at_sameJ (G := G) (n := 4) (st4_3 ((uni ((4 * k) + 0)).toInt64, (uni ((4 * k) + 1)).toInt64, (uni ((4 * k) + 2)).toInt64, (mv t).2.2.2) ((uni ((4 * k) + 3)).toInt64)))
          refine lv_iinc (v := 4) (lv' := [(3, .int 4), (0, .ref (ma 0)), (1, .ref (ma t)), (2, .int (nI k))]) hx hb dX6_loadUnit_21 hl (k := 0) rfl (by decide) (by decide) rfl (fun ls hl => ?_)
          refine lv_goto (tgt := 2) hx hb dX6_loadUnit_24 (by decide) ?_
          refine lv_iload_n hx hb dX6_loadUnit_2 rfl (lv_at hl 0 rfl) ?_
          refine lv_iconst (v := 4) hx hb dX6_loadUnit_3 (by decide) ?_
          refine lv_icmp_ge (tgt := 27) hx hb dX6_loadUnit_4 (by decide) (fun c_4 => ?_) (fun c_4 => ?_)
          · skip
            exact h_vret hx hb hlk hr hw dX6_loadUnit_27 rfl (by simp only [up_up]; rfl)
          · skip
            first | exact absurd c_4 (by decide) | exact absurd (by decide) c_4

set_option maxHeartbeats 4000000 in
set_option maxRecDepth 100000 in
theorem c_X6_store (l : Launch) (G : GG) (A : Nat → Prop) (ma : Nat → Nat) (F : FM) (mk msz : Nat → Int32) (msh : Nat → Int64) (mrg : Nat → Int32) (mfc mmd : Nat → Int64) (mv : Nat → Q4) (mcn : Int32) (hM : MW G ma (mk, msz, msh, mrg, mfc, mmd, mv, mcn) F) (t k : Nat) (x : Q4) (ht : 8 ≤ t) (ht2 : t < 17) (e0 : pt (ML ma) F (ma t) (eJ4 G x)) (hk : k < 16) : HT l yX6_store wsX6_store { frames := 0, cells := 0, slots := 0, locals := 0 } G A (ML ma) [.ref (ma 0), .int (nI k), .ref (ma t)] F none (va_up F (ma 4) (eI G 64 (stq mrg k x))) := by
  refine HT.ofW (cc := cX6_store) (maxL := 4) (ret := none) (plainFor_of_name (by decide)) rfl (Nat.le_of_ble_eq_true rfl) ?_
  intro p e s m below meth c ls hx hb hr hml hown hts hlk hE hw hl
  have hl : lv_has ls 4 [(0, .ref (ma 0)), (1, .int (nI k)), (2, .ref (ma t))] := hl
  have hown : s.vm.findClass RX6 = some m.cls := hown
  have lk_20 := hts (.fieldLink RX6 20 "FourPartsModel" "registers" "[I") (by decide +kernel)
  have hinX6 : ∀ w ∈ u_ws RX6 TX6 18, w ∈ wsX6_store := by decide +kernel
  refine lv_iconst (v := 0) hx hb dX6_store_0 (by decide) ?_
  refine lv_istore_n (lv' := [(3, .int 0), (0, .ref (ma 0)), (1, .int (nI k)), (2, .ref (ma t))]) hx hb dX6_store_1 rfl hl (by decide) rfl (fun ls hl => ?_)
  refine lv_iload_n hx hb dX6_store_2 rfl (lv_at hl 0 rfl) ?_
  refine lv_iconst (v := 4) hx hb dX6_store_3 (by decide) ?_
  refine lv_icmp_ge (tgt := 27) hx hb dX6_store_4 (by decide) (fun c_4 => ?_) (fun c_4 => ?_)
  · skip
    first | exact absurd c_4 (by decide) | exact absurd (by decide) c_4
  · skip
    refine lv_aload_n hx hb dX6_store_7 rfl (lv_at hl 1 rfl) ?_
    refine h_get hx hb hE hw hts hinX6 hown (ci := 6) rfl 3 (by decide) lk_20 (fun _ h9 => h9) hM.ob rfl dX6_store_8 ?_
    refine lv_iconst (v := 4) hx hb dX6_store_11 (by decide) ?_
    refine lv_iload_n hx hb dX6_store_12 rfl (lv_at hl 2 rfl) ?_
    refine h_imulN hx hb 4 k dX6_store_13 ?_
    refine lv_iload_n hx hb dX6_store_14 rfl (lv_at hl 0 rfl) ?_
    refine h_iaddN hx hb (4 * k) 0 dX6_store_15 ?_
    refine lv_aload_n hx hb dX6_store_16 rfl (lv_at hl 3 rfl) ?_
    refine lv_iload_n hx hb dX6_store_17 rfl (lv_at hl 0 rfl) ?_
    refine h_lald hx hb hE hw e0 (n := 4) (vp_in_nI (n := 0) (N := 4) (by decide) (by decide)) (v := x.1) rfl dX6_store_18 ?_
    refine lv_l2i hx hb dX6_store_19 rfl ?_
    refine h_iast hx hb hE hw hM.rg (vp_in_nI (n := ((4 * k) + 0)) (N := 64) (by omega) (by decide)) (g := upd mrg ((4 * k) + 0) x.1.toInt32) (by rw [nI_clamp (by omega)]) dX6_store_20 (fun H locs hw => ?_)
    refine lv_iinc (v := 1) (lv' := [(3, .int 1), (0, .ref (ma 0)), (1, .int (nI k)), (2, .ref (ma t))]) hx hb dX6_store_21 hl (k := 0) rfl (by decide) (by decide) rfl (fun ls hl => ?_)
    refine lv_goto (tgt := 2) hx hb dX6_store_24 (by decide) ?_
    refine lv_iload_n hx hb dX6_store_2 rfl (lv_at hl 0 rfl) ?_
    refine lv_iconst (v := 4) hx hb dX6_store_3 (by decide) ?_
    refine lv_icmp_ge (tgt := 27) hx hb dX6_store_4 (by decide) (fun c_4 => ?_) (fun c_4 => ?_)
    · skip
      first | exact absurd c_4 (by decide) | exact absurd (by decide) c_4
    · skip
      refine lv_aload_n hx hb dX6_store_7 rfl (lv_at hl 1 rfl) ?_
      refine h_get hx hb hE hw hts hinX6 hown (ci := 6) rfl 3 (by decide) lk_20 (fun _ h9 => h9) (pt_ne hM.ob (hM.ne (i := 0) (j := 4) (by decide) (by decide) (by decide))) rfl dX6_store_8 ?_
      refine lv_iconst (v := 4) hx hb dX6_store_11 (by decide) ?_
      refine lv_iload_n hx hb dX6_store_12 rfl (lv_at hl 2 rfl) ?_
      refine h_imulN hx hb 4 k dX6_store_13 ?_
      refine lv_iload_n hx hb dX6_store_14 rfl (lv_at hl 0 rfl) ?_
      refine h_iaddN hx hb (4 * k) 1 dX6_store_15 ?_
      refine lv_aload_n hx hb dX6_store_16 rfl (lv_at hl 3 rfl) ?_
      refine lv_iload_n hx hb dX6_store_17 rfl (lv_at hl 0 rfl) ?_
      refine h_lald hx hb hE hw (pt_ne e0 (hM.ne (i := t) (j := 4) ht2 (by decide) (by omega))) (n := 4) (vp_in_nI (n := 1) (N := 4) (by decide) (by decide)) (v := x.2.1) rfl dX6_store_18 ?_
      refine lv_l2i hx hb dX6_store_19 rfl ?_
      refine h_iast hx hb hE hw (pt_up hM.rg) (vp_in_nI (n := ((4 * k) + 1)) (N := 64) (by omega) (by decide)) (g := upd (upd mrg ((4 * k) + 0) x.1.toInt32) ((4 * k) + 1) x.2.1.toInt32) (by rw [nI_clamp (by omega)]) dX6_store_20 (fun H locs hw => ?_)
      refine lv_iinc (v := 2) (lv' := [(3, .int 2), (0, .ref (ma 0)), (1, .int (nI k)), (2, .ref (ma t))]) hx hb dX6_store_21 hl (k := 0) rfl (by decide) (by decide) rfl (fun ls hl => ?_)
      refine lv_goto (tgt := 2) hx hb dX6_store_24 (by decide) ?_
      refine lv_iload_n hx hb dX6_store_2 rfl (lv_at hl 0 rfl) ?_
      refine lv_iconst (v := 4) hx hb dX6_store_3 (by decide) ?_
      refine lv_icmp_ge (tgt := 27) hx hb dX6_store_4 (by decide) (fun c_4 => ?_) (fun c_4 => ?_)
      · skip
        first | exact absurd c_4 (by decide) | exact absurd (by decide) c_4
      · skip
        refine lv_aload_n hx hb dX6_store_7 rfl (lv_at hl 1 rfl) ?_
        refine h_get hx hb hE hw hts hinX6 hown (ci := 6) rfl 3 (by decide) lk_20 (fun _ h9 => h9) (pt_ne (pt_ne hM.ob (hM.ne (i := 0) (j := 4) (by decide) (by decide) (by decide))) (hM.ne (i := 0) (j := 4) (by decide) (by decide) (by decide))) rfl dX6_store_8 ?_
        refine lv_iconst (v := 4) hx hb dX6_store_11 (by decide) ?_
        refine lv_iload_n hx hb dX6_store_12 rfl (lv_at hl 2 rfl) ?_
        refine h_imulN hx hb 4 k dX6_store_13 ?_
        refine lv_iload_n hx hb dX6_store_14 rfl (lv_at hl 0 rfl) ?_
        refine h_iaddN hx hb (4 * k) 2 dX6_store_15 ?_
        refine lv_aload_n hx hb dX6_store_16 rfl (lv_at hl 3 rfl) ?_
        refine lv_iload_n hx hb dX6_store_17 rfl (lv_at hl 0 rfl) ?_
        refine h_lald hx hb hE hw (pt_ne (pt_ne e0 (hM.ne (i := t) (j := 4) ht2 (by decide) (by omega))) (hM.ne (i := t) (j := 4) ht2 (by decide) (by omega))) (n := 4) (vp_in_nI (n := 2) (N := 4) (by decide) (by decide)) (v := x.2.2.1) rfl dX6_store_18 ?_
        refine lv_l2i hx hb dX6_store_19 rfl ?_
        refine h_iast hx hb hE hw (pt_up (pt_up hM.rg)) (vp_in_nI (n := ((4 * k) + 2)) (N := 64) (by omega) (by decide)) (g := upd (upd (upd mrg ((4 * k) + 0) x.1.toInt32) ((4 * k) + 1) x.2.1.toInt32) ((4 * k) + 2) x.2.2.1.toInt32) (by rw [nI_clamp (by omega)]) dX6_store_20 (fun H locs hw => ?_)
        refine lv_iinc (v := 3) (lv' := [(3, .int 3), (0, .ref (ma 0)), (1, .int (nI k)), (2, .ref (ma t))]) hx hb dX6_store_21 hl (k := 0) rfl (by decide) (by decide) rfl (fun ls hl => ?_)
        refine lv_goto (tgt := 2) hx hb dX6_store_24 (by decide) ?_
        refine lv_iload_n hx hb dX6_store_2 rfl (lv_at hl 0 rfl) ?_
        refine lv_iconst (v := 4) hx hb dX6_store_3 (by decide) ?_
        refine lv_icmp_ge (tgt := 27) hx hb dX6_store_4 (by decide) (fun c_4 => ?_) (fun c_4 => ?_)
        · skip
          first | exact absurd c_4 (by decide) | exact absurd (by decide) c_4
        · skip
          refine lv_aload_n hx hb dX6_store_7 rfl (lv_at hl 1 rfl) ?_
          refine h_get hx hb hE hw hts hinX6 hown (ci := 6) rfl 3 (by decide) lk_20 (fun _ h9 => h9) (pt_ne (pt_ne (pt_ne hM.ob (hM.ne (i := 0) (j := 4) (by decide) (by decide) (by decide))) (hM.ne (i := 0) (j := 4) (by decide) (by decide) (by decide))) (hM.ne (i := 0) (j := 4) (by decide) (by decide) (by decide))) rfl dX6_store_8 ?_
          refine lv_iconst (v := 4) hx hb dX6_store_11 (by decide) ?_
          refine lv_iload_n hx hb dX6_store_12 rfl (lv_at hl 2 rfl) ?_
          refine h_imulN hx hb 4 k dX6_store_13 ?_
          refine lv_iload_n hx hb dX6_store_14 rfl (lv_at hl 0 rfl) ?_
          refine h_iaddN hx hb (4 * k) 3 dX6_store_15 ?_
          refine lv_aload_n hx hb dX6_store_16 rfl (lv_at hl 3 rfl) ?_
          refine lv_iload_n hx hb dX6_store_17 rfl (lv_at hl 0 rfl) ?_
          refine h_lald hx hb hE hw (pt_ne (pt_ne (pt_ne e0 (hM.ne (i := t) (j := 4) ht2 (by decide) (by omega))) (hM.ne (i := t) (j := 4) ht2 (by decide) (by omega))) (hM.ne (i := t) (j := 4) ht2 (by decide) (by omega))) (n := 4) (vp_in_nI (n := 3) (N := 4) (by decide) (by decide)) (v := x.2.2.2) rfl dX6_store_18 ?_
          refine lv_l2i hx hb dX6_store_19 rfl ?_
          refine h_iast hx hb hE hw (pt_up (pt_up (pt_up hM.rg))) (vp_in_nI (n := ((4 * k) + 3)) (N := 64) (by omega) (by decide)) (g := upd (upd (upd (upd mrg ((4 * k) + 0) x.1.toInt32) ((4 * k) + 1) x.2.1.toInt32) ((4 * k) + 2) x.2.2.1.toInt32) ((4 * k) + 3) x.2.2.2.toInt32) (by rw [nI_clamp (by omega)]) dX6_store_20 (fun H locs hw => ?_)
          refine lv_iinc (v := 4) (lv' := [(3, .int 4), (0, .ref (ma 0)), (1, .int (nI k)), (2, .ref (ma t))]) hx hb dX6_store_21 hl (k := 0) rfl (by decide) (by decide) rfl (fun ls hl => ?_)
          refine lv_goto (tgt := 2) hx hb dX6_store_24 (by decide) ?_
          refine lv_iload_n hx hb dX6_store_2 rfl (lv_at hl 0 rfl) ?_
          refine lv_iconst (v := 4) hx hb dX6_store_3 (by decide) ?_
          refine lv_icmp_ge (tgt := 27) hx hb dX6_store_4 (by decide) (fun c_4 => ?_) (fun c_4 => ?_)
          · skip
            exact h_vret hx hb hlk hr hw dX6_store_27 rfl (by simp only [up_up]; rfl)
          · skip
            first | exact absurd c_4 (by decide) | exact absurd (by decide) c_4

set_option maxHeartbeats 4000000 in
set_option maxRecDepth 100000 in
theorem c_X6_holds_hi (l : Launch) (G : GG) (A : Nat → Prop) (ma : Nat → Nat) (F : FM) (mk msz : Nat → Int32) (msh : Nat → Int64) (mrg : Nat → Int32) (mfc mmd : Nat → Int64) (mv : Nat → Q4) (mcn : Int32) (hM : MW G ma (mk, msz, msh, mrg, mfc, mmd, mv, mcn) F) (t k : Nat) (x : Q4) (ht : 8 ≤ t) (ht2 : t < 17) (e0 : pt (ML ma) F (ma t) (eJ4 G x)) (hk : k < 16) (hh : qhigh x) : HT l yX6_holds wsX6_holds { frames := 3, cells := 0, slots := 0, locals := 66 } G A (ML ma) [.ref (ma 0), .int (nI k), .ref (ma t)] F (some (.int (-3))) F := by
  refine HT.ofW (cc := cX6_holds) (maxL := 3) (ret := (some .int)) (plainFor_of_name (by decide)) rfl (Nat.le_of_ble_eq_true rfl) ?_
  intro p e s m below meth c ls hx hb hr hml hown hts hlk hE hw hl
  have hl : lv_has ls 3 [(0, .ref (ma 0)), (1, .int (nI k)), (2, .ref (ma t))] := hl
  have hown : s.vm.findClass RX6 = some m.cls := hown
  refine lv_aload_n hx hb dX6_holds_0 rfl (lv_at hl 2 rfl) ?_
  refine h_callS (st1 := [.int (bI (qlow x))]) [.ref (ma t)] [] ⟨hx, hb, hml, hown, hts⟩ hE hw (c_X6_isLow l G A (ML ma) F (ma t) x e0) (va_cwS 1 hts gX6_holds_X6_isLow rfl rfl rfl (by decide +kernel) ⟨Nat.le_of_ble_eq_true rfl, Nat.le_of_ble_eq_true rfl⟩) rfl hl.1 rfl (Nat.le_of_ble_eq_true rfl) dX6_holds_1 ⟨Nat.le_of_ble_eq_true rfl, Nat.le_of_ble_eq_true rfl⟩ rfl (fun H locs hw => ?_)
  refine lv_if_ne (tgt := 10) hx hb dX6_holds_4 (by decide) (fun c_4 => ?_) (fun c_4 => ?_)
  · skip
    exact absurd hh (low_hi.mp (bI_ne.mp c_4))
  · skip
    have c_4 := bI_eq.mp c_4
    refine lv_bipush (v := (-3)) hx hb dX6_holds_7 (by decide) ?_
    exact h_iret hx hb hlk hr hw dX6_holds_9 rfl rfl

set_option maxHeartbeats 4000000 in
set_option maxRecDepth 100000 in
theorem c_X6_holds_lo (l : Launch) (G : GG) (A : Nat → Prop) (ma : Nat → Nat) (F : FM) (mk msz : Nat → Int32) (msh : Nat → Int64) (mrg : Nat → Int32) (mfc mmd : Nat → Int64) (mv : Nat → Q4) (mcn : Int32) (hM : MW G ma (mk, msz, msh, mrg, mfc, mmd, mv, mcn) F) (t k : Nat) (x : Q4) (ht : 8 ≤ t) (ht2 : t < 17) (e0 : pt (ML ma) F (ma t) (eJ4 G x)) (hk : k < 16) (hh : ¬ qhigh x) : HT l yX6_holds wsX6_holds { frames := 3, cells := 0, slots := 0, locals := 66 } G A (ML ma) [.ref (ma 0), .int (nI k), .ref (ma t)] F (some (.int 0)) (va_up F (ma 4) (eI G 64 (stq mrg k x))) := by
  refine HT.ofW (cc := cX6_holds) (maxL := 3) (ret := (some .int)) (plainFor_of_name (by decide)) rfl (Nat.le_of_ble_eq_true rfl) ?_
  intro p e s m below meth c ls hx hb hr hml hown hts hlk hE hw hl
  have hl : lv_has ls 3 [(0, .ref (ma 0)), (1, .int (nI k)), (2, .ref (ma t))] := hl
  have hown : s.vm.findClass RX6 = some m.cls := hown
  refine lv_aload_n hx hb dX6_holds_0 rfl (lv_at hl 2 rfl) ?_
  refine h_callS (st1 := [.int (bI (qlow x))]) [.ref (ma t)] [] ⟨hx, hb, hml, hown, hts⟩ hE hw (c_X6_isLow l G A (ML ma) F (ma t) x e0) (va_cwS 1 hts gX6_holds_X6_isLow rfl rfl rfl (by decide +kernel) ⟨Nat.le_of_ble_eq_true rfl, Nat.le_of_ble_eq_true rfl⟩) rfl hl.1 rfl (Nat.le_of_ble_eq_true rfl) dX6_holds_1 ⟨Nat.le_of_ble_eq_true rfl, Nat.le_of_ble_eq_true rfl⟩ rfl (fun H locs hw => ?_)
  refine lv_if_ne (tgt := 10) hx hb dX6_holds_4 (by decide) (fun c_4 => ?_) (fun c_4 => ?_)
  · skip
    have c_4 := bI_ne.mp c_4
    refine lv_aload_n hx hb dX6_holds_10 rfl (lv_at hl 0 rfl) ?_
    refine lv_iload_n hx hb dX6_holds_11 rfl (lv_at hl 1 rfl) ?_
    refine lv_aload_n hx hb dX6_holds_12 rfl (lv_at hl 2 rfl) ?_
    refine h_callV (st1 := []) [.int (nI k), .ref (ma t)] [] ⟨hx, hb, hml, hown, hts⟩ hE hw (c_X6_store l G A ma F _ _ _ _ _ _ _ _ hM t k x ht ht2 e0 hk) (cwV 2 hts gX6_holds_X6_store rfl rfl rfl (by decide +kernel) ⟨Nat.le_of_ble_eq_true rfl, Nat.le_of_ble_eq_true rfl⟩) hM.ob rfl rfl rfl hl.1 rfl (Nat.le_of_ble_eq_true rfl) dX6_holds_13 ⟨Nat.le_of_ble_eq_true rfl, Nat.le_of_ble_eq_true rfl⟩ rfl (fun H locs hw => ?_)
    refine lv_iconst (v := 0) hx hb dX6_holds_16 (by decide) ?_
    exact h_iret hx hb hlk hr hw dX6_holds_17 rfl rfl
  · skip
    exact absurd (low_hi.mpr hh) (bI_eq.mp c_4)
