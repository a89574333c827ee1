theorem cif_T {α : Type} {a b : α} : cif True a b = a := cif_t trivial
theorem cif_F {α : Type} {a b : α} : cif False a b = b := cif_f (fun h => h)
theorem upq_uu {α : Type} (q : Nat → α) (k : Nat) (v w : α) : upq (upq q k v) k w = upq q k w := by
  funext j
  by_cases e : j = k
  · subst e; rw [upq_s, upq_s]
  · rw [upq_n _ _ e, upq_n _ _ e, upq_n _ _ e]
theorem cw_sz {G : GG} {ad : Nat → Nat} {q : Nat → Q4} {kd : Nat → Int32} {z : Nat → Nat} {pl : Nat → Nat → Int64} {c : Int32} {F : FM} {j n : Nat} (h : CW G ad (q, kd, upq (fun k => nI (z k)) j (nI n), pl, c) F) : CW G ad (q, kd, (fun k => nI (upq z j n k)), pl, c) F := by
  rw [← upq_nI]; exact h
theorem cw_uu {G : GG} {ad : Nat → Nat} {q : Nat → Q4} {kd sz : Nat → Int32} {pl : Nat → Nat → Int64} {c : Int32} {F : FM} {j : Nat} {g1 g2 g3 g4 : Nat → Int64} (h : CW G ad (q, kd, sz, upq (upq (upq (upq pl j g1) j g2) j g3) j g4, c) F) : CW G ad (q, kd, sz, upq pl j g4, c) F := by
  rw [upq_uu, upq_uu, upq_uu] at h; exact h
theorem reach_1 {z b : Nat} {i : Int32} (hz : z ≤ 16) (hb : b ≤ 2147483647) (h : reach (nI z) i (nI b)) : ∃ a : Nat, i = nI a ∧ a + b ≤ z := by
  obtain ⟨a, b2, rfl, hb2, hab⟩ := (reach_iff hz _ _).mp h
  have e : b = b2 := (nI_eq (by omega) (by omega)).mp hb2
  exact ⟨a, rfl, by omega⟩
theorem int_lt4 {k : Int32} (h1 : 0 ≤ k.toInt) (h2 : k.toInt ≤ 3) : k = 0 ∨ k = 1 ∨ k = 2 ∨ k = 3 := by
  rcases int_lt9 h1 (by omega) with h | h | h | h | h | h | h | h | h
  · exact Or.inl h
  · exact Or.inr (Or.inl h)
  · exact Or.inr (Or.inr (Or.inl h))
  · exact Or.inr (Or.inr (Or.inr h))
  all_goals (subst h; exact absurd h2 (by decide))
theorem int_lt7 {k : Int32} (h1 : 0 ≤ k.toInt) (h2 : k.toInt ≤ 6) : k = 0 ∨ k = 1 ∨ k = 2 ∨ k = 3 ∨ k = 4 ∨ k = 5 ∨ k = 6 := by
  rcases int_lt9 h1 (by omega) with h | h | h | h | h | h | h | h | h
  · exact Or.inl h
  · exact Or.inr (Or.inl h)
  · exact Or.inr (Or.inr (Or.inl h))
  · exact Or.inr (Or.inr (Or.inr (Or.inl h)))
  · exact Or.inr (Or.inr (Or.inr (Or.inr (Or.inl h))))
  · exact Or.inr (Or.inr (Or.inr (Or.inr (Or.inr (Or.inl h)))))
  · exact Or.inr (Or.inr (Or.inr (Or.inr (Or.inr (Or.inr h)))))
  all_goals (subst h; exact absurd h2 (by decide))
set_option maxHeartbeats 4000000 in
set_option maxRecDepth 100000 in
theorem c_X5_sheet (l : Launch) (G : GG) (A : Nat → Prop) (ad : Nat → Nat) (F : FM) (rg : Nat → Q4) (kd : Nat → Int32) (z : Nat → Nat) (pl : Nat → Nat → Int64) (cnt : Nat) (hR : CR G ad (rg, kd, z, pl, cnt) F) (hz : ∀ k, k < 6 → z k ≤ 16) (vr : Int32) (vk : Int32) (vn : Int32) : PT l yX5_sheet wsX5_sheet { frames := 2, cells := 0, slots := 0, locals := 47 } G A (CL ad) [.ref (ad 51), .int vr, .int vk, .int vn] F (some (.int (sp_sheet (rg, kd, z, pl, cnt) vr vk vn).1)) (CR G ad (sp_sheet (rg, kd, z, pl, cnt) vr vk vn).2) := by
  refine PT.ofW (cc := cX5_sheet) (maxL := 5) (ret := (some .int)) (plainFor_of_name (by decide)) rfl (Nat.le_of_ble_eq_true rfl) ?_
  intro p e s m below meth c ls hx hb hr hml hown hts hlk hE hw hl
  have hl : lv_has ls 5 [(0, .ref (ad 51)), (1, .int vr), (2, .int vk), (3, .int vn)] := hl
  have hown : s.vm.findClass RX5 = some m.cls := hown
  obtain ⟨q, hC, hq⟩ := hR
  refine lv_aload_n hx hb dX5_sheet_0 rfl (lv_at hl 0 rfl) ?_
  refine lv_iload_n hx hb dX5_sheet_1 rfl (lv_at hl 1 rfl) ?_
  rcases ix_cases 6 (by decide) vr with hvr | ⟨kvr, hkvr, rfl⟩
  · skip
    have xvr := ix_none hvr
    refine h_callV (st1 := [.null]) [.int vr] [] ⟨hx, hb, hml, hown, hts⟩ hE hw (c_X5_sheetAt_out l G A ad F _ hC vr hvr) (cwV 1 hts gX5_sheet_X5_sheetAt rfl rfl rfl (by decide +kernel) ⟨Nat.le_of_ble_eq_true rfl, Nat.le_of_ble_eq_true rfl⟩) hC.fp rfl rfl rfl hl.1 rfl (Nat.le_of_ble_eq_true rfl) dX5_sheet_2 ⟨Nat.le_of_ble_eq_true rfl, Nat.le_of_ble_eq_true rfl⟩ rfl (fun H locs hw => ?_)
    refine lv_astoreN (lv' := [(4, .null), (0, .ref (ad 51)), (1, .int vr), (2, .int vk), (3, .int vn)]) hx hb dX5_sheet_5 hl (by decide) rfl (fun ls hl => ?_)
    refine lv_aloadN hx hb dX5_sheet_7 (lv_at hl 0 rfl) ?_
    refine lv_ifnullN (tgt := 22) hx hb dX5_sheet_9 (by decide) ?_
    refine lv_iconst (v := (-1)) hx hb dX5_sheet_22 (by decide) ?_
    exact h_iretP hx hb hlk hr hw dX5_sheet_23 (by simp only [sp_sheet, xvr]) (by simp only [sp_sheet, xvr]; exact ⟨_, hC, hq⟩)
  · skip
    have xvr := ix_in (n := 6) hkvr (by decide)
    refine h_callV (st1 := [.ref (ad (39 + kvr))]) [.int (nI kvr)] [] ⟨hx, hb, hml, hown, hts⟩ hE hw (c_X5_sheetAt_in l G A ad F _ hC kvr hkvr) (cwV 1 hts gX5_sheet_X5_sheetAt rfl rfl rfl (by decide +kernel) ⟨Nat.le_of_ble_eq_true rfl, Nat.le_of_ble_eq_true rfl⟩) hC.fp rfl rfl rfl hl.1 rfl (Nat.le_of_ble_eq_true rfl) dX5_sheet_2 ⟨Nat.le_of_ble_eq_true rfl, Nat.le_of_ble_eq_true rfl⟩ rfl (fun H locs hw => ?_)
    refine lv_astore (lv' := [(4, .ref (ad (39 + kvr))), (0, .ref (ad 51)), (1, .int (nI kvr)), (2, .int vk), (3, .int vn)]) hx hb dX5_sheet_5 hl (by decide) rfl (fun ls hl => ?_)
    refine lv_aload hx hb dX5_sheet_7 (lv_at hl 0 rfl) ?_
    refine lv_ifnull hx hb dX5_sheet_9 ?_
    refine lv_iload_n hx hb dX5_sheet_12 rfl (lv_at hl 3 rfl) ?_
    refine lv_iconst (v := (-1)) hx hb dX5_sheet_13 (by decide) ?_
    refine lv_icmp_lt (tgt := 22) hx hb dX5_sheet_14 (by decide) (fun c_14 => ?_) (fun c_14 => ?_)
    · skip
      refine lv_iconst (v := (-1)) hx hb dX5_sheet_22 (by decide) ?_
      exact h_iretP hx hb hlk hr hw dX5_sheet_23 (by simp only [sp_sheet, xvr, cif_t c_14]) (by simp only [sp_sheet, xvr, cif_t c_14]; exact ⟨_, hC, hq⟩)
    · skip
      refine lv_iload_n hx hb dX5_sheet_17 rfl (lv_at hl 3 rfl) ?_
      refine lv_iconst (v := 2) hx hb dX5_sheet_18 (by decide) ?_
      refine lv_icmp_le (tgt := 24) hx hb dX5_sheet_19 (by decide) (fun c_19 => ?_) (fun c_19 => ?_)
      · skip
        refine lv_iload_n hx hb dX5_sheet_24 rfl (lv_at hl 3 rfl) ?_
        refine lv_iconst (v := (-1)) hx hb dX5_sheet_25 (by decide) ?_
        refine lv_icmp_ne (tgt := 38) hx hb dX5_sheet_26 (by decide) (fun c_26 => ?_) (fun c_26 => ?_)
        · skip
          refine lv_iload_n hx hb dX5_sheet_38 rfl (lv_at hl 4 rfl) ?_
          refine lv_bipush (v := 16) hx hb dX5_sheet_39 (by decide) ?_
          refine lv_icmp_le (tgt := 46) hx hb dX5_sheet_41 (by decide) (fun c_41 => ?_) (fun c_41 => ?_)
          · skip
            refine lv_iload_n hx hb dX5_sheet_46 rfl (lv_at hl 4 rfl) ?_
            refine lv_if_ge (tgt := 53) hx hb dX5_sheet_47 (by decide) (fun c_47 => ?_) (fun c_47 => ?_)
            · skip
              obtain ⟨zn, hzn, rfl⟩ := nI_of2 (M := 16) (n := 16) (by decide) (fun w => absurd c_47 (Int32.not_le.mpr w)) c_41
              refine lv_aload hx hb dX5_sheet_53 (lv_at hl 0 rfl) ?_
              refine lv_iload_n hx hb dX5_sheet_55 rfl (lv_at hl 3 rfl) ?_
              refine lv_iload_n hx hb dX5_sheet_56 rfl (lv_at hl 4 rfl) ?_
              refine h_callV (st1 := []) [.int vk, .int (nI zn)] [] ⟨hx, hb, hml, hown, hts⟩ hE hw (c_X3_renew l G A (CL ad) F (ad (39 + kvr)) (ad (45 + kvr)) (nI (z kvr)) (kd kvr) (pl kvr) (hC.sh2 hkvr rfl rfl) (hC.pl hkvr) (hC.ne (i := 39 + kvr) (j := 45 + kvr) (by omega) (by omega) (by omega)) vk zn hzn) (cwV 2 hts gX5_sheet_X3_renew rfl rfl rfl (by decide +kernel) ⟨Nat.le_of_ble_eq_true rfl, Nat.le_of_ble_eq_true rfl⟩) (hC.sh2 hkvr rfl rfl) rfl rfl rfl hl.1 rfl (Nat.le_of_ble_eq_true rfl) dX5_sheet_57 ⟨Nat.le_of_ble_eq_true rfl, Nat.le_of_ble_eq_true rfl⟩ rfl (fun H locs hw => ?_)
              refine lv_iconst (v := 0) hx hb dX5_sheet_60 (by decide) ?_
              exact h_iretP hx hb hlk hr hw dX5_sheet_61 (by simp only [sp_sheet, xvr, cif_f c_14, cif_t c_19, cif_f c_26, cif_t c_41, cif_t c_47, nI_clamp (show zn < 2 ^ 31 by omega)]) (by simp only [sp_sheet, xvr, cif_f c_14, cif_t c_19, cif_f c_26, cif_t c_41, cif_t c_47, nI_clamp (show zn < 2 ^ 31 by omega)]; exact ⟨_, (cw_sz (CW.sets (CW.setp hC hkvr (fun _ => 0)) hkvr (nI zn) vk)), hq⟩)
            · skip
              refine lv_bipush (v := (-13)) hx hb dX5_sheet_50 (by decide) ?_
              exact h_iretP hx hb hlk hr hw dX5_sheet_52 (by simp only [sp_sheet, xvr, cif_f c_14, cif_t c_19, cif_f c_26, cif_t c_41, cif_f c_47]) (by simp only [sp_sheet, xvr, cif_f c_14, cif_t c_19, cif_f c_26, cif_t c_41, cif_f c_47]; exact ⟨_, hC, hq⟩)
          · skip
            refine lv_iconst (v := (-1)) hx hb dX5_sheet_44 (by decide) ?_
            exact h_iretP hx hb hlk hr hw dX5_sheet_45 (by simp only [sp_sheet, xvr, cif_f c_14, cif_t c_19, cif_f c_26, cif_f c_41]) (by simp only [sp_sheet, xvr, cif_f c_14, cif_t c_19, cif_f c_26, cif_f c_41]; exact ⟨_, hC, hq⟩)
        · skip
          refine lv_aload hx hb dX5_sheet_29 (lv_at hl 0 rfl) ?_
          refine lv_iconst (v := (-1)) hx hb dX5_sheet_31 (by decide) ?_
          refine lv_iconst (v := 0) hx hb dX5_sheet_32 (by decide) ?_
          refine h_callV (st1 := []) [.int (-1), .int 0] [] ⟨hx, hb, hml, hown, hts⟩ hE hw (c_X3_renew l G A (CL ad) F (ad (39 + kvr)) (ad (45 + kvr)) (nI (z kvr)) (kd kvr) (pl kvr) (hC.sh2 hkvr rfl rfl) (hC.pl hkvr) (hC.ne (i := 39 + kvr) (j := 45 + kvr) (by omega) (by omega) (by omega)) (-1) 0 (by decide)) (cwV 2 hts gX5_sheet_X3_renew rfl rfl rfl (by decide +kernel) ⟨Nat.le_of_ble_eq_true rfl, Nat.le_of_ble_eq_true rfl⟩) (hC.sh2 hkvr rfl rfl) rfl rfl rfl hl.1 rfl (Nat.le_of_ble_eq_true rfl) dX5_sheet_33 ⟨Nat.le_of_ble_eq_true rfl, Nat.le_of_ble_eq_true rfl⟩ rfl (fun H locs hw => ?_)
          refine lv_iconst (v := 0) hx hb dX5_sheet_36 (by decide) ?_
          exact h_iretP hx hb hlk hr hw dX5_sheet_37 (by simp only [sp_sheet, xvr, cif_f c_14, cif_t c_19, cif_t c_26]) (by simp only [sp_sheet, xvr, cif_f c_14, cif_t c_19, cif_t c_26]; exact ⟨_, (cw_sz (CW.sets (CW.setp hC hkvr (fun _ => 0)) hkvr (nI 0) (-1))), hq⟩)
      · skip
        refine lv_iconst (v := (-1)) hx hb dX5_sheet_22 (by decide) ?_
        exact h_iretP hx hb hlk hr hw dX5_sheet_23 (by simp only [sp_sheet, xvr, cif_f c_14, cif_f c_19]) (by simp only [sp_sheet, xvr, cif_f c_14, cif_f c_19]; exact ⟨_, hC, hq⟩)

set_option maxHeartbeats 4000000 in
set_option maxRecDepth 100000 in
theorem c_X5_put (l : Launch) (G : GG) (A : Nat → Prop) (ad : Nat → Nat) (F : FM) (rg : Nat → Q4) (kd : Nat → Int32) (z : Nat → Nat) (pl : Nat → Nat → Int64) (cnt : Nat) (hR : CR G ad (rg, kd, z, pl, cnt) F) (hz : ∀ k, k < 6 → z k ≤ 16) (vr : Int32) (vi : Int32) (lv : Int64) : PT l yX5_put wsX5_put { frames := 2, cells := 0, slots := 0, locals := 45 } G A (CL ad) [.ref (ad 51), .int vr, .int vi, .long lv] F (some (.int (sp_put (rg, kd, z, pl, cnt) vr vi lv).1)) (CR G ad (sp_put (rg, kd, z, pl, cnt) vr vi lv).2) := by
  refine PT.ofW (cc := cX5_put) (maxL := 7) (ret := (some .int)) (plainFor_of_name (by decide)) rfl (Nat.le_of_ble_eq_true rfl) ?_
  intro p e s m below meth c ls hx hb hr hml hown hts hlk hE hw hl
  have hl : lv_has ls 7 [(0, .ref (ad 51)), (1, .int vr), (2, .int vi), (3, .long lv)] := hl
  have hown : s.vm.findClass RX5 = some m.cls := hown
  obtain ⟨q, hC, hq⟩ := hR
  refine lv_aload_n hx hb dX5_put_0 rfl (lv_at hl 0 rfl) ?_
  refine lv_iload_n hx hb dX5_put_1 rfl (lv_at hl 1 rfl) ?_
  rcases ix_cases 6 (by decide) vr with hvr | ⟨kvr, hkvr, rfl⟩
  · skip
    have xvr := ix_none hvr
    refine h_callV (st1 := [.null]) [.int vr] [] ⟨hx, hb, hml, hown, hts⟩ hE hw (c_X5_sheetAt_out l G A ad F _ hC vr hvr) (cwV 1 hts gX5_put_X5_sheetAt rfl rfl rfl (by decide +kernel) ⟨Nat.le_of_ble_eq_true rfl, Nat.le_of_ble_eq_true rfl⟩) hC.fp rfl rfl rfl hl.1 rfl (Nat.le_of_ble_eq_true rfl) dX5_put_2 ⟨Nat.le_of_ble_eq_true rfl, Nat.le_of_ble_eq_true rfl⟩ rfl (fun H locs hw => ?_)
    refine lv_astoreN (lv' := [(5, .null), (0, .ref (ad 51)), (1, .int vr), (2, .int vi), (3, .long lv)]) hx hb dX5_put_5 hl (by decide) rfl (fun ls hl => ?_)
    refine lv_aloadN hx hb dX5_put_7 (lv_at hl 0 rfl) ?_
    refine lv_ifnonnullN hx hb dX5_put_9 ?_
    refine lv_iconst (v := (-1)) hx hb dX5_put_12 (by decide) ?_
    exact h_iretP hx hb hlk hr hw dX5_put_13 (by simp only [sp_put, xvr]) (by simp only [sp_put, xvr]; exact ⟨_, hC, hq⟩)
  · skip
    have xvr := ix_in (n := 6) hkvr (by decide)
    refine h_callV (st1 := [.ref (ad (39 + kvr))]) [.int (nI kvr)] [] ⟨hx, hb, hml, hown, hts⟩ hE hw (c_X5_sheetAt_in l G A ad F _ hC kvr hkvr) (cwV 1 hts gX5_put_X5_sheetAt rfl rfl rfl (by decide +kernel) ⟨Nat.le_of_ble_eq_true rfl, Nat.le_of_ble_eq_true rfl⟩) hC.fp rfl rfl rfl hl.1 rfl (Nat.le_of_ble_eq_true rfl) dX5_put_2 ⟨Nat.le_of_ble_eq_true rfl, Nat.le_of_ble_eq_true rfl⟩ rfl (fun H locs hw => ?_)
    refine lv_astore (lv' := [(5, .ref (ad (39 + kvr))), (0, .ref (ad 51)), (1, .int (nI kvr)), (2, .int vi), (3, .long lv)]) hx hb dX5_put_5 hl (by decide) rfl (fun ls hl => ?_)
    refine lv_aload hx hb dX5_put_7 (lv_at hl 0 rfl) ?_
    refine lv_ifnonnull (tgt := 14) hx hb dX5_put_9 (by decide) ?_
    refine lv_aload hx hb dX5_put_14 (lv_at hl 0 rfl) ?_
    refine lv_iload_n hx hb dX5_put_16 rfl (lv_at hl 3 rfl) ?_
    refine lv_iconst (v := 1) hx hb dX5_put_17 (by decide) ?_
    by_cases hm : kd kvr = -1
    · skip
      refine h_callS (st1 := [.int (-11)]) [.ref (ad (39 + kvr)), .int vi, .int 1] [] ⟨hx, hb, hml, hown, hts⟩ hE hw (HT.to (c_X5_refusalOf l G A (CL ad) F (ad (39 + kvr)) (ad (45 + kvr)) (nI (z kvr)) (kd kvr) (hC.sh2 hkvr rfl rfl) vi 1) (V2 := some (.int (-11))) (by simp only [rfo, cif_t hm]) rfl) (va_cwS 3 hts gX5_put_X5_refusalOf rfl rfl rfl (by decide +kernel) ⟨Nat.le_of_ble_eq_true rfl, Nat.le_of_ble_eq_true rfl⟩) rfl hl.1 rfl (Nat.le_of_ble_eq_true rfl) dX5_put_18 ⟨Nat.le_of_ble_eq_true rfl, Nat.le_of_ble_eq_true rfl⟩ rfl (fun H locs hw => ?_)
      refine lv_istore (lv' := [(6, .int (-11)), (5, .ref (ad (39 + kvr))), (0, .ref (ad 51)), (1, .int (nI kvr)), (2, .int vi), (3, .long lv)]) hx hb dX5_put_21 hl (by decide) rfl (fun ls hl => ?_)
      refine lv_iload hx hb dX5_put_23 (lv_at hl 0 rfl) ?_
      refine lv_if_eq (tgt := 31) hx hb dX5_put_25 (by decide) (fun c_25 => ?_) (fun c_25 => ?_)
      · skip
        exact absurd c_25 (by decide)
      · skip
        refine lv_iload hx hb dX5_put_28 (lv_at hl 0 rfl) ?_
        exact h_iretP hx hb hlk hr hw dX5_put_30 (by simp only [sp_put, xvr, cif_t hm, cif_f c_25]) (by simp only [sp_put, xvr, cif_t hm, cif_f c_25]; exact ⟨_, hC, hq⟩)
    · by_cases hr1 : reach (nI (z kvr)) vi 1
      · skip
        obtain ⟨ia, rfl, hab⟩ := reach_1 (b := 1) (hz kvr hkvr) (by decide) hr1
        have hrc : rch (z kvr) (nI ia) 1 = some (ia, 1) := rch_in hab (hz kvr hkvr)
        refine h_callS (st1 := [.int 0]) [.ref (ad (39 + kvr)), .int (nI ia), .int 1] [] ⟨hx, hb, hml, hown, hts⟩ hE hw (HT.to (c_X5_refusalOf l G A (CL ad) F (ad (39 + kvr)) (ad (45 + kvr)) (nI (z kvr)) (kd kvr) (hC.sh2 hkvr rfl rfl) (nI ia) 1) (V2 := some (.int (0))) (by simp only [rfo, cif_f hm, cif_t hr1]) rfl) (va_cwS 3 hts gX5_put_X5_refusalOf rfl rfl rfl (by decide +kernel) ⟨Nat.le_of_ble_eq_true rfl, Nat.le_of_ble_eq_true rfl⟩) rfl hl.1 rfl (Nat.le_of_ble_eq_true rfl) dX5_put_18 ⟨Nat.le_of_ble_eq_true rfl, Nat.le_of_ble_eq_true rfl⟩ rfl (fun H locs hw => ?_)
        refine lv_istore (lv' := [(6, .int 0), (5, .ref (ad (39 + kvr))), (0, .ref (ad 51)), (1, .int (nI kvr)), (2, .int (nI ia)), (3, .long lv)]) hx hb dX5_put_21 hl (by decide) rfl (fun ls hl => ?_)
        refine lv_iload hx hb dX5_put_23 (lv_at hl 0 rfl) ?_
        refine lv_if_eq (tgt := 31) hx hb dX5_put_25 (by decide) (fun c_25 => ?_) (fun c_25 => ?_)
        · skip
          refine lv_aload hx hb dX5_put_31 (lv_at hl 1 rfl) ?_
          refine lv_iload_n hx hb dX5_put_33 rfl (lv_at hl 4 rfl) ?_
          refine lv_lload_n hx hb dX5_put_34 rfl (lv_at hl 5 rfl) ?_
          refine h_callV (st1 := []) [.int (nI ia), .long lv] [] ⟨hx, hb, hml, hown, hts⟩ hE hw (c_X3_keep l G A (CL ad) F (ad (39 + kvr)) (ad (45 + kvr)) (z kvr) (kd kvr) (pl kvr) (hC.sh2 hkvr rfl rfl) (hC.pl hkvr) (hz kvr hkvr) ia (by omega) lv) (cwV 2 hts gX5_put_X3_keep rfl rfl rfl (by decide +kernel) ⟨Nat.le_of_ble_eq_true rfl, Nat.le_of_ble_eq_true rfl⟩) (hC.sh2 hkvr rfl rfl) rfl rfl rfl hl.1 rfl (Nat.le_of_ble_eq_true rfl) dX5_put_35 ⟨Nat.le_of_ble_eq_true rfl, Nat.le_of_ble_eq_true rfl⟩ rfl (fun H locs hw => ?_)
          refine lv_iconst (v := 0) hx hb dX5_put_38 (by decide) ?_
          exact h_iretP hx hb hlk hr hw dX5_put_39 (by simp only [sp_put, xvr, hrc, cif_f hm, cif_t c_25]) (by simp only [sp_put, xvr, hrc, cif_f hm, cif_t c_25]; exact ⟨_, (CW.setp hC hkvr (vp_updL (pl kvr) ia (cutL (kd kvr) lv))), hq⟩)
        · skip
          exact absurd rfl c_25
      · skip
        have hrc : rch (z kvr) vi 1 = none := rch_out (hz kvr hkvr) hr1
        refine h_callS (st1 := [.int (-12)]) [.ref (ad (39 + kvr)), .int vi, .int 1] [] ⟨hx, hb, hml, hown, hts⟩ hE hw (HT.to (c_X5_refusalOf l G A (CL ad) F (ad (39 + kvr)) (ad (45 + kvr)) (nI (z kvr)) (kd kvr) (hC.sh2 hkvr rfl rfl) vi 1) (V2 := some (.int (-12))) (by simp only [rfo, cif_f hm, cif_f hr1]) rfl) (va_cwS 3 hts gX5_put_X5_refusalOf rfl rfl rfl (by decide +kernel) ⟨Nat.le_of_ble_eq_true rfl, Nat.le_of_ble_eq_true rfl⟩) rfl hl.1 rfl (Nat.le_of_ble_eq_true rfl) dX5_put_18 ⟨Nat.le_of_ble_eq_true rfl, Nat.le_of_ble_eq_true rfl⟩ rfl (fun H locs hw => ?_)
        refine lv_istore (lv' := [(6, .int (-12)), (5, .ref (ad (39 + kvr))), (0, .ref (ad 51)), (1, .int (nI kvr)), (2, .int vi), (3, .long lv)]) hx hb dX5_put_21 hl (by decide) rfl (fun ls hl => ?_)
        refine lv_iload hx hb dX5_put_23 (lv_at hl 0 rfl) ?_
        refine lv_if_eq (tgt := 31) hx hb dX5_put_25 (by decide) (fun c_25 => ?_) (fun c_25 => ?_)
        · skip
          exact absurd c_25 (by decide)
        · skip
          refine lv_iload hx hb dX5_put_28 (lv_at hl 0 rfl) ?_
          exact h_iretP hx hb hlk hr hw dX5_put_30 (by simp only [sp_put, xvr, hrc, cif_f hm, cif_f c_25]) (by simp only [sp_put, xvr, hrc, cif_f hm, cif_f c_25]; exact ⟨_, hC, hq⟩)

set_option maxHeartbeats 4000000 in
set_option maxRecDepth 100000 in
theorem c_X5_copy (l : Launch) (G : GG) (A : Nat → Prop) (ad : Nat → Nat) (F : FM) (rg : Nat → Q4) (kd : Nat → Int32) (z : Nat → Nat) (pl : Nat → Nat → Int64) (cnt : Nat) (hR : CR G ad (rg, kd, z, pl, cnt) F) (hz : ∀ k, k < 6 → z k ≤ 16) (vr : Int32) (vi : Int32) (vt : Int32) (vj : Int32) (vn : Int32) : PT l yX5_copy wsX5_copy { frames := 2, cells := 0, slots := 0, locals := 64 } G A (CL ad) [.ref (ad 51), .int vr, .int vi, .int vt, .int vj, .int vn] F (some (.int (sp_copy (rg, kd, z, pl, cnt) vr vi vt vj vn).1)) (CR G ad (sp_copy (rg, kd, z, pl, cnt) vr vi vt vj vn).2) := by
  refine PT.ofW (cc := cX5_copy) (maxL := 8) (ret := (some .int)) (plainFor_of_name (by decide)) rfl (Nat.le_of_ble_eq_true rfl) ?_
  intro p e s m below meth c ls hx hb hr hml hown hts hlk hE hw hl
  have hl : lv_has ls 8 [(0, .ref (ad 51)), (1, .int vr), (2, .int vi), (3, .int vt), (4, .int vj), (5, .int vn)] := hl
  have hown : s.vm.findClass RX5 = some m.cls := hown
  have lk_68 := hts (.fieldLink RX5 68 "FourParts$Sheet" "kind" "I") (by decide +kernel)
  have hinX3 : ∀ w ∈ u_ws RX3 TX3 3, w ∈ wsX5_copy := by decide +kernel
  obtain ⟨q, hC, hq⟩ := hR
  refine lv_aload_n hx hb dX5_copy_0 rfl (lv_at hl 0 rfl) ?_
  refine lv_iload_n hx hb dX5_copy_1 rfl (lv_at hl 1 rfl) ?_
  rcases ix_cases 6 (by decide) vr with hvr | ⟨kvr, hkvr, rfl⟩
  · skip
    have xvr := ix_none hvr
    refine h_callV (st1 := [.null]) [.int vr] [] ⟨hx, hb, hml, hown, hts⟩ hE hw (c_X5_sheetAt_out l G A ad F _ hC vr hvr) (cwV 1 hts gX5_copy_X5_sheetAt rfl rfl rfl (by decide +kernel) ⟨Nat.le_of_ble_eq_true rfl, Nat.le_of_ble_eq_true rfl⟩) hC.fp rfl rfl rfl hl.1 rfl (Nat.le_of_ble_eq_true rfl) dX5_copy_2 ⟨Nat.le_of_ble_eq_true rfl, Nat.le_of_ble_eq_true rfl⟩ rfl (fun H locs hw => ?_)
    refine lv_astoreN (lv' := [(6, .null), (0, .ref (ad 51)), (1, .int vr), (2, .int vi), (3, .int vt), (4, .int vj), (5, .int vn)]) hx hb dX5_copy_5 hl (by decide) rfl (fun ls hl => ?_)
    refine lv_aload_n hx hb dX5_copy_7 rfl (lv_at hl 1 rfl) ?_
    refine lv_iload_n hx hb dX5_copy_8 rfl (lv_at hl 4 rfl) ?_
    rcases ix_cases 6 (by decide) vt with hvt | ⟨kvt, hkvt, rfl⟩
    · skip
      have xvt := ix_none hvt
      refine h_callV (st1 := [.null]) [.int vt] [] ⟨hx, hb, hml, hown, hts⟩ hE hw (c_X5_sheetAt_out l G A ad F _ hC vt hvt) (cwV 1 hts gX5_copy_X5_sheetAt rfl rfl rfl (by decide +kernel) ⟨Nat.le_of_ble_eq_true rfl, Nat.le_of_ble_eq_true rfl⟩) hC.fp rfl rfl rfl hl.1 rfl (Nat.le_of_ble_eq_true rfl) dX5_copy_9 ⟨Nat.le_of_ble_eq_true rfl, Nat.le_of_ble_eq_true rfl⟩ rfl (fun H locs hw => ?_)
      refine lv_astoreN (lv' := [(7, .null), (6, .null), (0, .ref (ad 51)), (1, .int vr), (2, .int vi), (3, .int vt), (4, .int vj), (5, .int vn)]) hx hb dX5_copy_12 hl (by decide) rfl (fun ls hl => ?_)
      refine lv_aloadN hx hb dX5_copy_14 (lv_at hl 1 rfl) ?_
      refine lv_ifnullN (tgt := 24) hx hb dX5_copy_16 (by decide) ?_
      refine lv_iconst (v := (-1)) hx hb dX5_copy_24 (by decide) ?_
      exact h_iretP hx hb hlk hr hw dX5_copy_25 (by simp only [sp_copy, xvr, xvt]) (by simp only [sp_copy, xvr, xvt]; exact ⟨_, hC, hq⟩)
    · skip
      have xvt := ix_in (n := 6) hkvt (by decide)
      refine h_callV (st1 := [.ref (ad (39 + kvt))]) [.int (nI kvt)] [] ⟨hx, hb, hml, hown, hts⟩ hE hw (c_X5_sheetAt_in l G A ad F _ hC kvt hkvt) (cwV 1 hts gX5_copy_X5_sheetAt rfl rfl rfl (by decide +kernel) ⟨Nat.le_of_ble_eq_true rfl, Nat.le_of_ble_eq_true rfl⟩) hC.fp rfl rfl rfl hl.1 rfl (Nat.le_of_ble_eq_true rfl) dX5_copy_9 ⟨Nat.le_of_ble_eq_true rfl, Nat.le_of_ble_eq_true rfl⟩ rfl (fun H locs hw => ?_)
      refine lv_astore (lv' := [(7, .ref (ad (39 + kvt))), (6, .null), (0, .ref (ad 51)), (1, .int vr), (2, .int vi), (3, .int (nI kvt)), (4, .int vj), (5, .int vn)]) hx hb dX5_copy_12 hl (by decide) rfl (fun ls hl => ?_)
      refine lv_aloadN hx hb dX5_copy_14 (lv_at hl 1 rfl) ?_
      refine lv_ifnullN (tgt := 24) hx hb dX5_copy_16 (by decide) ?_
      refine lv_iconst (v := (-1)) hx hb dX5_copy_24 (by decide) ?_
      exact h_iretP hx hb hlk hr hw dX5_copy_25 (by simp only [sp_copy, xvr, xvt]) (by simp only [sp_copy, xvr, xvt]; exact ⟨_, hC, hq⟩)
  · skip
    have xvr := ix_in (n := 6) hkvr (by decide)
    refine h_callV (st1 := [.ref (ad (39 + kvr))]) [.int (nI kvr)] [] ⟨hx, hb, hml, hown, hts⟩ hE hw (c_X5_sheetAt_in l G A ad F _ hC kvr hkvr) (cwV 1 hts gX5_copy_X5_sheetAt rfl rfl rfl (by decide +kernel) ⟨Nat.le_of_ble_eq_true rfl, Nat.le_of_ble_eq_true rfl⟩) hC.fp rfl rfl rfl hl.1 rfl (Nat.le_of_ble_eq_true rfl) dX5_copy_2 ⟨Nat.le_of_ble_eq_true rfl, Nat.le_of_ble_eq_true rfl⟩ rfl (fun H locs hw => ?_)
    refine lv_astore (lv' := [(6, .ref (ad (39 + kvr))), (0, .ref (ad 51)), (1, .int (nI kvr)), (2, .int vi), (3, .int vt), (4, .int vj), (5, .int vn)]) hx hb dX5_copy_5 hl (by decide) rfl (fun ls hl => ?_)
    refine lv_aload_n hx hb dX5_copy_7 rfl (lv_at hl 1 rfl) ?_
    refine lv_iload_n hx hb dX5_copy_8 rfl (lv_at hl 4 rfl) ?_
    rcases ix_cases 6 (by decide) vt with hvt | ⟨kvt, hkvt, rfl⟩
    · skip
      have xvt := ix_none hvt
      refine h_callV (st1 := [.null]) [.int vt] [] ⟨hx, hb, hml, hown, hts⟩ hE hw (c_X5_sheetAt_out l G A ad F _ hC vt hvt) (cwV 1 hts gX5_copy_X5_sheetAt rfl rfl rfl (by decide +kernel) ⟨Nat.le_of_ble_eq_true rfl, Nat.le_of_ble_eq_true rfl⟩) hC.fp rfl rfl rfl hl.1 rfl (Nat.le_of_ble_eq_true rfl) dX5_copy_9 ⟨Nat.le_of_ble_eq_true rfl, Nat.le_of_ble_eq_true rfl⟩ rfl (fun H locs hw => ?_)
      refine lv_astoreN (lv' := [(7, .null), (6, .ref (ad (39 + kvr))), (0, .ref (ad 51)), (1, .int (nI kvr)), (2, .int vi), (3, .int vt), (4, .int vj), (5, .int vn)]) hx hb dX5_copy_12 hl (by decide) rfl (fun ls hl => ?_)
      refine lv_aload hx hb dX5_copy_14 (lv_at hl 1 rfl) ?_
      refine lv_ifnull hx hb dX5_copy_16 ?_
      refine lv_aloadN hx hb dX5_copy_19 (lv_at hl 0 rfl) ?_
      refine lv_ifnonnullN hx hb dX5_copy_21 ?_
      refine lv_iconst (v := (-1)) hx hb dX5_copy_24 (by decide) ?_
      exact h_iretP hx hb hlk hr hw dX5_copy_25 (by simp only [sp_copy, xvr, xvt]) (by simp only [sp_copy, xvr, xvt]; exact ⟨_, hC, hq⟩)
    · skip
      have xvt := ix_in (n := 6) hkvt (by decide)
      refine h_callV (st1 := [.ref (ad (39 + kvt))]) [.int (nI kvt)] [] ⟨hx, hb, hml, hown, hts⟩ hE hw (c_X5_sheetAt_in l G A ad F _ hC kvt hkvt) (cwV 1 hts gX5_copy_X5_sheetAt rfl rfl rfl (by decide +kernel) ⟨Nat.le_of_ble_eq_true rfl, Nat.le_of_ble_eq_true rfl⟩) hC.fp rfl rfl rfl hl.1 rfl (Nat.le_of_ble_eq_true rfl) dX5_copy_9 ⟨Nat.le_of_ble_eq_true rfl, Nat.le_of_ble_eq_true rfl⟩ rfl (fun H locs hw => ?_)
      refine lv_astore (lv' := [(7, .ref (ad (39 + kvt))), (6, .ref (ad (39 + kvr))), (0, .ref (ad 51)), (1, .int (nI kvr)), (2, .int vi), (3, .int (nI kvt)), (4, .int vj), (5, .int vn)]) hx hb dX5_copy_12 hl (by decide) rfl (fun ls hl => ?_)
      refine lv_aload hx hb dX5_copy_14 (lv_at hl 1 rfl) ?_
      refine lv_ifnull hx hb dX5_copy_16 ?_
      refine lv_aload hx hb dX5_copy_19 (lv_at hl 0 rfl) ?_
      refine lv_ifnonnull (tgt := 26) hx hb dX5_copy_21 (by decide) ?_
      refine lv_aload hx hb dX5_copy_26 (lv_at hl 1 rfl) ?_
      refine h_callV (st1 := [.int (bI ((kd kvr) = -1))]) [] [] ⟨hx, hb, hml, hown, hts⟩ hE hw (c_X3_isMissing l G A (CL ad) F (ad (39 + kvr)) (ad (45 + kvr)) (nI (z kvr)) (kd kvr) (hC.sh2 hkvr rfl rfl)) (cwV 0 hts gX5_copy_X3_isMissing rfl rfl rfl (by decide +kernel) ⟨Nat.le_of_ble_eq_true rfl, Nat.le_of_ble_eq_true rfl⟩) (hC.sh2 hkvr rfl rfl) rfl rfl rfl hl.1 rfl (Nat.le_of_ble_eq_true rfl) dX5_copy_28 ⟨Nat.le_of_ble_eq_true rfl, Nat.le_of_ble_eq_true rfl⟩ rfl (fun H locs hw => ?_)
      refine lv_if_ne (tgt := 42) hx hb dX5_copy_31 (by decide) (fun c_31 => ?_) (fun c_31 => ?_)
      · skip
        have c_31 := bI_ne.mp c_31
        refine lv_bipush (v := (-11)) hx hb dX5_copy_42 (by decide) ?_
        exact h_iretP hx hb hlk hr hw dX5_copy_44 (by simp only [sp_copy, xvr, xvt, cif_t c_31]) (by simp only [sp_copy, xvr, xvt, cif_t c_31]; exact ⟨_, hC, hq⟩)
      · skip
        have c_31 := bI_eq.mp c_31
        refine lv_aload hx hb dX5_copy_34 (lv_at hl 0 rfl) ?_
        refine h_callV (st1 := [.int (bI ((kd kvt) = -1))]) [] [] ⟨hx, hb, hml, hown, hts⟩ hE hw (c_X3_isMissing l G A (CL ad) F (ad (39 + kvt)) (ad (45 + kvt)) (nI (z kvt)) (kd kvt) (hC.sh2 hkvt rfl rfl)) (cwV 0 hts gX5_copy_X3_isMissing rfl rfl rfl (by decide +kernel) ⟨Nat.le_of_ble_eq_true rfl, Nat.le_of_ble_eq_true rfl⟩) (hC.sh2 hkvt rfl rfl) rfl rfl rfl hl.1 rfl (Nat.le_of_ble_eq_true rfl) dX5_copy_36 ⟨Nat.le_of_ble_eq_true rfl, Nat.le_of_ble_eq_true rfl⟩ rfl (fun H locs hw => ?_)
        refine lv_if_eq (tgt := 45) hx hb dX5_copy_39 (by decide) (fun c_39 => ?_) (fun c_39 => ?_)
        · skip
          have c_39 := bI_eq.mp c_39
          refine lv_aload hx hb dX5_copy_45 (lv_at hl 1 rfl) ?_
          refine h_get hx hb hE hw hts hinX3 hown (ci := 3) rfl 2 (by decide) lk_68 (fun _ h9 => h9) (hC.sh2 hkvr rfl rfl) rfl dX5_copy_47 ?_
          refine lv_aload hx hb dX5_copy_50 (lv_at hl 0 rfl) ?_
          refine h_get hx hb hE hw hts hinX3 hown (ci := 3) rfl 2 (by decide) lk_68 (fun _ h9 => h9) (hC.sh2 hkvt rfl rfl) rfl dX5_copy_52 ?_
          refine lv_icmp_eq (tgt := 61) hx hb dX5_copy_55 (by decide) (fun c_55 => ?_) (fun c_55 => ?_)
          · skip
            refine lv_aload hx hb dX5_copy_61 (lv_at hl 1 rfl) ?_
            refine lv_iload_n hx hb dX5_copy_63 rfl (lv_at hl 4 rfl) ?_
            refine lv_iload hx hb dX5_copy_64 (lv_at hl 7 rfl) ?_
            refine h_callV (st1 := [.int (bI (reach (nI (z kvr)) vi vn))]) [.int vi, .int vn] [] ⟨hx, hb, hml, hown, hts⟩ hE hw (c_X3_reaches l G A (CL ad) F (ad (39 + kvr)) (ad (45 + kvr)) (nI (z kvr)) (kd kvr) (hC.sh2 hkvr rfl rfl) vi vn) (cwV 2 hts gX5_copy_X3_reaches rfl rfl rfl (by decide +kernel) ⟨Nat.le_of_ble_eq_true rfl, Nat.le_of_ble_eq_true rfl⟩) (hC.sh2 hkvr rfl rfl) rfl rfl rfl hl.1 rfl (Nat.le_of_ble_eq_true rfl) dX5_copy_66 ⟨Nat.le_of_ble_eq_true rfl, Nat.le_of_ble_eq_true rfl⟩ rfl (fun H locs hw => ?_)
            refine lv_if_eq (tgt := 84) hx hb dX5_copy_69 (by decide) (fun c_69 => ?_) (fun c_69 => ?_)
            · skip
              have c_69 := bI_eq.mp c_69
              refine lv_bipush (v := (-12)) hx hb dX5_copy_84 (by decide) ?_
              exact h_iretP hx hb hlk hr hw dX5_copy_86 (by simp only [sp_copy, xvr, xvt, rch_out (hz kvr hkvr) c_69, cif_f c_31, cif_f c_39, cif_t c_55]) (by simp only [sp_copy, xvr, xvt, rch_out (hz kvr hkvr) c_69, cif_f c_31, cif_f c_39, cif_t c_55]; exact ⟨_, hC, hq⟩)
            · skip
              have c_69 := bI_ne.mp c_69
              obtain ⟨ia, nb, rfl, rfl, hab⟩ := (reach_iff (hz kvr hkvr) _ _).mp c_69
              have hz1 := hz kvr hkvr
              have hz2 := hz kvt hkvt
              refine lv_aload hx hb dX5_copy_72 (lv_at hl 0 rfl) ?_
              refine lv_iload hx hb dX5_copy_74 (lv_at hl 6 rfl) ?_
              refine lv_iload hx hb dX5_copy_76 (lv_at hl 7 rfl) ?_
              refine h_callV (st1 := [.int (bI (reach (nI (z kvt)) vj (nI nb)))]) [.int vj, .int (nI nb)] [] ⟨hx, hb, hml, hown, hts⟩ hE hw (c_X3_reaches l G A (CL ad) F (ad (39 + kvt)) (ad (45 + kvt)) (nI (z kvt)) (kd kvt) (hC.sh2 hkvt rfl rfl) vj (nI nb)) (cwV 2 hts gX5_copy_X3_reaches rfl rfl rfl (by decide +kernel) ⟨Nat.le_of_ble_eq_true rfl, Nat.le_of_ble_eq_true rfl⟩) (hC.sh2 hkvt rfl rfl) rfl rfl rfl hl.1 rfl (Nat.le_of_ble_eq_true rfl) dX5_copy_78 ⟨Nat.le_of_ble_eq_true rfl, Nat.le_of_ble_eq_true rfl⟩ rfl (fun H locs hw => ?_)
              refine lv_if_ne (tgt := 87) hx hb dX5_copy_81 (by decide) (fun c_81 => ?_) (fun c_81 => ?_)
              · skip
                have c_81 := bI_ne.mp c_81
                obtain ⟨ja, rfl, hab2⟩ := reach_1 (hz kvt hkvt) (by omega) c_81
                refine lv_aload hx hb dX5_copy_87 (lv_at hl 0 rfl) ?_
                refine lv_iload hx hb dX5_copy_89 (lv_at hl 6 rfl) ?_
                refine lv_aload hx hb dX5_copy_91 (lv_at hl 1 rfl) ?_
                refine lv_iload_n hx hb dX5_copy_93 rfl (lv_at hl 4 rfl) ?_
                refine lv_iload hx hb dX5_copy_94 (lv_at hl 7 rfl) ?_
                refine h_callV (st1 := []) [.int (nI ja), .ref (ad (39 + kvr)), .int (nI ia), .int (nI nb)] [] ⟨hx, hb, hml, hown, hts⟩ hE hw (c_X3_keepFrom l G A (CL ad) F (ad (39 + kvt)) (ad (45 + kvt)) (ad (39 + kvr)) (ad (45 + kvr)) (z kvt) (z kvr) (kd kvt) (kd kvr) (pl kvt) (pl kvr) (hC.sh2 hkvt rfl rfl) (hC.pl hkvt) (hC.sh2 hkvr rfl rfl) (hC.pl hkvr) (hz kvt hkvt) (hz kvr hkvr) ia ja nb hab hab2) (cwV 4 hts gX5_copy_X3_keepFrom rfl rfl rfl (by decide +kernel) ⟨Nat.le_of_ble_eq_true rfl, Nat.le_of_ble_eq_true rfl⟩) (hC.sh2 hkvt rfl rfl) rfl rfl rfl hl.1 rfl (Nat.le_of_ble_eq_true rfl) dX5_copy_96 ⟨Nat.le_of_ble_eq_true rfl, Nat.le_of_ble_eq_true rfl⟩ rfl (fun H locs hw => ?_)
                refine lv_iconst (v := 0) hx hb dX5_copy_99 (by decide) ?_
                exact h_iretP hx hb hlk hr hw dX5_copy_100 (by simp only [sp_copy, xvr, xvt, rch_in hab (hz kvr hkvr), rch_in hab2 (hz kvt hkvt), cif_f c_31, cif_f c_39, cif_t c_55]) (by simp only [sp_copy, xvr, xvt, rch_in hab (hz kvr hkvr), rch_in hab2 (hz kvt hkvt), cif_f c_31, cif_f c_39, cif_t c_55]; exact ⟨_, (CW.setp hC hkvt (va_cpy (pl kvr) (pl kvt) ia ja nb)), hq⟩)
              · skip
                have c_81 := bI_eq.mp c_81
                refine lv_bipush (v := (-12)) hx hb dX5_copy_84 (by decide) ?_
                exact h_iretP hx hb hlk hr hw dX5_copy_86 (by simp only [sp_copy, xvr, xvt, rch_in hab (hz kvr hkvr), rch_out (hz kvt hkvt) c_81, cif_f c_31, cif_f c_39, cif_t c_55]) (by simp only [sp_copy, xvr, xvt, rch_in hab (hz kvr hkvr), rch_out (hz kvt hkvt) c_81, cif_f c_31, cif_f c_39, cif_t c_55]; exact ⟨_, hC, hq⟩)
          · skip
            refine lv_bipush (v := (-14)) hx hb dX5_copy_58 (by decide) ?_
            exact h_iretP hx hb hlk hr hw dX5_copy_60 (by simp only [sp_copy, xvr, xvt, cif_f c_31, cif_f c_39, cif_f c_55]) (by simp only [sp_copy, xvr, xvt, cif_f c_31, cif_f c_39, cif_f c_55]; exact ⟨_, hC, hq⟩)
        · skip
          have c_39 := bI_ne.mp c_39
          refine lv_bipush (v := (-11)) hx hb dX5_copy_42 (by decide) ?_
          exact h_iretP hx hb hlk hr hw dX5_copy_44 (by simp only [sp_copy, xvr, xvt, cif_f c_31, cif_t c_39]) (by simp only [sp_copy, xvr, xvt, cif_f c_31, cif_t c_39]; exact ⟨_, hC, hq⟩)

set_option maxHeartbeats 4000000 in
set_option maxRecDepth 100000 in
theorem c_X5_read (l : Launch) (G : GG) (A : Nat → Prop) (ad : Nat → Nat) (F : FM) (rg : Nat → Q4) (kd : Nat → Int32) (z : Nat → Nat) (pl : Nat → Nat → Int64) (cnt : Nat) (hR : CR G ad (rg, kd, z, pl, cnt) F) (hz : ∀ k, k < 6 → z k ≤ 16) (vs : Int32) (vr : Int32) (vi : Int32) : PT l yX5_read wsX5_read { frames := 2, cells := 0, slots := 0, locals := 49 } G A (CL ad) [.ref (ad 51), .int vs, .int vr, .int vi] F (some (.int (sp_read (rg, kd, z, pl, cnt) vs vr vi).1)) (CR G ad (sp_read (rg, kd, z, pl, cnt) vs vr vi).2) := by
  refine PT.ofW (cc := cX5_read) (maxL := 7) (ret := (some .int)) (plainFor_of_name (by decide)) rfl (Nat.le_of_ble_eq_true rfl) ?_
  intro p e s m below meth c ls hx hb hr hml hown hts hlk hE hw hl
  have hl : lv_has ls 7 [(0, .ref (ad 51)), (1, .int vs), (2, .int vr), (3, .int vi)] := hl
  have hown : s.vm.findClass RX5 = some m.cls := hown
  have lk_43 := hts (.fieldLink RX5 43 "FourParts" "result" "LFourParts$Quad;") (by decide +kernel)
  have hinX5 : ∀ w ∈ u_ws RX5 TX5 6, w ∈ wsX5_read := by decide +kernel
  obtain ⟨q, hC, hq⟩ := hR
  refine lv_aload_n hx hb dX5_read_0 rfl (lv_at hl 0 rfl) ?_
  refine lv_iload_n hx hb dX5_read_1 rfl (lv_at hl 1 rfl) ?_
  rcases ix_cases 16 (by decide) vs with hvs | ⟨kvs, hkvs, rfl⟩
  · skip
    have xvs := ix_none hvs
    refine h_callV (st1 := [.null]) [.int vs] [] ⟨hx, hb, hml, hown, hts⟩ hE hw (c_X5_register_out l G A ad F _ hC vs hvs) (cwV 1 hts gX5_read_X5_register rfl rfl rfl (by decide +kernel) ⟨Nat.le_of_ble_eq_true rfl, Nat.le_of_ble_eq_true rfl⟩) hC.fp rfl rfl rfl hl.1 rfl (Nat.le_of_ble_eq_true rfl) dX5_read_2 ⟨Nat.le_of_ble_eq_true rfl, Nat.le_of_ble_eq_true rfl⟩ rfl (fun H locs hw => ?_)
    refine lv_astoreN (lv' := [(4, .null), (0, .ref (ad 51)), (1, .int vs), (2, .int vr), (3, .int vi)]) hx hb dX5_read_5 hl (by decide) rfl (fun ls hl => ?_)
    refine lv_aload_n hx hb dX5_read_7 rfl (lv_at hl 1 rfl) ?_
    refine lv_iload_n hx hb dX5_read_8 rfl (lv_at hl 3 rfl) ?_
    rcases ix_cases 6 (by decide) vr with hvr | ⟨kvr, hkvr, rfl⟩
    · skip
      have xvr := ix_none hvr
      refine h_callV (st1 := [.null]) [.int vr] [] ⟨hx, hb, hml, hown, hts⟩ hE hw (c_X5_sheetAt_out l G A ad F _ hC vr hvr) (cwV 1 hts gX5_read_X5_sheetAt rfl rfl rfl (by decide +kernel) ⟨Nat.le_of_ble_eq_true rfl, Nat.le_of_ble_eq_true rfl⟩) hC.fp rfl rfl rfl hl.1 rfl (Nat.le_of_ble_eq_true rfl) dX5_read_9 ⟨Nat.le_of_ble_eq_true rfl, Nat.le_of_ble_eq_true rfl⟩ rfl (fun H locs hw => ?_)
      refine lv_astoreN (lv' := [(5, .null), (4, .null), (0, .ref (ad 51)), (1, .int vs), (2, .int vr), (3, .int vi)]) hx hb dX5_read_12 hl (by decide) rfl (fun ls hl => ?_)
      refine lv_aloadN hx hb dX5_read_14 (lv_at hl 1 rfl) ?_
      refine lv_ifnullN (tgt := 24) hx hb dX5_read_16 (by decide) ?_
      refine lv_iconst (v := (-1)) hx hb dX5_read_24 (by decide) ?_
      exact h_iretP hx hb hlk hr hw dX5_read_25 (by simp only [sp_read, xvs, xvr, rd4]) (by simp only [sp_read, xvs, xvr, rd4]; exact ⟨_, hC, hq⟩)
    · skip
      have xvr := ix_in (n := 6) hkvr (by decide)
      refine h_callV (st1 := [.ref (ad (39 + kvr))]) [.int (nI kvr)] [] ⟨hx, hb, hml, hown, hts⟩ hE hw (c_X5_sheetAt_in l G A ad F _ hC kvr hkvr) (cwV 1 hts gX5_read_X5_sheetAt rfl rfl rfl (by decide +kernel) ⟨Nat.le_of_ble_eq_true rfl, Nat.le_of_ble_eq_true rfl⟩) hC.fp rfl rfl rfl hl.1 rfl (Nat.le_of_ble_eq_true rfl) dX5_read_9 ⟨Nat.le_of_ble_eq_true rfl, Nat.le_of_ble_eq_true rfl⟩ rfl (fun H locs hw => ?_)
      refine lv_astore (lv' := [(5, .ref (ad (39 + kvr))), (4, .null), (0, .ref (ad 51)), (1, .int vs), (2, .int (nI kvr)), (3, .int vi)]) hx hb dX5_read_12 hl (by decide) rfl (fun ls hl => ?_)
      refine lv_aloadN hx hb dX5_read_14 (lv_at hl 1 rfl) ?_
      refine lv_ifnullN (tgt := 24) hx hb dX5_read_16 (by decide) ?_
      refine lv_iconst (v := (-1)) hx hb dX5_read_24 (by decide) ?_
      exact h_iretP hx hb hlk hr hw dX5_read_25 (by simp only [sp_read, xvs, xvr, rd4]) (by simp only [sp_read, xvs, xvr, rd4]; exact ⟨_, hC, hq⟩)
  · skip
    have xvs := ix_in (n := 16) hkvs (by decide)
    refine h_callV (st1 := [.ref (ad kvs)]) [.int (nI kvs)] [] ⟨hx, hb, hml, hown, hts⟩ hE hw (c_X5_register_in l G A ad F _ hC kvs hkvs) (cwV 1 hts gX5_read_X5_register rfl rfl rfl (by decide +kernel) ⟨Nat.le_of_ble_eq_true rfl, Nat.le_of_ble_eq_true rfl⟩) hC.fp rfl rfl rfl hl.1 rfl (Nat.le_of_ble_eq_true rfl) dX5_read_2 ⟨Nat.le_of_ble_eq_true rfl, Nat.le_of_ble_eq_true rfl⟩ rfl (fun H locs hw => ?_)
    refine lv_astore (lv' := [(4, .ref (ad kvs)), (0, .ref (ad 51)), (1, .int (nI kvs)), (2, .int vr), (3, .int vi)]) hx hb dX5_read_5 hl (by decide) rfl (fun ls hl => ?_)
    refine lv_aload_n hx hb dX5_read_7 rfl (lv_at hl 1 rfl) ?_
    refine lv_iload_n hx hb dX5_read_8 rfl (lv_at hl 3 rfl) ?_
    rcases ix_cases 6 (by decide) vr with hvr | ⟨kvr, hkvr, rfl⟩
    · skip
      have xvr := ix_none hvr
      refine h_callV (st1 := [.null]) [.int vr] [] ⟨hx, hb, hml, hown, hts⟩ hE hw (c_X5_sheetAt_out l G A ad F _ hC vr hvr) (cwV 1 hts gX5_read_X5_sheetAt rfl rfl rfl (by decide +kernel) ⟨Nat.le_of_ble_eq_true rfl, Nat.le_of_ble_eq_true rfl⟩) hC.fp rfl rfl rfl hl.1 rfl (Nat.le_of_ble_eq_true rfl) dX5_read_9 ⟨Nat.le_of_ble_eq_true rfl, Nat.le_of_ble_eq_true rfl⟩ rfl (fun H locs hw => ?_)
      refine lv_astoreN (lv' := [(5, .null), (4, .ref (ad kvs)), (0, .ref (ad 51)), (1, .int (nI kvs)), (2, .int vr), (3, .int vi)]) hx hb dX5_read_12 hl (by decide) rfl (fun ls hl => ?_)
      refine lv_aload hx hb dX5_read_14 (lv_at hl 1 rfl) ?_
      refine lv_ifnull hx hb dX5_read_16 ?_
      refine lv_aloadN hx hb dX5_read_19 (lv_at hl 0 rfl) ?_
      refine lv_ifnonnullN hx hb dX5_read_21 ?_
      refine lv_iconst (v := (-1)) hx hb dX5_read_24 (by decide) ?_
      exact h_iretP hx hb hlk hr hw dX5_read_25 (by simp only [sp_read, xvs, xvr, rd4]) (by simp only [sp_read, xvs, xvr, rd4]; exact ⟨_, hC, hq⟩)
    · skip
      have xvr := ix_in (n := 6) hkvr (by decide)
      refine h_callV (st1 := [.ref (ad (39 + kvr))]) [.int (nI kvr)] [] ⟨hx, hb, hml, hown, hts⟩ hE hw (c_X5_sheetAt_in l G A ad F _ hC kvr hkvr) (cwV 1 hts gX5_read_X5_sheetAt rfl rfl rfl (by decide +kernel) ⟨Nat.le_of_ble_eq_true rfl, Nat.le_of_ble_eq_true rfl⟩) hC.fp rfl rfl rfl hl.1 rfl (Nat.le_of_ble_eq_true rfl) dX5_read_9 ⟨Nat.le_of_ble_eq_true rfl, Nat.le_of_ble_eq_true rfl⟩ rfl (fun H locs hw => ?_)
      refine lv_astore (lv' := [(5, .ref (ad (39 + kvr))), (4, .ref (ad kvs)), (0, .ref (ad 51)), (1, .int (nI kvs)), (2, .int (nI kvr)), (3, .int vi)]) hx hb dX5_read_12 hl (by decide) rfl (fun ls hl => ?_)
      refine lv_aload hx hb dX5_read_14 (lv_at hl 1 rfl) ?_
      refine lv_ifnull hx hb dX5_read_16 ?_
      refine lv_aload hx hb dX5_read_19 (lv_at hl 0 rfl) ?_
      refine lv_ifnonnull (tgt := 26) hx hb dX5_read_21 (by decide) ?_
      refine lv_aload hx hb dX5_read_26 (lv_at hl 0 rfl) ?_
      refine lv_iload_n hx hb dX5_read_28 rfl (lv_at hl 5 rfl) ?_
      refine lv_iconst (v := 4) hx hb dX5_read_29 (by decide) ?_
      by_cases hm : kd kvr = -1
      · skip
        refine h_callS (st1 := [.int (-11)]) [.ref (ad (39 + kvr)), .int vi, .int 4] [] ⟨hx, hb, hml, hown, hts⟩ hE hw (HT.to (c_X5_refusalOf l G A (CL ad) F (ad (39 + kvr)) (ad (45 + kvr)) (nI (z kvr)) (kd kvr) (hC.sh2 hkvr rfl rfl) vi 4) (V2 := some (.int (-11))) (by simp only [rfo, cif_t hm]) rfl) (va_cwS 3 hts gX5_read_X5_refusalOf rfl rfl rfl (by decide +kernel) ⟨Nat.le_of_ble_eq_true rfl, Nat.le_of_ble_eq_true rfl⟩) rfl hl.1 rfl (Nat.le_of_ble_eq_true rfl) dX5_read_30 ⟨Nat.le_of_ble_eq_true rfl, Nat.le_of_ble_eq_true rfl⟩ rfl (fun H locs hw => ?_)
        refine lv_istore (lv' := [(6, .int (-11)), (5, .ref (ad (39 + kvr))), (4, .ref (ad kvs)), (0, .ref (ad 51)), (1, .int (nI kvs)), (2, .int (nI kvr)), (3, .int vi)]) hx hb dX5_read_33 hl (by decide) rfl (fun ls hl => ?_)
        refine lv_iload hx hb dX5_read_35 (lv_at hl 0 rfl) ?_
        refine lv_if_eq (tgt := 43) hx hb dX5_read_37 (by decide) (fun c_37 => ?_) (fun c_37 => ?_)
        · skip
          exact absurd c_37 (by decide)
        · skip
          refine lv_iload hx hb dX5_read_40 (lv_at hl 0 rfl) ?_
          exact h_iretP hx hb hlk hr hw dX5_read_42 (by simp only [sp_read, xvs, xvr, cif_t hm, cif_f c_37, rd4]) (by simp only [sp_read, xvs, xvr, cif_t hm, cif_f c_37, rd4]; exact ⟨_, hC, hq⟩)
      · by_cases hr1 : reach (nI (z kvr)) vi 4
        · skip
          obtain ⟨ia, rfl, hab⟩ := reach_1 (b := 4) (hz kvr hkvr) (by decide) hr1
          have hrc : rch (z kvr) (nI ia) 4 = some (ia, 4) := rch_in hab (hz kvr hkvr)
          refine h_callS (st1 := [.int 0]) [.ref (ad (39 + kvr)), .int (nI ia), .int 4] [] ⟨hx, hb, hml, hown, hts⟩ hE hw (HT.to (c_X5_refusalOf l G A (CL ad) F (ad (39 + kvr)) (ad (45 + kvr)) (nI (z kvr)) (kd kvr) (hC.sh2 hkvr rfl rfl) (nI ia) 4) (V2 := some (.int (0))) (by simp only [rfo, cif_f hm, cif_t hr1]) rfl) (va_cwS 3 hts gX5_read_X5_refusalOf rfl rfl rfl (by decide +kernel) ⟨Nat.le_of_ble_eq_true rfl, Nat.le_of_ble_eq_true rfl⟩) rfl hl.1 rfl (Nat.le_of_ble_eq_true rfl) dX5_read_30 ⟨Nat.le_of_ble_eq_true rfl, Nat.le_of_ble_eq_true rfl⟩ rfl (fun H locs hw => ?_)
          refine lv_istore (lv' := [(6, .int 0), (5, .ref (ad (39 + kvr))), (4, .ref (ad kvs)), (0, .ref (ad 51)), (1, .int (nI kvs)), (2, .int (nI kvr)), (3, .int (nI ia))]) hx hb dX5_read_33 hl (by decide) rfl (fun ls hl => ?_)
          refine lv_iload hx hb dX5_read_35 (lv_at hl 0 rfl) ?_
          refine lv_if_eq (tgt := 43) hx hb dX5_read_37 (by decide) (fun c_37 => ?_) (fun c_37 => ?_)
          · skip
            refine lv_aload_n hx hb dX5_read_43 rfl (lv_at hl 3 rfl) ?_
            refine h_get hx hb hE hw hts hinX5 hown (ci := 5) rfl 5 (by decide) lk_43 (fun _ h9 => h9) hC.fp rfl dX5_read_44 ?_
            refine lv_aload hx hb dX5_read_47 (lv_at hl 1 rfl) ?_
            refine lv_iload_n hx hb dX5_read_49 rfl (lv_at hl 6 rfl) ?_
            refine h_callV (st1 := [.long ((pl kvr) ia), .ref (ad 28)]) [.int (nI ia)] [.ref (ad 28)] ⟨hx, hb, hml, hown, hts⟩ hE hw (c_X3_at l G A (CL ad) F (ad (39 + kvr)) (ad (45 + kvr)) (z kvr) (kd kvr) (pl kvr) (hC.sh2 hkvr rfl rfl) (hC.pl hkvr) (hz kvr hkvr) ia (by omega)) (cwV 1 hts gX5_read_X3_at rfl rfl rfl (by decide +kernel) ⟨Nat.le_of_ble_eq_true rfl, Nat.le_of_ble_eq_true rfl⟩) (hC.sh2 hkvr rfl rfl) rfl rfl rfl hl.1 rfl (Nat.le_of_ble_eq_true rfl) dX5_read_50 ⟨Nat.le_of_ble_eq_true rfl, Nat.le_of_ble_eq_true rfl⟩ rfl (fun H locs hw => ?_)
            refine lv_aload hx hb dX5_read_53 (lv_at hl 1 rfl) ?_
            refine lv_iload_n hx hb dX5_read_55 rfl (lv_at hl 6 rfl) ?_
            refine lv_iconst (v := 1) hx hb dX5_read_56 (by decide) ?_
            refine lv_iadd hx hb dX5_read_57 ?_
            refine W.eq (g2 := F0 m 58 ls [.int (nI (ia + 1)), .ref (ad (39 + kvr)), .long ((pl kvr) ia), .ref (ad 28)]) (by rw [show (1 : Int32) = nI 1 from rfl, nI_add]) ?_
            refine h_callV (st1 := [.long ((pl kvr) (ia + 1)), .long ((pl kvr) ia), .ref (ad 28)]) [.int (nI (ia + 1))] [.long ((pl kvr) ia), .ref (ad 28)] ⟨hx, hb, hml, hown, hts⟩ hE hw (c_X3_at l G A (CL ad) F (ad (39 + kvr)) (ad (45 + kvr)) (z kvr) (kd kvr) (pl kvr) (hC.sh2 hkvr rfl rfl) (hC.pl hkvr) (hz kvr hkvr) (ia + 1) (by omega)) (cwV 1 hts gX5_read_X3_at rfl rfl rfl (by decide +kernel) ⟨Nat.le_of_ble_eq_true rfl, Nat.le_of_ble_eq_true rfl⟩) (hC.sh2 hkvr rfl rfl) rfl rfl rfl hl.1 rfl (Nat.le_of_ble_eq_true rfl) dX5_read_58 ⟨Nat.le_of_ble_eq_true rfl, Nat.le_of_ble_eq_true rfl⟩ rfl (fun H locs hw => ?_)
            refine lv_aload hx hb dX5_read_61 (lv_at hl 1 rfl) ?_
            refine lv_iload_n hx hb dX5_read_63 rfl (lv_at hl 6 rfl) ?_
            refine lv_iconst (v := 2) hx hb dX5_read_64 (by decide) ?_
            refine lv_iadd hx hb dX5_read_65 ?_
            refine W.eq (g2 := F0 m 66 ls [.int (nI (ia + 2)), .ref (ad (39 + kvr)), .long ((pl kvr) (ia + 1)), .long ((pl kvr) ia), .ref (ad 28)]) (by rw [show (2 : Int32) = nI 2 from rfl, nI_add]) ?_
            refine h_callV (st1 := [.long ((pl kvr) (ia + 2)), .long ((pl kvr) (ia + 1)), .long ((pl kvr) ia), .ref (ad 28)]) [.int (nI (ia + 2))] [.long ((pl kvr) (ia + 1)), .long ((pl kvr) ia), .ref (ad 28)] ⟨hx, hb, hml, hown, hts⟩ hE hw (c_X3_at l G A (CL ad) F (ad (39 + kvr)) (ad (45 + kvr)) (z kvr) (kd kvr) (pl kvr) (hC.sh2 hkvr rfl rfl) (hC.pl hkvr) (hz kvr hkvr) (ia + 2) (by omega)) (cwV 1 hts gX5_read_X3_at rfl rfl rfl (by decide +kernel) ⟨Nat.le_of_ble_eq_true rfl, Nat.le_of_ble_eq_true rfl⟩) (hC.sh2 hkvr rfl rfl) rfl rfl rfl hl.1 rfl (Nat.le_of_ble_eq_true rfl) dX5_read_66 ⟨Nat.le_of_ble_eq_true rfl, Nat.le_of_ble_eq_true rfl⟩ rfl (fun H locs hw => ?_)
            refine lv_aload hx hb dX5_read_69 (lv_at hl 1 rfl) ?_
            refine lv_iload_n hx hb dX5_read_71 rfl (lv_at hl 6 rfl) ?_
            refine lv_iconst (v := 3) hx hb dX5_read_72 (by decide) ?_
            refine lv_iadd hx hb dX5_read_73 ?_
            refine W.eq (g2 := F0 m 74 ls [.int (nI (ia + 3)), .ref (ad (39 + kvr)), .long ((pl kvr) (ia + 2)), .long ((pl kvr) (ia + 1)), .long ((pl kvr) ia), .ref (ad 28)]) (by rw [show (3 : Int32) = nI 3 from rfl, nI_add]) ?_
            refine h_callV (st1 := [.long ((pl kvr) (ia + 3)), .long ((pl kvr) (ia + 2)), .long ((pl kvr) (ia + 1)), .long ((pl kvr) ia), .ref (ad 28)]) [.int (nI (ia + 3))] [.long ((pl kvr) (ia + 2)), .long ((pl kvr) (ia + 1)), .long ((pl kvr) ia), .ref (ad 28)] ⟨hx, hb, hml, hown, hts⟩ hE hw (c_X3_at l G A (CL ad) F (ad (39 + kvr)) (ad (45 + kvr)) (z kvr) (kd kvr) (pl kvr) (hC.sh2 hkvr rfl rfl) (hC.pl hkvr) (hz kvr hkvr) (ia + 3) (by omega)) (cwV 1 hts gX5_read_X3_at rfl rfl rfl (by decide +kernel) ⟨Nat.le_of_ble_eq_true rfl, Nat.le_of_ble_eq_true rfl⟩) (hC.sh2 hkvr rfl rfl) rfl rfl rfl hl.1 rfl (Nat.le_of_ble_eq_true rfl) dX5_read_74 ⟨Nat.le_of_ble_eq_true rfl, Nat.le_of_ble_eq_true rfl⟩ rfl (fun H locs hw => ?_)
            refine h_callV (st1 := []) [.long ((pl kvr) ia), .long ((pl kvr) (ia + 1)), .long ((pl kvr) (ia + 2)), .long ((pl kvr) (ia + 3))] [] ⟨hx, hb, hml, hown, hts⟩ hE hw (c_X1_become l G A (CL ad) F (ad 28) (q 28) (hC.q (i := 28) (by decide)) ((pl kvr) ia) ((pl kvr) (ia + 1)) ((pl kvr) (ia + 2)) ((pl kvr) (ia + 3))) (cwV 4 hts gX5_read_X1_become rfl rfl rfl (by decide +kernel) ⟨Nat.le_of_ble_eq_true rfl, Nat.le_of_ble_eq_true rfl⟩) (hC.q (i := 28) (by decide)) rfl rfl rfl hl.1 rfl (Nat.le_of_ble_eq_true rfl) dX5_read_77 ⟨Nat.le_of_ble_eq_true rfl, Nat.le_of_ble_eq_true rfl⟩ rfl (fun H locs hw => ?_)
            refine lv_aload_n hx hb dX5_read_80 rfl (lv_at hl 3 rfl) ?_
            refine h_get hx hb hE hw hts hinX5 hown (ci := 5) rfl 5 (by decide) lk_43 (fun _ h9 => h9) (pt_ne hC.fp (hC.ne (i := 51) (j := 28) (by decide) (by decide) (by decide))) rfl dX5_read_81 ?_
            refine h_callV (st1 := [.int (bI (qone ((pl kvr) ia, (pl kvr) (ia + 1), (pl kvr) (ia + 2), (pl kvr) (ia + 3))))]) [] [] ⟨hx, hb, hml, hown, hts⟩ hE hw (c_X1_isAllEvenOrAllOdd l G A (CL ad) (va_up F (ad 28) (eq4 ((pl kvr) ia, (pl kvr) (ia + 1), (pl kvr) (ia + 2), (pl kvr) (ia + 3)))) (ad 28) ((pl kvr) ia, (pl kvr) (ia + 1), (pl kvr) (ia + 2), (pl kvr) (ia + 3)) (pt_up (hC.q (i := 28) (by decide)))) (cwV 0 hts gX5_read_X1_isAllEvenOrAllOdd rfl rfl rfl (by decide +kernel) ⟨Nat.le_of_ble_eq_true rfl, Nat.le_of_ble_eq_true rfl⟩) (pt_up (hC.q (i := 28) (by decide))) rfl rfl rfl hl.1 rfl (Nat.le_of_ble_eq_true rfl) dX5_read_84 ⟨Nat.le_of_ble_eq_true rfl, Nat.le_of_ble_eq_true rfl⟩ rfl (fun H locs hw => ?_)
            refine lv_if_ne (tgt := 93) hx hb dX5_read_87 (by decide) (fun c_87 => ?_) (fun c_87 => ?_)
            · skip
              have c_87 := bI_ne.mp c_87
              refine lv_aload_n hx hb dX5_read_93 rfl (lv_at hl 3 rfl) ?_
              refine h_get hx hb hE hw hts hinX5 hown (ci := 5) rfl 5 (by decide) lk_43 (fun _ h9 => h9) (pt_ne hC.fp (hC.ne (i := 51) (j := 28) (by decide) (by decide) (by decide))) rfl dX5_read_94 ?_
              refine h_callV (st1 := [.int (bI (qhigh ((pl kvr) ia, (pl kvr) (ia + 1), (pl kvr) (ia + 2), (pl kvr) (ia + 3))))]) [] [] ⟨hx, hb, hml, hown, hts⟩ hE hw (c_X1_isHigh l G A (CL ad) (va_up F (ad 28) (eq4 ((pl kvr) ia, (pl kvr) (ia + 1), (pl kvr) (ia + 2), (pl kvr) (ia + 3)))) (ad 28) ((pl kvr) ia, (pl kvr) (ia + 1), (pl kvr) (ia + 2), (pl kvr) (ia + 3)) (pt_up (hC.q (i := 28) (by decide)))) (cwV 0 hts gX5_read_X1_isHigh rfl rfl rfl (by decide +kernel) ⟨Nat.le_of_ble_eq_true rfl, Nat.le_of_ble_eq_true rfl⟩) (pt_up (hC.q (i := 28) (by decide))) rfl rfl rfl hl.1 rfl (Nat.le_of_ble_eq_true rfl) dX5_read_97 ⟨Nat.le_of_ble_eq_true rfl, Nat.le_of_ble_eq_true rfl⟩ rfl (fun H locs hw => ?_)
              refine lv_if_eq (tgt := 106) hx hb dX5_read_100 (by decide) (fun c_100 => ?_) (fun c_100 => ?_)
              · skip
                have c_100 := bI_eq.mp c_100
                refine lv_aload hx hb dX5_read_106 (lv_at hl 2 rfl) ?_
                refine lv_aload_n hx hb dX5_read_108 rfl (lv_at hl 3 rfl) ?_
                refine h_get hx hb hE hw hts hinX5 hown (ci := 5) rfl 5 (by decide) lk_43 (fun _ h9 => h9) (pt_ne hC.fp (hC.ne (i := 51) (j := 28) (by decide) (by decide) (by decide))) rfl dX5_read_109 ?_
                refine h_callV (st1 := []) [.ref (ad 28)] [] ⟨hx, hb, hml, hown, hts⟩ hE hw (c_X1_becomeLike l G A (CL ad) (va_up F (ad 28) (eq4 ((pl kvr) ia, (pl kvr) (ia + 1), (pl kvr) (ia + 2), (pl kvr) (ia + 3)))) (ad kvs) (rg kvs) (pt_ne (pt_eq (hC.q (i := kvs) (Nat.lt_of_lt_of_le hkvs (by decide))) (by rw [show ((q, kd, (fun k => nI (z k)), pl, nI cnt) : CS).1 kvs = rg kvs from hq kvs (Nat.lt_of_lt_of_le hkvs (by decide))])) (hC.ne (i := kvs) (j := 28) (Nat.lt_of_lt_of_le hkvs (by decide)) (by decide) (by omega)))  (ad 28) ((pl kvr) ia, (pl kvr) (ia + 1), (pl kvr) (ia + 2), (pl kvr) (ia + 3)) (pt_up (hC.q (i := 28) (by decide)))) (cwV 1 hts gX5_read_X1_becomeLike rfl rfl rfl (by decide +kernel) ⟨Nat.le_of_ble_eq_true rfl, Nat.le_of_ble_eq_true rfl⟩) (pt_ne (pt_eq (hC.q (i := kvs) (Nat.lt_of_lt_of_le hkvs (by decide))) (by rw [show ((q, kd, (fun k => nI (z k)), pl, nI cnt) : CS).1 kvs = rg kvs from hq kvs (Nat.lt_of_lt_of_le hkvs (by decide))])) (hC.ne (i := kvs) (j := 28) (Nat.lt_of_lt_of_le hkvs (by decide)) (by decide) (by omega))) rfl rfl rfl hl.1 rfl (Nat.le_of_ble_eq_true rfl) dX5_read_112 ⟨Nat.le_of_ble_eq_true rfl, Nat.le_of_ble_eq_true rfl⟩ rfl (fun H locs hw => ?_)
                refine lv_iconst (v := 0) hx hb dX5_read_115 (by decide) ?_
                exact h_iretP hx hb hlk hr hw dX5_read_116 (by simp only [sp_read, xvs, xvr, hrc, cif_f hm, cif_t c_37, cif_t c_87, cif_f c_100, rd4]) (by simp only [sp_read, xvs, xvr, hrc, cif_f hm, cif_t c_37, cif_t c_87, cif_f c_100, rd4]; exact ⟨_, (CW.setq (CW.setq hC (i := 28) (by decide) ((pl kvr) ia, (pl kvr) (ia + 1), (pl kvr) (ia + 2), (pl kvr) (ia + 3))) (i := kvs) (Nat.lt_of_lt_of_le hkvs (by decide)) ((pl kvr) ia, (pl kvr) (ia + 1), (pl kvr) (ia + 2), (pl kvr) (ia + 3))), (qup (qscr hq (by decide)))⟩)
              · skip
                have c_100 := bI_ne.mp c_100
                refine lv_bipush (v := (-16)) hx hb dX5_read_103 (by decide) ?_
                exact h_iretP hx hb hlk hr hw dX5_read_105 (by simp only [sp_read, xvs, xvr, hrc, cif_f hm, cif_t c_37, cif_t c_87, cif_t c_100, rd4]) (by simp only [sp_read, xvs, xvr, hrc, cif_f hm, cif_t c_37, cif_t c_87, cif_t c_100, rd4]; exact ⟨_, (CW.setq hC (i := 28) (by decide) ((pl kvr) ia, (pl kvr) (ia + 1), (pl kvr) (ia + 2), (pl kvr) (ia + 3))), (qscr hq (by decide))⟩)
            · skip
              have c_87 := bI_eq.mp c_87
              refine lv_bipush (v := (-15)) hx hb dX5_read_90 (by decide) ?_
              exact h_iretP hx hb hlk hr hw dX5_read_92 (by simp only [sp_read, xvs, xvr, hrc, cif_f hm, cif_t c_37, cif_f c_87, rd4]) (by simp only [sp_read, xvs, xvr, hrc, cif_f hm, cif_t c_37, cif_f c_87, rd4]; exact ⟨_, (CW.setq hC (i := 28) (by decide) ((pl kvr) ia, (pl kvr) (ia + 1), (pl kvr) (ia + 2), (pl kvr) (ia + 3))), (qscr hq (by decide))⟩)
          · skip
            exact absurd rfl c_37
        · skip
          have hrc : rch (z kvr) vi 4 = none := rch_out (hz kvr hkvr) hr1
          refine h_callS (st1 := [.int (-12)]) [.ref (ad (39 + kvr)), .int vi, .int 4] [] ⟨hx, hb, hml, hown, hts⟩ hE hw (HT.to (c_X5_refusalOf l G A (CL ad) F (ad (39 + kvr)) (ad (45 + kvr)) (nI (z kvr)) (kd kvr) (hC.sh2 hkvr rfl rfl) vi 4) (V2 := some (.int (-12))) (by simp only [rfo, cif_f hm, cif_f hr1]) rfl) (va_cwS 3 hts gX5_read_X5_refusalOf rfl rfl rfl (by decide +kernel) ⟨Nat.le_of_ble_eq_true rfl, Nat.le_of_ble_eq_true rfl⟩) rfl hl.1 rfl (Nat.le_of_ble_eq_true rfl) dX5_read_30 ⟨Nat.le_of_ble_eq_true rfl, Nat.le_of_ble_eq_true rfl⟩ rfl (fun H locs hw => ?_)
          refine lv_istore (lv' := [(6, .int (-12)), (5, .ref (ad (39 + kvr))), (4, .ref (ad kvs)), (0, .ref (ad 51)), (1, .int (nI kvs)), (2, .int (nI kvr)), (3, .int vi)]) hx hb dX5_read_33 hl (by decide) rfl (fun ls hl => ?_)
          refine lv_iload hx hb dX5_read_35 (lv_at hl 0 rfl) ?_
          refine lv_if_eq (tgt := 43) hx hb dX5_read_37 (by decide) (fun c_37 => ?_) (fun c_37 => ?_)
          · skip
            exact absurd c_37 (by decide)
          · skip
            refine lv_iload hx hb dX5_read_40 (lv_at hl 0 rfl) ?_
            exact h_iretP hx hb hlk hr hw dX5_read_42 (by simp only [sp_read, xvs, xvr, hrc, cif_f hm, cif_f c_37, rd4]) (by simp only [sp_read, xvs, xvr, hrc, cif_f hm, cif_f c_37, rd4]; exact ⟨_, hC, hq⟩)

set_option maxHeartbeats 4000000 in
set_option maxRecDepth 100000 in
theorem c_X5_write (l : Launch) (G : GG) (A : Nat → Prop) (ad : Nat → Nat) (F : FM) (rg : Nat → Q4) (kd : Nat → Int32) (z : Nat → Nat) (pl : Nat → Nat → Int64) (cnt : Nat) (hR : CR G ad (rg, kd, z, pl, cnt) F) (hz : ∀ k, k < 6 → z k ≤ 16) (vs : Int32) (vr : Int32) (vi : Int32) : PT l yX5_write wsX5_write { frames := 2, cells := 0, slots := 0, locals := 45 } G A (CL ad) [.ref (ad 51), .int vs, .int vr, .int vi] F (some (.int (sp_write (rg, kd, z, pl, cnt) vs vr vi).1)) (CR G ad (sp_write (rg, kd, z, pl, cnt) vs vr vi).2) := by
  refine PT.ofW (cc := cX5_write) (maxL := 7) (ret := (some .int)) (plainFor_of_name (by decide)) rfl (Nat.le_of_ble_eq_true rfl) ?_
  intro p e s m below meth c ls hx hb hr hml hown hts hlk hE hw hl
  have hl : lv_has ls 7 [(0, .ref (ad 51)), (1, .int vs), (2, .int vr), (3, .int vi)] := hl
  have hown : s.vm.findClass RX5 = some m.cls := hown
  have lk_102 := hts (.fieldLink RX5 102 "FourParts$Quad" "a" "J") (by decide +kernel)
  have hinX1 : ∀ w ∈ u_ws RX1 TX1 4, w ∈ wsX5_write := by decide +kernel
  have lk_106 := hts (.fieldLink RX5 106 "FourParts$Quad" "b" "J") (by decide +kernel)
  have lk_109 := hts (.fieldLink RX5 109 "FourParts$Quad" "c" "J") (by decide +kernel)
  have lk_112 := hts (.fieldLink RX5 112 "FourParts$Quad" "d" "J") (by decide +kernel)
  obtain ⟨q, hC, hq⟩ := hR
  refine lv_aload_n hx hb dX5_write_0 rfl (lv_at hl 0 rfl) ?_
  refine lv_iload_n hx hb dX5_write_1 rfl (lv_at hl 1 rfl) ?_
  rcases ix_cases 16 (by decide) vs with hvs | ⟨kvs, hkvs, rfl⟩
  · skip
    have xvs := ix_none hvs
    refine h_callV (st1 := [.null]) [.int vs] [] ⟨hx, hb, hml, hown, hts⟩ hE hw (c_X5_register_out l G A ad F _ hC vs hvs) (cwV 1 hts gX5_write_X5_register rfl rfl rfl (by decide +kernel) ⟨Nat.le_of_ble_eq_true rfl, Nat.le_of_ble_eq_true rfl⟩) hC.fp rfl rfl rfl hl.1 rfl (Nat.le_of_ble_eq_true rfl) dX5_write_2 ⟨Nat.le_of_ble_eq_true rfl, Nat.le_of_ble_eq_true rfl⟩ rfl (fun H locs hw => ?_)
    refine lv_astoreN (lv' := [(4, .null), (0, .ref (ad 51)), (1, .int vs), (2, .int vr), (3, .int vi)]) hx hb dX5_write_5 hl (by decide) rfl (fun ls hl => ?_)
    refine lv_aload_n hx hb dX5_write_7 rfl (lv_at hl 1 rfl) ?_
    refine lv_iload_n hx hb dX5_write_8 rfl (lv_at hl 3 rfl) ?_
    rcases ix_cases 6 (by decide) vr with hvr | ⟨kvr, hkvr, rfl⟩
    · skip
      have xvr := ix_none hvr
      refine h_callV (st1 := [.null]) [.int vr] [] ⟨hx, hb, hml, hown, hts⟩ hE hw (c_X5_sheetAt_out l G A ad F _ hC vr hvr) (cwV 1 hts gX5_write_X5_sheetAt rfl rfl rfl (by decide +kernel) ⟨Nat.le_of_ble_eq_true rfl, Nat.le_of_ble_eq_true rfl⟩) hC.fp rfl rfl rfl hl.1 rfl (Nat.le_of_ble_eq_true rfl) dX5_write_9 ⟨Nat.le_of_ble_eq_true rfl, Nat.le_of_ble_eq_true rfl⟩ rfl (fun H locs hw => ?_)
      refine lv_astoreN (lv' := [(5, .null), (4, .null), (0, .ref (ad 51)), (1, .int vs), (2, .int vr), (3, .int vi)]) hx hb dX5_write_12 hl (by decide) rfl (fun ls hl => ?_)
      refine lv_aloadN hx hb dX5_write_14 (lv_at hl 1 rfl) ?_
      refine lv_ifnullN (tgt := 24) hx hb dX5_write_16 (by decide) ?_
      refine lv_iconst (v := (-1)) hx hb dX5_write_24 (by decide) ?_
      exact h_iretP hx hb hlk hr hw dX5_write_25 (by simp only [sp_write, xvs, xvr]) (by simp only [sp_write, xvs, xvr]; exact ⟨_, hC, hq⟩)
    · skip
      have xvr := ix_in (n := 6) hkvr (by decide)
      refine h_callV (st1 := [.ref (ad (39 + kvr))]) [.int (nI kvr)] [] ⟨hx, hb, hml, hown, hts⟩ hE hw (c_X5_sheetAt_in l G A ad F _ hC kvr hkvr) (cwV 1 hts gX5_write_X5_sheetAt rfl rfl rfl (by decide +kernel) ⟨Nat.le_of_ble_eq_true rfl, Nat.le_of_ble_eq_true rfl⟩) hC.fp rfl rfl rfl hl.1 rfl (Nat.le_of_ble_eq_true rfl) dX5_write_9 ⟨Nat.le_of_ble_eq_true rfl, Nat.le_of_ble_eq_true rfl⟩ rfl (fun H locs hw => ?_)
      refine lv_astore (lv' := [(5, .ref (ad (39 + kvr))), (4, .null), (0, .ref (ad 51)), (1, .int vs), (2, .int (nI kvr)), (3, .int vi)]) hx hb dX5_write_12 hl (by decide) rfl (fun ls hl => ?_)
      refine lv_aloadN hx hb dX5_write_14 (lv_at hl 1 rfl) ?_
      refine lv_ifnullN (tgt := 24) hx hb dX5_write_16 (by decide) ?_
      refine lv_iconst (v := (-1)) hx hb dX5_write_24 (by decide) ?_
      exact h_iretP hx hb hlk hr hw dX5_write_25 (by simp only [sp_write, xvs, xvr]) (by simp only [sp_write, xvs, xvr]; exact ⟨_, hC, hq⟩)
  · skip
    have xvs := ix_in (n := 16) hkvs (by decide)
    refine h_callV (st1 := [.ref (ad kvs)]) [.int (nI kvs)] [] ⟨hx, hb, hml, hown, hts⟩ hE hw (c_X5_register_in l G A ad F _ hC kvs hkvs) (cwV 1 hts gX5_write_X5_register rfl rfl rfl (by decide +kernel) ⟨Nat.le_of_ble_eq_true rfl, Nat.le_of_ble_eq_true rfl⟩) hC.fp rfl rfl rfl hl.1 rfl (Nat.le_of_ble_eq_true rfl) dX5_write_2 ⟨Nat.le_of_ble_eq_true rfl, Nat.le_of_ble_eq_true rfl⟩ rfl (fun H locs hw => ?_)
    refine lv_astore (lv' := [(4, .ref (ad kvs)), (0, .ref (ad 51)), (1, .int (nI kvs)), (2, .int vr), (3, .int vi)]) hx hb dX5_write_5 hl (by decide) rfl (fun ls hl => ?_)
    refine lv_aload_n hx hb dX5_write_7 rfl (lv_at hl 1 rfl) ?_
    refine lv_iload_n hx hb dX5_write_8 rfl (lv_at hl 3 rfl) ?_
    rcases ix_cases 6 (by decide) vr with hvr | ⟨kvr, hkvr, rfl⟩
    · skip
      have xvr := ix_none hvr
      refine h_callV (st1 := [.null]) [.int vr] [] ⟨hx, hb, hml, hown, hts⟩ hE hw (c_X5_sheetAt_out l G A ad F _ hC vr hvr) (cwV 1 hts gX5_write_X5_sheetAt rfl rfl rfl (by decide +kernel) ⟨Nat.le_of_ble_eq_true rfl, Nat.le_of_ble_eq_true rfl⟩) hC.fp rfl rfl rfl hl.1 rfl (Nat.le_of_ble_eq_true rfl) dX5_write_9 ⟨Nat.le_of_ble_eq_true rfl, Nat.le_of_ble_eq_true rfl⟩ rfl (fun H locs hw => ?_)
      refine lv_astoreN (lv' := [(5, .null), (4, .ref (ad kvs)), (0, .ref (ad 51)), (1, .int (nI kvs)), (2, .int vr), (3, .int vi)]) hx hb dX5_write_12 hl (by decide) rfl (fun ls hl => ?_)
      refine lv_aload hx hb dX5_write_14 (lv_at hl 1 rfl) ?_
      refine lv_ifnull hx hb dX5_write_16 ?_
      refine lv_aloadN hx hb dX5_write_19 (lv_at hl 0 rfl) ?_
      refine lv_ifnonnullN hx hb dX5_write_21 ?_
      refine lv_iconst (v := (-1)) hx hb dX5_write_24 (by decide) ?_
      exact h_iretP hx hb hlk hr hw dX5_write_25 (by simp only [sp_write, xvs, xvr]) (by simp only [sp_write, xvs, xvr]; exact ⟨_, hC, hq⟩)
    · skip
      have xvr := ix_in (n := 6) hkvr (by decide)
      refine h_callV (st1 := [.ref (ad (39 + kvr))]) [.int (nI kvr)] [] ⟨hx, hb, hml, hown, hts⟩ hE hw (c_X5_sheetAt_in l G A ad F _ hC kvr hkvr) (cwV 1 hts gX5_write_X5_sheetAt rfl rfl rfl (by decide +kernel) ⟨Nat.le_of_ble_eq_true rfl, Nat.le_of_ble_eq_true rfl⟩) hC.fp rfl rfl rfl hl.1 rfl (Nat.le_of_ble_eq_true rfl) dX5_write_9 ⟨Nat.le_of_ble_eq_true rfl, Nat.le_of_ble_eq_true rfl⟩ rfl (fun H locs hw => ?_)
      refine lv_astore (lv' := [(5, .ref (ad (39 + kvr))), (4, .ref (ad kvs)), (0, .ref (ad 51)), (1, .int (nI kvs)), (2, .int (nI kvr)), (3, .int vi)]) hx hb dX5_write_12 hl (by decide) rfl (fun ls hl => ?_)
      refine lv_aload hx hb dX5_write_14 (lv_at hl 1 rfl) ?_
      refine lv_ifnull hx hb dX5_write_16 ?_
      refine lv_aload hx hb dX5_write_19 (lv_at hl 0 rfl) ?_
      refine lv_ifnonnull (tgt := 26) hx hb dX5_write_21 (by decide) ?_
      refine lv_aload hx hb dX5_write_26 (lv_at hl 0 rfl) ?_
      refine lv_iload_n hx hb dX5_write_28 rfl (lv_at hl 5 rfl) ?_
      refine lv_iconst (v := 4) hx hb dX5_write_29 (by decide) ?_
      by_cases hm : kd kvr = -1
      · skip
        refine h_callS (st1 := [.int (-11)]) [.ref (ad (39 + kvr)), .int vi, .int 4] [] ⟨hx, hb, hml, hown, hts⟩ hE hw (HT.to (c_X5_refusalOf l G A (CL ad) F (ad (39 + kvr)) (ad (45 + kvr)) (nI (z kvr)) (kd kvr) (hC.sh2 hkvr rfl rfl) vi 4) (V2 := some (.int (-11))) (by simp only [rfo, cif_t hm]) rfl) (va_cwS 3 hts gX5_write_X5_refusalOf rfl rfl rfl (by decide +kernel) ⟨Nat.le_of_ble_eq_true rfl, Nat.le_of_ble_eq_true rfl⟩) rfl hl.1 rfl (Nat.le_of_ble_eq_true rfl) dX5_write_30 ⟨Nat.le_of_ble_eq_true rfl, Nat.le_of_ble_eq_true rfl⟩ rfl (fun H locs hw => ?_)
        refine lv_istore (lv' := [(6, .int (-11)), (5, .ref (ad (39 + kvr))), (4, .ref (ad kvs)), (0, .ref (ad 51)), (1, .int (nI kvs)), (2, .int (nI kvr)), (3, .int vi)]) hx hb dX5_write_33 hl (by decide) rfl (fun ls hl => ?_)
        refine lv_iload hx hb dX5_write_35 (lv_at hl 0 rfl) ?_
        refine lv_if_eq (tgt := 43) hx hb dX5_write_37 (by decide) (fun c_37 => ?_) (fun c_37 => ?_)
        · skip
          exact absurd c_37 (by decide)
        · skip
          refine lv_iload hx hb dX5_write_40 (lv_at hl 0 rfl) ?_
          exact h_iretP hx hb hlk hr hw dX5_write_42 (by simp only [sp_write, xvs, xvr, cif_t hm, cif_f c_37]) (by simp only [sp_write, xvs, xvr, cif_t hm, cif_f c_37]; exact ⟨_, hC, hq⟩)
      · by_cases hr1 : reach (nI (z kvr)) vi 4
        · skip
          obtain ⟨ia, rfl, hab⟩ := reach_1 (b := 4) (hz kvr hkvr) (by decide) hr1
          have hrc : rch (z kvr) (nI ia) 4 = some (ia, 4) := rch_in hab (hz kvr hkvr)
          refine h_callS (st1 := [.int 0]) [.ref (ad (39 + kvr)), .int (nI ia), .int 4] [] ⟨hx, hb, hml, hown, hts⟩ hE hw (HT.to (c_X5_refusalOf l G A (CL ad) F (ad (39 + kvr)) (ad (45 + kvr)) (nI (z kvr)) (kd kvr) (hC.sh2 hkvr rfl rfl) (nI ia) 4) (V2 := some (.int (0))) (by simp only [rfo, cif_f hm, cif_t hr1]) rfl) (va_cwS 3 hts gX5_write_X5_refusalOf rfl rfl rfl (by decide +kernel) ⟨Nat.le_of_ble_eq_true rfl, Nat.le_of_ble_eq_true rfl⟩) rfl hl.1 rfl (Nat.le_of_ble_eq_true rfl) dX5_write_30 ⟨Nat.le_of_ble_eq_true rfl, Nat.le_of_ble_eq_true rfl⟩ rfl (fun H locs hw => ?_)
          refine lv_istore (lv' := [(6, .int 0), (5, .ref (ad (39 + kvr))), (4, .ref (ad kvs)), (0, .ref (ad 51)), (1, .int (nI kvs)), (2, .int (nI kvr)), (3, .int (nI ia))]) hx hb dX5_write_33 hl (by decide) rfl (fun ls hl => ?_)
          refine lv_iload hx hb dX5_write_35 (lv_at hl 0 rfl) ?_
          refine lv_if_eq (tgt := 43) hx hb dX5_write_37 (by decide) (fun c_37 => ?_) (fun c_37 => ?_)
          · skip
            refine lv_aload hx hb dX5_write_43 (lv_at hl 1 rfl) ?_
            refine lv_iload_n hx hb dX5_write_45 rfl (lv_at hl 6 rfl) ?_
            refine lv_aload hx hb dX5_write_46 (lv_at hl 2 rfl) ?_
            refine h_get hx hb hE hw hts hinX1 hown (ci := 1) rfl 0 (by decide) lk_102 (fun _ h9 => h9) (pt_eq (hC.q (i := kvs) (Nat.lt_of_lt_of_le hkvs (by decide))) (by rw [show ((q, kd, (fun k => nI (z k)), pl, nI cnt) : CS).1 kvs = rg kvs from hq kvs (Nat.lt_of_lt_of_le hkvs (by decide))])) rfl dX5_write_48 ?_
            refine h_callV (st1 := []) [.int (nI ia), .long ((rg kvs).1)] [] ⟨hx, hb, hml, hown, hts⟩ hE hw (c_X3_keep l G A (CL ad) F (ad (39 + kvr)) (ad (45 + kvr)) (z kvr) (kd kvr) (pl kvr) (hC.sh2 hkvr rfl rfl) (hC.pl hkvr) (hz kvr hkvr) ia (by omega) ((rg kvs).1)) (cwV 2 hts gX5_write_X3_keep rfl rfl rfl (by decide +kernel) ⟨Nat.le_of_ble_eq_true rfl, Nat.le_of_ble_eq_true rfl⟩) (hC.sh2 hkvr rfl rfl) rfl rfl rfl hl.1 rfl (Nat.le_of_ble_eq_true rfl) dX5_write_51 ⟨Nat.le_of_ble_eq_true rfl, Nat.le_of_ble_eq_true rfl⟩ rfl (fun H locs hw => ?_)
            refine lv_aload hx hb dX5_write_54 (lv_at hl 1 rfl) ?_
            refine lv_iload_n hx hb dX5_write_56 rfl (lv_at hl 6 rfl) ?_
            refine lv_iconst (v := 1) hx hb dX5_write_57 (by decide) ?_
            refine lv_iadd hx hb dX5_write_58 ?_
            refine lv_aload hx hb dX5_write_59 (lv_at hl 2 rfl) ?_
            refine h_get hx hb hE hw hts hinX1 hown (ci := 1) rfl 1 (by decide) lk_106 (fun _ h9 => h9) (pt_ne (pt_eq (hC.q (i := kvs) (Nat.lt_of_lt_of_le hkvs (by decide))) (by rw [show ((q, kd, (fun k => nI (z k)), pl, nI cnt) : CS).1 kvs = rg kvs from hq kvs (Nat.lt_of_lt_of_le hkvs (by decide))])) (hC.ne (i := kvs) (j := 45 + kvr) (Nat.lt_of_lt_of_le hkvs (by decide)) (by omega) (by omega))) rfl dX5_write_61 ?_
            refine W.eq (g2 := F0 m 64 ls [.long ((rg kvs).2.1), .int (nI (ia + 1)), .ref (ad (39 + kvr))]) (by rw [show (1 : Int32) = nI 1 from rfl, nI_add]) ?_
            refine h_callV (st1 := []) [.int (nI (ia + 1)), .long ((rg kvs).2.1)] [] ⟨hx, hb, hml, hown, hts⟩ hE hw (c_X3_keep l G A (CL ad) (va_up F (ad (45 + kvr)) (eJ G 16 (vp_updL (pl kvr) ia (cutL (kd kvr) ((rg kvs).1))))) (ad (39 + kvr)) (ad (45 + kvr)) (z kvr) (kd kvr) (vp_updL (pl kvr) ia (cutL (kd kvr) ((rg kvs).1))) (pt_ne (hC.sh2 hkvr rfl rfl) (hC.ne (i := 39 + kvr) (j := 45 + kvr) (by omega) (by omega) (by omega))) (pt_up (hC.pl hkvr)) (hz kvr hkvr) (ia + 1) (by omega) ((rg kvs).2.1)) (cwV 2 hts gX5_write_X3_keep rfl rfl rfl (by decide +kernel) ⟨Nat.le_of_ble_eq_true rfl, Nat.le_of_ble_eq_true rfl⟩) (pt_ne (hC.sh2 hkvr rfl rfl) (hC.ne (i := 39 + kvr) (j := 45 + kvr) (by omega) (by omega) (by omega))) rfl rfl rfl hl.1 rfl (Nat.le_of_ble_eq_true rfl) dX5_write_64 ⟨Nat.le_of_ble_eq_true rfl, Nat.le_of_ble_eq_true rfl⟩ rfl (fun H locs hw => ?_)
            refine lv_aload hx hb dX5_write_67 (lv_at hl 1 rfl) ?_
            refine lv_iload_n hx hb dX5_write_69 rfl (lv_at hl 6 rfl) ?_
            refine lv_iconst (v := 2) hx hb dX5_write_70 (by decide) ?_
            refine lv_iadd hx hb dX5_write_71 ?_
            refine lv_aload hx hb dX5_write_72 (lv_at hl 2 rfl) ?_
            refine h_get hx hb hE hw hts hinX1 hown (ci := 1) rfl 2 (by decide) lk_109 (fun _ h9 => h9) (pt_ne (pt_ne (pt_eq (hC.q (i := kvs) (Nat.lt_of_lt_of_le hkvs (by decide))) (by rw [show ((q, kd, (fun k => nI (z k)), pl, nI cnt) : CS).1 kvs = rg kvs from hq kvs (Nat.lt_of_lt_of_le hkvs (by decide))])) (hC.ne (i := kvs) (j := 45 + kvr) (Nat.lt_of_lt_of_le hkvs (by decide)) (by omega) (by omega))) (hC.ne (i := kvs) (j := 45 + kvr) (Nat.lt_of_lt_of_le hkvs (by decide)) (by omega) (by omega))) rfl dX5_write_74 ?_
            refine W.eq (g2 := F0 m 77 ls [.long ((rg kvs).2.2.1), .int (nI (ia + 2)), .ref (ad (39 + kvr))]) (by rw [show (2 : Int32) = nI 2 from rfl, nI_add]) ?_
            refine h_callV (st1 := []) [.int (nI (ia + 2)), .long ((rg kvs).2.2.1)] [] ⟨hx, hb, hml, hown, hts⟩ hE hw (c_X3_keep l G A (CL ad) (va_up (va_up F (ad (45 + kvr)) (eJ G 16 (vp_updL (pl kvr) ia (cutL (kd kvr) ((rg kvs).1))))) (ad (45 + kvr)) (eJ G 16 (vp_updL (vp_updL (pl kvr) ia (cutL (kd kvr) ((rg kvs).1))) (ia + 1) (cutL (kd kvr) ((rg kvs).2.1))))) (ad (39 + kvr)) (ad (45 + kvr)) (z kvr) (kd kvr) (vp_updL (vp_updL (pl kvr) ia (cutL (kd kvr) ((rg kvs).1))) (ia + 1) (cutL (kd kvr) ((rg kvs).2.1))) (pt_ne (pt_ne (hC.sh2 hkvr rfl rfl) (hC.ne (i := 39 + kvr) (j := 45 + kvr) (by omega) (by omega) (by omega))) (hC.ne (i := 39 + kvr) (j := 45 + kvr) (by omega) (by omega) (by omega))) (pt_up (pt_up (hC.pl hkvr))) (hz kvr hkvr) (ia + 2) (by omega) ((rg kvs).2.2.1)) (cwV 2 hts gX5_write_X3_keep rfl rfl rfl (by decide +kernel) ⟨Nat.le_of_ble_eq_true rfl, Nat.le_of_ble_eq_true rfl⟩) (pt_ne (pt_ne (hC.sh2 hkvr rfl rfl) (hC.ne (i := 39 + kvr) (j := 45 + kvr) (by omega) (by omega) (by omega))) (hC.ne (i := 39 + kvr) (j := 45 + kvr) (by omega) (by omega) (by omega))) rfl rfl rfl hl.1 rfl (Nat.le_of_ble_eq_true rfl) dX5_write_77 ⟨Nat.le_of_ble_eq_true rfl, Nat.le_of_ble_eq_true rfl⟩ rfl (fun H locs hw => ?_)
            refine lv_aload hx hb dX5_write_80 (lv_at hl 1 rfl) ?_
            refine lv_iload_n hx hb dX5_write_82 rfl (lv_at hl 6 rfl) ?_
            refine lv_iconst (v := 3) hx hb dX5_write_83 (by decide) ?_
            refine lv_iadd hx hb dX5_write_84 ?_
            refine lv_aload hx hb dX5_write_85 (lv_at hl 2 rfl) ?_
            refine h_get hx hb hE hw hts hinX1 hown (ci := 1) rfl 3 (by decide) lk_112 (fun _ h9 => h9) (pt_ne (pt_ne (pt_ne (pt_eq (hC.q (i := kvs) (Nat.lt_of_lt_of_le hkvs (by decide))) (by rw [show ((q, kd, (fun k => nI (z k)), pl, nI cnt) : CS).1 kvs = rg kvs from hq kvs (Nat.lt_of_lt_of_le hkvs (by decide))])) (hC.ne (i := kvs) (j := 45 + kvr) (Nat.lt_of_lt_of_le hkvs (by decide)) (by omega) (by omega))) (hC.ne (i := kvs) (j := 45 + kvr) (Nat.lt_of_lt_of_le hkvs (by decide)) (by omega) (by omega))) (hC.ne (i := kvs) (j := 45 + kvr) (Nat.lt_of_lt_of_le hkvs (by decide)) (by omega) (by omega))) rfl dX5_write_87 ?_
            refine W.eq (g2 := F0 m 90 ls [.long ((rg kvs).2.2.2), .int (nI (ia + 3)), .ref (ad (39 + kvr))]) (by rw [show (3 : Int32) = nI 3 from rfl, nI_add]) ?_
            refine h_callV (st1 := []) [.int (nI (ia + 3)), .long ((rg kvs).2.2.2)] [] ⟨hx, hb, hml, hown, hts⟩ hE hw (c_X3_keep l G A (CL ad) (va_up (va_up (va_up F (ad (45 + kvr)) (eJ G 16 (vp_updL (pl kvr) ia (cutL (kd kvr) ((rg kvs).1))))) (ad (45 + kvr)) (eJ G 16 (vp_updL (vp_updL (pl kvr) ia (cutL (kd kvr) ((rg kvs).1))) (ia + 1) (cutL (kd kvr) ((rg kvs).2.1))))) (ad (45 + kvr)) (eJ G 16 (vp_updL (vp_updL (vp_updL (pl kvr) ia (cutL (kd kvr) ((rg kvs).1))) (ia + 1) (cutL (kd kvr) ((rg kvs).2.1))) (ia + 2) (cutL (kd kvr) ((rg kvs).2.2.1))))) (ad (39 + kvr)) (ad (45 + kvr)) (z kvr) (kd kvr) (vp_updL (vp_updL (vp_updL (pl kvr) ia (cutL (kd kvr) ((rg kvs).1))) (ia + 1) (cutL (kd kvr) ((rg kvs).2.1))) (ia + 2) (cutL (kd kvr) ((rg kvs).2.2.1))) (pt_ne (pt_ne (pt_ne (hC.sh2 hkvr rfl rfl) (hC.ne (i := 39 + kvr) (j := 45 + kvr) (by omega) (by omega) (by omega))) (hC.ne (i := 39 + kvr) (j := 45 + kvr) (by omega) (by omega) (by omega))) (hC.ne (i := 39 + kvr) (j := 45 + kvr) (by omega) (by omega) (by omega))) (pt_up (pt_up (pt_up (hC.pl hkvr)))) (hz kvr hkvr) (ia + 3) (by omega) ((rg kvs).2.2.2)) (cwV 2 hts gX5_write_X3_keep rfl rfl rfl (by decide +kernel) ⟨Nat.le_of_ble_eq_true rfl, Nat.le_of_ble_eq_true rfl⟩) (pt_ne (pt_ne (pt_ne (hC.sh2 hkvr rfl rfl) (hC.ne (i := 39 + kvr) (j := 45 + kvr) (by omega) (by omega) (by omega))) (hC.ne (i := 39 + kvr) (j := 45 + kvr) (by omega) (by omega) (by omega))) (hC.ne (i := 39 + kvr) (j := 45 + kvr) (by omega) (by omega) (by omega))) rfl rfl rfl hl.1 rfl (Nat.le_of_ble_eq_true rfl) dX5_write_90 ⟨Nat.le_of_ble_eq_true rfl, Nat.le_of_ble_eq_true rfl⟩ rfl (fun H locs hw => ?_)
            refine lv_iconst (v := 0) hx hb dX5_write_93 (by decide) ?_
            exact h_iretP hx hb hlk hr hw dX5_write_94 (by simp only [sp_write, xvs, xvr, hrc, cif_f hm, cif_t c_37]) (by simp only [sp_write, xvs, xvr, hrc, cif_f hm, cif_t c_37]; exact ⟨_, cw_uu (CW.setp (CW.setp (CW.setp (CW.setp hC hkvr (vp_updL (pl kvr) ia (cutL (kd kvr) ((rg kvs).1)))) hkvr (vp_updL (vp_updL (pl kvr) ia (cutL (kd kvr) ((rg kvs).1))) (ia + 1) (cutL (kd kvr) ((rg kvs).2.1)))) hkvr (vp_updL (vp_updL (vp_updL (pl kvr) ia (cutL (kd kvr) ((rg kvs).1))) (ia + 1) (cutL (kd kvr) ((rg kvs).2.1))) (ia + 2) (cutL (kd kvr) ((rg kvs).2.2.1)))) hkvr (vp_updL (vp_updL (vp_updL (vp_updL (pl kvr) ia (cutL (kd kvr) ((rg kvs).1))) (ia + 1) (cutL (kd kvr) ((rg kvs).2.1))) (ia + 2) (cutL (kd kvr) ((rg kvs).2.2.1))) (ia + 3) (cutL (kd kvr) ((rg kvs).2.2.2)))), hq⟩)
          · skip
            exact absurd rfl c_37
        · skip
          have hrc : rch (z kvr) vi 4 = none := rch_out (hz kvr hkvr) hr1
          refine h_callS (st1 := [.int (-12)]) [.ref (ad (39 + kvr)), .int vi, .int 4] [] ⟨hx, hb, hml, hown, hts⟩ hE hw (HT.to (c_X5_refusalOf l G A (CL ad) F (ad (39 + kvr)) (ad (45 + kvr)) (nI (z kvr)) (kd kvr) (hC.sh2 hkvr rfl rfl) vi 4) (V2 := some (.int (-12))) (by simp only [rfo, cif_f hm, cif_f hr1]) rfl) (va_cwS 3 hts gX5_write_X5_refusalOf rfl rfl rfl (by decide +kernel) ⟨Nat.le_of_ble_eq_true rfl, Nat.le_of_ble_eq_true rfl⟩) rfl hl.1 rfl (Nat.le_of_ble_eq_true rfl) dX5_write_30 ⟨Nat.le_of_ble_eq_true rfl, Nat.le_of_ble_eq_true rfl⟩ rfl (fun H locs hw => ?_)
          refine lv_istore (lv' := [(6, .int (-12)), (5, .ref (ad (39 + kvr))), (4, .ref (ad kvs)), (0, .ref (ad 51)), (1, .int (nI kvs)), (2, .int (nI kvr)), (3, .int vi)]) hx hb dX5_write_33 hl (by decide) rfl (fun ls hl => ?_)
          refine lv_iload hx hb dX5_write_35 (lv_at hl 0 rfl) ?_
          refine lv_if_eq (tgt := 43) hx hb dX5_write_37 (by decide) (fun c_37 => ?_) (fun c_37 => ?_)
          · skip
            exact absurd c_37 (by decide)
          · skip
            refine lv_iload hx hb dX5_write_40 (lv_at hl 0 rfl) ?_
            exact h_iretP hx hb hlk hr hw dX5_write_42 (by simp only [sp_write, xvs, xvr, hrc, cif_f hm, cif_f c_37]) (by simp only [sp_write, xvs, xvr, hrc, cif_f hm, cif_f c_37]; exact ⟨_, hC, hq⟩)

set_option maxHeartbeats 4000000 in
set_option maxRecDepth 100000 in
theorem c_X5_set (l : Launch) (G : GG) (A : Nat → Prop) (ad : Nat → Nat) (F : FM) (rg : Nat → Q4) (kd : Nat → Int32) (z : Nat → Nat) (pl : Nat → Nat → Int64) (cnt : Nat) (hR : CR G ad (rg, kd, z, pl, cnt) F) (hz : ∀ k, k < 6 → z k ≤ 16) (vs : Int32) (va : Int32) (vb : Int32) (vc : Int32) (vd : Int32) : PT l yX5_set wsX5_set { frames := 3, cells := 0, slots := 0, locals := 70 } G A (CL ad) [.ref (ad 51), .int vs, .int va, .int vb, .int vc, .int vd] F (some (.int (sp_set (rg, kd, z, pl, cnt) vs va vb vc vd).1)) (CR G ad (sp_set (rg, kd, z, pl, cnt) vs va vb vc vd).2) := by
  refine PT.ofW (cc := cX5_set) (maxL := 7) (ret := (some .int)) (plainFor_of_name (by decide)) rfl (Nat.le_of_ble_eq_true rfl) ?_
  intro p e s m below meth c ls hx hb hr hml hown hts hlk hE hw hl
  have hl : lv_has ls 7 [(0, .ref (ad 51)), (1, .int vs), (2, .int va), (3, .int vb), (4, .int vc), (5, .int vd)] := hl
  have hown : s.vm.findClass RX5 = some m.cls := hown
  have lk_43 := hts (.fieldLink RX5 43 "FourParts" "result" "LFourParts$Quad;") (by decide +kernel)
  have hinX5 : ∀ w ∈ u_ws RX5 TX5 6, w ∈ wsX5_set := by decide +kernel
  obtain ⟨q, hC, hq⟩ := hR
  refine lv_aload_n hx hb dX5_set_0 rfl (lv_at hl 0 rfl) ?_
  refine lv_iload_n hx hb dX5_set_1 rfl (lv_at hl 1 rfl) ?_
  rcases ix_cases 16 (by decide) vs with hvs | ⟨kvs, hkvs, rfl⟩
  · skip
    have xvs := ix_none hvs
    refine h_callV (st1 := [.null]) [.int vs] [] ⟨hx, hb, hml, hown, hts⟩ hE hw (c_X5_register_out l G A ad F _ hC vs hvs) (cwV 1 hts gX5_set_X5_register rfl rfl rfl (by decide +kernel) ⟨Nat.le_of_ble_eq_true rfl, Nat.le_of_ble_eq_true rfl⟩) hC.fp rfl rfl rfl hl.1 rfl (Nat.le_of_ble_eq_true rfl) dX5_set_2 ⟨Nat.le_of_ble_eq_true rfl, Nat.le_of_ble_eq_true rfl⟩ rfl (fun H locs hw => ?_)
    refine lv_astoreN (lv' := [(6, .null), (0, .ref (ad 51)), (1, .int vs), (2, .int va), (3, .int vb), (4, .int vc), (5, .int vd)]) hx hb dX5_set_5 hl (by decide) rfl (fun ls hl => ?_)
    refine lv_aloadN hx hb dX5_set_7 (lv_at hl 0 rfl) ?_
    refine lv_ifnonnullN hx hb dX5_set_9 ?_
    refine lv_iconst (v := (-1)) hx hb dX5_set_12 (by decide) ?_
    exact h_iretP hx hb hlk hr hw dX5_set_13 (by simp only [sp_set, xvs, hld]) (by simp only [sp_set, xvs, hld]; exact ⟨_, hC, hq⟩)
  · skip
    have xvs := ix_in (n := 16) hkvs (by decide)
    refine h_callV (st1 := [.ref (ad kvs)]) [.int (nI kvs)] [] ⟨hx, hb, hml, hown, hts⟩ hE hw (c_X5_register_in l G A ad F _ hC kvs hkvs) (cwV 1 hts gX5_set_X5_register rfl rfl rfl (by decide +kernel) ⟨Nat.le_of_ble_eq_true rfl, Nat.le_of_ble_eq_true rfl⟩) hC.fp rfl rfl rfl hl.1 rfl (Nat.le_of_ble_eq_true rfl) dX5_set_2 ⟨Nat.le_of_ble_eq_true rfl, Nat.le_of_ble_eq_true rfl⟩ rfl (fun H locs hw => ?_)
    refine lv_astore (lv' := [(6, .ref (ad kvs)), (0, .ref (ad 51)), (1, .int (nI kvs)), (2, .int va), (3, .int vb), (4, .int vc), (5, .int vd)]) hx hb dX5_set_5 hl (by decide) rfl (fun ls hl => ?_)
    refine lv_aload hx hb dX5_set_7 (lv_at hl 0 rfl) ?_
    refine lv_ifnonnull (tgt := 14) hx hb dX5_set_9 (by decide) ?_
    refine lv_aload_n hx hb dX5_set_14 rfl (lv_at hl 1 rfl) ?_
    refine h_get hx hb hE hw hts hinX5 hown (ci := 5) rfl 5 (by decide) lk_43 (fun _ h9 => h9) hC.fp rfl dX5_set_15 ?_
    refine lv_iload_n hx hb dX5_set_18 rfl (lv_at hl 3 rfl) ?_
    refine lv_i2l hx hb dX5_set_19 rfl ?_
    refine lv_iload_n hx hb dX5_set_20 rfl (lv_at hl 4 rfl) ?_
    refine lv_i2l hx hb dX5_set_21 rfl ?_
    refine lv_iload hx hb dX5_set_22 (lv_at hl 5 rfl) ?_
    refine lv_i2l hx hb dX5_set_24 rfl ?_
    refine lv_iload hx hb dX5_set_25 (lv_at hl 6 rfl) ?_
    refine lv_i2l hx hb dX5_set_27 rfl ?_
    refine h_callV (st1 := []) [.long va.toInt64, .long vb.toInt64, .long vc.toInt64, .long vd.toInt64] [] ⟨hx, hb, hml, hown, hts⟩ hE hw (c_X1_become l G A (CL ad) F (ad 28) (q 28) (hC.q (i := 28) (by decide)) va.toInt64 vb.toInt64 vc.toInt64 vd.toInt64) (cwV 4 hts gX5_set_X1_become rfl rfl rfl (by decide +kernel) ⟨Nat.le_of_ble_eq_true rfl, Nat.le_of_ble_eq_true rfl⟩) (hC.q (i := 28) (by decide)) rfl rfl rfl hl.1 rfl (Nat.le_of_ble_eq_true rfl) dX5_set_28 ⟨Nat.le_of_ble_eq_true rfl, Nat.le_of_ble_eq_true rfl⟩ rfl (fun H locs hw => ?_)
    refine lv_aload_n hx hb dX5_set_31 rfl (lv_at hl 1 rfl) ?_
    refine h_get hx hb hE hw hts hinX5 hown (ci := 5) rfl 5 (by decide) lk_43 (fun _ h9 => h9) (pt_ne hC.fp (hC.ne (i := 51) (j := 28) (by decide) (by decide) (by decide))) rfl dX5_set_32 ?_
    refine h_callV (st1 := [.int (bI (qone (va.toInt64, vb.toInt64, vc.toInt64, vd.toInt64)))]) [] [] ⟨hx, hb, hml, hown, hts⟩ hE hw (c_X1_isAllEvenOrAllOdd l G A (CL ad) (va_up F (ad 28) (eq4 (va.toInt64, vb.toInt64, vc.toInt64, vd.toInt64))) (ad 28) (va.toInt64, vb.toInt64, vc.toInt64, vd.toInt64) (pt_up (hC.q (i := 28) (by decide)))) (cwV 0 hts gX5_set_X1_isAllEvenOrAllOdd rfl rfl rfl (by decide +kernel) ⟨Nat.le_of_ble_eq_true rfl, Nat.le_of_ble_eq_true rfl⟩) (pt_up (hC.q (i := 28) (by decide))) rfl rfl rfl hl.1 rfl (Nat.le_of_ble_eq_true rfl) dX5_set_35 ⟨Nat.le_of_ble_eq_true rfl, Nat.le_of_ble_eq_true rfl⟩ rfl (fun H locs hw => ?_)
    refine lv_if_ne (tgt := 44) hx hb dX5_set_38 (by decide) (fun c_38 => ?_) (fun c_38 => ?_)
    · skip
      have c_38 := bI_ne.mp c_38
      refine lv_aload hx hb dX5_set_44 (lv_at hl 0 rfl) ?_
      refine lv_aload_n hx hb dX5_set_46 rfl (lv_at hl 1 rfl) ?_
      refine h_get hx hb hE hw hts hinX5 hown (ci := 5) rfl 5 (by decide) lk_43 (fun _ h9 => h9) (pt_ne hC.fp (hC.ne (i := 51) (j := 28) (by decide) (by decide) (by decide))) rfl dX5_set_47 ?_
      by_cases hh : qhigh (va.toInt64, vb.toInt64, vc.toInt64, vd.toInt64)
      · skip
        refine h_callS (st1 := [.int (-3)]) [.ref (ad kvs), .ref (ad 28)] [] ⟨hx, hb, hml, hown, hts⟩ hE hw (c_X5_hold_hi l G A (CL ad) (va_up F (ad 28) (eq4 (va.toInt64, vb.toInt64, vc.toInt64, vd.toInt64))) (ad kvs) (ad 28) (rg kvs) (va.toInt64, vb.toInt64, vc.toInt64, vd.toInt64) (pt_ne (pt_eq (hC.q (i := kvs) (Nat.lt_of_lt_of_le hkvs (by decide))) (by rw [show ((q, kd, (fun k => nI (z k)), pl, nI cnt) : CS).1 kvs = rg kvs from hq kvs (Nat.lt_of_lt_of_le hkvs (by decide))])) (hC.ne (i := kvs) (j := 28) (Nat.lt_of_lt_of_le hkvs (by decide)) (by decide) (by omega))) (pt_up (hC.q (i := 28) (by decide))) hh) (va_cwS 2 hts gX5_set_X5_hold rfl rfl rfl (by decide +kernel) ⟨Nat.le_of_ble_eq_true rfl, Nat.le_of_ble_eq_true rfl⟩) rfl hl.1 rfl (Nat.le_of_ble_eq_true rfl) dX5_set_50 ⟨Nat.le_of_ble_eq_true rfl, Nat.le_of_ble_eq_true rfl⟩ rfl (fun H locs hw => ?_)
        exact h_iretP hx hb hlk hr hw dX5_set_53 (by simp only [sp_set, xvs, cif_t c_38, cif_t hh, hld]) (by simp only [sp_set, xvs, cif_t c_38, cif_t hh, hld]; exact ⟨_, (CW.setq hC (i := 28) (by decide) (va.toInt64, vb.toInt64, vc.toInt64, vd.toInt64)), (qscr hq (by decide))⟩)
      · skip
        refine h_callS (st1 := [.int 0]) [.ref (ad kvs), .ref (ad 28)] [] ⟨hx, hb, hml, hown, hts⟩ hE hw (c_X5_hold_lo l G A (CL ad) (va_up F (ad 28) (eq4 (va.toInt64, vb.toInt64, vc.toInt64, vd.toInt64))) (ad kvs) (ad 28) (rg kvs) (va.toInt64, vb.toInt64, vc.toInt64, vd.toInt64) (pt_ne (pt_eq (hC.q (i := kvs) (Nat.lt_of_lt_of_le hkvs (by decide))) (by rw [show ((q, kd, (fun k => nI (z k)), pl, nI cnt) : CS).1 kvs = rg kvs from hq kvs (Nat.lt_of_lt_of_le hkvs (by decide))])) (hC.ne (i := kvs) (j := 28) (Nat.lt_of_lt_of_le hkvs (by decide)) (by decide) (by omega))) (pt_up (hC.q (i := 28) (by decide))) hh) (va_cwS 2 hts gX5_set_X5_hold rfl rfl rfl (by decide +kernel) ⟨Nat.le_of_ble_eq_true rfl, Nat.le_of_ble_eq_true rfl⟩) rfl hl.1 rfl (Nat.le_of_ble_eq_true rfl) dX5_set_50 ⟨Nat.le_of_ble_eq_true rfl, Nat.le_of_ble_eq_true rfl⟩ rfl (fun H locs hw => ?_)
        exact h_iretP hx hb hlk hr hw dX5_set_53 (by simp only [sp_set, xvs, cif_t c_38, cif_f hh, hld]) (by simp only [sp_set, xvs, cif_t c_38, cif_f hh, hld]; exact ⟨_, (CW.setq (CW.setq hC (i := 28) (by decide) (va.toInt64, vb.toInt64, vc.toInt64, vd.toInt64)) (i := kvs) (Nat.lt_of_lt_of_le hkvs (by decide)) (va.toInt64, vb.toInt64, vc.toInt64, vd.toInt64)), (qup (qscr hq (by decide)))⟩)
    · skip
      have c_38 := bI_eq.mp c_38
      refine lv_bipush (v := (-2)) hx hb dX5_set_41 (by decide) ?_
      exact h_iretP hx hb hlk hr hw dX5_set_43 (by simp only [sp_set, xvs, cif_f c_38, hld]) (by simp only [sp_set, xvs, cif_f c_38, hld]; exact ⟨_, (CW.setq hC (i := 28) (by decide) (va.toInt64, vb.toInt64, vc.toInt64, vd.toInt64)), (qscr hq (by decide))⟩)

set_option maxHeartbeats 4000000 in
set_option maxRecDepth 100000 in
theorem c_X5_part (l : Launch) (G : GG) (A : Nat → Prop) (ad : Nat → Nat) (F : FM) (rg : Nat → Q4) (kd : Nat → Int32) (z : Nat → Nat) (pl : Nat → Nat → Int64) (cnt : Nat) (hR : CR G ad (rg, kd, z, pl, cnt) F) (hz : ∀ k, k < 6 → z k ≤ 16) (vs : Int32) (vw : Int32) : PT l yX5_part wsX5_part { frames := 3, cells := 0, slots := 0, locals := 76 } G A (CL ad) [.ref (ad 51), .int vs, .int vw] F (some (.int (sp_part (rg, kd, z, pl, cnt) vs vw).1)) (CR G ad (sp_part (rg, kd, z, pl, cnt) vs vw).2) := by
  refine PT.ofW (cc := cX5_part) (maxL := 4) (ret := (some .int)) (plainFor_of_name (by decide)) rfl (Nat.le_of_ble_eq_true rfl) ?_
  intro p e s m below meth c ls hx hb hr hml hown hts hlk hE hw hl
  have hl : lv_has ls 4 [(0, .ref (ad 51)), (1, .int vs), (2, .int vw)] := hl
  have hown : s.vm.findClass RX5 = some m.cls := hown
  have lk_102 := hts (.fieldLink RX5 102 "FourParts$Quad" "a" "J") (by decide +kernel)
  have hinX1 : ∀ w ∈ u_ws RX1 TX1 4, w ∈ wsX5_part := by decide +kernel
  have lk_106 := hts (.fieldLink RX5 106 "FourParts$Quad" "b" "J") (by decide +kernel)
  have lk_109 := hts (.fieldLink RX5 109 "FourParts$Quad" "c" "J") (by decide +kernel)
  have lk_112 := hts (.fieldLink RX5 112 "FourParts$Quad" "d" "J") (by decide +kernel)
  obtain ⟨q, hC, hq⟩ := hR
  refine lv_aload_n hx hb dX5_part_0 rfl (lv_at hl 0 rfl) ?_
  refine lv_iload_n hx hb dX5_part_1 rfl (lv_at hl 1 rfl) ?_
  rcases ix_cases 16 (by decide) vs with hvs | ⟨kvs, hkvs, rfl⟩
  · skip
    have xvs := ix_none hvs
    refine h_callV (st1 := [.null]) [.int vs] [] ⟨hx, hb, hml, hown, hts⟩ hE hw (c_X5_register_out l G A ad F _ hC vs hvs) (cwV 1 hts gX5_part_X5_register rfl rfl rfl (by decide +kernel) ⟨Nat.le_of_ble_eq_true rfl, Nat.le_of_ble_eq_true rfl⟩) hC.fp rfl rfl rfl hl.1 rfl (Nat.le_of_ble_eq_true rfl) dX5_part_2 ⟨Nat.le_of_ble_eq_true rfl, Nat.le_of_ble_eq_true rfl⟩ rfl (fun H locs hw => ?_)
    refine lv_astore_nN (lv' := [(3, .null), (0, .ref (ad 51)), (1, .int vs), (2, .int vw)]) hx hb dX5_part_5 rfl hl (by decide) rfl (fun ls hl => ?_)
    refine lv_aload_nN hx hb dX5_part_6 rfl (lv_at hl 0 rfl) ?_
    refine lv_ifnonnullN hx hb dX5_part_7 ?_
    refine lv_ldc hx hb (v := (-1000000000)) hown (hts (.constant RX5 119 (-1000000000)) (by decide +kernel)) dX5_part_10 ?_
    exact h_iretP hx hb hlk hr hw dX5_part_12 (by simp only [sp_part, xvs]) (by simp only [sp_part, xvs]; exact ⟨_, hC, hq⟩)
  · skip
    have xvs := ix_in (n := 16) hkvs (by decide)
    refine h_callV (st1 := [.ref (ad kvs)]) [.int (nI kvs)] [] ⟨hx, hb, hml, hown, hts⟩ hE hw (c_X5_register_in l G A ad F _ hC kvs hkvs) (cwV 1 hts gX5_part_X5_register rfl rfl rfl (by decide +kernel) ⟨Nat.le_of_ble_eq_true rfl, Nat.le_of_ble_eq_true rfl⟩) hC.fp rfl rfl rfl hl.1 rfl (Nat.le_of_ble_eq_true rfl) dX5_part_2 ⟨Nat.le_of_ble_eq_true rfl, Nat.le_of_ble_eq_true rfl⟩ rfl (fun H locs hw => ?_)
    refine lv_astore_n (lv' := [(3, .ref (ad kvs)), (0, .ref (ad 51)), (1, .int (nI kvs)), (2, .int vw)]) hx hb dX5_part_5 rfl hl (by decide) rfl (fun ls hl => ?_)
    refine lv_aload_n hx hb dX5_part_6 rfl (lv_at hl 0 rfl) ?_
    refine lv_ifnonnull (tgt := 13) hx hb dX5_part_7 (by decide) ?_
    refine lv_iload_n hx hb dX5_part_13 rfl (lv_at hl 3 rfl) ?_
    by_cases k0 : vw.toInt < 0 ∨ 6 < vw.toInt
    · refine lv_tableOut (tgt := 105) hx hb dX5_part_14 k0 (by decide) ?_
      have kn : ∀ y : Int32, 0 ≤ y.toInt → y.toInt ≤ 6 → ¬ vw = y := fun y h1 h2 w => by rw [w] at k0; omega
      refine lv_ldc hx hb (v := (-1000000000)) hown (hts (.constant RX5 119 (-1000000000)) (by decide +kernel)) dX5_part_105 ?_
      exact h_iretP hx hb hlk hr hw dX5_part_107 (by simp only [sp_part, xvs]; rw [if_neg (kn 0 (by decide) (by decide)), if_neg (kn 1 (by decide) (by decide)), if_neg (kn 2 (by decide) (by decide)), if_neg (kn 3 (by decide) (by decide)), if_neg (kn 4 (by decide) (by decide)), if_neg (kn 5 (by decide) (by decide)), if_neg (kn 6 (by decide) (by decide))]) (by simp only [sp_part, xvs]; exact ⟨_, hC, hq⟩)
    · rcases int_lt7 (k := vw) (by omega) (by omega) with rfl | rfl | rfl | rfl | rfl | rfl | rfl
      · refine lv_tableIn (off := 42) (tgt := 56) hx hb dX5_part_14 (by decide) (by decide) rfl (by decide) ?_
        refine lv_aload_n hx hb dX5_part_56 rfl (lv_at hl 0 rfl) ?_
        refine h_get hx hb hE hw hts hinX1 hown (ci := 1) rfl 0 (by decide) lk_102 (fun _ h9 => h9) (pt_eq (hC.q (i := kvs) (Nat.lt_of_lt_of_le hkvs (by decide))) (by rw [show ((q, kd, (fun k => nI (z k)), pl, nI cnt) : CS).1 kvs = rg kvs from hq kvs (Nat.lt_of_lt_of_le hkvs (by decide))])) rfl dX5_part_57 ?_
        refine lv_l2i hx hb dX5_part_60 rfl ?_
        exact h_iretP hx hb hlk hr hw dX5_part_61 (by simp only [sp_part, xvs]; rw [if_pos trivial]) (by simp only [sp_part, xvs]; exact ⟨_, hC, hq⟩)
      · refine lv_tableIn (off := 48) (tgt := 62) hx hb dX5_part_14 (by decide) (by decide) rfl (by decide) ?_
        refine lv_aload_n hx hb dX5_part_62 rfl (lv_at hl 0 rfl) ?_
        refine h_get hx hb hE hw hts hinX1 hown (ci := 1) rfl 1 (by decide) lk_106 (fun _ h9 => h9) (pt_eq (hC.q (i := kvs) (Nat.lt_of_lt_of_le hkvs (by decide))) (by rw [show ((q, kd, (fun k => nI (z k)), pl, nI cnt) : CS).1 kvs = rg kvs from hq kvs (Nat.lt_of_lt_of_le hkvs (by decide))])) rfl dX5_part_63 ?_
        refine lv_l2i hx hb dX5_part_66 rfl ?_
        exact h_iretP hx hb hlk hr hw dX5_part_67 (by simp only [sp_part, xvs]; rw [if_neg (by decide), if_pos trivial]) (by simp only [sp_part, xvs]; exact ⟨_, hC, hq⟩)
      · refine lv_tableIn (off := 54) (tgt := 68) hx hb dX5_part_14 (by decide) (by decide) rfl (by decide) ?_
        refine lv_aload_n hx hb dX5_part_68 rfl (lv_at hl 0 rfl) ?_
        refine h_get hx hb hE hw hts hinX1 hown (ci := 1) rfl 2 (by decide) lk_109 (fun _ h9 => h9) (pt_eq (hC.q (i := kvs) (Nat.lt_of_lt_of_le hkvs (by decide))) (by rw [show ((q, kd, (fun k => nI (z k)), pl, nI cnt) : CS).1 kvs = rg kvs from hq kvs (Nat.lt_of_lt_of_le hkvs (by decide))])) rfl dX5_part_69 ?_
        refine lv_l2i hx hb dX5_part_72 rfl ?_
        exact h_iretP hx hb hlk hr hw dX5_part_73 (by simp only [sp_part, xvs]; rw [if_neg (by decide), if_neg (by decide), if_pos trivial]) (by simp only [sp_part, xvs]; exact ⟨_, hC, hq⟩)
      · refine lv_tableIn (off := 60) (tgt := 74) hx hb dX5_part_14 (by decide) (by decide) rfl (by decide) ?_
        refine lv_aload_n hx hb dX5_part_74 rfl (lv_at hl 0 rfl) ?_
        refine h_get hx hb hE hw hts hinX1 hown (ci := 1) rfl 3 (by decide) lk_112 (fun _ h9 => h9) (pt_eq (hC.q (i := kvs) (Nat.lt_of_lt_of_le hkvs (by decide))) (by rw [show ((q, kd, (fun k => nI (z k)), pl, nI cnt) : CS).1 kvs = rg kvs from hq kvs (Nat.lt_of_lt_of_le hkvs (by decide))])) rfl dX5_part_75 ?_
        refine lv_l2i hx hb dX5_part_78 rfl ?_
        exact h_iretP hx hb hlk hr hw dX5_part_79 (by simp only [sp_part, xvs]; rw [if_neg (by decide), if_neg (by decide), if_neg (by decide), if_pos trivial]) (by simp only [sp_part, xvs]; exact ⟨_, hC, hq⟩)
      · refine lv_tableIn (off := 66) (tgt := 80) hx hb dX5_part_14 (by decide) (by decide) rfl (by decide) ?_
        refine lv_aload_n hx hb dX5_part_80 rfl (lv_at hl 0 rfl) ?_
        refine h_callV (st1 := [.long (qnorm (rg kvs))]) [] [] ⟨hx, hb, hml, hown, hts⟩ hE hw (c_X1_norm l G A (CL ad) F (ad kvs) (rg kvs) (pt_eq (hC.q (i := kvs) (Nat.lt_of_lt_of_le hkvs (by decide))) (by rw [show ((q, kd, (fun k => nI (z k)), pl, nI cnt) : CS).1 kvs = rg kvs from hq kvs (Nat.lt_of_lt_of_le hkvs (by decide))]))) (cwV 0 hts gX5_part_X1_norm rfl rfl rfl (by decide +kernel) ⟨Nat.le_of_ble_eq_true rfl, Nat.le_of_ble_eq_true rfl⟩) (pt_eq (hC.q (i := kvs) (Nat.lt_of_lt_of_le hkvs (by decide))) (by rw [show ((q, kd, (fun k => nI (z k)), pl, nI cnt) : CS).1 kvs = rg kvs from hq kvs (Nat.lt_of_lt_of_le hkvs (by decide))])) rfl rfl rfl hl.1 rfl (Nat.le_of_ble_eq_true rfl) dX5_part_81 ⟨Nat.le_of_ble_eq_true rfl, Nat.le_of_ble_eq_true rfl⟩ rfl (fun H locs hw => ?_)
        refine lv_l2i hx hb dX5_part_84 rfl ?_
        exact h_iretP hx hb hlk hr hw dX5_part_85 (by simp only [sp_part, xvs]; rw [if_neg (by decide), if_neg (by decide), if_neg (by decide), if_neg (by decide), if_pos trivial]) (by simp only [sp_part, xvs]; exact ⟨_, hC, hq⟩)
      · refine lv_tableIn (off := 72) (tgt := 86) hx hb dX5_part_14 (by decide) (by decide) rfl (by decide) ?_
        refine lv_aload_n hx hb dX5_part_86 rfl (lv_at hl 0 rfl) ?_
        refine h_callV (st1 := [.int (bI (qpr (rg kvs)))]) [] [] ⟨hx, hb, hml, hown, hts⟩ hE hw (c_X1_isPrimitive l G A (CL ad) F (ad kvs) (rg kvs) (pt_eq (hC.q (i := kvs) (Nat.lt_of_lt_of_le hkvs (by decide))) (by rw [show ((q, kd, (fun k => nI (z k)), pl, nI cnt) : CS).1 kvs = rg kvs from hq kvs (Nat.lt_of_lt_of_le hkvs (by decide))]))) (cwV 0 hts gX5_part_X1_isPrimitive rfl rfl rfl (by decide +kernel) ⟨Nat.le_of_ble_eq_true rfl, Nat.le_of_ble_eq_true rfl⟩) (pt_eq (hC.q (i := kvs) (Nat.lt_of_lt_of_le hkvs (by decide))) (by rw [show ((q, kd, (fun k => nI (z k)), pl, nI cnt) : CS).1 kvs = rg kvs from hq kvs (Nat.lt_of_lt_of_le hkvs (by decide))])) rfl rfl rfl hl.1 rfl (Nat.le_of_ble_eq_true rfl) dX5_part_87 ⟨Nat.le_of_ble_eq_true rfl, Nat.le_of_ble_eq_true rfl⟩ rfl (fun H locs hw => ?_)
        refine lv_if_eq (tgt := 97) hx hb dX5_part_90 (by decide) (fun c_90 => ?_) (fun c_90 => ?_)
        · skip
          have c_90 := bI_eq.mp c_90
          refine lv_iconst (v := 0) hx hb dX5_part_97 (by decide) ?_
          exact h_iretP hx hb hlk hr hw dX5_part_98 (by simp only [sp_part, xvs]; rw [if_neg (by decide), if_neg (by decide), if_neg (by decide), if_neg (by decide), if_neg (by decide), if_pos trivial, bI_f c_90]) (by simp only [sp_part, xvs]; exact ⟨_, hC, hq⟩)
        · skip
          have c_90 := bI_ne.mp c_90
          refine lv_iconst (v := 1) hx hb dX5_part_93 (by decide) ?_
          refine lv_goto (tgt := 98) hx hb dX5_part_94 (by decide) ?_
          exact h_iretP hx hb hlk hr hw dX5_part_98 (by simp only [sp_part, xvs]; rw [if_neg (by decide), if_neg (by decide), if_neg (by decide), if_neg (by decide), if_neg (by decide), if_pos trivial, bI_t c_90]) (by simp only [sp_part, xvs]; exact ⟨_, hC, hq⟩)
      · refine lv_tableIn (off := 85) (tgt := 99) hx hb dX5_part_14 (by decide) (by decide) rfl (by decide) ?_
        refine lv_aload_n hx hb dX5_part_99 rfl (lv_at hl 1 rfl) ?_
        refine lv_aload_n hx hb dX5_part_100 rfl (lv_at hl 0 rfl) ?_
        refine h_callVP (st1 := [.int (fuN (rg kvs) 24 0)]) [.ref (ad kvs)] [] ⟨hx, hb, hml, hown, hts⟩ hE hw (c_X5_unitNumber l G A ad F _ _ hC kvs (rg kvs) (by omega) (hq kvs (by omega))) (cwV 1 hts gX5_part_X5_unitNumber rfl rfl rfl (by decide +kernel) ⟨Nat.le_of_ble_eq_true rfl, Nat.le_of_ble_eq_true rfl⟩) hC.fp rfl rfl rfl hl.1 rfl (Nat.le_of_ble_eq_true rfl) dX5_part_101 ⟨Nat.le_of_ble_eq_true rfl, Nat.le_of_ble_eq_true rfl⟩ rfl (fun F H locs hP hw => ?_)
        obtain ⟨q9, hC9, hk9⟩ := hP
        exact h_iretP hx hb hlk hr hw dX5_part_104 (by simp only [sp_part, xvs]; rw [if_neg (by decide), if_neg (by decide), if_neg (by decide), if_neg (by decide), if_neg (by decide), if_neg (by decide), if_pos trivial]) (by simp only [sp_part, xvs]; exact ⟨_, hC9, (fun k hk => (hk9 k (by omega)).trans (hq k hk))⟩)

set_option maxHeartbeats 4000000 in
set_option maxRecDepth 100000 in
theorem c_X5_work (l : Launch) (G : GG) (A : Nat → Prop) (ad : Nat → Nat) (F : FM) (rg : Nat → Q4) (kd : Nat → Int32) (z : Nat → Nat) (pl : Nat → Nat → Int64) (cnt : Nat) (hR : CR G ad (rg, kd, z, pl, cnt) F) (hz : ∀ k, k < 6 → z k ≤ 16) (vs : Int32) (vh : Int32) (vt : Int32) (vu : Int32) : PT l yX5_work wsX5_work { frames := 3, cells := 0, slots := 0, locals := 70 } G A (CL ad) [.ref (ad 51), .int vs, .int vh, .int vt, .int vu] F (some (.int (sp_work (rg, kd, z, pl, cnt) vs vh vt vu).1)) (CR G ad (sp_work (rg, kd, z, pl, cnt) vs vh vt vu).2) := by
  refine PT.ofW (cc := cX5_work) (maxL := 8) (ret := (some .int)) (plainFor_of_name (by decide)) rfl (Nat.le_of_ble_eq_true rfl) ?_
  intro p e s m below meth c ls hx hb hr hml hown hts hlk hE hw hl
  have hl : lv_has ls 8 [(0, .ref (ad 51)), (1, .int vs), (2, .int vh), (3, .int vt), (4, .int vu)] := hl
  have hown : s.vm.findClass RX5 = some m.cls := hown
  have lk_43 := hts (.fieldLink RX5 43 "FourParts" "result" "LFourParts$Quad;") (by decide +kernel)
  have hinX5 : ∀ w ∈ u_ws RX5 TX5 6, w ∈ wsX5_work := by decide +kernel
  obtain ⟨q, hC, hq⟩ := hR
  refine lv_aload_n hx hb dX5_work_0 rfl (lv_at hl 0 rfl) ?_
  refine lv_iload_n hx hb dX5_work_1 rfl (lv_at hl 1 rfl) ?_
  rcases ix_cases 16 (by decide) vs with hvs | ⟨kvs, hkvs, rfl⟩
  · skip
    have xvs := ix_none hvs
    refine h_callV (st1 := [.null]) [.int vs] [] ⟨hx, hb, hml, hown, hts⟩ hE hw (c_X5_register_out l G A ad F _ hC vs hvs) (cwV 1 hts gX5_work_X5_register rfl rfl rfl (by decide +kernel) ⟨Nat.le_of_ble_eq_true rfl, Nat.le_of_ble_eq_true rfl⟩) hC.fp rfl rfl rfl hl.1 rfl (Nat.le_of_ble_eq_true rfl) dX5_work_2 ⟨Nat.le_of_ble_eq_true rfl, Nat.le_of_ble_eq_true rfl⟩ rfl (fun H locs hw => ?_)
    refine lv_astoreN (lv' := [(5, .null), (0, .ref (ad 51)), (1, .int vs), (2, .int vh), (3, .int vt), (4, .int vu)]) hx hb dX5_work_5 hl (by decide) rfl (fun ls hl => ?_)
    refine lv_aload_n hx hb dX5_work_7 rfl (lv_at hl 1 rfl) ?_
    refine lv_iload_n hx hb dX5_work_8 rfl (lv_at hl 4 rfl) ?_
    rcases ix_cases 16 (by decide) vt with hvt | ⟨kvt, hkvt, rfl⟩
    · skip
      have xvt := ix_none hvt
      refine h_callV (st1 := [.null]) [.int vt] [] ⟨hx, hb, hml, hown, hts⟩ hE hw (c_X5_register_out l G A ad F _ hC vt hvt) (cwV 1 hts gX5_work_X5_register rfl rfl rfl (by decide +kernel) ⟨Nat.le_of_ble_eq_true rfl, Nat.le_of_ble_eq_true rfl⟩) hC.fp rfl rfl rfl hl.1 rfl (Nat.le_of_ble_eq_true rfl) dX5_work_9 ⟨Nat.le_of_ble_eq_true rfl, Nat.le_of_ble_eq_true rfl⟩ rfl (fun H locs hw => ?_)
      refine lv_astoreN (lv' := [(6, .null), (5, .null), (0, .ref (ad 51)), (1, .int vs), (2, .int vh), (3, .int vt), (4, .int vu)]) hx hb dX5_work_12 hl (by decide) rfl (fun ls hl => ?_)
      refine lv_iload_n hx hb dX5_work_14 rfl (lv_at hl 4 rfl) ?_
      refine lv_iconst (v := 3) hx hb dX5_work_15 (by decide) ?_
      refine lv_icmp_ne (tgt := 24) hx hb dX5_work_16 (by decide) (fun c_16 => ?_) (fun c_16 => ?_)
      · skip
        refine lv_aload_n hx hb dX5_work_24 rfl (lv_at hl 2 rfl) ?_
        refine lv_iload hx hb dX5_work_25 (lv_at hl 6 rfl) ?_
        rcases ix_cases 16 (by decide) vu with hvu | ⟨kvu, hkvu, rfl⟩
        · skip
          have xvu := ix_none hvu
          refine h_callV (st1 := [.null]) [.int vu] [] ⟨hx, hb, hml, hown, hts⟩ hE hw (c_X5_register_out l G A ad F _ hC vu hvu) (cwV 1 hts gX5_work_X5_register rfl rfl rfl (by decide +kernel) ⟨Nat.le_of_ble_eq_true rfl, Nat.le_of_ble_eq_true rfl⟩) hC.fp rfl rfl rfl hl.1 rfl (Nat.le_of_ble_eq_true rfl) dX5_work_27 ⟨Nat.le_of_ble_eq_true rfl, Nat.le_of_ble_eq_true rfl⟩ rfl (fun H locs hw => ?_)
          refine lv_astoreN (lv' := [(7, .null), (6, .null), (5, .null), (0, .ref (ad 51)), (1, .int vs), (2, .int vh), (3, .int vt), (4, .int vu)]) hx hb dX5_work_30 hl (by decide) rfl (fun ls hl => ?_)
          refine lv_aloadN hx hb dX5_work_32 (lv_at hl 2 rfl) ?_
          refine lv_ifnullN (tgt := 47) hx hb dX5_work_34 (by decide) ?_
          refine lv_iconst (v := (-1)) hx hb dX5_work_47 (by decide) ?_
          exact h_iretP hx hb hlk hr hw dX5_work_48 (by simp only [sp_work, xvs, xvt, xvu, cif_f c_16, hld]) (by simp only [sp_work, xvs, xvt, xvu, cif_f c_16, hld]; exact ⟨_, hC, hq⟩)
        · skip
          have xvu := ix_in (n := 16) hkvu (by decide)
          refine h_callV (st1 := [.ref (ad kvu)]) [.int (nI kvu)] [] ⟨hx, hb, hml, hown, hts⟩ hE hw (c_X5_register_in l G A ad F _ hC kvu hkvu) (cwV 1 hts gX5_work_X5_register rfl rfl rfl (by decide +kernel) ⟨Nat.le_of_ble_eq_true rfl, Nat.le_of_ble_eq_true rfl⟩) hC.fp rfl rfl rfl hl.1 rfl (Nat.le_of_ble_eq_true rfl) dX5_work_27 ⟨Nat.le_of_ble_eq_true rfl, Nat.le_of_ble_eq_true rfl⟩ rfl (fun H locs hw => ?_)
          refine lv_astore (lv' := [(7, .ref (ad kvu)), (6, .null), (5, .null), (0, .ref (ad 51)), (1, .int vs), (2, .int vh), (3, .int vt), (4, .int (nI kvu))]) hx hb dX5_work_30 hl (by decide) rfl (fun ls hl => ?_)
          refine lv_aloadN hx hb dX5_work_32 (lv_at hl 2 rfl) ?_
          refine lv_ifnullN (tgt := 47) hx hb dX5_work_34 (by decide) ?_
          refine lv_iconst (v := (-1)) hx hb dX5_work_47 (by decide) ?_
          exact h_iretP hx hb hlk hr hw dX5_work_48 (by simp only [sp_work, xvs, xvt, xvu, cif_f c_16, hld]) (by simp only [sp_work, xvs, xvt, xvu, cif_f c_16, hld]; exact ⟨_, hC, hq⟩)
      · skip
        refine lv_aloadN hx hb dX5_work_19 (lv_at hl 0 rfl) ?_
        refine lv_goto (tgt := 30) hx hb dX5_work_21 (by decide) ?_
        refine lv_astoreN (lv' := [(7, .null), (6, .null), (5, .null), (0, .ref (ad 51)), (1, .int vs), (2, .int vh), (3, .int vt), (4, .int vu)]) hx hb dX5_work_30 hl (by decide) rfl (fun ls hl => ?_)
        refine lv_aloadN hx hb dX5_work_32 (lv_at hl 2 rfl) ?_
        refine lv_ifnullN (tgt := 47) hx hb dX5_work_34 (by decide) ?_
        refine lv_iconst (v := (-1)) hx hb dX5_work_47 (by decide) ?_
        exact h_iretP hx hb hlk hr hw dX5_work_48 (by simp only [sp_work, xvs, xvt, cif_t c_16, hld]) (by simp only [sp_work, xvs, xvt, cif_t c_16, hld]; exact ⟨_, hC, hq⟩)
    · skip
      have xvt := ix_in (n := 16) hkvt (by decide)
      refine h_callV (st1 := [.ref (ad kvt)]) [.int (nI kvt)] [] ⟨hx, hb, hml, hown, hts⟩ hE hw (c_X5_register_in l G A ad F _ hC kvt hkvt) (cwV 1 hts gX5_work_X5_register rfl rfl rfl (by decide +kernel) ⟨Nat.le_of_ble_eq_true rfl, Nat.le_of_ble_eq_true rfl⟩) hC.fp rfl rfl rfl hl.1 rfl (Nat.le_of_ble_eq_true rfl) dX5_work_9 ⟨Nat.le_of_ble_eq_true rfl, Nat.le_of_ble_eq_true rfl⟩ rfl (fun H locs hw => ?_)
      refine lv_astore (lv' := [(6, .ref (ad kvt)), (5, .null), (0, .ref (ad 51)), (1, .int vs), (2, .int vh), (3, .int (nI kvt)), (4, .int vu)]) hx hb dX5_work_12 hl (by decide) rfl (fun ls hl => ?_)
      refine lv_iload_n hx hb dX5_work_14 rfl (lv_at hl 4 rfl) ?_
      refine lv_iconst (v := 3) hx hb dX5_work_15 (by decide) ?_
      refine lv_icmp_ne (tgt := 24) hx hb dX5_work_16 (by decide) (fun c_16 => ?_) (fun c_16 => ?_)
      · skip
        refine lv_aload_n hx hb dX5_work_24 rfl (lv_at hl 2 rfl) ?_
        refine lv_iload hx hb dX5_work_25 (lv_at hl 6 rfl) ?_
        rcases ix_cases 16 (by decide) vu with hvu | ⟨kvu, hkvu, rfl⟩
        · skip
          have xvu := ix_none hvu
          refine h_callV (st1 := [.null]) [.int vu] [] ⟨hx, hb, hml, hown, hts⟩ hE hw (c_X5_register_out l G A ad F _ hC vu hvu) (cwV 1 hts gX5_work_X5_register rfl rfl rfl (by decide +kernel) ⟨Nat.le_of_ble_eq_true rfl, Nat.le_of_ble_eq_true rfl⟩) hC.fp rfl rfl rfl hl.1 rfl (Nat.le_of_ble_eq_true rfl) dX5_work_27 ⟨Nat.le_of_ble_eq_true rfl, Nat.le_of_ble_eq_true rfl⟩ rfl (fun H locs hw => ?_)
          refine lv_astoreN (lv' := [(7, .null), (6, .ref (ad kvt)), (5, .null), (0, .ref (ad 51)), (1, .int vs), (2, .int vh), (3, .int (nI kvt)), (4, .int vu)]) hx hb dX5_work_30 hl (by decide) rfl (fun ls hl => ?_)
          refine lv_aloadN hx hb dX5_work_32 (lv_at hl 2 rfl) ?_
          refine lv_ifnullN (tgt := 47) hx hb dX5_work_34 (by decide) ?_
          refine lv_iconst (v := (-1)) hx hb dX5_work_47 (by decide) ?_
          exact h_iretP hx hb hlk hr hw dX5_work_48 (by simp only [sp_work, xvs, xvt, xvu, cif_f c_16, hld]) (by simp only [sp_work, xvs, xvt, xvu, cif_f c_16, hld]; exact ⟨_, hC, hq⟩)
        · skip
          have xvu := ix_in (n := 16) hkvu (by decide)
          refine h_callV (st1 := [.ref (ad kvu)]) [.int (nI kvu)] [] ⟨hx, hb, hml, hown, hts⟩ hE hw (c_X5_register_in l G A ad F _ hC kvu hkvu) (cwV 1 hts gX5_work_X5_register rfl rfl rfl (by decide +kernel) ⟨Nat.le_of_ble_eq_true rfl, Nat.le_of_ble_eq_true rfl⟩) hC.fp rfl rfl rfl hl.1 rfl (Nat.le_of_ble_eq_true rfl) dX5_work_27 ⟨Nat.le_of_ble_eq_true rfl, Nat.le_of_ble_eq_true rfl⟩ rfl (fun H locs hw => ?_)
          refine lv_astore (lv' := [(7, .ref (ad kvu)), (6, .ref (ad kvt)), (5, .null), (0, .ref (ad 51)), (1, .int vs), (2, .int vh), (3, .int (nI kvt)), (4, .int (nI kvu))]) hx hb dX5_work_30 hl (by decide) rfl (fun ls hl => ?_)
          refine lv_aloadN hx hb dX5_work_32 (lv_at hl 2 rfl) ?_
          refine lv_ifnullN (tgt := 47) hx hb dX5_work_34 (by decide) ?_
          refine lv_iconst (v := (-1)) hx hb dX5_work_47 (by decide) ?_
          exact h_iretP hx hb hlk hr hw dX5_work_48 (by simp only [sp_work, xvs, xvt, xvu, cif_f c_16, hld]) (by simp only [sp_work, xvs, xvt, xvu, cif_f c_16, hld]; exact ⟨_, hC, hq⟩)
      · skip
        refine lv_aload hx hb dX5_work_19 (lv_at hl 0 rfl) ?_
        refine lv_goto (tgt := 30) hx hb dX5_work_21 (by decide) ?_
        refine lv_astore (lv' := [(7, .ref (ad kvt)), (6, .ref (ad kvt)), (5, .null), (0, .ref (ad 51)), (1, .int vs), (2, .int vh), (3, .int (nI kvt)), (4, .int vu)]) hx hb dX5_work_30 hl (by decide) rfl (fun ls hl => ?_)
        refine lv_aloadN hx hb dX5_work_32 (lv_at hl 2 rfl) ?_
        refine lv_ifnullN (tgt := 47) hx hb dX5_work_34 (by decide) ?_
        refine lv_iconst (v := (-1)) hx hb dX5_work_47 (by decide) ?_
        exact h_iretP hx hb hlk hr hw dX5_work_48 (by simp only [sp_work, xvs, xvt, cif_t c_16, hld]) (by simp only [sp_work, xvs, xvt, cif_t c_16, hld]; exact ⟨_, hC, hq⟩)
  · skip
    have xvs := ix_in (n := 16) hkvs (by decide)
    refine h_callV (st1 := [.ref (ad kvs)]) [.int (nI kvs)] [] ⟨hx, hb, hml, hown, hts⟩ hE hw (c_X5_register_in l G A ad F _ hC kvs hkvs) (cwV 1 hts gX5_work_X5_register rfl rfl rfl (by decide +kernel) ⟨Nat.le_of_ble_eq_true rfl, Nat.le_of_ble_eq_true rfl⟩) hC.fp rfl rfl rfl hl.1 rfl (Nat.le_of_ble_eq_true rfl) dX5_work_2 ⟨Nat.le_of_ble_eq_true rfl, Nat.le_of_ble_eq_true rfl⟩ rfl (fun H locs hw => ?_)
    refine lv_astore (lv' := [(5, .ref (ad kvs)), (0, .ref (ad 51)), (1, .int (nI kvs)), (2, .int vh), (3, .int vt), (4, .int vu)]) hx hb dX5_work_5 hl (by decide) rfl (fun ls hl => ?_)
    refine lv_aload_n hx hb dX5_work_7 rfl (lv_at hl 1 rfl) ?_
    refine lv_iload_n hx hb dX5_work_8 rfl (lv_at hl 4 rfl) ?_
    rcases ix_cases 16 (by decide) vt with hvt | ⟨kvt, hkvt, rfl⟩
    · skip
      have xvt := ix_none hvt
      refine h_callV (st1 := [.null]) [.int vt] [] ⟨hx, hb, hml, hown, hts⟩ hE hw (c_X5_register_out l G A ad F _ hC vt hvt) (cwV 1 hts gX5_work_X5_register rfl rfl rfl (by decide +kernel) ⟨Nat.le_of_ble_eq_true rfl, Nat.le_of_ble_eq_true rfl⟩) hC.fp rfl rfl rfl hl.1 rfl (Nat.le_of_ble_eq_true rfl) dX5_work_9 ⟨Nat.le_of_ble_eq_true rfl, Nat.le_of_ble_eq_true rfl⟩ rfl (fun H locs hw => ?_)
      refine lv_astoreN (lv' := [(6, .null), (5, .ref (ad kvs)), (0, .ref (ad 51)), (1, .int (nI kvs)), (2, .int vh), (3, .int vt), (4, .int vu)]) hx hb dX5_work_12 hl (by decide) rfl (fun ls hl => ?_)
      refine lv_iload_n hx hb dX5_work_14 rfl (lv_at hl 4 rfl) ?_
      refine lv_iconst (v := 3) hx hb dX5_work_15 (by decide) ?_
      refine lv_icmp_ne (tgt := 24) hx hb dX5_work_16 (by decide) (fun c_16 => ?_) (fun c_16 => ?_)
      · skip
        refine lv_aload_n hx hb dX5_work_24 rfl (lv_at hl 2 rfl) ?_
        refine lv_iload hx hb dX5_work_25 (lv_at hl 6 rfl) ?_
        rcases ix_cases 16 (by decide) vu with hvu | ⟨kvu, hkvu, rfl⟩
        · skip
          have xvu := ix_none hvu
          refine h_callV (st1 := [.null]) [.int vu] [] ⟨hx, hb, hml, hown, hts⟩ hE hw (c_X5_register_out l G A ad F _ hC vu hvu) (cwV 1 hts gX5_work_X5_register rfl rfl rfl (by decide +kernel) ⟨Nat.le_of_ble_eq_true rfl, Nat.le_of_ble_eq_true rfl⟩) hC.fp rfl rfl rfl hl.1 rfl (Nat.le_of_ble_eq_true rfl) dX5_work_27 ⟨Nat.le_of_ble_eq_true rfl, Nat.le_of_ble_eq_true rfl⟩ rfl (fun H locs hw => ?_)
          refine lv_astoreN (lv' := [(7, .null), (6, .null), (5, .ref (ad kvs)), (0, .ref (ad 51)), (1, .int (nI kvs)), (2, .int vh), (3, .int vt), (4, .int vu)]) hx hb dX5_work_30 hl (by decide) rfl (fun ls hl => ?_)
          refine lv_aload hx hb dX5_work_32 (lv_at hl 2 rfl) ?_
          refine lv_ifnull hx hb dX5_work_34 ?_
          refine lv_aloadN hx hb dX5_work_37 (lv_at hl 1 rfl) ?_
          refine lv_ifnullN (tgt := 47) hx hb dX5_work_39 (by decide) ?_
          refine lv_iconst (v := (-1)) hx hb dX5_work_47 (by decide) ?_
          exact h_iretP hx hb hlk hr hw dX5_work_48 (by simp only [sp_work, xvs, xvt, xvu, cif_f c_16, hld]) (by simp only [sp_work, xvs, xvt, xvu, cif_f c_16, hld]; exact ⟨_, hC, hq⟩)
        · skip
          have xvu := ix_in (n := 16) hkvu (by decide)
          refine h_callV (st1 := [.ref (ad kvu)]) [.int (nI kvu)] [] ⟨hx, hb, hml, hown, hts⟩ hE hw (c_X5_register_in l G A ad F _ hC kvu hkvu) (cwV 1 hts gX5_work_X5_register rfl rfl rfl (by decide +kernel) ⟨Nat.le_of_ble_eq_true rfl, Nat.le_of_ble_eq_true rfl⟩) hC.fp rfl rfl rfl hl.1 rfl (Nat.le_of_ble_eq_true rfl) dX5_work_27 ⟨Nat.le_of_ble_eq_true rfl, Nat.le_of_ble_eq_true rfl⟩ rfl (fun H locs hw => ?_)
          refine lv_astore (lv' := [(7, .ref (ad kvu)), (6, .null), (5, .ref (ad kvs)), (0, .ref (ad 51)), (1, .int (nI kvs)), (2, .int vh), (3, .int vt), (4, .int (nI kvu))]) hx hb dX5_work_30 hl (by decide) rfl (fun ls hl => ?_)
          refine lv_aload hx hb dX5_work_32 (lv_at hl 2 rfl) ?_
          refine lv_ifnull hx hb dX5_work_34 ?_
          refine lv_aloadN hx hb dX5_work_37 (lv_at hl 1 rfl) ?_
          refine lv_ifnullN (tgt := 47) hx hb dX5_work_39 (by decide) ?_
          refine lv_iconst (v := (-1)) hx hb dX5_work_47 (by decide) ?_
          exact h_iretP hx hb hlk hr hw dX5_work_48 (by simp only [sp_work, xvs, xvt, xvu, cif_f c_16, hld]) (by simp only [sp_work, xvs, xvt, xvu, cif_f c_16, hld]; exact ⟨_, hC, hq⟩)
      · skip
        refine lv_aloadN hx hb dX5_work_19 (lv_at hl 0 rfl) ?_
        refine lv_goto (tgt := 30) hx hb dX5_work_21 (by decide) ?_
        refine lv_astoreN (lv' := [(7, .null), (6, .null), (5, .ref (ad kvs)), (0, .ref (ad 51)), (1, .int (nI kvs)), (2, .int vh), (3, .int vt), (4, .int vu)]) hx hb dX5_work_30 hl (by decide) rfl (fun ls hl => ?_)
        refine lv_aload hx hb dX5_work_32 (lv_at hl 2 rfl) ?_
        refine lv_ifnull hx hb dX5_work_34 ?_
        refine lv_aloadN hx hb dX5_work_37 (lv_at hl 1 rfl) ?_
        refine lv_ifnullN (tgt := 47) hx hb dX5_work_39 (by decide) ?_
        refine lv_iconst (v := (-1)) hx hb dX5_work_47 (by decide) ?_
        exact h_iretP hx hb hlk hr hw dX5_work_48 (by simp only [sp_work, xvs, xvt, cif_t c_16, hld]) (by simp only [sp_work, xvs, xvt, cif_t c_16, hld]; exact ⟨_, hC, hq⟩)
    · skip
      have xvt := ix_in (n := 16) hkvt (by decide)
      refine h_callV (st1 := [.ref (ad kvt)]) [.int (nI kvt)] [] ⟨hx, hb, hml, hown, hts⟩ hE hw (c_X5_register_in l G A ad F _ hC kvt hkvt) (cwV 1 hts gX5_work_X5_register rfl rfl rfl (by decide +kernel) ⟨Nat.le_of_ble_eq_true rfl, Nat.le_of_ble_eq_true rfl⟩) hC.fp rfl rfl rfl hl.1 rfl (Nat.le_of_ble_eq_true rfl) dX5_work_9 ⟨Nat.le_of_ble_eq_true rfl, Nat.le_of_ble_eq_true rfl⟩ rfl (fun H locs hw => ?_)
      refine lv_astore (lv' := [(6, .ref (ad kvt)), (5, .ref (ad kvs)), (0, .ref (ad 51)), (1, .int (nI kvs)), (2, .int vh), (3, .int (nI kvt)), (4, .int vu)]) hx hb dX5_work_12 hl (by decide) rfl (fun ls hl => ?_)
      refine lv_iload_n hx hb dX5_work_14 rfl (lv_at hl 4 rfl) ?_
      refine lv_iconst (v := 3) hx hb dX5_work_15 (by decide) ?_
      refine lv_icmp_ne (tgt := 24) hx hb dX5_work_16 (by decide) (fun c_16 => ?_) (fun c_16 => ?_)
      · skip
        refine lv_aload_n hx hb dX5_work_24 rfl (lv_at hl 2 rfl) ?_
        refine lv_iload hx hb dX5_work_25 (lv_at hl 6 rfl) ?_
        rcases ix_cases 16 (by decide) vu with hvu | ⟨kvu, hkvu, rfl⟩
        · skip
          have xvu := ix_none hvu
          refine h_callV (st1 := [.null]) [.int vu] [] ⟨hx, hb, hml, hown, hts⟩ hE hw (c_X5_register_out l G A ad F _ hC vu hvu) (cwV 1 hts gX5_work_X5_register rfl rfl rfl (by decide +kernel) ⟨Nat.le_of_ble_eq_true rfl, Nat.le_of_ble_eq_true rfl⟩) hC.fp rfl rfl rfl hl.1 rfl (Nat.le_of_ble_eq_true rfl) dX5_work_27 ⟨Nat.le_of_ble_eq_true rfl, Nat.le_of_ble_eq_true rfl⟩ rfl (fun H locs hw => ?_)
          refine lv_astoreN (lv' := [(7, .null), (6, .ref (ad kvt)), (5, .ref (ad kvs)), (0, .ref (ad 51)), (1, .int (nI kvs)), (2, .int vh), (3, .int (nI kvt)), (4, .int vu)]) hx hb dX5_work_30 hl (by decide) rfl (fun ls hl => ?_)
          refine lv_aload hx hb dX5_work_32 (lv_at hl 2 rfl) ?_
          refine lv_ifnull hx hb dX5_work_34 ?_
          refine lv_aload hx hb dX5_work_37 (lv_at hl 1 rfl) ?_
          refine lv_ifnull hx hb dX5_work_39 ?_
          refine lv_aloadN hx hb dX5_work_42 (lv_at hl 0 rfl) ?_
          refine lv_ifnonnullN hx hb dX5_work_44 ?_
          refine lv_iconst (v := (-1)) hx hb dX5_work_47 (by decide) ?_
          exact h_iretP hx hb hlk hr hw dX5_work_48 (by simp only [sp_work, xvs, xvt, xvu, cif_f c_16, hld]) (by simp only [sp_work, xvs, xvt, xvu, cif_f c_16, hld]; exact ⟨_, hC, hq⟩)
        · skip
          have xvu := ix_in (n := 16) hkvu (by decide)
          refine h_callV (st1 := [.ref (ad kvu)]) [.int (nI kvu)] [] ⟨hx, hb, hml, hown, hts⟩ hE hw (c_X5_register_in l G A ad F _ hC kvu hkvu) (cwV 1 hts gX5_work_X5_register rfl rfl rfl (by decide +kernel) ⟨Nat.le_of_ble_eq_true rfl, Nat.le_of_ble_eq_true rfl⟩) hC.fp rfl rfl rfl hl.1 rfl (Nat.le_of_ble_eq_true rfl) dX5_work_27 ⟨Nat.le_of_ble_eq_true rfl, Nat.le_of_ble_eq_true rfl⟩ rfl (fun H locs hw => ?_)
          refine lv_astore (lv' := [(7, .ref (ad kvu)), (6, .ref (ad kvt)), (5, .ref (ad kvs)), (0, .ref (ad 51)), (1, .int (nI kvs)), (2, .int vh), (3, .int (nI kvt)), (4, .int (nI kvu))]) hx hb dX5_work_30 hl (by decide) rfl (fun ls hl => ?_)
          refine lv_aload hx hb dX5_work_32 (lv_at hl 2 rfl) ?_
          refine lv_ifnull hx hb dX5_work_34 ?_
          refine lv_aload hx hb dX5_work_37 (lv_at hl 1 rfl) ?_
          refine lv_ifnull hx hb dX5_work_39 ?_
          refine lv_aload hx hb dX5_work_42 (lv_at hl 0 rfl) ?_
          refine lv_ifnonnull (tgt := 49) hx hb dX5_work_44 (by decide) ?_
          refine lv_iload_n hx hb dX5_work_49 rfl (lv_at hl 5 rfl) ?_
          by_cases k0 : vh.toInt < 0 ∨ 3 < vh.toInt
          · refine lv_tableOut (tgt := 134) hx hb dX5_work_50 k0 (by decide) ?_
            have kn : ∀ y : Int32, 0 ≤ y.toInt → y.toInt ≤ 3 → ¬ vh = y := fun y h1 h2 w => by rw [w] at k0; omega
            refine lv_iconst (v := (-1)) hx hb dX5_work_134 (by decide) ?_
            exact h_iretP hx hb hlk hr hw dX5_work_135 (by simp only [sp_work, xvs, xvt, xvu, cif_f c_16, cif_f (kn 0 (by decide) (by decide)), cif_f (kn 1 (by decide) (by decide)), cif_f (kn 2 (by decide) (by decide)), hld]) (by simp only [sp_work, xvs, xvt, xvu, cif_f c_16, cif_f (kn 0 (by decide) (by decide)), cif_f (kn 1 (by decide) (by decide)), cif_f (kn 2 (by decide) (by decide)), hld]; exact ⟨_, hC, hq⟩)
          · rcases int_lt4 (k := vh) (by omega) (by omega) with rfl | rfl | rfl | rfl
            · skip
              refine lv_tableIn (off := 30) (tgt := 80) hx hb dX5_work_50 (by decide) (by decide) rfl (by decide) ?_
              refine lv_aload_n hx hb dX5_work_80 rfl (lv_at hl 3 rfl) ?_
              refine h_get hx hb hE hw hts hinX5 hown (ci := 5) rfl 5 (by decide) lk_43 (fun _ h9 => h9) hC.fp rfl dX5_work_81 ?_
              refine lv_aload hx hb dX5_work_84 (lv_at hl 1 rfl) ?_
              refine lv_aload hx hb dX5_work_86 (lv_at hl 0 rfl) ?_
              refine h_callV (st1 := []) [.ref (ad kvt), .ref (ad kvu)] [] ⟨hx, hb, hml, hown, hts⟩ hE hw (c_X1_becomeSum l G A (CL ad) F (ad 28) (q 28) (hC.q (i := 28) (by decide))  (ad kvt) (ad kvu) (rg kvt) (rg kvu) (pt_eq (hC.q (i := kvt) (Nat.lt_of_lt_of_le hkvt (by decide))) (by rw [show ((q, kd, (fun k => nI (z k)), pl, nI cnt) : CS).1 kvt = rg kvt from hq kvt (Nat.lt_of_lt_of_le hkvt (by decide))])) (pt_eq (hC.q (i := kvu) (Nat.lt_of_lt_of_le hkvu (by decide))) (by rw [show ((q, kd, (fun k => nI (z k)), pl, nI cnt) : CS).1 kvu = rg kvu from hq kvu (Nat.lt_of_lt_of_le hkvu (by decide))]))) (cwV 2 hts gX5_work_X1_becomeSum rfl rfl rfl (by decide +kernel) ⟨Nat.le_of_ble_eq_true rfl, Nat.le_of_ble_eq_true rfl⟩) (hC.q (i := 28) (by decide)) rfl rfl rfl hl.1 rfl (Nat.le_of_ble_eq_true rfl) dX5_work_88 ⟨Nat.le_of_ble_eq_true rfl, Nat.le_of_ble_eq_true rfl⟩ rfl (fun H locs hw => ?_)
              refine lv_goto (tgt := 136) hx hb dX5_work_91 (by decide) ?_
              refine lv_aload hx hb dX5_work_136 (lv_at hl 2 rfl) ?_
              refine lv_aload_n hx hb dX5_work_138 rfl (lv_at hl 3 rfl) ?_
              refine h_get hx hb hE hw hts hinX5 hown (ci := 5) rfl 5 (by decide) lk_43 (fun _ h9 => h9) (pt_ne hC.fp (hC.ne (i := 51) (j := 28) (by decide) (by decide) (by decide))) rfl dX5_work_139 ?_
              by_cases hh : qhigh (qadd (rg kvt) (rg kvu))
              · skip
                refine h_callS (st1 := [.int (-3)]) [.ref (ad kvs), .ref (ad 28)] [] ⟨hx, hb, hml, hown, hts⟩ hE hw (c_X5_hold_hi l G A (CL ad) (va_up F (ad 28) (eq4 (qadd (rg kvt) (rg kvu)))) (ad kvs) (ad 28) (rg kvs) (qadd (rg kvt) (rg kvu)) (pt_ne (pt_eq (hC.q (i := kvs) (Nat.lt_of_lt_of_le hkvs (by decide))) (by rw [show ((q, kd, (fun k => nI (z k)), pl, nI cnt) : CS).1 kvs = rg kvs from hq kvs (Nat.lt_of_lt_of_le hkvs (by decide))])) (hC.ne (i := kvs) (j := 28) (Nat.lt_of_lt_of_le hkvs (by decide)) (by decide) (by omega))) (pt_up (hC.q (i := 28) (by decide))) hh) (va_cwS 2 hts gX5_work_X5_hold rfl rfl rfl (by decide +kernel) ⟨Nat.le_of_ble_eq_true rfl, Nat.le_of_ble_eq_true rfl⟩) rfl hl.1 rfl (Nat.le_of_ble_eq_true rfl) dX5_work_142 ⟨Nat.le_of_ble_eq_true rfl, Nat.le_of_ble_eq_true rfl⟩ rfl (fun H locs hw => ?_)
                exact h_iretP hx hb hlk hr hw dX5_work_145 (by simp only [sp_work, xvs, xvt, xvu, cif_f c_16, cif_T, cif_t hh, hld]) (by simp only [sp_work, xvs, xvt, xvu, cif_f c_16, cif_T, cif_t hh, hld]; exact ⟨_, (CW.setq hC (i := 28) (by decide) (qadd (rg kvt) (rg kvu))), (qscr hq (by decide))⟩)
              · skip
                refine h_callS (st1 := [.int 0]) [.ref (ad kvs), .ref (ad 28)] [] ⟨hx, hb, hml, hown, hts⟩ hE hw (c_X5_hold_lo l G A (CL ad) (va_up F (ad 28) (eq4 (qadd (rg kvt) (rg kvu)))) (ad kvs) (ad 28) (rg kvs) (qadd (rg kvt) (rg kvu)) (pt_ne (pt_eq (hC.q (i := kvs) (Nat.lt_of_lt_of_le hkvs (by decide))) (by rw [show ((q, kd, (fun k => nI (z k)), pl, nI cnt) : CS).1 kvs = rg kvs from hq kvs (Nat.lt_of_lt_of_le hkvs (by decide))])) (hC.ne (i := kvs) (j := 28) (Nat.lt_of_lt_of_le hkvs (by decide)) (by decide) (by omega))) (pt_up (hC.q (i := 28) (by decide))) hh) (va_cwS 2 hts gX5_work_X5_hold rfl rfl rfl (by decide +kernel) ⟨Nat.le_of_ble_eq_true rfl, Nat.le_of_ble_eq_true rfl⟩) rfl hl.1 rfl (Nat.le_of_ble_eq_true rfl) dX5_work_142 ⟨Nat.le_of_ble_eq_true rfl, Nat.le_of_ble_eq_true rfl⟩ rfl (fun H locs hw => ?_)
                exact h_iretP hx hb hlk hr hw dX5_work_145 (by simp only [sp_work, xvs, xvt, xvu, cif_f c_16, cif_T, cif_f hh, hld]) (by simp only [sp_work, xvs, xvt, xvu, cif_f c_16, cif_T, cif_f hh, hld]; exact ⟨_, (CW.setq (CW.setq hC (i := 28) (by decide) (qadd (rg kvt) (rg kvu))) (i := kvs) (Nat.lt_of_lt_of_le hkvs (by decide)) (qadd (rg kvt) (rg kvu))), (qup (qscr hq (by decide)))⟩)
            · skip
              have kn0 : ¬ ((1 : Int32) = 0) := by decide
              refine lv_tableIn (off := 44) (tgt := 94) hx hb dX5_work_50 (by decide) (by decide) rfl (by decide) ?_
              refine lv_aload_n hx hb dX5_work_94 rfl (lv_at hl 3 rfl) ?_
              refine h_get hx hb hE hw hts hinX5 hown (ci := 5) rfl 5 (by decide) lk_43 (fun _ h9 => h9) hC.fp rfl dX5_work_95 ?_
              refine lv_aload hx hb dX5_work_98 (lv_at hl 1 rfl) ?_
              refine lv_aload hx hb dX5_work_100 (lv_at hl 0 rfl) ?_
              refine h_callV (st1 := []) [.ref (ad kvt), .ref (ad kvu)] [] ⟨hx, hb, hml, hown, hts⟩ hE hw (c_X1_becomeDifference l G A (CL ad) F (ad 28) (q 28) (hC.q (i := 28) (by decide))  (ad kvt) (ad kvu) (rg kvt) (rg kvu) (pt_eq (hC.q (i := kvt) (Nat.lt_of_lt_of_le hkvt (by decide))) (by rw [show ((q, kd, (fun k => nI (z k)), pl, nI cnt) : CS).1 kvt = rg kvt from hq kvt (Nat.lt_of_lt_of_le hkvt (by decide))])) (pt_eq (hC.q (i := kvu) (Nat.lt_of_lt_of_le hkvu (by decide))) (by rw [show ((q, kd, (fun k => nI (z k)), pl, nI cnt) : CS).1 kvu = rg kvu from hq kvu (Nat.lt_of_lt_of_le hkvu (by decide))]))) (cwV 2 hts gX5_work_X1_becomeDifference rfl rfl rfl (by decide +kernel) ⟨Nat.le_of_ble_eq_true rfl, Nat.le_of_ble_eq_true rfl⟩) (hC.q (i := 28) (by decide)) rfl rfl rfl hl.1 rfl (Nat.le_of_ble_eq_true rfl) dX5_work_102 ⟨Nat.le_of_ble_eq_true rfl, Nat.le_of_ble_eq_true rfl⟩ rfl (fun H locs hw => ?_)
              refine lv_goto (tgt := 136) hx hb dX5_work_105 (by decide) ?_
              refine lv_aload hx hb dX5_work_136 (lv_at hl 2 rfl) ?_
              refine lv_aload_n hx hb dX5_work_138 rfl (lv_at hl 3 rfl) ?_
              refine h_get hx hb hE hw hts hinX5 hown (ci := 5) rfl 5 (by decide) lk_43 (fun _ h9 => h9) (pt_ne hC.fp (hC.ne (i := 51) (j := 28) (by decide) (by decide) (by decide))) rfl dX5_work_139 ?_
              by_cases hh : qhigh (qsub (rg kvt) (rg kvu))
              · skip
                refine h_callS (st1 := [.int (-3)]) [.ref (ad kvs), .ref (ad 28)] [] ⟨hx, hb, hml, hown, hts⟩ hE hw (c_X5_hold_hi l G A (CL ad) (va_up F (ad 28) (eq4 (qsub (rg kvt) (rg kvu)))) (ad kvs) (ad 28) (rg kvs) (qsub (rg kvt) (rg kvu)) (pt_ne (pt_eq (hC.q (i := kvs) (Nat.lt_of_lt_of_le hkvs (by decide))) (by rw [show ((q, kd, (fun k => nI (z k)), pl, nI cnt) : CS).1 kvs = rg kvs from hq kvs (Nat.lt_of_lt_of_le hkvs (by decide))])) (hC.ne (i := kvs) (j := 28) (Nat.lt_of_lt_of_le hkvs (by decide)) (by decide) (by omega))) (pt_up (hC.q (i := 28) (by decide))) hh) (va_cwS 2 hts gX5_work_X5_hold rfl rfl rfl (by decide +kernel) ⟨Nat.le_of_ble_eq_true rfl, Nat.le_of_ble_eq_true rfl⟩) rfl hl.1 rfl (Nat.le_of_ble_eq_true rfl) dX5_work_142 ⟨Nat.le_of_ble_eq_true rfl, Nat.le_of_ble_eq_true rfl⟩ rfl (fun H locs hw => ?_)
                exact h_iretP hx hb hlk hr hw dX5_work_145 (by simp only [sp_work, xvs, xvt, xvu, cif_f c_16, cif_f kn0, cif_T, cif_t hh, hld]) (by simp only [sp_work, xvs, xvt, xvu, cif_f c_16, cif_f kn0, cif_T, cif_t hh, hld]; exact ⟨_, (CW.setq hC (i := 28) (by decide) (qsub (rg kvt) (rg kvu))), (qscr hq (by decide))⟩)
              · skip
                refine h_callS (st1 := [.int 0]) [.ref (ad kvs), .ref (ad 28)] [] ⟨hx, hb, hml, hown, hts⟩ hE hw (c_X5_hold_lo l G A (CL ad) (va_up F (ad 28) (eq4 (qsub (rg kvt) (rg kvu)))) (ad kvs) (ad 28) (rg kvs) (qsub (rg kvt) (rg kvu)) (pt_ne (pt_eq (hC.q (i := kvs) (Nat.lt_of_lt_of_le hkvs (by decide))) (by rw [show ((q, kd, (fun k => nI (z k)), pl, nI cnt) : CS).1 kvs = rg kvs from hq kvs (Nat.lt_of_lt_of_le hkvs (by decide))])) (hC.ne (i := kvs) (j := 28) (Nat.lt_of_lt_of_le hkvs (by decide)) (by decide) (by omega))) (pt_up (hC.q (i := 28) (by decide))) hh) (va_cwS 2 hts gX5_work_X5_hold rfl rfl rfl (by decide +kernel) ⟨Nat.le_of_ble_eq_true rfl, Nat.le_of_ble_eq_true rfl⟩) rfl hl.1 rfl (Nat.le_of_ble_eq_true rfl) dX5_work_142 ⟨Nat.le_of_ble_eq_true rfl, Nat.le_of_ble_eq_true rfl⟩ rfl (fun H locs hw => ?_)
                exact h_iretP hx hb hlk hr hw dX5_work_145 (by simp only [sp_work, xvs, xvt, xvu, cif_f c_16, cif_f kn0, cif_T, cif_f hh, hld]) (by simp only [sp_work, xvs, xvt, xvu, cif_f c_16, cif_f kn0, cif_T, cif_f hh, hld]; exact ⟨_, (CW.setq (CW.setq hC (i := 28) (by decide) (qsub (rg kvt) (rg kvu))) (i := kvs) (Nat.lt_of_lt_of_le hkvs (by decide)) (qsub (rg kvt) (rg kvu))), (qup (qscr hq (by decide)))⟩)
            · skip
              have kn0 : ¬ ((2 : Int32) = 0) := by decide
              have kn1 : ¬ ((2 : Int32) = 1) := by decide
              refine lv_tableIn (off := 58) (tgt := 108) hx hb dX5_work_50 (by decide) (by decide) rfl (by decide) ?_
              refine lv_aload_n hx hb dX5_work_108 rfl (lv_at hl 3 rfl) ?_
              refine h_get hx hb hE hw hts hinX5 hown (ci := 5) rfl 5 (by decide) lk_43 (fun _ h9 => h9) hC.fp rfl dX5_work_109 ?_
              refine lv_aload hx hb dX5_work_112 (lv_at hl 1 rfl) ?_
              refine lv_aload hx hb dX5_work_114 (lv_at hl 0 rfl) ?_
              refine h_callV (st1 := []) [.ref (ad kvt), .ref (ad kvu)] [] ⟨hx, hb, hml, hown, hts⟩ hE hw (c_X1_becomeProduct l G A (CL ad) F (ad 28) (q 28) (hC.q (i := 28) (by decide))  (ad kvt) (ad kvu) (rg kvt) (rg kvu) (pt_eq (hC.q (i := kvt) (Nat.lt_of_lt_of_le hkvt (by decide))) (by rw [show ((q, kd, (fun k => nI (z k)), pl, nI cnt) : CS).1 kvt = rg kvt from hq kvt (Nat.lt_of_lt_of_le hkvt (by decide))])) (pt_eq (hC.q (i := kvu) (Nat.lt_of_lt_of_le hkvu (by decide))) (by rw [show ((q, kd, (fun k => nI (z k)), pl, nI cnt) : CS).1 kvu = rg kvu from hq kvu (Nat.lt_of_lt_of_le hkvu (by decide))]))) (cwV 2 hts gX5_work_X1_becomeProduct rfl rfl rfl (by decide +kernel) ⟨Nat.le_of_ble_eq_true rfl, Nat.le_of_ble_eq_true rfl⟩) (hC.q (i := 28) (by decide)) rfl rfl rfl hl.1 rfl (Nat.le_of_ble_eq_true rfl) dX5_work_116 ⟨Nat.le_of_ble_eq_true rfl, Nat.le_of_ble_eq_true rfl⟩ rfl (fun H locs hw => ?_)
              refine lv_goto (tgt := 136) hx hb dX5_work_119 (by decide) ?_
              refine lv_aload hx hb dX5_work_136 (lv_at hl 2 rfl) ?_
              refine lv_aload_n hx hb dX5_work_138 rfl (lv_at hl 3 rfl) ?_
              refine h_get hx hb hE hw hts hinX5 hown (ci := 5) rfl 5 (by decide) lk_43 (fun _ h9 => h9) (pt_ne hC.fp (hC.ne (i := 51) (j := 28) (by decide) (by decide) (by decide))) rfl dX5_work_139 ?_
              by_cases hh : qhigh (qmul (rg kvt) (rg kvu))
              · skip
                refine h_callS (st1 := [.int (-3)]) [.ref (ad kvs), .ref (ad 28)] [] ⟨hx, hb, hml, hown, hts⟩ hE hw (c_X5_hold_hi l G A (CL ad) (va_up F (ad 28) (eq4 (qmul (rg kvt) (rg kvu)))) (ad kvs) (ad 28) (rg kvs) (qmul (rg kvt) (rg kvu)) (pt_ne (pt_eq (hC.q (i := kvs) (Nat.lt_of_lt_of_le hkvs (by decide))) (by rw [show ((q, kd, (fun k => nI (z k)), pl, nI cnt) : CS).1 kvs = rg kvs from hq kvs (Nat.lt_of_lt_of_le hkvs (by decide))])) (hC.ne (i := kvs) (j := 28) (Nat.lt_of_lt_of_le hkvs (by decide)) (by decide) (by omega))) (pt_up (hC.q (i := 28) (by decide))) hh) (va_cwS 2 hts gX5_work_X5_hold rfl rfl rfl (by decide +kernel) ⟨Nat.le_of_ble_eq_true rfl, Nat.le_of_ble_eq_true rfl⟩) rfl hl.1 rfl (Nat.le_of_ble_eq_true rfl) dX5_work_142 ⟨Nat.le_of_ble_eq_true rfl, Nat.le_of_ble_eq_true rfl⟩ rfl (fun H locs hw => ?_)
                exact h_iretP hx hb hlk hr hw dX5_work_145 (by simp only [sp_work, xvs, xvt, xvu, cif_f c_16, cif_f kn0, cif_f kn1, cif_T, cif_t hh, hld]) (by simp only [sp_work, xvs, xvt, xvu, cif_f c_16, cif_f kn0, cif_f kn1, cif_T, cif_t hh, hld]; exact ⟨_, (CW.setq hC (i := 28) (by decide) (qmul (rg kvt) (rg kvu))), (qscr hq (by decide))⟩)
              · skip
                refine h_callS (st1 := [.int 0]) [.ref (ad kvs), .ref (ad 28)] [] ⟨hx, hb, hml, hown, hts⟩ hE hw (c_X5_hold_lo l G A (CL ad) (va_up F (ad 28) (eq4 (qmul (rg kvt) (rg kvu)))) (ad kvs) (ad 28) (rg kvs) (qmul (rg kvt) (rg kvu)) (pt_ne (pt_eq (hC.q (i := kvs) (Nat.lt_of_lt_of_le hkvs (by decide))) (by rw [show ((q, kd, (fun k => nI (z k)), pl, nI cnt) : CS).1 kvs = rg kvs from hq kvs (Nat.lt_of_lt_of_le hkvs (by decide))])) (hC.ne (i := kvs) (j := 28) (Nat.lt_of_lt_of_le hkvs (by decide)) (by decide) (by omega))) (pt_up (hC.q (i := 28) (by decide))) hh) (va_cwS 2 hts gX5_work_X5_hold rfl rfl rfl (by decide +kernel) ⟨Nat.le_of_ble_eq_true rfl, Nat.le_of_ble_eq_true rfl⟩) rfl hl.1 rfl (Nat.le_of_ble_eq_true rfl) dX5_work_142 ⟨Nat.le_of_ble_eq_true rfl, Nat.le_of_ble_eq_true rfl⟩ rfl (fun H locs hw => ?_)
                exact h_iretP hx hb hlk hr hw dX5_work_145 (by simp only [sp_work, xvs, xvt, xvu, cif_f c_16, cif_f kn0, cif_f kn1, cif_T, cif_f hh, hld]) (by simp only [sp_work, xvs, xvt, xvu, cif_f c_16, cif_f kn0, cif_f kn1, cif_T, cif_f hh, hld]; exact ⟨_, (CW.setq (CW.setq hC (i := 28) (by decide) (qmul (rg kvt) (rg kvu))) (i := kvs) (Nat.lt_of_lt_of_le hkvs (by decide)) (qmul (rg kvt) (rg kvu))), (qup (qscr hq (by decide)))⟩)
            · skip
              exact absurd rfl c_16
      · skip
        refine lv_aload hx hb dX5_work_19 (lv_at hl 0 rfl) ?_
        refine lv_goto (tgt := 30) hx hb dX5_work_21 (by decide) ?_
        refine lv_astore (lv' := [(7, .ref (ad kvt)), (6, .ref (ad kvt)), (5, .ref (ad kvs)), (0, .ref (ad 51)), (1, .int (nI kvs)), (2, .int vh), (3, .int (nI kvt)), (4, .int vu)]) hx hb dX5_work_30 hl (by decide) rfl (fun ls hl => ?_)
        refine lv_aload hx hb dX5_work_32 (lv_at hl 2 rfl) ?_
        refine lv_ifnull hx hb dX5_work_34 ?_
        refine lv_aload hx hb dX5_work_37 (lv_at hl 1 rfl) ?_
        refine lv_ifnull hx hb dX5_work_39 ?_
        refine lv_aload hx hb dX5_work_42 (lv_at hl 0 rfl) ?_
        refine lv_ifnonnull (tgt := 49) hx hb dX5_work_44 (by decide) ?_
        refine lv_iload_n hx hb dX5_work_49 rfl (lv_at hl 5 rfl) ?_
        subst c_16
        refine lv_tableIn (off := 72) (tgt := 122) hx hb dX5_work_50 (by decide) (by decide) rfl (by decide) ?_
        refine lv_aload_n hx hb dX5_work_122 rfl (lv_at hl 3 rfl) ?_
        refine h_get hx hb hE hw hts hinX5 hown (ci := 5) rfl 5 (by decide) lk_43 (fun _ h9 => h9) hC.fp rfl dX5_work_123 ?_
        refine lv_aload hx hb dX5_work_126 (lv_at hl 1 rfl) ?_
        refine h_callV (st1 := []) [.ref (ad kvt)] [] ⟨hx, hb, hml, hown, hts⟩ hE hw (c_X1_becomeMirror l G A (CL ad) F (ad 28) (q 28) (hC.q (i := 28) (by decide))  (ad kvt) (rg kvt) (pt_eq (hC.q (i := kvt) (Nat.lt_of_lt_of_le hkvt (by decide))) (by rw [show ((q, kd, (fun k => nI (z k)), pl, nI cnt) : CS).1 kvt = rg kvt from hq kvt (Nat.lt_of_lt_of_le hkvt (by decide))]))) (cwV 1 hts gX5_work_X1_becomeMirror rfl rfl rfl (by decide +kernel) ⟨Nat.le_of_ble_eq_true rfl, Nat.le_of_ble_eq_true rfl⟩) (hC.q (i := 28) (by decide)) rfl rfl rfl hl.1 rfl (Nat.le_of_ble_eq_true rfl) dX5_work_128 ⟨Nat.le_of_ble_eq_true rfl, Nat.le_of_ble_eq_true rfl⟩ rfl (fun H locs hw => ?_)
        refine lv_goto (tgt := 136) hx hb dX5_work_131 (by decide) ?_
        refine lv_aload hx hb dX5_work_136 (lv_at hl 2 rfl) ?_
        refine lv_aload_n hx hb dX5_work_138 rfl (lv_at hl 3 rfl) ?_
        refine h_get hx hb hE hw hts hinX5 hown (ci := 5) rfl 5 (by decide) lk_43 (fun _ h9 => h9) (pt_ne hC.fp (hC.ne (i := 51) (j := 28) (by decide) (by decide) (by decide))) rfl dX5_work_139 ?_
        by_cases hh : qhigh (qmir (rg kvt))
        · skip
          refine h_callS (st1 := [.int (-3)]) [.ref (ad kvs), .ref (ad 28)] [] ⟨hx, hb, hml, hown, hts⟩ hE hw (c_X5_hold_hi l G A (CL ad) (va_up F (ad 28) (eq4 (qmir (rg kvt)))) (ad kvs) (ad 28) (rg kvs) (qmir (rg kvt)) (pt_ne (pt_eq (hC.q (i := kvs) (Nat.lt_of_lt_of_le hkvs (by decide))) (by rw [show ((q, kd, (fun k => nI (z k)), pl, nI cnt) : CS).1 kvs = rg kvs from hq kvs (Nat.lt_of_lt_of_le hkvs (by decide))])) (hC.ne (i := kvs) (j := 28) (Nat.lt_of_lt_of_le hkvs (by decide)) (by decide) (by omega))) (pt_up (hC.q (i := 28) (by decide))) hh) (va_cwS 2 hts gX5_work_X5_hold rfl rfl rfl (by decide +kernel) ⟨Nat.le_of_ble_eq_true rfl, Nat.le_of_ble_eq_true rfl⟩) rfl hl.1 rfl (Nat.le_of_ble_eq_true rfl) dX5_work_142 ⟨Nat.le_of_ble_eq_true rfl, Nat.le_of_ble_eq_true rfl⟩ rfl (fun H locs hw => ?_)
          exact h_iretP hx hb hlk hr hw dX5_work_145 (by simp only [sp_work, xvs, xvt, cif_T, cif_t hh, hld]) (by simp only [sp_work, xvs, xvt, cif_T, cif_t hh, hld]; exact ⟨_, (CW.setq hC (i := 28) (by decide) (qmir (rg kvt))), (qscr hq (by decide))⟩)
        · skip
          refine h_callS (st1 := [.int 0]) [.ref (ad kvs), .ref (ad 28)] [] ⟨hx, hb, hml, hown, hts⟩ hE hw (c_X5_hold_lo l G A (CL ad) (va_up F (ad 28) (eq4 (qmir (rg kvt)))) (ad kvs) (ad 28) (rg kvs) (qmir (rg kvt)) (pt_ne (pt_eq (hC.q (i := kvs) (Nat.lt_of_lt_of_le hkvs (by decide))) (by rw [show ((q, kd, (fun k => nI (z k)), pl, nI cnt) : CS).1 kvs = rg kvs from hq kvs (Nat.lt_of_lt_of_le hkvs (by decide))])) (hC.ne (i := kvs) (j := 28) (Nat.lt_of_lt_of_le hkvs (by decide)) (by decide) (by omega))) (pt_up (hC.q (i := 28) (by decide))) hh) (va_cwS 2 hts gX5_work_X5_hold rfl rfl rfl (by decide +kernel) ⟨Nat.le_of_ble_eq_true rfl, Nat.le_of_ble_eq_true rfl⟩) rfl hl.1 rfl (Nat.le_of_ble_eq_true rfl) dX5_work_142 ⟨Nat.le_of_ble_eq_true rfl, Nat.le_of_ble_eq_true rfl⟩ rfl (fun H locs hw => ?_)
          exact h_iretP hx hb hlk hr hw dX5_work_145 (by simp only [sp_work, xvs, xvt, cif_T, cif_f hh, hld]) (by simp only [sp_work, xvs, xvt, cif_T, cif_f hh, hld]; exact ⟨_, (CW.setq (CW.setq hC (i := 28) (by decide) (qmir (rg kvt))) (i := kvs) (Nat.lt_of_lt_of_le hkvs (by decide)) (qmir (rg kvt))), (qup (qscr hq (by decide)))⟩)

set_option maxHeartbeats 4000000 in
set_option maxRecDepth 100000 in
theorem c_X5_unit (l : Launch) (G : GG) (A : Nat → Prop) (ad : Nat → Nat) (F : FM) (rg : Nat → Q4) (kd : Nat → Int32) (z : Nat → Nat) (pl : Nat → Nat → Int64) (cnt : Nat) (hR : CR G ad (rg, kd, z, pl, cnt) F) (hz : ∀ k, k < 6 → z k ≤ 16) (vs : Int32) (vt : Int32) (vu : Int32) (vd : Int32) : PT l yX5_unit wsX5_unit { frames := 3, cells := 0, slots := 0, locals := 73 } G A (CL ad) [.ref (ad 51), .int vs, .int vt, .int vu, .int vd] F (some (.int (sp_unit (rg, kd, z, pl, cnt) vs vt vu vd).1)) (CR G ad (sp_unit (rg, kd, z, pl, cnt) vs vt vu vd).2) := by
  refine PT.ofW (cc := cX5_unit) (maxL := 7) (ret := (some .int)) (plainFor_of_name (by decide)) rfl (Nat.le_of_ble_eq_true rfl) ?_
  intro p e s m below meth c ls hx hb hr hml hown hts hlk hE hw hl
  have hl : lv_has ls 7 [(0, .ref (ad 51)), (1, .int vs), (2, .int vt), (3, .int vu), (4, .int vd)] := hl
  have hown : s.vm.findClass RX5 = some m.cls := hown
  have lk_43 := hts (.fieldLink RX5 43 "FourParts" "result" "LFourParts$Quad;") (by decide +kernel)
  have hinX5 : ∀ w ∈ u_ws RX5 TX5 6, w ∈ wsX5_unit := by decide +kernel
  obtain ⟨q, hC, hq⟩ := hR
  refine lv_aload_n hx hb dX5_unit_0 rfl (lv_at hl 0 rfl) ?_
  refine lv_iload_n hx hb dX5_unit_1 rfl (lv_at hl 1 rfl) ?_
  rcases ix_cases 16 (by decide) vs with hvs | ⟨kvs, hkvs, rfl⟩
  · skip
    have xvs := ix_none hvs
    refine h_callV (st1 := [.null]) [.int vs] [] ⟨hx, hb, hml, hown, hts⟩ hE hw (c_X5_register_out l G A ad F _ hC vs hvs) (cwV 1 hts gX5_unit_X5_register rfl rfl rfl (by decide +kernel) ⟨Nat.le_of_ble_eq_true rfl, Nat.le_of_ble_eq_true rfl⟩) hC.fp rfl rfl rfl hl.1 rfl (Nat.le_of_ble_eq_true rfl) dX5_unit_2 ⟨Nat.le_of_ble_eq_true rfl, Nat.le_of_ble_eq_true rfl⟩ rfl (fun H locs hw => ?_)
    refine lv_astoreN (lv' := [(5, .null), (0, .ref (ad 51)), (1, .int vs), (2, .int vt), (3, .int vu), (4, .int vd)]) hx hb dX5_unit_5 hl (by decide) rfl (fun ls hl => ?_)
    refine lv_aload_n hx hb dX5_unit_7 rfl (lv_at hl 1 rfl) ?_
    refine lv_iload_n hx hb dX5_unit_8 rfl (lv_at hl 3 rfl) ?_
    rcases ix_cases 16 (by decide) vt with hvt | ⟨kvt, hkvt, rfl⟩
    · skip
      have xvt := ix_none hvt
      refine h_callV (st1 := [.null]) [.int vt] [] ⟨hx, hb, hml, hown, hts⟩ hE hw (c_X5_register_out l G A ad F _ hC vt hvt) (cwV 1 hts gX5_unit_X5_register rfl rfl rfl (by decide +kernel) ⟨Nat.le_of_ble_eq_true rfl, Nat.le_of_ble_eq_true rfl⟩) hC.fp rfl rfl rfl hl.1 rfl (Nat.le_of_ble_eq_true rfl) dX5_unit_9 ⟨Nat.le_of_ble_eq_true rfl, Nat.le_of_ble_eq_true rfl⟩ rfl (fun H locs hw => ?_)
      refine lv_astoreN (lv' := [(6, .null), (5, .null), (0, .ref (ad 51)), (1, .int vs), (2, .int vt), (3, .int vu), (4, .int vd)]) hx hb dX5_unit_12 hl (by decide) rfl (fun ls hl => ?_)
      refine lv_aloadN hx hb dX5_unit_14 (lv_at hl 1 rfl) ?_
      refine lv_ifnullN (tgt := 42) hx hb dX5_unit_16 (by decide) ?_
      refine lv_iconst (v := (-1)) hx hb dX5_unit_42 (by decide) ?_
      exact h_iretP hx hb hlk hr hw dX5_unit_43 (by simp only [sp_unit, xvs, xvt, hld]) (by simp only [sp_unit, xvs, xvt, hld]; exact ⟨_, hC, hq⟩)
    · skip
      have xvt := ix_in (n := 16) hkvt (by decide)
      refine h_callV (st1 := [.ref (ad kvt)]) [.int (nI kvt)] [] ⟨hx, hb, hml, hown, hts⟩ hE hw (c_X5_register_in l G A ad F _ hC kvt hkvt) (cwV 1 hts gX5_unit_X5_register rfl rfl rfl (by decide +kernel) ⟨Nat.le_of_ble_eq_true rfl, Nat.le_of_ble_eq_true rfl⟩) hC.fp rfl rfl rfl hl.1 rfl (Nat.le_of_ble_eq_true rfl) dX5_unit_9 ⟨Nat.le_of_ble_eq_true rfl, Nat.le_of_ble_eq_true rfl⟩ rfl (fun H locs hw => ?_)
      refine lv_astore (lv' := [(6, .ref (ad kvt)), (5, .null), (0, .ref (ad 51)), (1, .int vs), (2, .int (nI kvt)), (3, .int vu), (4, .int vd)]) hx hb dX5_unit_12 hl (by decide) rfl (fun ls hl => ?_)
      refine lv_aloadN hx hb dX5_unit_14 (lv_at hl 1 rfl) ?_
      refine lv_ifnullN (tgt := 42) hx hb dX5_unit_16 (by decide) ?_
      refine lv_iconst (v := (-1)) hx hb dX5_unit_42 (by decide) ?_
      exact h_iretP hx hb hlk hr hw dX5_unit_43 (by simp only [sp_unit, xvs, xvt, hld]) (by simp only [sp_unit, xvs, xvt, hld]; exact ⟨_, hC, hq⟩)
  · skip
    have xvs := ix_in (n := 16) hkvs (by decide)
    refine h_callV (st1 := [.ref (ad kvs)]) [.int (nI kvs)] [] ⟨hx, hb, hml, hown, hts⟩ hE hw (c_X5_register_in l G A ad F _ hC kvs hkvs) (cwV 1 hts gX5_unit_X5_register rfl rfl rfl (by decide +kernel) ⟨Nat.le_of_ble_eq_true rfl, Nat.le_of_ble_eq_true rfl⟩) hC.fp rfl rfl rfl hl.1 rfl (Nat.le_of_ble_eq_true rfl) dX5_unit_2 ⟨Nat.le_of_ble_eq_true rfl, Nat.le_of_ble_eq_true rfl⟩ rfl (fun H locs hw => ?_)
    refine lv_astore (lv' := [(5, .ref (ad kvs)), (0, .ref (ad 51)), (1, .int (nI kvs)), (2, .int vt), (3, .int vu), (4, .int vd)]) hx hb dX5_unit_5 hl (by decide) rfl (fun ls hl => ?_)
    refine lv_aload_n hx hb dX5_unit_7 rfl (lv_at hl 1 rfl) ?_
    refine lv_iload_n hx hb dX5_unit_8 rfl (lv_at hl 3 rfl) ?_
    rcases ix_cases 16 (by decide) vt with hvt | ⟨kvt, hkvt, rfl⟩
    · skip
      have xvt := ix_none hvt
      refine h_callV (st1 := [.null]) [.int vt] [] ⟨hx, hb, hml, hown, hts⟩ hE hw (c_X5_register_out l G A ad F _ hC vt hvt) (cwV 1 hts gX5_unit_X5_register rfl rfl rfl (by decide +kernel) ⟨Nat.le_of_ble_eq_true rfl, Nat.le_of_ble_eq_true rfl⟩) hC.fp rfl rfl rfl hl.1 rfl (Nat.le_of_ble_eq_true rfl) dX5_unit_9 ⟨Nat.le_of_ble_eq_true rfl, Nat.le_of_ble_eq_true rfl⟩ rfl (fun H locs hw => ?_)
      refine lv_astoreN (lv' := [(6, .null), (5, .ref (ad kvs)), (0, .ref (ad 51)), (1, .int (nI kvs)), (2, .int vt), (3, .int vu), (4, .int vd)]) hx hb dX5_unit_12 hl (by decide) rfl (fun ls hl => ?_)
      refine lv_aload hx hb dX5_unit_14 (lv_at hl 1 rfl) ?_
      refine lv_ifnull hx hb dX5_unit_16 ?_
      refine lv_aloadN hx hb dX5_unit_19 (lv_at hl 0 rfl) ?_
      refine lv_ifnullN (tgt := 42) hx hb dX5_unit_21 (by decide) ?_
      refine lv_iconst (v := (-1)) hx hb dX5_unit_42 (by decide) ?_
      exact h_iretP hx hb hlk hr hw dX5_unit_43 (by simp only [sp_unit, xvs, xvt, hld]) (by simp only [sp_unit, xvs, xvt, hld]; exact ⟨_, hC, hq⟩)
    · skip
      have xvt := ix_in (n := 16) hkvt (by decide)
      refine h_callV (st1 := [.ref (ad kvt)]) [.int (nI kvt)] [] ⟨hx, hb, hml, hown, hts⟩ hE hw (c_X5_register_in l G A ad F _ hC kvt hkvt) (cwV 1 hts gX5_unit_X5_register rfl rfl rfl (by decide +kernel) ⟨Nat.le_of_ble_eq_true rfl, Nat.le_of_ble_eq_true rfl⟩) hC.fp rfl rfl rfl hl.1 rfl (Nat.le_of_ble_eq_true rfl) dX5_unit_9 ⟨Nat.le_of_ble_eq_true rfl, Nat.le_of_ble_eq_true rfl⟩ rfl (fun H locs hw => ?_)
      refine lv_astore (lv' := [(6, .ref (ad kvt)), (5, .ref (ad kvs)), (0, .ref (ad 51)), (1, .int (nI kvs)), (2, .int (nI kvt)), (3, .int vu), (4, .int vd)]) hx hb dX5_unit_12 hl (by decide) rfl (fun ls hl => ?_)
      refine lv_aload hx hb dX5_unit_14 (lv_at hl 1 rfl) ?_
      refine lv_ifnull hx hb dX5_unit_16 ?_
      refine lv_aload hx hb dX5_unit_19 (lv_at hl 0 rfl) ?_
      refine lv_ifnull hx hb dX5_unit_21 ?_
      refine lv_iload_n hx hb dX5_unit_24 rfl (lv_at hl 5 rfl) ?_
      refine lv_if_lt (tgt := 42) hx hb dX5_unit_25 (by decide) (fun c_25 => ?_) (fun c_25 => ?_)
      · skip
        have xvu : ix 24 vu = none := ix_none (Or.inl c_25)
        refine lv_iconst (v := (-1)) hx hb dX5_unit_42 (by decide) ?_
        exact h_iretP hx hb hlk hr hw dX5_unit_43 (by simp only [sp_unit, xvs, xvt, xvu, hld]) (by simp only [sp_unit, xvs, xvt, xvu, hld]; exact ⟨_, hC, hq⟩)
      · skip
        refine lv_iload_n hx hb dX5_unit_28 rfl (lv_at hl 5 rfl) ?_
        refine lv_bipush (v := 24) hx hb dX5_unit_29 (by decide) ?_
        refine lv_icmp_ge (tgt := 42) hx hb dX5_unit_31 (by decide) (fun c_31 => ?_) (fun c_31 => ?_)
        · skip
          have xvu : ix 24 vu = none := ix_none (Or.inr c_31)
          refine lv_iconst (v := (-1)) hx hb dX5_unit_42 (by decide) ?_
          exact h_iretP hx hb hlk hr hw dX5_unit_43 (by simp only [sp_unit, xvs, xvt, xvu, hld]) (by simp only [sp_unit, xvs, xvt, xvu, hld]; exact ⟨_, hC, hq⟩)
        · skip
          obtain ⟨ku, hku, rfl⟩ := (ix_cases 24 (by decide) vu).resolve_left (fun w => w.elim c_25 c_31)
          have xvu := ix_in (n := 24) hku (by decide)
          refine lv_iload hx hb dX5_unit_34 (lv_at hl 6 rfl) ?_
          refine h_callS (st1 := [.int (bI (vd = 0 ∨ vd = 1))]) [.int vd] [] ⟨hx, hb, hml, hown, hts⟩ hE hw (c_X5_isSide l G A (CL ad) F vd) (va_cwS 1 hts gX5_unit_X5_isSide rfl rfl rfl (by decide +kernel) ⟨Nat.le_of_ble_eq_true rfl, Nat.le_of_ble_eq_true rfl⟩) rfl hl.1 rfl (Nat.le_of_ble_eq_true rfl) dX5_unit_36 ⟨Nat.le_of_ble_eq_true rfl, Nat.le_of_ble_eq_true rfl⟩ rfl (fun H locs hw => ?_)
          refine lv_if_ne (tgt := 44) hx hb dX5_unit_39 (by decide) (fun c_39 => ?_) (fun c_39 => ?_)
          · skip
            have c_39 := bI_ne.mp c_39
            refine lv_aload_n hx hb dX5_unit_44 rfl (lv_at hl 2 rfl) ?_
            refine h_get hx hb hE hw hts hinX5 hown (ci := 5) rfl 5 (by decide) lk_43 (fun _ h9 => h9) hC.fp rfl dX5_unit_45 ?_
            refine lv_iload_n hx hb dX5_unit_48 rfl (lv_at hl 5 rfl) ?_
            refine h_callV (st1 := []) [.int (nI ku)] [] ⟨hx, hb, hml, hown, hts⟩ hE hw (c_X1_becomeUnit l G A (CL ad) F (ad 28) (q 28) (hC.q (i := 28) (by decide)) ku hku) (cwV 1 hts gX5_unit_X1_becomeUnit rfl rfl rfl (by decide +kernel) ⟨Nat.le_of_ble_eq_true rfl, Nat.le_of_ble_eq_true rfl⟩) (hC.q (i := 28) (by decide)) rfl rfl rfl hl.1 rfl (Nat.le_of_ble_eq_true rfl) dX5_unit_49 ⟨Nat.le_of_ble_eq_true rfl, Nat.le_of_ble_eq_true rfl⟩ rfl (fun H locs hw => ?_)
            refine lv_aload_n hx hb dX5_unit_52 rfl (lv_at hl 2 rfl) ?_
            refine h_get hx hb hE hw hts hinX5 hown (ci := 5) rfl 5 (by decide) lk_43 (fun _ h9 => h9) (pt_ne hC.fp (hC.ne (i := 51) (j := 28) (by decide) (by decide) (by decide))) rfl dX5_unit_53 ?_
            refine lv_iload hx hb dX5_unit_56 (lv_at hl 6 rfl) ?_
            refine lv_aload hx hb dX5_unit_58 (lv_at hl 0 rfl) ?_
            refine lv_aload_n hx hb dX5_unit_60 rfl (lv_at hl 2 rfl) ?_
            refine h_get hx hb hE hw hts hinX5 hown (ci := 5) rfl 5 (by decide) lk_43 (fun _ h9 => h9) (pt_ne hC.fp (hC.ne (i := 51) (j := 28) (by decide) (by decide) (by decide))) rfl dX5_unit_61 ?_
            refine h_callV (st1 := []) [.int vd, .ref (ad kvt), .ref (ad 28)] [] ⟨hx, hb, hml, hown, hts⟩ hE hw (c_X1_becomeProductOn l G A (CL ad) (va_up F (ad 28) (eq4 (uq4 ku))) (ad 28) (uq4 ku) (pt_up (hC.q (i := 28) (by decide))) vd (ad kvt) (ad 28) (rg kvt) (uq4 ku) (pt_ne (pt_eq (hC.q (i := kvt) (Nat.lt_of_lt_of_le hkvt (by decide))) (by rw [show ((q, kd, (fun k => nI (z k)), pl, nI cnt) : CS).1 kvt = rg kvt from hq kvt (Nat.lt_of_lt_of_le hkvt (by decide))])) (hC.ne (i := kvt) (j := 28) (Nat.lt_of_lt_of_le hkvt (by decide)) (by decide) (by omega))) (pt_up (hC.q (i := 28) (by decide)))) (cwV 3 hts gX5_unit_X1_becomeProductOn rfl rfl rfl (by decide +kernel) ⟨Nat.le_of_ble_eq_true rfl, Nat.le_of_ble_eq_true rfl⟩) (pt_up (hC.q (i := 28) (by decide))) rfl rfl rfl hl.1 rfl (Nat.le_of_ble_eq_true rfl) dX5_unit_64 ⟨Nat.le_of_ble_eq_true rfl, Nat.le_of_ble_eq_true rfl⟩ rfl (fun H locs hw => ?_)
            refine lv_aload hx hb dX5_unit_67 (lv_at hl 1 rfl) ?_
            refine lv_aload_n hx hb dX5_unit_69 rfl (lv_at hl 2 rfl) ?_
            refine h_get hx hb hE hw hts hinX5 hown (ci := 5) rfl 5 (by decide) lk_43 (fun _ h9 => h9) (pt_ne (pt_ne hC.fp (hC.ne (i := 51) (j := 28) (by decide) (by decide) (by decide))) (hC.ne (i := 51) (j := 28) (by decide) (by decide) (by decide))) rfl dX5_unit_70 ?_
            by_cases hh : qhigh (qon vd (rg kvt) (uq4 ku))
            · skip
              refine h_callS (st1 := [.int (-3)]) [.ref (ad kvs), .ref (ad 28)] [] ⟨hx, hb, hml, hown, hts⟩ hE hw (c_X5_hold_hi l G A (CL ad) (va_up (va_up F (ad 28) (eq4 (uq4 ku))) (ad 28) (eq4 (qon vd (rg kvt) (uq4 ku)))) (ad kvs) (ad 28) (rg kvs) (qon vd (rg kvt) (uq4 ku)) (pt_ne (pt_ne (pt_eq (hC.q (i := kvs) (Nat.lt_of_lt_of_le hkvs (by decide))) (by rw [show ((q, kd, (fun k => nI (z k)), pl, nI cnt) : CS).1 kvs = rg kvs from hq kvs (Nat.lt_of_lt_of_le hkvs (by decide))])) (hC.ne (i := kvs) (j := 28) (Nat.lt_of_lt_of_le hkvs (by decide)) (by decide) (by omega))) (hC.ne (i := kvs) (j := 28) (Nat.lt_of_lt_of_le hkvs (by decide)) (by decide) (by omega))) (pt_up (pt_up (hC.q (i := 28) (by decide)))) hh) (va_cwS 2 hts gX5_unit_X5_hold rfl rfl rfl (by decide +kernel) ⟨Nat.le_of_ble_eq_true rfl, Nat.le_of_ble_eq_true rfl⟩) rfl hl.1 rfl (Nat.le_of_ble_eq_true rfl) dX5_unit_73 ⟨Nat.le_of_ble_eq_true rfl, Nat.le_of_ble_eq_true rfl⟩ rfl (fun H locs hw => ?_)
              exact h_iretP hx hb hlk hr hw dX5_unit_76 (by simp only [sp_unit, xvs, xvt, xvu, cif_t c_39, cif_t hh, hld]) (by simp only [sp_unit, xvs, xvt, xvu, cif_t c_39, cif_t hh, hld]; exact ⟨_, (CW.setq (CW.setq hC (i := 28) (by decide) (uq4 ku)) (i := 28) (by decide) (qon vd (rg kvt) (uq4 ku))), (qscr (qscr hq (by decide)) (by decide))⟩)
            · skip
              refine h_callS (st1 := [.int 0]) [.ref (ad kvs), .ref (ad 28)] [] ⟨hx, hb, hml, hown, hts⟩ hE hw (c_X5_hold_lo l G A (CL ad) (va_up (va_up F (ad 28) (eq4 (uq4 ku))) (ad 28) (eq4 (qon vd (rg kvt) (uq4 ku)))) (ad kvs) (ad 28) (rg kvs) (qon vd (rg kvt) (uq4 ku)) (pt_ne (pt_ne (pt_eq (hC.q (i := kvs) (Nat.lt_of_lt_of_le hkvs (by decide))) (by rw [show ((q, kd, (fun k => nI (z k)), pl, nI cnt) : CS).1 kvs = rg kvs from hq kvs (Nat.lt_of_lt_of_le hkvs (by decide))])) (hC.ne (i := kvs) (j := 28) (Nat.lt_of_lt_of_le hkvs (by decide)) (by decide) (by omega))) (hC.ne (i := kvs) (j := 28) (Nat.lt_of_lt_of_le hkvs (by decide)) (by decide) (by omega))) (pt_up (pt_up (hC.q (i := 28) (by decide)))) hh) (va_cwS 2 hts gX5_unit_X5_hold rfl rfl rfl (by decide +kernel) ⟨Nat.le_of_ble_eq_true rfl, Nat.le_of_ble_eq_true rfl⟩) rfl hl.1 rfl (Nat.le_of_ble_eq_true rfl) dX5_unit_73 ⟨Nat.le_of_ble_eq_true rfl, Nat.le_of_ble_eq_true rfl⟩ rfl (fun H locs hw => ?_)
              exact h_iretP hx hb hlk hr hw dX5_unit_76 (by simp only [sp_unit, xvs, xvt, xvu, cif_t c_39, cif_f hh, hld]) (by simp only [sp_unit, xvs, xvt, xvu, cif_t c_39, cif_f hh, hld]; exact ⟨_, (CW.setq (CW.setq (CW.setq hC (i := 28) (by decide) (uq4 ku)) (i := 28) (by decide) (qon vd (rg kvt) (uq4 ku))) (i := kvs) (Nat.lt_of_lt_of_le hkvs (by decide)) (qon vd (rg kvt) (uq4 ku))), (qup (qscr (qscr hq (by decide)) (by decide)))⟩)
          · skip
            have c_39 := bI_eq.mp c_39
            refine lv_iconst (v := (-1)) hx hb dX5_unit_42 (by decide) ?_
            exact h_iretP hx hb hlk hr hw dX5_unit_43 (by simp only [sp_unit, xvs, xvt, xvu, cif_f c_39, hld]) (by simp only [sp_unit, xvs, xvt, xvu, cif_f c_39, hld]; exact ⟨_, hC, hq⟩)
