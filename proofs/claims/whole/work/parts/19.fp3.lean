noncomputable def sp_divide (S : SS) (s r t u sd : Int32) : Int32 × SS := match ix 16 s with
  | none => (-1, S)
  | some a => match ix 16 r with
    | none => (-1, S)
    | some b => match ix 16 t with
      | none => (-1, S)
      | some c => match ix 16 u with
        | none => (-1, S)
        | some d => cif (s = r) (-1, S) (cif (sd = 0 ∨ sd = 1) (cif (qnorm (S.1 d) = 0) (-2, S) (cif (qhigh (quo sd (S.1 c) (S.1 d))) (-3, S) (cif (qhigh (rst sd (S.1 c) (S.1 d))) (-3, S) (0, sRg (sRg S a (quo sd (S.1 c) (S.1 d))) b (rst sd (S.1 c) (S.1 d)))))) (-1, S))
noncomputable def sp_divisor (S : SS) (s t u sd : Int32) : Int32 × SS := match ix 16 s with
  | none => (-1, S)
  | some a => match ix 16 t with
    | none => (-1, S)
    | some b => match ix 16 u with
      | none => (-1, S)
      | some c => cif (sd = 0 ∨ sd = 1) (cif (qzero (S.1 b)) (cif (qzero (S.1 c)) (-2, S) (hldN S a (divi sd (S.1 b) (S.1 c)))) (hldN S a (divi sd (S.1 b) (S.1 c)))) (-1, S)
def fuL (sd : Int32) (x y : Q4) : Nat → Nat → Int32
  | 0, _ => -4
  | d + 1, u => if qon sd x (uq4 u) = y then nI u else fuL sd x y d (u + 1)
noncomputable def sp_like (S : SS) (s t sd : Int32) : Int32 × SS := match ix 16 s with
  | none => (-1, S)
  | some a => match ix 16 t with
    | none => (-1, S)
    | some b => cif (sd = 0 ∨ sd = 1) (fuL sd (S.1 a) (S.1 b) 24 0, S) (-1, S)
noncomputable def sp_factor (S : SS) (s k : Int32) : Int32 × SS := match ix 16 s with
  | none => (-1, S)
  | some a => match ix S.2.2.2.2 k with
    | none => (-2, S)
    | some j => hldN S a (S.1 (16 + j))
noncomputable def sp_many (S : SS) (n w : Int32) : Int32 × SS := cif (¬ n < 1 ∧ ¬ 200 < n) (if w = 0 then nI (mAll n.toNatClampNeg) else if w = 1 then nI (mWhole n.toNatClampNeg) else if w = 2 then cP n.toNatClampNeg 14 else -1, S) (-1, S)
noncomputable def sp_listed (S : SS) (s n i : Int32) : Int32 × SS := match ix 16 s with
  | none => (-1, S)
  | some a => cif (¬ n < 1 ∧ ¬ 200 < n) (cif (0 ≤ i) (match (fA n.toNatClampNeg 57)[i.toNatClampNeg]? with
    | none => (-4, S)
    | some t => (1, sRg S a (q4i t))) (-1, S)) (-1, S)
noncomputable def sp_turn (S : SS) (s i j : Int32) : Int32 × SS := match ix 16 s with
  | none => (-2000000000, S)
  | some a => cif (¬ i < 0 ∧ ¬ 2 < i) (cif (¬ j < 0 ∧ ¬ 2 < j) (cif (qzero (S.1 a)) (-2000000001, S) ((qtn (S.1 a) (3 * i + j)).toInt32, S)) (-2000000000, S)) (-2000000000, S)
noncomputable def sp_turned (S : SS) (s x y w i : Int32) : Int64 × SS := match ix 16 s with
  | none => (-1, S)
  | some a => cif (¬ x < -100 ∧ ¬ 100 < x) (cif (¬ y < -100 ∧ ¬ 100 < y) (cif (¬ w < -100 ∧ ¬ 100 < w) (cif (¬ i < 0 ∧ ¬ 2 < i) (qtn (S.1 a) (3 * i + 0) * x.toInt64 + qtn (S.1 a) (3 * i + 1) * y.toInt64 + qtn (S.1 a) (3 * i + 2) * w.toInt64, S) (-1, S)) (-1, S)) (-1, S)) (-1, S)
theorem int_lt3 {k : Int32} (h1 : 0 ≤ k.toInt) (h2 : k.toInt ≤ 2) : k = 0 ∨ k = 1 ∨ k = 2 := by
  rcases int_lt9 h1 (by omega) with h | h | h | h | h | h | h | h | h
  · exact Or.inl h
  · exact Or.inr (Or.inl h)
  · exact Or.inr (Or.inr h)
  all_goals (subst h; exact absurd h2 (by decide))

theorem lt1 {n : Int32} (h : n < 0) : n < 1 := by
  rw [Int32.lt_iff_toInt_lt] at h ⊢
  have e1 : (1 : Int32).toInt = 1 := by decide
  have e0 : (0 : Int32).toInt = 0 := by decide
  omega
set_option maxHeartbeats 4000000 in
set_option maxRecDepth 100000 in
theorem c_X5_divide (l : Launch) (G : GG) (A : Nat → Prop) (ad : Nat → Nat) (F : FM) (rg : Nat → Q4) (kd : Nat → Int32) (z : Nat → Nat) (pl : Nat → Nat → Int64) (cnt : Nat) (hR : CR G ad (rg, kd, z, pl, cnt) F) (hz : ∀ k, k < 6 → z k ≤ 16) (hc12 : cnt ≤ 12) (vs : Int32) (vr : Int32) (vt : Int32) (vu : Int32) (vd : Int32) : PT l yX5_divide wsX5_divide { frames := 4, cells := 0, slots := 0, locals := 98 } G A (CL ad) [.ref (ad 51), .int vs, .int vr, .int vt, .int vu, .int vd] F (some (.int (sp_divide (rg, kd, z, pl, cnt) vs vr vt vu vd).1)) (CR G ad (sp_divide (rg, kd, z, pl, cnt) vs vr vt vu vd).2) := by
  refine PT.ofW (cc := cX5_divide) (maxL := 10) (ret := (some .int)) (plainFor_of_name (by decide)) rfl (Nat.le_of_ble_eq_true rfl) ?_
  intro p e s m below meth c ls hx hb hr hml hown hts hlk hE hw hl
  have hl : lv_has ls 10 [(0, .ref (ad 51)), (1, .int vs), (2, .int vr), (3, .int vt), (4, .int vu), (5, .int vd)] := hl
  have hown : s.vm.findClass RX5 = some m.cls := hown
  have lk_24 := hts (.fieldLink RX5 24 "FourParts" "reckoner" "LFourParts$Reckoner;") (by decide +kernel)
  have hinX5 : ∀ w ∈ u_ws RX5 TX5 6, w ∈ wsX5_divide := by decide +kernel
  have lk_160 := hts (.fieldLink RX5 160 "FourParts$Reckoner" "quotient" "LFourParts$Quad;") (by decide +kernel)
  have hinX2 : ∀ w ∈ u_ws RX2 TX2 8, w ∈ wsX5_divide := by decide +kernel
  have lk_163 := hts (.fieldLink RX5 163 "FourParts$Reckoner" "rest" "LFourParts$Quad;") (by decide +kernel)
  obtain ⟨q, hC, hq⟩ := hR
  refine lv_aload_n hx hb dX5_divide_0 rfl (lv_at hl 0 rfl) ?_
  refine lv_iload_n hx hb dX5_divide_1 rfl (lv_at hl 1 rfl) ?_
  rcases ix_cases 16 (by decide) vs with hvs | ⟨kvs, hkvs, rfl⟩
  · skip
    have xvs := ix_none hvs
    refine h_callV (st1 := [.null]) [.int vs] [] ⟨hx, hb, hml, hown, hts⟩ hE hw (c_X5_register_out l G A ad F _ hC vs hvs) (cwV 1 hts gX5_divide_X5_register rfl rfl rfl (by decide +kernel) ⟨Nat.le_of_ble_eq_true rfl, Nat.le_of_ble_eq_true rfl⟩) hC.fp rfl rfl rfl hl.1 rfl (Nat.le_of_ble_eq_true rfl) dX5_divide_2 ⟨Nat.le_of_ble_eq_true rfl, Nat.le_of_ble_eq_true rfl⟩ rfl (fun H locs hw => ?_)
    refine lv_astoreN (lv' := [(6, .null), (0, .ref (ad 51)), (1, .int vs), (2, .int vr), (3, .int vt), (4, .int vu), (5, .int vd)]) hx hb dX5_divide_5 hl (by decide) rfl (fun ls hl => ?_)
    refine lv_aload_n hx hb dX5_divide_7 rfl (lv_at hl 1 rfl) ?_
    refine lv_iload_n hx hb dX5_divide_8 rfl (lv_at hl 3 rfl) ?_
    rcases ix_cases 16 (by decide) vr with hvr | ⟨kvr, hkvr, rfl⟩
    · skip
      have xvr := ix_none hvr
      refine h_callV (st1 := [.null]) [.int vr] [] ⟨hx, hb, hml, hown, hts⟩ hE hw (c_X5_register_out l G A ad F _ hC vr hvr) (cwV 1 hts gX5_divide_X5_register rfl rfl rfl (by decide +kernel) ⟨Nat.le_of_ble_eq_true rfl, Nat.le_of_ble_eq_true rfl⟩) hC.fp rfl rfl rfl hl.1 rfl (Nat.le_of_ble_eq_true rfl) dX5_divide_9 ⟨Nat.le_of_ble_eq_true rfl, Nat.le_of_ble_eq_true rfl⟩ rfl (fun H locs hw => ?_)
      refine lv_astoreN (lv' := [(7, .null), (6, .null), (0, .ref (ad 51)), (1, .int vs), (2, .int vr), (3, .int vt), (4, .int vu), (5, .int vd)]) hx hb dX5_divide_12 hl (by decide) rfl (fun ls hl => ?_)
      refine lv_aload_n hx hb dX5_divide_14 rfl (lv_at hl 2 rfl) ?_
      refine lv_iload_n hx hb dX5_divide_15 rfl (lv_at hl 5 rfl) ?_
      rcases ix_cases 16 (by decide) vt with hvt | ⟨kvt, hkvt, rfl⟩
      · skip
        have xvt := ix_none hvt
        refine h_callV (st1 := [.null]) [.int vt] [] ⟨hx, hb, hml, hown, hts⟩ hE hw (c_X5_register_out l G A ad F _ hC vt hvt) (cwV 1 hts gX5_divide_X5_register rfl rfl rfl (by decide +kernel) ⟨Nat.le_of_ble_eq_true rfl, Nat.le_of_ble_eq_true rfl⟩) hC.fp rfl rfl rfl hl.1 rfl (Nat.le_of_ble_eq_true rfl) dX5_divide_16 ⟨Nat.le_of_ble_eq_true rfl, Nat.le_of_ble_eq_true rfl⟩ rfl (fun H locs hw => ?_)
        refine lv_astoreN (lv' := [(8, .null), (7, .null), (6, .null), (0, .ref (ad 51)), (1, .int vs), (2, .int vr), (3, .int vt), (4, .int vu), (5, .int vd)]) hx hb dX5_divide_19 hl (by decide) rfl (fun ls hl => ?_)
        refine lv_aload_n hx hb dX5_divide_21 rfl (lv_at hl 3 rfl) ?_
        refine lv_iload hx hb dX5_divide_22 (lv_at hl 7 rfl) ?_
        rcases ix_cases 16 (by decide) vu with hvu | ⟨kvu, hkvu, rfl⟩
        · skip
          have xvu := ix_none hvu
          refine h_callV (st1 := [.null]) [.int vu] [] ⟨hx, hb, hml, hown, hts⟩ hE hw (c_X5_register_out l G A ad F _ hC vu hvu) (cwV 1 hts gX5_divide_X5_register rfl rfl rfl (by decide +kernel) ⟨Nat.le_of_ble_eq_true rfl, Nat.le_of_ble_eq_true rfl⟩) hC.fp rfl rfl rfl hl.1 rfl (Nat.le_of_ble_eq_true rfl) dX5_divide_24 ⟨Nat.le_of_ble_eq_true rfl, Nat.le_of_ble_eq_true rfl⟩ rfl (fun H locs hw => ?_)
          refine lv_astoreN (lv' := [(9, .null), (8, .null), (7, .null), (6, .null), (0, .ref (ad 51)), (1, .int vs), (2, .int vr), (3, .int vt), (4, .int vu), (5, .int vd)]) hx hb dX5_divide_27 hl (by decide) rfl (fun ls hl => ?_)
          refine lv_aloadN hx hb dX5_divide_29 (lv_at hl 3 rfl) ?_
          refine lv_ifnullN (tgt := 62) hx hb dX5_divide_31 (by decide) ?_
          refine lv_iconst (v := (-1)) hx hb dX5_divide_62 (by decide) ?_
          exact h_iretP hx hb hlk hr hw dX5_divide_63 (by simp only [sp_divide, xvs, xvr, xvt, xvu]) (by simp only [sp_divide, xvs, xvr, xvt, xvu]; exact ⟨_, hC, hq⟩)
        · skip
          have xvu := ix_in (n := 16) hkvu (by decide)
          refine h_callV (st1 := [.ref (ad kvu)]) [.int (nI kvu)] [] ⟨hx, hb, hml, hown, hts⟩ hE hw (c_X5_register_in l G A ad F _ hC kvu hkvu) (cwV 1 hts gX5_divide_X5_register rfl rfl rfl (by decide +kernel) ⟨Nat.le_of_ble_eq_true rfl, Nat.le_of_ble_eq_true rfl⟩) hC.fp rfl rfl rfl hl.1 rfl (Nat.le_of_ble_eq_true rfl) dX5_divide_24 ⟨Nat.le_of_ble_eq_true rfl, Nat.le_of_ble_eq_true rfl⟩ rfl (fun H locs hw => ?_)
          refine lv_astore (lv' := [(9, .ref (ad kvu)), (8, .null), (7, .null), (6, .null), (0, .ref (ad 51)), (1, .int vs), (2, .int vr), (3, .int vt), (4, .int (nI kvu)), (5, .int vd)]) hx hb dX5_divide_27 hl (by decide) rfl (fun ls hl => ?_)
          refine lv_aloadN hx hb dX5_divide_29 (lv_at hl 3 rfl) ?_
          refine lv_ifnullN (tgt := 62) hx hb dX5_divide_31 (by decide) ?_
          refine lv_iconst (v := (-1)) hx hb dX5_divide_62 (by decide) ?_
          exact h_iretP hx hb hlk hr hw dX5_divide_63 (by simp only [sp_divide, xvs, xvr, xvt, xvu]) (by simp only [sp_divide, xvs, xvr, xvt, xvu]; exact ⟨_, hC, hq⟩)
      · skip
        have xvt := ix_in (n := 16) hkvt (by decide)
        refine h_callV (st1 := [.ref (ad kvt)]) [.int (nI kvt)] [] ⟨hx, hb, hml, hown, hts⟩ hE hw (c_X5_register_in l G A ad F _ hC kvt hkvt) (cwV 1 hts gX5_divide_X5_register rfl rfl rfl (by decide +kernel) ⟨Nat.le_of_ble_eq_true rfl, Nat.le_of_ble_eq_true rfl⟩) hC.fp rfl rfl rfl hl.1 rfl (Nat.le_of_ble_eq_true rfl) dX5_divide_16 ⟨Nat.le_of_ble_eq_true rfl, Nat.le_of_ble_eq_true rfl⟩ rfl (fun H locs hw => ?_)
        refine lv_astore (lv' := [(8, .ref (ad kvt)), (7, .null), (6, .null), (0, .ref (ad 51)), (1, .int vs), (2, .int vr), (3, .int (nI kvt)), (4, .int vu), (5, .int vd)]) hx hb dX5_divide_19 hl (by decide) rfl (fun ls hl => ?_)
        refine lv_aload_n hx hb dX5_divide_21 rfl (lv_at hl 3 rfl) ?_
        refine lv_iload hx hb dX5_divide_22 (lv_at hl 7 rfl) ?_
        rcases ix_cases 16 (by decide) vu with hvu | ⟨kvu, hkvu, rfl⟩
        · skip
          have xvu := ix_none hvu
          refine h_callV (st1 := [.null]) [.int vu] [] ⟨hx, hb, hml, hown, hts⟩ hE hw (c_X5_register_out l G A ad F _ hC vu hvu) (cwV 1 hts gX5_divide_X5_register rfl rfl rfl (by decide +kernel) ⟨Nat.le_of_ble_eq_true rfl, Nat.le_of_ble_eq_true rfl⟩) hC.fp rfl rfl rfl hl.1 rfl (Nat.le_of_ble_eq_true rfl) dX5_divide_24 ⟨Nat.le_of_ble_eq_true rfl, Nat.le_of_ble_eq_true rfl⟩ rfl (fun H locs hw => ?_)
          refine lv_astoreN (lv' := [(9, .null), (8, .ref (ad kvt)), (7, .null), (6, .null), (0, .ref (ad 51)), (1, .int vs), (2, .int vr), (3, .int (nI kvt)), (4, .int vu), (5, .int vd)]) hx hb dX5_divide_27 hl (by decide) rfl (fun ls hl => ?_)
          refine lv_aloadN hx hb dX5_divide_29 (lv_at hl 3 rfl) ?_
          refine lv_ifnullN (tgt := 62) hx hb dX5_divide_31 (by decide) ?_
          refine lv_iconst (v := (-1)) hx hb dX5_divide_62 (by decide) ?_
          exact h_iretP hx hb hlk hr hw dX5_divide_63 (by simp only [sp_divide, xvs, xvr, xvt, xvu]) (by simp only [sp_divide, xvs, xvr, xvt, xvu]; exact ⟨_, hC, hq⟩)
        · skip
          have xvu := ix_in (n := 16) hkvu (by decide)
          refine h_callV (st1 := [.ref (ad kvu)]) [.int (nI kvu)] [] ⟨hx, hb, hml, hown, hts⟩ hE hw (c_X5_register_in l G A ad F _ hC kvu hkvu) (cwV 1 hts gX5_divide_X5_register rfl rfl rfl (by decide +kernel) ⟨Nat.le_of_ble_eq_true rfl, Nat.le_of_ble_eq_true rfl⟩) hC.fp rfl rfl rfl hl.1 rfl (Nat.le_of_ble_eq_true rfl) dX5_divide_24 ⟨Nat.le_of_ble_eq_true rfl, Nat.le_of_ble_eq_true rfl⟩ rfl (fun H locs hw => ?_)
          refine lv_astore (lv' := [(9, .ref (ad kvu)), (8, .ref (ad kvt)), (7, .null), (6, .null), (0, .ref (ad 51)), (1, .int vs), (2, .int vr), (3, .int (nI kvt)), (4, .int (nI kvu)), (5, .int vd)]) hx hb dX5_divide_27 hl (by decide) rfl (fun ls hl => ?_)
          refine lv_aloadN hx hb dX5_divide_29 (lv_at hl 3 rfl) ?_
          refine lv_ifnullN (tgt := 62) hx hb dX5_divide_31 (by decide) ?_
          refine lv_iconst (v := (-1)) hx hb dX5_divide_62 (by decide) ?_
          exact h_iretP hx hb hlk hr hw dX5_divide_63 (by simp only [sp_divide, xvs, xvr, xvt, xvu]) (by simp only [sp_divide, xvs, xvr, xvt, xvu]; exact ⟨_, hC, hq⟩)
    · skip
      have xvr := ix_in (n := 16) hkvr (by decide)
      refine h_callV (st1 := [.ref (ad kvr)]) [.int (nI kvr)] [] ⟨hx, hb, hml, hown, hts⟩ hE hw (c_X5_register_in l G A ad F _ hC kvr hkvr) (cwV 1 hts gX5_divide_X5_register rfl rfl rfl (by decide +kernel) ⟨Nat.le_of_ble_eq_true rfl, Nat.le_of_ble_eq_true rfl⟩) hC.fp rfl rfl rfl hl.1 rfl (Nat.le_of_ble_eq_true rfl) dX5_divide_9 ⟨Nat.le_of_ble_eq_true rfl, Nat.le_of_ble_eq_true rfl⟩ rfl (fun H locs hw => ?_)
      refine lv_astore (lv' := [(7, .ref (ad kvr)), (6, .null), (0, .ref (ad 51)), (1, .int vs), (2, .int (nI kvr)), (3, .int vt), (4, .int vu), (5, .int vd)]) hx hb dX5_divide_12 hl (by decide) rfl (fun ls hl => ?_)
      refine lv_aload_n hx hb dX5_divide_14 rfl (lv_at hl 2 rfl) ?_
      refine lv_iload_n hx hb dX5_divide_15 rfl (lv_at hl 5 rfl) ?_
      rcases ix_cases 16 (by decide) vt with hvt | ⟨kvt, hkvt, rfl⟩
      · skip
        have xvt := ix_none hvt
        refine h_callV (st1 := [.null]) [.int vt] [] ⟨hx, hb, hml, hown, hts⟩ hE hw (c_X5_register_out l G A ad F _ hC vt hvt) (cwV 1 hts gX5_divide_X5_register rfl rfl rfl (by decide +kernel) ⟨Nat.le_of_ble_eq_true rfl, Nat.le_of_ble_eq_true rfl⟩) hC.fp rfl rfl rfl hl.1 rfl (Nat.le_of_ble_eq_true rfl) dX5_divide_16 ⟨Nat.le_of_ble_eq_true rfl, Nat.le_of_ble_eq_true rfl⟩ rfl (fun H locs hw => ?_)
        refine lv_astoreN (lv' := [(8, .null), (7, .ref (ad kvr)), (6, .null), (0, .ref (ad 51)), (1, .int vs), (2, .int (nI kvr)), (3, .int vt), (4, .int vu), (5, .int vd)]) hx hb dX5_divide_19 hl (by decide) rfl (fun ls hl => ?_)
        refine lv_aload_n hx hb dX5_divide_21 rfl (lv_at hl 3 rfl) ?_
        refine lv_iload hx hb dX5_divide_22 (lv_at hl 7 rfl) ?_
        rcases ix_cases 16 (by decide) vu with hvu | ⟨kvu, hkvu, rfl⟩
        · skip
          have xvu := ix_none hvu
          refine h_callV (st1 := [.null]) [.int vu] [] ⟨hx, hb, hml, hown, hts⟩ hE hw (c_X5_register_out l G A ad F _ hC vu hvu) (cwV 1 hts gX5_divide_X5_register rfl rfl rfl (by decide +kernel) ⟨Nat.le_of_ble_eq_true rfl, Nat.le_of_ble_eq_true rfl⟩) hC.fp rfl rfl rfl hl.1 rfl (Nat.le_of_ble_eq_true rfl) dX5_divide_24 ⟨Nat.le_of_ble_eq_true rfl, Nat.le_of_ble_eq_true rfl⟩ rfl (fun H locs hw => ?_)
          refine lv_astoreN (lv' := [(9, .null), (8, .null), (7, .ref (ad kvr)), (6, .null), (0, .ref (ad 51)), (1, .int vs), (2, .int (nI kvr)), (3, .int vt), (4, .int vu), (5, .int vd)]) hx hb dX5_divide_27 hl (by decide) rfl (fun ls hl => ?_)
          refine lv_aloadN hx hb dX5_divide_29 (lv_at hl 3 rfl) ?_
          refine lv_ifnullN (tgt := 62) hx hb dX5_divide_31 (by decide) ?_
          refine lv_iconst (v := (-1)) hx hb dX5_divide_62 (by decide) ?_
          exact h_iretP hx hb hlk hr hw dX5_divide_63 (by simp only [sp_divide, xvs, xvr, xvt, xvu]) (by simp only [sp_divide, xvs, xvr, xvt, xvu]; exact ⟨_, hC, hq⟩)
        · skip
          have xvu := ix_in (n := 16) hkvu (by decide)
          refine h_callV (st1 := [.ref (ad kvu)]) [.int (nI kvu)] [] ⟨hx, hb, hml, hown, hts⟩ hE hw (c_X5_register_in l G A ad F _ hC kvu hkvu) (cwV 1 hts gX5_divide_X5_register rfl rfl rfl (by decide +kernel) ⟨Nat.le_of_ble_eq_true rfl, Nat.le_of_ble_eq_true rfl⟩) hC.fp rfl rfl rfl hl.1 rfl (Nat.le_of_ble_eq_true rfl) dX5_divide_24 ⟨Nat.le_of_ble_eq_true rfl, Nat.le_of_ble_eq_true rfl⟩ rfl (fun H locs hw => ?_)
          refine lv_astore (lv' := [(9, .ref (ad kvu)), (8, .null), (7, .ref (ad kvr)), (6, .null), (0, .ref (ad 51)), (1, .int vs), (2, .int (nI kvr)), (3, .int vt), (4, .int (nI kvu)), (5, .int vd)]) hx hb dX5_divide_27 hl (by decide) rfl (fun ls hl => ?_)
          refine lv_aloadN hx hb dX5_divide_29 (lv_at hl 3 rfl) ?_
          refine lv_ifnullN (tgt := 62) hx hb dX5_divide_31 (by decide) ?_
          refine lv_iconst (v := (-1)) hx hb dX5_divide_62 (by decide) ?_
          exact h_iretP hx hb hlk hr hw dX5_divide_63 (by simp only [sp_divide, xvs, xvr, xvt, xvu]) (by simp only [sp_divide, xvs, xvr, xvt, xvu]; exact ⟨_, hC, hq⟩)
      · skip
        have xvt := ix_in (n := 16) hkvt (by decide)
        refine h_callV (st1 := [.ref (ad kvt)]) [.int (nI kvt)] [] ⟨hx, hb, hml, hown, hts⟩ hE hw (c_X5_register_in l G A ad F _ hC kvt hkvt) (cwV 1 hts gX5_divide_X5_register rfl rfl rfl (by decide +kernel) ⟨Nat.le_of_ble_eq_true rfl, Nat.le_of_ble_eq_true rfl⟩) hC.fp rfl rfl rfl hl.1 rfl (Nat.le_of_ble_eq_true rfl) dX5_divide_16 ⟨Nat.le_of_ble_eq_true rfl, Nat.le_of_ble_eq_true rfl⟩ rfl (fun H locs hw => ?_)
        refine lv_astore (lv' := [(8, .ref (ad kvt)), (7, .ref (ad kvr)), (6, .null), (0, .ref (ad 51)), (1, .int vs), (2, .int (nI kvr)), (3, .int (nI kvt)), (4, .int vu), (5, .int vd)]) hx hb dX5_divide_19 hl (by decide) rfl (fun ls hl => ?_)
        refine lv_aload_n hx hb dX5_divide_21 rfl (lv_at hl 3 rfl) ?_
        refine lv_iload hx hb dX5_divide_22 (lv_at hl 7 rfl) ?_
        rcases ix_cases 16 (by decide) vu with hvu | ⟨kvu, hkvu, rfl⟩
        · skip
          have xvu := ix_none hvu
          refine h_callV (st1 := [.null]) [.int vu] [] ⟨hx, hb, hml, hown, hts⟩ hE hw (c_X5_register_out l G A ad F _ hC vu hvu) (cwV 1 hts gX5_divide_X5_register rfl rfl rfl (by decide +kernel) ⟨Nat.le_of_ble_eq_true rfl, Nat.le_of_ble_eq_true rfl⟩) hC.fp rfl rfl rfl hl.1 rfl (Nat.le_of_ble_eq_true rfl) dX5_divide_24 ⟨Nat.le_of_ble_eq_true rfl, Nat.le_of_ble_eq_true rfl⟩ rfl (fun H locs hw => ?_)
          refine lv_astoreN (lv' := [(9, .null), (8, .ref (ad kvt)), (7, .ref (ad kvr)), (6, .null), (0, .ref (ad 51)), (1, .int vs), (2, .int (nI kvr)), (3, .int (nI kvt)), (4, .int vu), (5, .int vd)]) hx hb dX5_divide_27 hl (by decide) rfl (fun ls hl => ?_)
          refine lv_aloadN hx hb dX5_divide_29 (lv_at hl 3 rfl) ?_
          refine lv_ifnullN (tgt := 62) hx hb dX5_divide_31 (by decide) ?_
          refine lv_iconst (v := (-1)) hx hb dX5_divide_62 (by decide) ?_
          exact h_iretP hx hb hlk hr hw dX5_divide_63 (by simp only [sp_divide, xvs, xvr, xvt, xvu]) (by simp only [sp_divide, xvs, xvr, xvt, xvu]; exact ⟨_, hC, hq⟩)
        · skip
          have xvu := ix_in (n := 16) hkvu (by decide)
          refine h_callV (st1 := [.ref (ad kvu)]) [.int (nI kvu)] [] ⟨hx, hb, hml, hown, hts⟩ hE hw (c_X5_register_in l G A ad F _ hC kvu hkvu) (cwV 1 hts gX5_divide_X5_register rfl rfl rfl (by decide +kernel) ⟨Nat.le_of_ble_eq_true rfl, Nat.le_of_ble_eq_true rfl⟩) hC.fp rfl rfl rfl hl.1 rfl (Nat.le_of_ble_eq_true rfl) dX5_divide_24 ⟨Nat.le_of_ble_eq_true rfl, Nat.le_of_ble_eq_true rfl⟩ rfl (fun H locs hw => ?_)
          refine lv_astore (lv' := [(9, .ref (ad kvu)), (8, .ref (ad kvt)), (7, .ref (ad kvr)), (6, .null), (0, .ref (ad 51)), (1, .int vs), (2, .int (nI kvr)), (3, .int (nI kvt)), (4, .int (nI kvu)), (5, .int vd)]) hx hb dX5_divide_27 hl (by decide) rfl (fun ls hl => ?_)
          refine lv_aloadN hx hb dX5_divide_29 (lv_at hl 3 rfl) ?_
          refine lv_ifnullN (tgt := 62) hx hb dX5_divide_31 (by decide) ?_
          refine lv_iconst (v := (-1)) hx hb dX5_divide_62 (by decide) ?_
          exact h_iretP hx hb hlk hr hw dX5_divide_63 (by simp only [sp_divide, xvs, xvr, xvt, xvu]) (by simp only [sp_divide, xvs, xvr, xvt, xvu]; exact ⟨_, hC, hq⟩)
  · skip
    have xvs := ix_in (n := 16) hkvs (by decide)
    refine h_callV (st1 := [.ref (ad kvs)]) [.int (nI kvs)] [] ⟨hx, hb, hml, hown, hts⟩ hE hw (c_X5_register_in l G A ad F _ hC kvs hkvs) (cwV 1 hts gX5_divide_X5_register rfl rfl rfl (by decide +kernel) ⟨Nat.le_of_ble_eq_true rfl, Nat.le_of_ble_eq_true rfl⟩) hC.fp rfl rfl rfl hl.1 rfl (Nat.le_of_ble_eq_true rfl) dX5_divide_2 ⟨Nat.le_of_ble_eq_true rfl, Nat.le_of_ble_eq_true rfl⟩ rfl (fun H locs hw => ?_)
    refine lv_astore (lv' := [(6, .ref (ad kvs)), (0, .ref (ad 51)), (1, .int (nI kvs)), (2, .int vr), (3, .int vt), (4, .int vu), (5, .int vd)]) hx hb dX5_divide_5 hl (by decide) rfl (fun ls hl => ?_)
    refine lv_aload_n hx hb dX5_divide_7 rfl (lv_at hl 1 rfl) ?_
    refine lv_iload_n hx hb dX5_divide_8 rfl (lv_at hl 3 rfl) ?_
    rcases ix_cases 16 (by decide) vr with hvr | ⟨kvr, hkvr, rfl⟩
    · skip
      have xvr := ix_none hvr
      refine h_callV (st1 := [.null]) [.int vr] [] ⟨hx, hb, hml, hown, hts⟩ hE hw (c_X5_register_out l G A ad F _ hC vr hvr) (cwV 1 hts gX5_divide_X5_register rfl rfl rfl (by decide +kernel) ⟨Nat.le_of_ble_eq_true rfl, Nat.le_of_ble_eq_true rfl⟩) hC.fp rfl rfl rfl hl.1 rfl (Nat.le_of_ble_eq_true rfl) dX5_divide_9 ⟨Nat.le_of_ble_eq_true rfl, Nat.le_of_ble_eq_true rfl⟩ rfl (fun H locs hw => ?_)
      refine lv_astoreN (lv' := [(7, .null), (6, .ref (ad kvs)), (0, .ref (ad 51)), (1, .int (nI kvs)), (2, .int vr), (3, .int vt), (4, .int vu), (5, .int vd)]) hx hb dX5_divide_12 hl (by decide) rfl (fun ls hl => ?_)
      refine lv_aload_n hx hb dX5_divide_14 rfl (lv_at hl 2 rfl) ?_
      refine lv_iload_n hx hb dX5_divide_15 rfl (lv_at hl 5 rfl) ?_
      rcases ix_cases 16 (by decide) vt with hvt | ⟨kvt, hkvt, rfl⟩
      · skip
        have xvt := ix_none hvt
        refine h_callV (st1 := [.null]) [.int vt] [] ⟨hx, hb, hml, hown, hts⟩ hE hw (c_X5_register_out l G A ad F _ hC vt hvt) (cwV 1 hts gX5_divide_X5_register rfl rfl rfl (by decide +kernel) ⟨Nat.le_of_ble_eq_true rfl, Nat.le_of_ble_eq_true rfl⟩) hC.fp rfl rfl rfl hl.1 rfl (Nat.le_of_ble_eq_true rfl) dX5_divide_16 ⟨Nat.le_of_ble_eq_true rfl, Nat.le_of_ble_eq_true rfl⟩ rfl (fun H locs hw => ?_)
        refine lv_astoreN (lv' := [(8, .null), (7, .null), (6, .ref (ad kvs)), (0, .ref (ad 51)), (1, .int (nI kvs)), (2, .int vr), (3, .int vt), (4, .int vu), (5, .int vd)]) hx hb dX5_divide_19 hl (by decide) rfl (fun ls hl => ?_)
        refine lv_aload_n hx hb dX5_divide_21 rfl (lv_at hl 3 rfl) ?_
        refine lv_iload hx hb dX5_divide_22 (lv_at hl 7 rfl) ?_
        rcases ix_cases 16 (by decide) vu with hvu | ⟨kvu, hkvu, rfl⟩
        · skip
          have xvu := ix_none hvu
          refine h_callV (st1 := [.null]) [.int vu] [] ⟨hx, hb, hml, hown, hts⟩ hE hw (c_X5_register_out l G A ad F _ hC vu hvu) (cwV 1 hts gX5_divide_X5_register rfl rfl rfl (by decide +kernel) ⟨Nat.le_of_ble_eq_true rfl, Nat.le_of_ble_eq_true rfl⟩) hC.fp rfl rfl rfl hl.1 rfl (Nat.le_of_ble_eq_true rfl) dX5_divide_24 ⟨Nat.le_of_ble_eq_true rfl, Nat.le_of_ble_eq_true rfl⟩ rfl (fun H locs hw => ?_)
          refine lv_astoreN (lv' := [(9, .null), (8, .null), (7, .null), (6, .ref (ad kvs)), (0, .ref (ad 51)), (1, .int (nI kvs)), (2, .int vr), (3, .int vt), (4, .int vu), (5, .int vd)]) hx hb dX5_divide_27 hl (by decide) rfl (fun ls hl => ?_)
          refine lv_aload hx hb dX5_divide_29 (lv_at hl 3 rfl) ?_
          refine lv_ifnull hx hb dX5_divide_31 ?_
          refine lv_aloadN hx hb dX5_divide_34 (lv_at hl 2 rfl) ?_
          refine lv_ifnullN (tgt := 62) hx hb dX5_divide_36 (by decide) ?_
          refine lv_iconst (v := (-1)) hx hb dX5_divide_62 (by decide) ?_
          exact h_iretP hx hb hlk hr hw dX5_divide_63 (by simp only [sp_divide, xvs, xvr, xvt, xvu]) (by simp only [sp_divide, xvs, xvr, xvt, xvu]; exact ⟨_, hC, hq⟩)
        · skip
          have xvu := ix_in (n := 16) hkvu (by decide)
          refine h_callV (st1 := [.ref (ad kvu)]) [.int (nI kvu)] [] ⟨hx, hb, hml, hown, hts⟩ hE hw (c_X5_register_in l G A ad F _ hC kvu hkvu) (cwV 1 hts gX5_divide_X5_register rfl rfl rfl (by decide +kernel) ⟨Nat.le_of_ble_eq_true rfl, Nat.le_of_ble_eq_true rfl⟩) hC.fp rfl rfl rfl hl.1 rfl (Nat.le_of_ble_eq_true rfl) dX5_divide_24 ⟨Nat.le_of_ble_eq_true rfl, Nat.le_of_ble_eq_true rfl⟩ rfl (fun H locs hw => ?_)
          refine lv_astore (lv' := [(9, .ref (ad kvu)), (8, .null), (7, .null), (6, .ref (ad kvs)), (0, .ref (ad 51)), (1, .int (nI kvs)), (2, .int vr), (3, .int vt), (4, .int (nI kvu)), (5, .int vd)]) hx hb dX5_divide_27 hl (by decide) rfl (fun ls hl => ?_)
          refine lv_aload hx hb dX5_divide_29 (lv_at hl 3 rfl) ?_
          refine lv_ifnull hx hb dX5_divide_31 ?_
          refine lv_aloadN hx hb dX5_divide_34 (lv_at hl 2 rfl) ?_
          refine lv_ifnullN (tgt := 62) hx hb dX5_divide_36 (by decide) ?_
          refine lv_iconst (v := (-1)) hx hb dX5_divide_62 (by decide) ?_
          exact h_iretP hx hb hlk hr hw dX5_divide_63 (by simp only [sp_divide, xvs, xvr, xvt, xvu]) (by simp only [sp_divide, xvs, xvr, xvt, xvu]; exact ⟨_, hC, hq⟩)
      · skip
        have xvt := ix_in (n := 16) hkvt (by decide)
        refine h_callV (st1 := [.ref (ad kvt)]) [.int (nI kvt)] [] ⟨hx, hb, hml, hown, hts⟩ hE hw (c_X5_register_in l G A ad F _ hC kvt hkvt) (cwV 1 hts gX5_divide_X5_register rfl rfl rfl (by decide +kernel) ⟨Nat.le_of_ble_eq_true rfl, Nat.le_of_ble_eq_true rfl⟩) hC.fp rfl rfl rfl hl.1 rfl (Nat.le_of_ble_eq_true rfl) dX5_divide_16 ⟨Nat.le_of_ble_eq_true rfl, Nat.le_of_ble_eq_true rfl⟩ rfl (fun H locs hw => ?_)
        refine lv_astore (lv' := [(8, .ref (ad kvt)), (7, .null), (6, .ref (ad kvs)), (0, .ref (ad 51)), (1, .int (nI kvs)), (2, .int vr), (3, .int (nI kvt)), (4, .int vu), (5, .int vd)]) hx hb dX5_divide_19 hl (by decide) rfl (fun ls hl => ?_)
        refine lv_aload_n hx hb dX5_divide_21 rfl (lv_at hl 3 rfl) ?_
        refine lv_iload hx hb dX5_divide_22 (lv_at hl 7 rfl) ?_
        rcases ix_cases 16 (by decide) vu with hvu | ⟨kvu, hkvu, rfl⟩
        · skip
          have xvu := ix_none hvu
          refine h_callV (st1 := [.null]) [.int vu] [] ⟨hx, hb, hml, hown, hts⟩ hE hw (c_X5_register_out l G A ad F _ hC vu hvu) (cwV 1 hts gX5_divide_X5_register rfl rfl rfl (by decide +kernel) ⟨Nat.le_of_ble_eq_true rfl, Nat.le_of_ble_eq_true rfl⟩) hC.fp rfl rfl rfl hl.1 rfl (Nat.le_of_ble_eq_true rfl) dX5_divide_24 ⟨Nat.le_of_ble_eq_true rfl, Nat.le_of_ble_eq_true rfl⟩ rfl (fun H locs hw => ?_)
          refine lv_astoreN (lv' := [(9, .null), (8, .ref (ad kvt)), (7, .null), (6, .ref (ad kvs)), (0, .ref (ad 51)), (1, .int (nI kvs)), (2, .int vr), (3, .int (nI kvt)), (4, .int vu), (5, .int vd)]) hx hb dX5_divide_27 hl (by decide) rfl (fun ls hl => ?_)
          refine lv_aload hx hb dX5_divide_29 (lv_at hl 3 rfl) ?_
          refine lv_ifnull hx hb dX5_divide_31 ?_
          refine lv_aloadN hx hb dX5_divide_34 (lv_at hl 2 rfl) ?_
          refine lv_ifnullN (tgt := 62) hx hb dX5_divide_36 (by decide) ?_
          refine lv_iconst (v := (-1)) hx hb dX5_divide_62 (by decide) ?_
          exact h_iretP hx hb hlk hr hw dX5_divide_63 (by simp only [sp_divide, xvs, xvr, xvt, xvu]) (by simp only [sp_divide, xvs, xvr, xvt, xvu]; exact ⟨_, hC, hq⟩)
        · skip
          have xvu := ix_in (n := 16) hkvu (by decide)
          refine h_callV (st1 := [.ref (ad kvu)]) [.int (nI kvu)] [] ⟨hx, hb, hml, hown, hts⟩ hE hw (c_X5_register_in l G A ad F _ hC kvu hkvu) (cwV 1 hts gX5_divide_X5_register rfl rfl rfl (by decide +kernel) ⟨Nat.le_of_ble_eq_true rfl, Nat.le_of_ble_eq_true rfl⟩) hC.fp rfl rfl rfl hl.1 rfl (Nat.le_of_ble_eq_true rfl) dX5_divide_24 ⟨Nat.le_of_ble_eq_true rfl, Nat.le_of_ble_eq_true rfl⟩ rfl (fun H locs hw => ?_)
          refine lv_astore (lv' := [(9, .ref (ad kvu)), (8, .ref (ad kvt)), (7, .null), (6, .ref (ad kvs)), (0, .ref (ad 51)), (1, .int (nI kvs)), (2, .int vr), (3, .int (nI kvt)), (4, .int (nI kvu)), (5, .int vd)]) hx hb dX5_divide_27 hl (by decide) rfl (fun ls hl => ?_)
          refine lv_aload hx hb dX5_divide_29 (lv_at hl 3 rfl) ?_
          refine lv_ifnull hx hb dX5_divide_31 ?_
          refine lv_aloadN hx hb dX5_divide_34 (lv_at hl 2 rfl) ?_
          refine lv_ifnullN (tgt := 62) hx hb dX5_divide_36 (by decide) ?_
          refine lv_iconst (v := (-1)) hx hb dX5_divide_62 (by decide) ?_
          exact h_iretP hx hb hlk hr hw dX5_divide_63 (by simp only [sp_divide, xvs, xvr, xvt, xvu]) (by simp only [sp_divide, xvs, xvr, xvt, xvu]; exact ⟨_, hC, hq⟩)
    · skip
      have xvr := ix_in (n := 16) hkvr (by decide)
      refine h_callV (st1 := [.ref (ad kvr)]) [.int (nI kvr)] [] ⟨hx, hb, hml, hown, hts⟩ hE hw (c_X5_register_in l G A ad F _ hC kvr hkvr) (cwV 1 hts gX5_divide_X5_register rfl rfl rfl (by decide +kernel) ⟨Nat.le_of_ble_eq_true rfl, Nat.le_of_ble_eq_true rfl⟩) hC.fp rfl rfl rfl hl.1 rfl (Nat.le_of_ble_eq_true rfl) dX5_divide_9 ⟨Nat.le_of_ble_eq_true rfl, Nat.le_of_ble_eq_true rfl⟩ rfl (fun H locs hw => ?_)
      refine lv_astore (lv' := [(7, .ref (ad kvr)), (6, .ref (ad kvs)), (0, .ref (ad 51)), (1, .int (nI kvs)), (2, .int (nI kvr)), (3, .int vt), (4, .int vu), (5, .int vd)]) hx hb dX5_divide_12 hl (by decide) rfl (fun ls hl => ?_)
      refine lv_aload_n hx hb dX5_divide_14 rfl (lv_at hl 2 rfl) ?_
      refine lv_iload_n hx hb dX5_divide_15 rfl (lv_at hl 5 rfl) ?_
      rcases ix_cases 16 (by decide) vt with hvt | ⟨kvt, hkvt, rfl⟩
      · skip
        have xvt := ix_none hvt
        refine h_callV (st1 := [.null]) [.int vt] [] ⟨hx, hb, hml, hown, hts⟩ hE hw (c_X5_register_out l G A ad F _ hC vt hvt) (cwV 1 hts gX5_divide_X5_register rfl rfl rfl (by decide +kernel) ⟨Nat.le_of_ble_eq_true rfl, Nat.le_of_ble_eq_true rfl⟩) hC.fp rfl rfl rfl hl.1 rfl (Nat.le_of_ble_eq_true rfl) dX5_divide_16 ⟨Nat.le_of_ble_eq_true rfl, Nat.le_of_ble_eq_true rfl⟩ rfl (fun H locs hw => ?_)
        refine lv_astoreN (lv' := [(8, .null), (7, .ref (ad kvr)), (6, .ref (ad kvs)), (0, .ref (ad 51)), (1, .int (nI kvs)), (2, .int (nI kvr)), (3, .int vt), (4, .int vu), (5, .int vd)]) hx hb dX5_divide_19 hl (by decide) rfl (fun ls hl => ?_)
        refine lv_aload_n hx hb dX5_divide_21 rfl (lv_at hl 3 rfl) ?_
        refine lv_iload hx hb dX5_divide_22 (lv_at hl 7 rfl) ?_
        rcases ix_cases 16 (by decide) vu with hvu | ⟨kvu, hkvu, rfl⟩
        · skip
          have xvu := ix_none hvu
          refine h_callV (st1 := [.null]) [.int vu] [] ⟨hx, hb, hml, hown, hts⟩ hE hw (c_X5_register_out l G A ad F _ hC vu hvu) (cwV 1 hts gX5_divide_X5_register rfl rfl rfl (by decide +kernel) ⟨Nat.le_of_ble_eq_true rfl, Nat.le_of_ble_eq_true rfl⟩) hC.fp rfl rfl rfl hl.1 rfl (Nat.le_of_ble_eq_true rfl) dX5_divide_24 ⟨Nat.le_of_ble_eq_true rfl, Nat.le_of_ble_eq_true rfl⟩ rfl (fun H locs hw => ?_)
          refine lv_astoreN (lv' := [(9, .null), (8, .null), (7, .ref (ad kvr)), (6, .ref (ad kvs)), (0, .ref (ad 51)), (1, .int (nI kvs)), (2, .int (nI kvr)), (3, .int vt), (4, .int vu), (5, .int vd)]) hx hb dX5_divide_27 hl (by decide) rfl (fun ls hl => ?_)
          refine lv_aload hx hb dX5_divide_29 (lv_at hl 3 rfl) ?_
          refine lv_ifnull hx hb dX5_divide_31 ?_
          refine lv_aload hx hb dX5_divide_34 (lv_at hl 2 rfl) ?_
          refine lv_ifnull hx hb dX5_divide_36 ?_
          refine lv_aloadN hx hb dX5_divide_39 (lv_at hl 1 rfl) ?_
          refine lv_ifnullN (tgt := 62) hx hb dX5_divide_41 (by decide) ?_
          refine lv_iconst (v := (-1)) hx hb dX5_divide_62 (by decide) ?_
          exact h_iretP hx hb hlk hr hw dX5_divide_63 (by simp only [sp_divide, xvs, xvr, xvt, xvu]) (by simp only [sp_divide, xvs, xvr, xvt, xvu]; exact ⟨_, hC, hq⟩)
        · skip
          have xvu := ix_in (n := 16) hkvu (by decide)
          refine h_callV (st1 := [.ref (ad kvu)]) [.int (nI kvu)] [] ⟨hx, hb, hml, hown, hts⟩ hE hw (c_X5_register_in l G A ad F _ hC kvu hkvu) (cwV 1 hts gX5_divide_X5_register rfl rfl rfl (by decide +kernel) ⟨Nat.le_of_ble_eq_true rfl, Nat.le_of_ble_eq_true rfl⟩) hC.fp rfl rfl rfl hl.1 rfl (Nat.le_of_ble_eq_true rfl) dX5_divide_24 ⟨Nat.le_of_ble_eq_true rfl, Nat.le_of_ble_eq_true rfl⟩ rfl (fun H locs hw => ?_)
          refine lv_astore (lv' := [(9, .ref (ad kvu)), (8, .null), (7, .ref (ad kvr)), (6, .ref (ad kvs)), (0, .ref (ad 51)), (1, .int (nI kvs)), (2, .int (nI kvr)), (3, .int vt), (4, .int (nI kvu)), (5, .int vd)]) hx hb dX5_divide_27 hl (by decide) rfl (fun ls hl => ?_)
          refine lv_aload hx hb dX5_divide_29 (lv_at hl 3 rfl) ?_
          refine lv_ifnull hx hb dX5_divide_31 ?_
          refine lv_aload hx hb dX5_divide_34 (lv_at hl 2 rfl) ?_
          refine lv_ifnull hx hb dX5_divide_36 ?_
          refine lv_aloadN hx hb dX5_divide_39 (lv_at hl 1 rfl) ?_
          refine lv_ifnullN (tgt := 62) hx hb dX5_divide_41 (by decide) ?_
          refine lv_iconst (v := (-1)) hx hb dX5_divide_62 (by decide) ?_
          exact h_iretP hx hb hlk hr hw dX5_divide_63 (by simp only [sp_divide, xvs, xvr, xvt, xvu]) (by simp only [sp_divide, xvs, xvr, xvt, xvu]; exact ⟨_, hC, hq⟩)
      · skip
        have xvt := ix_in (n := 16) hkvt (by decide)
        refine h_callV (st1 := [.ref (ad kvt)]) [.int (nI kvt)] [] ⟨hx, hb, hml, hown, hts⟩ hE hw (c_X5_register_in l G A ad F _ hC kvt hkvt) (cwV 1 hts gX5_divide_X5_register rfl rfl rfl (by decide +kernel) ⟨Nat.le_of_ble_eq_true rfl, Nat.le_of_ble_eq_true rfl⟩) hC.fp rfl rfl rfl hl.1 rfl (Nat.le_of_ble_eq_true rfl) dX5_divide_16 ⟨Nat.le_of_ble_eq_true rfl, Nat.le_of_ble_eq_true rfl⟩ rfl (fun H locs hw => ?_)
        refine lv_astore (lv' := [(8, .ref (ad kvt)), (7, .ref (ad kvr)), (6, .ref (ad kvs)), (0, .ref (ad 51)), (1, .int (nI kvs)), (2, .int (nI kvr)), (3, .int (nI kvt)), (4, .int vu), (5, .int vd)]) hx hb dX5_divide_19 hl (by decide) rfl (fun ls hl => ?_)
        refine lv_aload_n hx hb dX5_divide_21 rfl (lv_at hl 3 rfl) ?_
        refine lv_iload hx hb dX5_divide_22 (lv_at hl 7 rfl) ?_
        rcases ix_cases 16 (by decide) vu with hvu | ⟨kvu, hkvu, rfl⟩
        · skip
          have xvu := ix_none hvu
          refine h_callV (st1 := [.null]) [.int vu] [] ⟨hx, hb, hml, hown, hts⟩ hE hw (c_X5_register_out l G A ad F _ hC vu hvu) (cwV 1 hts gX5_divide_X5_register rfl rfl rfl (by decide +kernel) ⟨Nat.le_of_ble_eq_true rfl, Nat.le_of_ble_eq_true rfl⟩) hC.fp rfl rfl rfl hl.1 rfl (Nat.le_of_ble_eq_true rfl) dX5_divide_24 ⟨Nat.le_of_ble_eq_true rfl, Nat.le_of_ble_eq_true rfl⟩ rfl (fun H locs hw => ?_)
          refine lv_astoreN (lv' := [(9, .null), (8, .ref (ad kvt)), (7, .ref (ad kvr)), (6, .ref (ad kvs)), (0, .ref (ad 51)), (1, .int (nI kvs)), (2, .int (nI kvr)), (3, .int (nI kvt)), (4, .int vu), (5, .int vd)]) hx hb dX5_divide_27 hl (by decide) rfl (fun ls hl => ?_)
          refine lv_aload hx hb dX5_divide_29 (lv_at hl 3 rfl) ?_
          refine lv_ifnull hx hb dX5_divide_31 ?_
          refine lv_aload hx hb dX5_divide_34 (lv_at hl 2 rfl) ?_
          refine lv_ifnull hx hb dX5_divide_36 ?_
          refine lv_aload hx hb dX5_divide_39 (lv_at hl 1 rfl) ?_
          refine lv_ifnull hx hb dX5_divide_41 ?_
          refine lv_aloadN hx hb dX5_divide_44 (lv_at hl 0 rfl) ?_
          refine lv_ifnullN (tgt := 62) hx hb dX5_divide_46 (by decide) ?_
          refine lv_iconst (v := (-1)) hx hb dX5_divide_62 (by decide) ?_
          exact h_iretP hx hb hlk hr hw dX5_divide_63 (by simp only [sp_divide, xvs, xvr, xvt, xvu]) (by simp only [sp_divide, xvs, xvr, xvt, xvu]; exact ⟨_, hC, hq⟩)
        · skip
          have xvu := ix_in (n := 16) hkvu (by decide)
          refine h_callV (st1 := [.ref (ad kvu)]) [.int (nI kvu)] [] ⟨hx, hb, hml, hown, hts⟩ hE hw (c_X5_register_in l G A ad F _ hC kvu hkvu) (cwV 1 hts gX5_divide_X5_register rfl rfl rfl (by decide +kernel) ⟨Nat.le_of_ble_eq_true rfl, Nat.le_of_ble_eq_true rfl⟩) hC.fp rfl rfl rfl hl.1 rfl (Nat.le_of_ble_eq_true rfl) dX5_divide_24 ⟨Nat.le_of_ble_eq_true rfl, Nat.le_of_ble_eq_true rfl⟩ rfl (fun H locs hw => ?_)
          refine lv_astore (lv' := [(9, .ref (ad kvu)), (8, .ref (ad kvt)), (7, .ref (ad kvr)), (6, .ref (ad kvs)), (0, .ref (ad 51)), (1, .int (nI kvs)), (2, .int (nI kvr)), (3, .int (nI kvt)), (4, .int (nI kvu)), (5, .int vd)]) hx hb dX5_divide_27 hl (by decide) rfl (fun ls hl => ?_)
          refine lv_aload hx hb dX5_divide_29 (lv_at hl 3 rfl) ?_
          refine lv_ifnull hx hb dX5_divide_31 ?_
          refine lv_aload hx hb dX5_divide_34 (lv_at hl 2 rfl) ?_
          refine lv_ifnull hx hb dX5_divide_36 ?_
          refine lv_aload hx hb dX5_divide_39 (lv_at hl 1 rfl) ?_
          refine lv_ifnull hx hb dX5_divide_41 ?_
          refine lv_aload hx hb dX5_divide_44 (lv_at hl 0 rfl) ?_
          refine lv_ifnull hx hb dX5_divide_46 ?_
          refine lv_iload_n hx hb dX5_divide_49 rfl (lv_at hl 5 rfl) ?_
          refine lv_iload_n hx hb dX5_divide_50 rfl (lv_at hl 6 rfl) ?_
          refine lv_icmp_eq (tgt := 62) hx hb dX5_divide_51 (by decide) (fun c_51 => ?_) (fun c_51 => ?_)
          · skip
            refine lv_iconst (v := (-1)) hx hb dX5_divide_62 (by decide) ?_
            exact h_iretP hx hb hlk hr hw dX5_divide_63 (by simp only [sp_divide, xvs, xvr, xvt, xvu, cif_t c_51]) (by simp only [sp_divide, xvs, xvr, xvt, xvu, cif_t c_51]; exact ⟨_, hC, hq⟩)
          · skip
            have hsr : kvs ≠ kvr := fun w => c_51 (by rw [w])
            refine lv_iload hx hb dX5_divide_54 (lv_at hl 9 rfl) ?_
            refine h_callS (st1 := [.int (bI (vd = 0 ∨ vd = 1))]) [.int vd] [] ⟨hx, hb, hml, hown, hts⟩ hE hw (c_X5_isSide l G A (CL ad) F vd) (va_cwS 1 hts gX5_divide_X5_isSide rfl rfl rfl (by decide +kernel) ⟨Nat.le_of_ble_eq_true rfl, Nat.le_of_ble_eq_true rfl⟩) rfl hl.1 rfl (Nat.le_of_ble_eq_true rfl) dX5_divide_56 ⟨Nat.le_of_ble_eq_true rfl, Nat.le_of_ble_eq_true rfl⟩ rfl (fun H locs hw => ?_)
            refine lv_if_ne (tgt := 64) hx hb dX5_divide_59 (by decide) (fun c_59 => ?_) (fun c_59 => ?_)
            · skip
              have c_59 := bI_ne.mp c_59
              refine lv_aload_n hx hb dX5_divide_64 rfl (lv_at hl 4 rfl) ?_
              refine h_get hx hb hE hw hts hinX5 hown (ci := 5) rfl 2 (by decide) lk_24 (fun _ h9 => h9) hC.fp rfl dX5_divide_65 ?_
              refine lv_aload hx hb dX5_divide_68 (lv_at hl 1 rfl) ?_
              refine lv_aload hx hb dX5_divide_70 (lv_at hl 0 rfl) ?_
              refine lv_iload hx hb dX5_divide_72 (lv_at hl 9 rfl) ?_
              refine h_callVP (st1 := [.int (bI (¬ qnorm (q kvu) = 0))]) [.ref (ad kvt), .ref (ad kvu), .int vd] [] ⟨hx, hb, hml, hown, hts⟩ hE hw (c_X2_splitBy l G A ad F _ _ hC kvt kvu (Nat.lt_of_lt_of_le hkvt (by decide)) (Nat.lt_of_lt_of_le hkvu (by decide)) (show kvt ≠ 29 from (by omega)) (show kvt ≠ 30 from (by omega)) (show kvt ≠ 34 from (by omega)) (show kvt ≠ 35 from (by omega)) (show kvu ≠ 29 from (by omega)) (show kvu ≠ 30 from (by omega)) (show kvu ≠ 34 from (by omega)) (show kvu ≠ 35 from (by omega)) vd) (cwV 3 hts gX5_divide_X2_splitBy rfl rfl rfl (by decide +kernel) ⟨Nat.le_of_ble_eq_true rfl, Nat.le_of_ble_eq_true rfl⟩) hC.rk rfl rfl rfl hl.1 rfl (Nat.le_of_ble_eq_true rfl) dX5_divide_74 ⟨Nat.le_of_ble_eq_true rfl, Nat.le_of_ble_eq_true rfl⟩ rfl (fun F H locs hP hw => ?_)
              obtain ⟨q3, hC3, h3v, hk3⟩ := hP
              have hq3 : ∀ k, k < 28 → q3 k = rg k := fun k hk => (hk3 k (by omega) (by omega) (by omega) (by omega)).trans (hq k hk)
              refine lv_if_ne (tgt := 83) hx hb dX5_divide_77 (by decide) (fun c_77 => ?_) (fun c_77 => ?_)
              · skip
                have c_77 := bI_ne.mp c_77
                have h29 : q3 29 = quo vd (rg kvt) (rg kvu) := by rw [(h3v c_77).1, show q kvt = rg kvt from hq kvt (by omega), show q kvu = rg kvu from hq kvu (by omega)]
                have h30 : q3 30 = rst vd (rg kvt) (rg kvu) := by rw [(h3v c_77).2, show q kvt = rg kvt from hq kvt (by omega), show q kvu = rg kvu from hq kvu (by omega)]
                rw [hq kvu (by omega)] at c_77
                refine lv_aload_n hx hb dX5_divide_83 rfl (lv_at hl 4 rfl) ?_
                refine h_get hx hb hE hw hts hinX5 hown (ci := 5) rfl 2 (by decide) lk_24 (fun _ h9 => h9) hC3.fp rfl dX5_divide_84 ?_
                refine h_get hx hb hE hw hts hinX2 hown (ci := 2) rfl 0 (by decide) lk_160 (fun _ h9 => h9) hC3.rk rfl dX5_divide_87 ?_
                refine h_callV (st1 := [.int (bI (qhigh (quo vd (rg kvt) (rg kvu))))]) [] [] ⟨hx, hb, hml, hown, hts⟩ hE hw (c_X1_isHigh l G A (CL ad) F (ad 29) (quo vd (rg kvt) (rg kvu)) (pt_eq (hC3.q (i := 29) (by decide)) (by rw [show ((q3, kd, (fun k => nI (z k)), pl, nI cnt) : CS).1 29 = quo vd (rg kvt) (rg kvu) from h29]))) (cwV 0 hts gX5_divide_X1_isHigh rfl rfl rfl (by decide +kernel) ⟨Nat.le_of_ble_eq_true rfl, Nat.le_of_ble_eq_true rfl⟩) (pt_eq (hC3.q (i := 29) (by decide)) (by rw [show ((q3, kd, (fun k => nI (z k)), pl, nI cnt) : CS).1 29 = quo vd (rg kvt) (rg kvu) from h29])) rfl rfl rfl hl.1 rfl (Nat.le_of_ble_eq_true rfl) dX5_divide_90 ⟨Nat.le_of_ble_eq_true rfl, Nat.le_of_ble_eq_true rfl⟩ rfl (fun H locs hw => ?_)
                refine lv_if_ne (tgt := 109) hx hb dX5_divide_93 (by decide) (fun c_93 => ?_) (fun c_93 => ?_)
                · skip
                  have c_93 := bI_ne.mp c_93
                  refine lv_bipush (v := (-3)) hx hb dX5_divide_109 (by decide) ?_
                  exact h_iretP hx hb hlk hr hw dX5_divide_111 (by simp only [sp_divide, xvs, xvr, xvt, xvu, cif_f c_51, cif_t c_59, cif_f c_77, cif_t c_93]) (by simp only [sp_divide, xvs, xvr, xvt, xvu, cif_f c_51, cif_t c_59, cif_f c_77, cif_t c_93]; exact ⟨_, hC3, hq3⟩)
                · skip
                  have c_93 := bI_eq.mp c_93
                  refine lv_aload_n hx hb dX5_divide_96 rfl (lv_at hl 4 rfl) ?_
                  refine h_get hx hb hE hw hts hinX5 hown (ci := 5) rfl 2 (by decide) lk_24 (fun _ h9 => h9) hC3.fp rfl dX5_divide_97 ?_
                  refine h_get hx hb hE hw hts hinX2 hown (ci := 2) rfl 1 (by decide) lk_163 (fun _ h9 => h9) hC3.rk rfl dX5_divide_100 ?_
                  refine h_callV (st1 := [.int (bI (qhigh (rst vd (rg kvt) (rg kvu))))]) [] [] ⟨hx, hb, hml, hown, hts⟩ hE hw (c_X1_isHigh l G A (CL ad) F (ad 30) (rst vd (rg kvt) (rg kvu)) (pt_eq (hC3.q (i := 30) (by decide)) (by rw [show ((q3, kd, (fun k => nI (z k)), pl, nI cnt) : CS).1 30 = rst vd (rg kvt) (rg kvu) from h30]))) (cwV 0 hts gX5_divide_X1_isHigh rfl rfl rfl (by decide +kernel) ⟨Nat.le_of_ble_eq_true rfl, Nat.le_of_ble_eq_true rfl⟩) (pt_eq (hC3.q (i := 30) (by decide)) (by rw [show ((q3, kd, (fun k => nI (z k)), pl, nI cnt) : CS).1 30 = rst vd (rg kvt) (rg kvu) from h30])) rfl rfl rfl hl.1 rfl (Nat.le_of_ble_eq_true rfl) dX5_divide_103 ⟨Nat.le_of_ble_eq_true rfl, Nat.le_of_ble_eq_true rfl⟩ rfl (fun H locs hw => ?_)
                  refine lv_if_eq (tgt := 112) hx hb dX5_divide_106 (by decide) (fun c_106 => ?_) (fun c_106 => ?_)
                  · skip
                    have c_106 := bI_eq.mp c_106
                    refine lv_aload hx hb dX5_divide_112 (lv_at hl 3 rfl) ?_
                    refine lv_aload_n hx hb dX5_divide_114 rfl (lv_at hl 4 rfl) ?_
                    refine h_get hx hb hE hw hts hinX5 hown (ci := 5) rfl 2 (by decide) lk_24 (fun _ h9 => h9) hC3.fp rfl dX5_divide_115 ?_
                    refine h_get hx hb hE hw hts hinX2 hown (ci := 2) rfl 0 (by decide) lk_160 (fun _ h9 => h9) hC3.rk rfl dX5_divide_118 ?_
                    refine h_callV (st1 := []) [.ref (ad 29)] [] ⟨hx, hb, hml, hown, hts⟩ hE hw (c_X1_becomeLike l G A (CL ad) F (ad kvs) (q3 kvs) (hC3.q (i := kvs) (by omega))  (ad 29) (quo vd (rg kvt) (rg kvu)) (pt_eq (hC3.q (i := 29) (by decide)) (by rw [show ((q3, kd, (fun k => nI (z k)), pl, nI cnt) : CS).1 29 = quo vd (rg kvt) (rg kvu) from h29]))) (cwV 1 hts gX5_divide_X1_becomeLike rfl rfl rfl (by decide +kernel) ⟨Nat.le_of_ble_eq_true rfl, Nat.le_of_ble_eq_true rfl⟩) (hC3.q (i := kvs) (by omega)) rfl rfl rfl hl.1 rfl (Nat.le_of_ble_eq_true rfl) dX5_divide_121 ⟨Nat.le_of_ble_eq_true rfl, Nat.le_of_ble_eq_true rfl⟩ rfl (fun H locs hw => ?_)
                    refine lv_aload hx hb dX5_divide_124 (lv_at hl 2 rfl) ?_
                    refine lv_aload_n hx hb dX5_divide_126 rfl (lv_at hl 4 rfl) ?_
                    refine h_get hx hb hE hw hts hinX5 hown (ci := 5) rfl 2 (by decide) lk_24 (fun _ h9 => h9) (pt_ne hC3.fp (hC.ne (i := 51) (j := kvs) (by decide) (Nat.lt_of_lt_of_le hkvs (by decide)) (Ne.symm (by omega)))) rfl dX5_divide_127 ?_
                    refine h_get hx hb hE hw hts hinX2 hown (ci := 2) rfl 1 (by decide) lk_163 (fun _ h9 => h9) (pt_ne hC3.rk (hC.ne (i := 54) (j := kvs) (by decide) (Nat.lt_of_lt_of_le hkvs (by decide)) (Ne.symm (by omega)))) rfl dX5_divide_130 ?_
                    refine h_callV (st1 := []) [.ref (ad 30)] [] ⟨hx, hb, hml, hown, hts⟩ hE hw (c_X1_becomeLike l G A (CL ad) (va_up F (ad kvs) (eq4 (quo vd (rg kvt) (rg kvu)))) (ad kvr) (q3 kvr) (pt_ne (hC3.q (i := kvr) (by omega)) (hC.ne (i := kvr) (j := kvs) (Nat.lt_of_lt_of_le hkvr (by decide)) (Nat.lt_of_lt_of_le hkvs (by decide)) (Ne.symm hsr)))  (ad 30) (rst vd (rg kvt) (rg kvu)) (pt_ne (pt_eq (hC3.q (i := 30) (by decide)) (by rw [show ((q3, kd, (fun k => nI (z k)), pl, nI cnt) : CS).1 30 = rst vd (rg kvt) (rg kvu) from h30])) (hC.ne (i := 30) (j := kvs) (by decide) (Nat.lt_of_lt_of_le hkvs (by decide)) (Ne.symm (by omega))))) (cwV 1 hts gX5_divide_X1_becomeLike rfl rfl rfl (by decide +kernel) ⟨Nat.le_of_ble_eq_true rfl, Nat.le_of_ble_eq_true rfl⟩) (pt_ne (hC3.q (i := kvr) (by omega)) (hC.ne (i := kvr) (j := kvs) (Nat.lt_of_lt_of_le hkvr (by decide)) (Nat.lt_of_lt_of_le hkvs (by decide)) (Ne.symm hsr))) rfl rfl rfl hl.1 rfl (Nat.le_of_ble_eq_true rfl) dX5_divide_133 ⟨Nat.le_of_ble_eq_true rfl, Nat.le_of_ble_eq_true rfl⟩ rfl (fun H locs hw => ?_)
                    refine lv_iconst (v := 0) hx hb dX5_divide_136 (by decide) ?_
                    exact h_iretP hx hb hlk hr hw dX5_divide_137 (by simp only [sp_divide, xvs, xvr, xvt, xvu, cif_f c_51, cif_t c_59, cif_f c_77, cif_f c_93, cif_f c_106]) (by simp only [sp_divide, xvs, xvr, xvt, xvu, cif_f c_51, cif_t c_59, cif_f c_77, cif_f c_93, cif_f c_106]; exact ⟨_, (CW.setq (CW.setq hC3 (i := kvs) (Nat.lt_of_lt_of_le hkvs (by decide)) (quo vd (rg kvt) (rg kvu))) (i := kvr) (Nat.lt_of_lt_of_le hkvr (by decide)) (rst vd (rg kvt) (rg kvu))), (qup (qup hq3))⟩)
                  · skip
                    have c_106 := bI_ne.mp c_106
                    refine lv_bipush (v := (-3)) hx hb dX5_divide_109 (by decide) ?_
                    exact h_iretP hx hb hlk hr hw dX5_divide_111 (by simp only [sp_divide, xvs, xvr, xvt, xvu, cif_f c_51, cif_t c_59, cif_f c_77, cif_f c_93, cif_t c_106]) (by simp only [sp_divide, xvs, xvr, xvt, xvu, cif_f c_51, cif_t c_59, cif_f c_77, cif_f c_93, cif_t c_106]; exact ⟨_, hC3, hq3⟩)
              · skip
                have c_77 := bI_eq.mp c_77
                have c_77 := Classical.not_not.mp c_77
                rw [hq kvu (by omega)] at c_77
                refine lv_bipush (v := (-2)) hx hb dX5_divide_80 (by decide) ?_
                exact h_iretP hx hb hlk hr hw dX5_divide_82 (by simp only [sp_divide, xvs, xvr, xvt, xvu, cif_f c_51, cif_t c_59, cif_t c_77]) (by simp only [sp_divide, xvs, xvr, xvt, xvu, cif_f c_51, cif_t c_59, cif_t c_77]; exact ⟨_, hC3, hq3⟩)
            · skip
              have c_59 := bI_eq.mp c_59
              refine lv_iconst (v := (-1)) hx hb dX5_divide_62 (by decide) ?_
              exact h_iretP hx hb hlk hr hw dX5_divide_63 (by simp only [sp_divide, xvs, xvr, xvt, xvu, cif_f c_51, cif_f c_59]) (by simp only [sp_divide, xvs, xvr, xvt, xvu, cif_f c_51, cif_f c_59]; exact ⟨_, hC, hq⟩)

set_option maxHeartbeats 4000000 in
set_option maxRecDepth 100000 in
theorem c_X5_divisor (l : Launch) (G : GG) (A : Nat → Prop) (ad : Nat → Nat) (F : FM) (rg : Nat → Q4) (kd : Nat → Int32) (z : Nat → Nat) (pl : Nat → Nat → Int64) (cnt : Nat) (hR : CR G ad (rg, kd, z, pl, cnt) F) (hz : ∀ k, k < 6 → z k ≤ 16) (hc12 : cnt ≤ 12) (vs : Int32) (vt : Int32) (vu : Int32) (vd : Int32) : PT l yX5_divisor wsX5_divisor { frames := 5, cells := 0, slots := 0, locals := 122 } G A (CL ad) [.ref (ad 51), .int vs, .int vt, .int vu, .int vd] F (some (.int (sp_divisor (rg, kd, z, pl, cnt) vs vt vu vd).1)) (CR G ad (sp_divisor (rg, kd, z, pl, cnt) vs vt vu vd).2) := by
  refine PT.ofW (cc := cX5_divisor) (maxL := 8) (ret := (some .int)) (plainFor_of_name (by decide)) rfl (Nat.le_of_ble_eq_true rfl) ?_
  intro p e s m below meth c ls hx hb hr hml hown hts hlk hE hw hl
  have hl : lv_has ls 8 [(0, .ref (ad 51)), (1, .int vs), (2, .int vt), (3, .int vu), (4, .int vd)] := hl
  have hown : s.vm.findClass RX5 = some m.cls := hown
  have lk_24 := hts (.fieldLink RX5 24 "FourParts" "reckoner" "LFourParts$Reckoner;") (by decide +kernel)
  have hinX5 : ∀ w ∈ u_ws RX5 TX5 6, w ∈ wsX5_divisor := by decide +kernel
  have lk_173 := hts (.fieldLink RX5 173 "FourParts$Reckoner" "common" "LFourParts$Quad;") (by decide +kernel)
  have hinX2 : ∀ w ∈ u_ws RX2 TX2 8, w ∈ wsX5_divisor := by decide +kernel
  obtain ⟨q, hC, hq⟩ := hR
  refine lv_aload_n hx hb dX5_divisor_0 rfl (lv_at hl 0 rfl) ?_
  refine lv_iload_n hx hb dX5_divisor_1 rfl (lv_at hl 1 rfl) ?_
  rcases ix_cases 16 (by decide) vs with hvs | ⟨kvs, hkvs, rfl⟩
  · skip
    have xvs := ix_none hvs
    refine h_callV (st1 := [.null]) [.int vs] [] ⟨hx, hb, hml, hown, hts⟩ hE hw (c_X5_register_out l G A ad F _ hC vs hvs) (cwV 1 hts gX5_divisor_X5_register rfl rfl rfl (by decide +kernel) ⟨Nat.le_of_ble_eq_true rfl, Nat.le_of_ble_eq_true rfl⟩) hC.fp rfl rfl rfl hl.1 rfl (Nat.le_of_ble_eq_true rfl) dX5_divisor_2 ⟨Nat.le_of_ble_eq_true rfl, Nat.le_of_ble_eq_true rfl⟩ rfl (fun H locs hw => ?_)
    refine lv_astoreN (lv' := [(5, .null), (0, .ref (ad 51)), (1, .int vs), (2, .int vt), (3, .int vu), (4, .int vd)]) hx hb dX5_divisor_5 hl (by decide) rfl (fun ls hl => ?_)
    refine lv_aload_n hx hb dX5_divisor_7 rfl (lv_at hl 1 rfl) ?_
    refine lv_iload_n hx hb dX5_divisor_8 rfl (lv_at hl 3 rfl) ?_
    rcases ix_cases 16 (by decide) vt with hvt | ⟨kvt, hkvt, rfl⟩
    · skip
      have xvt := ix_none hvt
      refine h_callV (st1 := [.null]) [.int vt] [] ⟨hx, hb, hml, hown, hts⟩ hE hw (c_X5_register_out l G A ad F _ hC vt hvt) (cwV 1 hts gX5_divisor_X5_register rfl rfl rfl (by decide +kernel) ⟨Nat.le_of_ble_eq_true rfl, Nat.le_of_ble_eq_true rfl⟩) hC.fp rfl rfl rfl hl.1 rfl (Nat.le_of_ble_eq_true rfl) dX5_divisor_9 ⟨Nat.le_of_ble_eq_true rfl, Nat.le_of_ble_eq_true rfl⟩ rfl (fun H locs hw => ?_)
      refine lv_astoreN (lv' := [(6, .null), (5, .null), (0, .ref (ad 51)), (1, .int vs), (2, .int vt), (3, .int vu), (4, .int vd)]) hx hb dX5_divisor_12 hl (by decide) rfl (fun ls hl => ?_)
      refine lv_aload_n hx hb dX5_divisor_14 rfl (lv_at hl 2 rfl) ?_
      refine lv_iload_n hx hb dX5_divisor_15 rfl (lv_at hl 5 rfl) ?_
      rcases ix_cases 16 (by decide) vu with hvu | ⟨kvu, hkvu, rfl⟩
      · skip
        have xvu := ix_none hvu
        refine h_callV (st1 := [.null]) [.int vu] [] ⟨hx, hb, hml, hown, hts⟩ hE hw (c_X5_register_out l G A ad F _ hC vu hvu) (cwV 1 hts gX5_divisor_X5_register rfl rfl rfl (by decide +kernel) ⟨Nat.le_of_ble_eq_true rfl, Nat.le_of_ble_eq_true rfl⟩) hC.fp rfl rfl rfl hl.1 rfl (Nat.le_of_ble_eq_true rfl) dX5_divisor_16 ⟨Nat.le_of_ble_eq_true rfl, Nat.le_of_ble_eq_true rfl⟩ rfl (fun H locs hw => ?_)
        refine lv_astoreN (lv' := [(7, .null), (6, .null), (5, .null), (0, .ref (ad 51)), (1, .int vs), (2, .int vt), (3, .int vu), (4, .int vd)]) hx hb dX5_divisor_19 hl (by decide) rfl (fun ls hl => ?_)
        refine lv_aloadN hx hb dX5_divisor_21 (lv_at hl 2 rfl) ?_
        refine lv_ifnullN (tgt := 44) hx hb dX5_divisor_23 (by decide) ?_
        refine lv_iconst (v := (-1)) hx hb dX5_divisor_44 (by decide) ?_
        exact h_iretP hx hb hlk hr hw dX5_divisor_45 (by simp only [sp_divisor, xvs, xvt, xvu, hldN]) (by simp only [sp_divisor, xvs, xvt, xvu, hldN]; exact ⟨_, hC, hq⟩)
      · skip
        have xvu := ix_in (n := 16) hkvu (by decide)
        refine h_callV (st1 := [.ref (ad kvu)]) [.int (nI kvu)] [] ⟨hx, hb, hml, hown, hts⟩ hE hw (c_X5_register_in l G A ad F _ hC kvu hkvu) (cwV 1 hts gX5_divisor_X5_register rfl rfl rfl (by decide +kernel) ⟨Nat.le_of_ble_eq_true rfl, Nat.le_of_ble_eq_true rfl⟩) hC.fp rfl rfl rfl hl.1 rfl (Nat.le_of_ble_eq_true rfl) dX5_divisor_16 ⟨Nat.le_of_ble_eq_true rfl, Nat.le_of_ble_eq_true rfl⟩ rfl (fun H locs hw => ?_)
        refine lv_astore (lv' := [(7, .ref (ad kvu)), (6, .null), (5, .null), (0, .ref (ad 51)), (1, .int vs), (2, .int vt), (3, .int (nI kvu)), (4, .int vd)]) hx hb dX5_divisor_19 hl (by decide) rfl (fun ls hl => ?_)
        refine lv_aloadN hx hb dX5_divisor_21 (lv_at hl 2 rfl) ?_
        refine lv_ifnullN (tgt := 44) hx hb dX5_divisor_23 (by decide) ?_
        refine lv_iconst (v := (-1)) hx hb dX5_divisor_44 (by decide) ?_
        exact h_iretP hx hb hlk hr hw dX5_divisor_45 (by simp only [sp_divisor, xvs, xvt, xvu, hldN]) (by simp only [sp_divisor, xvs, xvt, xvu, hldN]; exact ⟨_, hC, hq⟩)
    · skip
      have xvt := ix_in (n := 16) hkvt (by decide)
      refine h_callV (st1 := [.ref (ad kvt)]) [.int (nI kvt)] [] ⟨hx, hb, hml, hown, hts⟩ hE hw (c_X5_register_in l G A ad F _ hC kvt hkvt) (cwV 1 hts gX5_divisor_X5_register rfl rfl rfl (by decide +kernel) ⟨Nat.le_of_ble_eq_true rfl, Nat.le_of_ble_eq_true rfl⟩) hC.fp rfl rfl rfl hl.1 rfl (Nat.le_of_ble_eq_true rfl) dX5_divisor_9 ⟨Nat.le_of_ble_eq_true rfl, Nat.le_of_ble_eq_true rfl⟩ rfl (fun H locs hw => ?_)
      refine lv_astore (lv' := [(6, .ref (ad kvt)), (5, .null), (0, .ref (ad 51)), (1, .int vs), (2, .int (nI kvt)), (3, .int vu), (4, .int vd)]) hx hb dX5_divisor_12 hl (by decide) rfl (fun ls hl => ?_)
      refine lv_aload_n hx hb dX5_divisor_14 rfl (lv_at hl 2 rfl) ?_
      refine lv_iload_n hx hb dX5_divisor_15 rfl (lv_at hl 5 rfl) ?_
      rcases ix_cases 16 (by decide) vu with hvu | ⟨kvu, hkvu, rfl⟩
      · skip
        have xvu := ix_none hvu
        refine h_callV (st1 := [.null]) [.int vu] [] ⟨hx, hb, hml, hown, hts⟩ hE hw (c_X5_register_out l G A ad F _ hC vu hvu) (cwV 1 hts gX5_divisor_X5_register rfl rfl rfl (by decide +kernel) ⟨Nat.le_of_ble_eq_true rfl, Nat.le_of_ble_eq_true rfl⟩) hC.fp rfl rfl rfl hl.1 rfl (Nat.le_of_ble_eq_true rfl) dX5_divisor_16 ⟨Nat.le_of_ble_eq_true rfl, Nat.le_of_ble_eq_true rfl⟩ rfl (fun H locs hw => ?_)
        refine lv_astoreN (lv' := [(7, .null), (6, .ref (ad kvt)), (5, .null), (0, .ref (ad 51)), (1, .int vs), (2, .int (nI kvt)), (3, .int vu), (4, .int vd)]) hx hb dX5_divisor_19 hl (by decide) rfl (fun ls hl => ?_)
        refine lv_aloadN hx hb dX5_divisor_21 (lv_at hl 2 rfl) ?_
        refine lv_ifnullN (tgt := 44) hx hb dX5_divisor_23 (by decide) ?_
        refine lv_iconst (v := (-1)) hx hb dX5_divisor_44 (by decide) ?_
        exact h_iretP hx hb hlk hr hw dX5_divisor_45 (by simp only [sp_divisor, xvs, xvt, xvu, hldN]) (by simp only [sp_divisor, xvs, xvt, xvu, hldN]; exact ⟨_, hC, hq⟩)
      · skip
        have xvu := ix_in (n := 16) hkvu (by decide)
        refine h_callV (st1 := [.ref (ad kvu)]) [.int (nI kvu)] [] ⟨hx, hb, hml, hown, hts⟩ hE hw (c_X5_register_in l G A ad F _ hC kvu hkvu) (cwV 1 hts gX5_divisor_X5_register rfl rfl rfl (by decide +kernel) ⟨Nat.le_of_ble_eq_true rfl, Nat.le_of_ble_eq_true rfl⟩) hC.fp rfl rfl rfl hl.1 rfl (Nat.le_of_ble_eq_true rfl) dX5_divisor_16 ⟨Nat.le_of_ble_eq_true rfl, Nat.le_of_ble_eq_true rfl⟩ rfl (fun H locs hw => ?_)
        refine lv_astore (lv' := [(7, .ref (ad kvu)), (6, .ref (ad kvt)), (5, .null), (0, .ref (ad 51)), (1, .int vs), (2, .int (nI kvt)), (3, .int (nI kvu)), (4, .int vd)]) hx hb dX5_divisor_19 hl (by decide) rfl (fun ls hl => ?_)
        refine lv_aloadN hx hb dX5_divisor_21 (lv_at hl 2 rfl) ?_
        refine lv_ifnullN (tgt := 44) hx hb dX5_divisor_23 (by decide) ?_
        refine lv_iconst (v := (-1)) hx hb dX5_divisor_44 (by decide) ?_
        exact h_iretP hx hb hlk hr hw dX5_divisor_45 (by simp only [sp_divisor, xvs, xvt, xvu, hldN]) (by simp only [sp_divisor, xvs, xvt, xvu, hldN]; exact ⟨_, hC, hq⟩)
  · skip
    have xvs := ix_in (n := 16) hkvs (by decide)
    refine h_callV (st1 := [.ref (ad kvs)]) [.int (nI kvs)] [] ⟨hx, hb, hml, hown, hts⟩ hE hw (c_X5_register_in l G A ad F _ hC kvs hkvs) (cwV 1 hts gX5_divisor_X5_register rfl rfl rfl (by decide +kernel) ⟨Nat.le_of_ble_eq_true rfl, Nat.le_of_ble_eq_true rfl⟩) hC.fp rfl rfl rfl hl.1 rfl (Nat.le_of_ble_eq_true rfl) dX5_divisor_2 ⟨Nat.le_of_ble_eq_true rfl, Nat.le_of_ble_eq_true rfl⟩ rfl (fun H locs hw => ?_)
    refine lv_astore (lv' := [(5, .ref (ad kvs)), (0, .ref (ad 51)), (1, .int (nI kvs)), (2, .int vt), (3, .int vu), (4, .int vd)]) hx hb dX5_divisor_5 hl (by decide) rfl (fun ls hl => ?_)
    refine lv_aload_n hx hb dX5_divisor_7 rfl (lv_at hl 1 rfl) ?_
    refine lv_iload_n hx hb dX5_divisor_8 rfl (lv_at hl 3 rfl) ?_
    rcases ix_cases 16 (by decide) vt with hvt | ⟨kvt, hkvt, rfl⟩
    · skip
      have xvt := ix_none hvt
      refine h_callV (st1 := [.null]) [.int vt] [] ⟨hx, hb, hml, hown, hts⟩ hE hw (c_X5_register_out l G A ad F _ hC vt hvt) (cwV 1 hts gX5_divisor_X5_register rfl rfl rfl (by decide +kernel) ⟨Nat.le_of_ble_eq_true rfl, Nat.le_of_ble_eq_true rfl⟩) hC.fp rfl rfl rfl hl.1 rfl (Nat.le_of_ble_eq_true rfl) dX5_divisor_9 ⟨Nat.le_of_ble_eq_true rfl, Nat.le_of_ble_eq_true rfl⟩ rfl (fun H locs hw => ?_)
      refine lv_astoreN (lv' := [(6, .null), (5, .ref (ad kvs)), (0, .ref (ad 51)), (1, .int (nI kvs)), (2, .int vt), (3, .int vu), (4, .int vd)]) hx hb dX5_divisor_12 hl (by decide) rfl (fun ls hl => ?_)
      refine lv_aload_n hx hb dX5_divisor_14 rfl (lv_at hl 2 rfl) ?_
      refine lv_iload_n hx hb dX5_divisor_15 rfl (lv_at hl 5 rfl) ?_
      rcases ix_cases 16 (by decide) vu with hvu | ⟨kvu, hkvu, rfl⟩
      · skip
        have xvu := ix_none hvu
        refine h_callV (st1 := [.null]) [.int vu] [] ⟨hx, hb, hml, hown, hts⟩ hE hw (c_X5_register_out l G A ad F _ hC vu hvu) (cwV 1 hts gX5_divisor_X5_register rfl rfl rfl (by decide +kernel) ⟨Nat.le_of_ble_eq_true rfl, Nat.le_of_ble_eq_true rfl⟩) hC.fp rfl rfl rfl hl.1 rfl (Nat.le_of_ble_eq_true rfl) dX5_divisor_16 ⟨Nat.le_of_ble_eq_true rfl, Nat.le_of_ble_eq_true rfl⟩ rfl (fun H locs hw => ?_)
        refine lv_astoreN (lv' := [(7, .null), (6, .null), (5, .ref (ad kvs)), (0, .ref (ad 51)), (1, .int (nI kvs)), (2, .int vt), (3, .int vu), (4, .int vd)]) hx hb dX5_divisor_19 hl (by decide) rfl (fun ls hl => ?_)
        refine lv_aload hx hb dX5_divisor_21 (lv_at hl 2 rfl) ?_
        refine lv_ifnull hx hb dX5_divisor_23 ?_
        refine lv_aloadN hx hb dX5_divisor_26 (lv_at hl 1 rfl) ?_
        refine lv_ifnullN (tgt := 44) hx hb dX5_divisor_28 (by decide) ?_
        refine lv_iconst (v := (-1)) hx hb dX5_divisor_44 (by decide) ?_
        exact h_iretP hx hb hlk hr hw dX5_divisor_45 (by simp only [sp_divisor, xvs, xvt, xvu, hldN]) (by simp only [sp_divisor, xvs, xvt, xvu, hldN]; exact ⟨_, hC, hq⟩)
      · skip
        have xvu := ix_in (n := 16) hkvu (by decide)
        refine h_callV (st1 := [.ref (ad kvu)]) [.int (nI kvu)] [] ⟨hx, hb, hml, hown, hts⟩ hE hw (c_X5_register_in l G A ad F _ hC kvu hkvu) (cwV 1 hts gX5_divisor_X5_register rfl rfl rfl (by decide +kernel) ⟨Nat.le_of_ble_eq_true rfl, Nat.le_of_ble_eq_true rfl⟩) hC.fp rfl rfl rfl hl.1 rfl (Nat.le_of_ble_eq_true rfl) dX5_divisor_16 ⟨Nat.le_of_ble_eq_true rfl, Nat.le_of_ble_eq_true rfl⟩ rfl (fun H locs hw => ?_)
        refine lv_astore (lv' := [(7, .ref (ad kvu)), (6, .null), (5, .ref (ad kvs)), (0, .ref (ad 51)), (1, .int (nI kvs)), (2, .int vt), (3, .int (nI kvu)), (4, .int vd)]) hx hb dX5_divisor_19 hl (by decide) rfl (fun ls hl => ?_)
        refine lv_aload hx hb dX5_divisor_21 (lv_at hl 2 rfl) ?_
        refine lv_ifnull hx hb dX5_divisor_23 ?_
        refine lv_aloadN hx hb dX5_divisor_26 (lv_at hl 1 rfl) ?_
        refine lv_ifnullN (tgt := 44) hx hb dX5_divisor_28 (by decide) ?_
        refine lv_iconst (v := (-1)) hx hb dX5_divisor_44 (by decide) ?_
        exact h_iretP hx hb hlk hr hw dX5_divisor_45 (by simp only [sp_divisor, xvs, xvt, xvu, hldN]) (by simp only [sp_divisor, xvs, xvt, xvu, hldN]; exact ⟨_, hC, hq⟩)
    · skip
      have xvt := ix_in (n := 16) hkvt (by decide)
      refine h_callV (st1 := [.ref (ad kvt)]) [.int (nI kvt)] [] ⟨hx, hb, hml, hown, hts⟩ hE hw (c_X5_register_in l G A ad F _ hC kvt hkvt) (cwV 1 hts gX5_divisor_X5_register rfl rfl rfl (by decide +kernel) ⟨Nat.le_of_ble_eq_true rfl, Nat.le_of_ble_eq_true rfl⟩) hC.fp rfl rfl rfl hl.1 rfl (Nat.le_of_ble_eq_true rfl) dX5_divisor_9 ⟨Nat.le_of_ble_eq_true rfl, Nat.le_of_ble_eq_true rfl⟩ rfl (fun H locs hw => ?_)
      refine lv_astore (lv' := [(6, .ref (ad kvt)), (5, .ref (ad kvs)), (0, .ref (ad 51)), (1, .int (nI kvs)), (2, .int (nI kvt)), (3, .int vu), (4, .int vd)]) hx hb dX5_divisor_12 hl (by decide) rfl (fun ls hl => ?_)
      refine lv_aload_n hx hb dX5_divisor_14 rfl (lv_at hl 2 rfl) ?_
      refine lv_iload_n hx hb dX5_divisor_15 rfl (lv_at hl 5 rfl) ?_
      rcases ix_cases 16 (by decide) vu with hvu | ⟨kvu, hkvu, rfl⟩
      · skip
        have xvu := ix_none hvu
        refine h_callV (st1 := [.null]) [.int vu] [] ⟨hx, hb, hml, hown, hts⟩ hE hw (c_X5_register_out l G A ad F _ hC vu hvu) (cwV 1 hts gX5_divisor_X5_register rfl rfl rfl (by decide +kernel) ⟨Nat.le_of_ble_eq_true rfl, Nat.le_of_ble_eq_true rfl⟩) hC.fp rfl rfl rfl hl.1 rfl (Nat.le_of_ble_eq_true rfl) dX5_divisor_16 ⟨Nat.le_of_ble_eq_true rfl, Nat.le_of_ble_eq_true rfl⟩ rfl (fun H locs hw => ?_)
        refine lv_astoreN (lv' := [(7, .null), (6, .ref (ad kvt)), (5, .ref (ad kvs)), (0, .ref (ad 51)), (1, .int (nI kvs)), (2, .int (nI kvt)), (3, .int vu), (4, .int vd)]) hx hb dX5_divisor_19 hl (by decide) rfl (fun ls hl => ?_)
        refine lv_aload hx hb dX5_divisor_21 (lv_at hl 2 rfl) ?_
        refine lv_ifnull hx hb dX5_divisor_23 ?_
        refine lv_aload hx hb dX5_divisor_26 (lv_at hl 1 rfl) ?_
        refine lv_ifnull hx hb dX5_divisor_28 ?_
        refine lv_aloadN hx hb dX5_divisor_31 (lv_at hl 0 rfl) ?_
        refine lv_ifnullN (tgt := 44) hx hb dX5_divisor_33 (by decide) ?_
        refine lv_iconst (v := (-1)) hx hb dX5_divisor_44 (by decide) ?_
        exact h_iretP hx hb hlk hr hw dX5_divisor_45 (by simp only [sp_divisor, xvs, xvt, xvu, hldN]) (by simp only [sp_divisor, xvs, xvt, xvu, hldN]; exact ⟨_, hC, hq⟩)
      · skip
        have xvu := ix_in (n := 16) hkvu (by decide)
        refine h_callV (st1 := [.ref (ad kvu)]) [.int (nI kvu)] [] ⟨hx, hb, hml, hown, hts⟩ hE hw (c_X5_register_in l G A ad F _ hC kvu hkvu) (cwV 1 hts gX5_divisor_X5_register rfl rfl rfl (by decide +kernel) ⟨Nat.le_of_ble_eq_true rfl, Nat.le_of_ble_eq_true rfl⟩) hC.fp rfl rfl rfl hl.1 rfl (Nat.le_of_ble_eq_true rfl) dX5_divisor_16 ⟨Nat.le_of_ble_eq_true rfl, Nat.le_of_ble_eq_true rfl⟩ rfl (fun H locs hw => ?_)
        refine lv_astore (lv' := [(7, .ref (ad kvu)), (6, .ref (ad kvt)), (5, .ref (ad kvs)), (0, .ref (ad 51)), (1, .int (nI kvs)), (2, .int (nI kvt)), (3, .int (nI kvu)), (4, .int vd)]) hx hb dX5_divisor_19 hl (by decide) rfl (fun ls hl => ?_)
        refine lv_aload hx hb dX5_divisor_21 (lv_at hl 2 rfl) ?_
        refine lv_ifnull hx hb dX5_divisor_23 ?_
        refine lv_aload hx hb dX5_divisor_26 (lv_at hl 1 rfl) ?_
        refine lv_ifnull hx hb dX5_divisor_28 ?_
        refine lv_aload hx hb dX5_divisor_31 (lv_at hl 0 rfl) ?_
        refine lv_ifnull hx hb dX5_divisor_33 ?_
        refine lv_iload hx hb dX5_divisor_36 (lv_at hl 7 rfl) ?_
        refine h_callS (st1 := [.int (bI (vd = 0 ∨ vd = 1))]) [.int vd] [] ⟨hx, hb, hml, hown, hts⟩ hE hw (c_X5_isSide l G A (CL ad) F vd) (va_cwS 1 hts gX5_divisor_X5_isSide rfl rfl rfl (by decide +kernel) ⟨Nat.le_of_ble_eq_true rfl, Nat.le_of_ble_eq_true rfl⟩) rfl hl.1 rfl (Nat.le_of_ble_eq_true rfl) dX5_divisor_38 ⟨Nat.le_of_ble_eq_true rfl, Nat.le_of_ble_eq_true rfl⟩ rfl (fun H locs hw => ?_)
        refine lv_if_ne (tgt := 46) hx hb dX5_divisor_41 (by decide) (fun c_41 => ?_) (fun c_41 => ?_)
        · skip
          have c_41 := bI_ne.mp c_41
          refine lv_aload hx hb dX5_divisor_46 (lv_at hl 1 rfl) ?_
          refine h_callV (st1 := [.int (bI (qzero (rg kvt)))]) [] [] ⟨hx, hb, hml, hown, hts⟩ hE hw (c_X1_isZero l G A (CL ad) F (ad kvt) (rg kvt) (pt_eq (hC.q (i := kvt) (Nat.lt_of_lt_of_le hkvt (by decide))) (by rw [show ((q, kd, (fun k => nI (z k)), pl, nI cnt) : CS).1 kvt = rg kvt from hq kvt (Nat.lt_of_lt_of_le hkvt (by decide))]))) (cwV 0 hts gX5_divisor_X1_isZero rfl rfl rfl (by decide +kernel) ⟨Nat.le_of_ble_eq_true rfl, Nat.le_of_ble_eq_true rfl⟩) (pt_eq (hC.q (i := kvt) (Nat.lt_of_lt_of_le hkvt (by decide))) (by rw [show ((q, kd, (fun k => nI (z k)), pl, nI cnt) : CS).1 kvt = rg kvt from hq kvt (Nat.lt_of_lt_of_le hkvt (by decide))])) rfl rfl rfl hl.1 rfl (Nat.le_of_ble_eq_true rfl) dX5_divisor_48 ⟨Nat.le_of_ble_eq_true rfl, Nat.le_of_ble_eq_true rfl⟩ rfl (fun H locs hw => ?_)
          refine lv_if_eq (tgt := 65) hx hb dX5_divisor_51 (by decide) (fun c_51 => ?_) (fun c_51 => ?_)
          · skip
            have c_51 := bI_eq.mp c_51
            refine lv_aload_n hx hb dX5_divisor_65 rfl (lv_at hl 3 rfl) ?_
            refine h_get hx hb hE hw hts hinX5 hown (ci := 5) rfl 2 (by decide) lk_24 (fun _ h9 => h9) hC.fp rfl dX5_divisor_66 ?_
            refine lv_aload hx hb dX5_divisor_69 (lv_at hl 1 rfl) ?_
            refine lv_aload hx hb dX5_divisor_71 (lv_at hl 0 rfl) ?_
            refine lv_iload hx hb dX5_divisor_73 (lv_at hl 7 rfl) ?_
            refine h_callVP (st1 := []) [.ref (ad kvt), .ref (ad kvu), .int vd] [] ⟨hx, hb, hml, hown, hts⟩ hE hw (c_X2_findCommon l G A ad F _ _ hC kvt kvu (Nat.lt_of_lt_of_le hkvt (by decide)) (Nat.lt_of_lt_of_le hkvu (by decide)) (by omega) (by omega) vd) (cwV 3 hts gX5_divisor_X2_findCommon rfl rfl rfl (by decide +kernel) ⟨Nat.le_of_ble_eq_true rfl, Nat.le_of_ble_eq_true rfl⟩) hC.rk rfl rfl rfl hl.1 rfl (Nat.le_of_ble_eq_true rfl) dX5_divisor_75 ⟨Nat.le_of_ble_eq_true rfl, Nat.le_of_ble_eq_true rfl⟩ rfl (fun F H locs hP hw => ?_)
            obtain ⟨q3, hC3, h331, hk3⟩ := hP
            have hq3 : ∀ k, k < 28 → q3 k = rg k := fun k hk => (hk3 k (Or.inl (by omega))).trans (hq k hk)
            have h31 : q3 31 = divi vd (rg kvt) (rg kvu) := by rw [h331, show q kvt = rg kvt from hq kvt (by omega), show q kvu = rg kvu from hq kvu (by omega)]
            refine lv_aload hx hb dX5_divisor_78 (lv_at hl 2 rfl) ?_
            refine lv_aload_n hx hb dX5_divisor_80 rfl (lv_at hl 3 rfl) ?_
            refine h_get hx hb hE hw hts hinX5 hown (ci := 5) rfl 2 (by decide) lk_24 (fun _ h9 => h9) hC3.fp rfl dX5_divisor_81 ?_
            refine h_get hx hb hE hw hts hinX2 hown (ci := 2) rfl 2 (by decide) lk_173 (fun _ h9 => h9) hC3.rk rfl dX5_divisor_84 ?_
            by_cases hh : qhigh (divi vd (rg kvt) (rg kvu))
            · skip
              refine h_callS (st1 := [.int (-3)]) [.ref (ad kvs), .ref (ad 31)] [] ⟨hx, hb, hml, hown, hts⟩ hE hw (c_X5_holdForNorm_hi l G A (CL ad) F (ad kvs) (ad 31) (q3 kvs) (divi vd (rg kvt) (rg kvu)) (hC3.q (i := kvs) (by omega)) (pt_eq (hC3.q (i := 31) (by decide)) (by rw [show ((q3, kd, (fun k => nI (z k)), pl, nI cnt) : CS).1 31 = divi vd (rg kvt) (rg kvu) from h31])) hh) (va_cwS 2 hts gX5_divisor_X5_holdForNorm rfl rfl rfl (by decide +kernel) ⟨Nat.le_of_ble_eq_true rfl, Nat.le_of_ble_eq_true rfl⟩) rfl hl.1 rfl (Nat.le_of_ble_eq_true rfl) dX5_divisor_87 ⟨Nat.le_of_ble_eq_true rfl, Nat.le_of_ble_eq_true rfl⟩ rfl (fun H locs hw => ?_)
              exact h_iretP hx hb hlk hr hw dX5_divisor_90 (by simp only [sp_divisor, xvs, xvt, xvu, cif_t c_41, cif_f c_51, cif_t hh, hldN]) (by simp only [sp_divisor, xvs, xvt, xvu, cif_t c_41, cif_f c_51, cif_t hh, hldN]; exact ⟨_, hC3, hq3⟩)
            · skip
              refine h_callS (st1 := [.int ((qnorm (divi vd (rg kvt) (rg kvu))).toInt32)]) [.ref (ad kvs), .ref (ad 31)] [] ⟨hx, hb, hml, hown, hts⟩ hE hw (c_X5_holdForNorm_lo l G A (CL ad) F (ad kvs) (ad 31) (q3 kvs) (divi vd (rg kvt) (rg kvu)) (hC3.q (i := kvs) (by omega)) (pt_eq (hC3.q (i := 31) (by decide)) (by rw [show ((q3, kd, (fun k => nI (z k)), pl, nI cnt) : CS).1 31 = divi vd (rg kvt) (rg kvu) from h31])) hh) (va_cwS 2 hts gX5_divisor_X5_holdForNorm rfl rfl rfl (by decide +kernel) ⟨Nat.le_of_ble_eq_true rfl, Nat.le_of_ble_eq_true rfl⟩) rfl hl.1 rfl (Nat.le_of_ble_eq_true rfl) dX5_divisor_87 ⟨Nat.le_of_ble_eq_true rfl, Nat.le_of_ble_eq_true rfl⟩ rfl (fun H locs hw => ?_)
              exact h_iretP hx hb hlk hr hw dX5_divisor_90 (by simp only [sp_divisor, xvs, xvt, xvu, cif_t c_41, cif_f c_51, cif_f hh, hldN]) (by simp only [sp_divisor, xvs, xvt, xvu, cif_t c_41, cif_f c_51, cif_f hh, hldN]; exact ⟨_, (CW.setq hC3 (i := kvs) (Nat.lt_of_lt_of_le hkvs (by decide)) (divi vd (rg kvt) (rg kvu))), (qup hq3)⟩)
          · skip
            have c_51 := bI_ne.mp c_51
            refine lv_aload hx hb dX5_divisor_54 (lv_at hl 0 rfl) ?_
            refine h_callV (st1 := [.int (bI (qzero (rg kvu)))]) [] [] ⟨hx, hb, hml, hown, hts⟩ hE hw (c_X1_isZero l G A (CL ad) F (ad kvu) (rg kvu) (pt_eq (hC.q (i := kvu) (Nat.lt_of_lt_of_le hkvu (by decide))) (by rw [show ((q, kd, (fun k => nI (z k)), pl, nI cnt) : CS).1 kvu = rg kvu from hq kvu (Nat.lt_of_lt_of_le hkvu (by decide))]))) (cwV 0 hts gX5_divisor_X1_isZero rfl rfl rfl (by decide +kernel) ⟨Nat.le_of_ble_eq_true rfl, Nat.le_of_ble_eq_true rfl⟩) (pt_eq (hC.q (i := kvu) (Nat.lt_of_lt_of_le hkvu (by decide))) (by rw [show ((q, kd, (fun k => nI (z k)), pl, nI cnt) : CS).1 kvu = rg kvu from hq kvu (Nat.lt_of_lt_of_le hkvu (by decide))])) rfl rfl rfl hl.1 rfl (Nat.le_of_ble_eq_true rfl) dX5_divisor_56 ⟨Nat.le_of_ble_eq_true rfl, Nat.le_of_ble_eq_true rfl⟩ rfl (fun H locs hw => ?_)
            refine lv_if_eq (tgt := 65) hx hb dX5_divisor_59 (by decide) (fun c_59 => ?_) (fun c_59 => ?_)
            · skip
              have c_59 := bI_eq.mp c_59
              refine lv_aload_n hx hb dX5_divisor_65 rfl (lv_at hl 3 rfl) ?_
              refine h_get hx hb hE hw hts hinX5 hown (ci := 5) rfl 2 (by decide) lk_24 (fun _ h9 => h9) hC.fp rfl dX5_divisor_66 ?_
              refine lv_aload hx hb dX5_divisor_69 (lv_at hl 1 rfl) ?_
              refine lv_aload hx hb dX5_divisor_71 (lv_at hl 0 rfl) ?_
              refine lv_iload hx hb dX5_divisor_73 (lv_at hl 7 rfl) ?_
              refine h_callVP (st1 := []) [.ref (ad kvt), .ref (ad kvu), .int vd] [] ⟨hx, hb, hml, hown, hts⟩ hE hw (c_X2_findCommon l G A ad F _ _ hC kvt kvu (Nat.lt_of_lt_of_le hkvt (by decide)) (Nat.lt_of_lt_of_le hkvu (by decide)) (by omega) (by omega) vd) (cwV 3 hts gX5_divisor_X2_findCommon rfl rfl rfl (by decide +kernel) ⟨Nat.le_of_ble_eq_true rfl, Nat.le_of_ble_eq_true rfl⟩) hC.rk rfl rfl rfl hl.1 rfl (Nat.le_of_ble_eq_true rfl) dX5_divisor_75 ⟨Nat.le_of_ble_eq_true rfl, Nat.le_of_ble_eq_true rfl⟩ rfl (fun F H locs hP hw => ?_)
              obtain ⟨q3, hC3, h331, hk3⟩ := hP
              have hq3 : ∀ k, k < 28 → q3 k = rg k := fun k hk => (hk3 k (Or.inl (by omega))).trans (hq k hk)
              have h31 : q3 31 = divi vd (rg kvt) (rg kvu) := by rw [h331, show q kvt = rg kvt from hq kvt (by omega), show q kvu = rg kvu from hq kvu (by omega)]
              refine lv_aload hx hb dX5_divisor_78 (lv_at hl 2 rfl) ?_
              refine lv_aload_n hx hb dX5_divisor_80 rfl (lv_at hl 3 rfl) ?_
              refine h_get hx hb hE hw hts hinX5 hown (ci := 5) rfl 2 (by decide) lk_24 (fun _ h9 => h9) hC3.fp rfl dX5_divisor_81 ?_
              refine h_get hx hb hE hw hts hinX2 hown (ci := 2) rfl 2 (by decide) lk_173 (fun _ h9 => h9) hC3.rk rfl dX5_divisor_84 ?_
              by_cases hh : qhigh (divi vd (rg kvt) (rg kvu))
              · skip
                refine h_callS (st1 := [.int (-3)]) [.ref (ad kvs), .ref (ad 31)] [] ⟨hx, hb, hml, hown, hts⟩ hE hw (c_X5_holdForNorm_hi l G A (CL ad) F (ad kvs) (ad 31) (q3 kvs) (divi vd (rg kvt) (rg kvu)) (hC3.q (i := kvs) (by omega)) (pt_eq (hC3.q (i := 31) (by decide)) (by rw [show ((q3, kd, (fun k => nI (z k)), pl, nI cnt) : CS).1 31 = divi vd (rg kvt) (rg kvu) from h31])) hh) (va_cwS 2 hts gX5_divisor_X5_holdForNorm rfl rfl rfl (by decide +kernel) ⟨Nat.le_of_ble_eq_true rfl, Nat.le_of_ble_eq_true rfl⟩) rfl hl.1 rfl (Nat.le_of_ble_eq_true rfl) dX5_divisor_87 ⟨Nat.le_of_ble_eq_true rfl, Nat.le_of_ble_eq_true rfl⟩ rfl (fun H locs hw => ?_)
                exact h_iretP hx hb hlk hr hw dX5_divisor_90 (by simp only [sp_divisor, xvs, xvt, xvu, cif_t c_41, cif_t c_51, cif_f c_59, cif_t hh, hldN]) (by simp only [sp_divisor, xvs, xvt, xvu, cif_t c_41, cif_t c_51, cif_f c_59, cif_t hh, hldN]; exact ⟨_, hC3, hq3⟩)
              · skip
                refine h_callS (st1 := [.int ((qnorm (divi vd (rg kvt) (rg kvu))).toInt32)]) [.ref (ad kvs), .ref (ad 31)] [] ⟨hx, hb, hml, hown, hts⟩ hE hw (c_X5_holdForNorm_lo l G A (CL ad) F (ad kvs) (ad 31) (q3 kvs) (divi vd (rg kvt) (rg kvu)) (hC3.q (i := kvs) (by omega)) (pt_eq (hC3.q (i := 31) (by decide)) (by rw [show ((q3, kd, (fun k => nI (z k)), pl, nI cnt) : CS).1 31 = divi vd (rg kvt) (rg kvu) from h31])) hh) (va_cwS 2 hts gX5_divisor_X5_holdForNorm rfl rfl rfl (by decide +kernel) ⟨Nat.le_of_ble_eq_true rfl, Nat.le_of_ble_eq_true rfl⟩) rfl hl.1 rfl (Nat.le_of_ble_eq_true rfl) dX5_divisor_87 ⟨Nat.le_of_ble_eq_true rfl, Nat.le_of_ble_eq_true rfl⟩ rfl (fun H locs hw => ?_)
                exact h_iretP hx hb hlk hr hw dX5_divisor_90 (by simp only [sp_divisor, xvs, xvt, xvu, cif_t c_41, cif_t c_51, cif_f c_59, cif_f hh, hldN]) (by simp only [sp_divisor, xvs, xvt, xvu, cif_t c_41, cif_t c_51, cif_f c_59, cif_f hh, hldN]; exact ⟨_, (CW.setq hC3 (i := kvs) (Nat.lt_of_lt_of_le hkvs (by decide)) (divi vd (rg kvt) (rg kvu))), (qup hq3)⟩)
            · skip
              have c_59 := bI_ne.mp c_59
              refine lv_bipush (v := (-2)) hx hb dX5_divisor_62 (by decide) ?_
              exact h_iretP hx hb hlk hr hw dX5_divisor_64 (by simp only [sp_divisor, xvs, xvt, xvu, cif_t c_41, cif_t c_51, cif_t c_59, hldN]) (by simp only [sp_divisor, xvs, xvt, xvu, cif_t c_41, cif_t c_51, cif_t c_59, hldN]; exact ⟨_, hC, hq⟩)
        · skip
          have c_41 := bI_eq.mp c_41
          refine lv_iconst (v := (-1)) hx hb dX5_divisor_44 (by decide) ?_
          exact h_iretP hx hb hlk hr hw dX5_divisor_45 (by simp only [sp_divisor, xvs, xvt, xvu, cif_f c_41, hldN]) (by simp only [sp_divisor, xvs, xvt, xvu, cif_f c_41, hldN]; exact ⟨_, hC, hq⟩)

set_option maxHeartbeats 4000000 in
set_option maxRecDepth 100000 in
theorem c_X5_like (l : Launch) (G : GG) (A : Nat → Prop) (ad : Nat → Nat) (F : FM) (rg : Nat → Q4) (kd : Nat → Int32) (z : Nat → Nat) (pl : Nat → Nat → Int64) (cnt : Nat) (hR : CR G ad (rg, kd, z, pl, cnt) F) (hz : ∀ k, k < 6 → z k ≤ 16) (hc12 : cnt ≤ 12) (vs : Int32) (vt : Int32) (vd : Int32) : PT l yX5_like wsX5_like { frames := 3, cells := 0, slots := 0, locals := 73 } G A (CL ad) [.ref (ad 51), .int vs, .int vt, .int vd] F (some (.int (sp_like (rg, kd, z, pl, cnt) vs vt vd).1)) (CR G ad (sp_like (rg, kd, z, pl, cnt) vs vt vd).2) := by
  refine PT.ofW (cc := cX5_like) (maxL := 7) (ret := (some .int)) (plainFor_of_name (by decide)) rfl (Nat.le_of_ble_eq_true rfl) ?_
  intro p e s m below meth c ls hx hb hr hml hown hts hlk hE hw hl
  have hl : lv_has ls 7 [(0, .ref (ad 51)), (1, .int vs), (2, .int vt), (3, .int vd)] := hl
  have hown : s.vm.findClass RX5 = some m.cls := hown
  have lk_43 := hts (.fieldLink RX5 43 "FourParts" "result" "LFourParts$Quad;") (by decide +kernel)
  have hinX5 : ∀ w ∈ u_ws RX5 TX5 6, w ∈ wsX5_like := by decide +kernel
  obtain ⟨q, hC, hq⟩ := hR
  refine lv_aload_n hx hb dX5_like_0 rfl (lv_at hl 0 rfl) ?_
  refine lv_iload_n hx hb dX5_like_1 rfl (lv_at hl 1 rfl) ?_
  rcases ix_cases 16 (by decide) vs with hvs | ⟨kvs, hkvs, rfl⟩
  · skip
    have xvs := ix_none hvs
    refine h_callV (st1 := [.null]) [.int vs] [] ⟨hx, hb, hml, hown, hts⟩ hE hw (c_X5_register_out l G A ad F _ hC vs hvs) (cwV 1 hts gX5_like_X5_register rfl rfl rfl (by decide +kernel) ⟨Nat.le_of_ble_eq_true rfl, Nat.le_of_ble_eq_true rfl⟩) hC.fp rfl rfl rfl hl.1 rfl (Nat.le_of_ble_eq_true rfl) dX5_like_2 ⟨Nat.le_of_ble_eq_true rfl, Nat.le_of_ble_eq_true rfl⟩ rfl (fun H locs hw => ?_)
    refine lv_astoreN (lv' := [(4, .null), (0, .ref (ad 51)), (1, .int vs), (2, .int vt), (3, .int vd)]) hx hb dX5_like_5 hl (by decide) rfl (fun ls hl => ?_)
    refine lv_aload_n hx hb dX5_like_7 rfl (lv_at hl 1 rfl) ?_
    refine lv_iload_n hx hb dX5_like_8 rfl (lv_at hl 3 rfl) ?_
    rcases ix_cases 16 (by decide) vt with hvt | ⟨kvt, hkvt, rfl⟩
    · skip
      have xvt := ix_none hvt
      refine h_callV (st1 := [.null]) [.int vt] [] ⟨hx, hb, hml, hown, hts⟩ hE hw (c_X5_register_out l G A ad F _ hC vt hvt) (cwV 1 hts gX5_like_X5_register rfl rfl rfl (by decide +kernel) ⟨Nat.le_of_ble_eq_true rfl, Nat.le_of_ble_eq_true rfl⟩) hC.fp rfl rfl rfl hl.1 rfl (Nat.le_of_ble_eq_true rfl) dX5_like_9 ⟨Nat.le_of_ble_eq_true rfl, Nat.le_of_ble_eq_true rfl⟩ rfl (fun H locs hw => ?_)
      refine lv_astoreN (lv' := [(5, .null), (4, .null), (0, .ref (ad 51)), (1, .int vs), (2, .int vt), (3, .int vd)]) hx hb dX5_like_12 hl (by decide) rfl (fun ls hl => ?_)
      refine lv_aloadN hx hb dX5_like_14 (lv_at hl 1 rfl) ?_
      refine lv_ifnullN (tgt := 31) hx hb dX5_like_16 (by decide) ?_
      refine lv_iconst (v := (-1)) hx hb dX5_like_31 (by decide) ?_
      exact h_iretP hx hb hlk hr hw dX5_like_32 (by simp only [sp_like, xvs, xvt]) (by simp only [sp_like, xvs, xvt]; exact ⟨_, hC, hq⟩)
    · skip
      have xvt := ix_in (n := 16) hkvt (by decide)
      refine h_callV (st1 := [.ref (ad kvt)]) [.int (nI kvt)] [] ⟨hx, hb, hml, hown, hts⟩ hE hw (c_X5_register_in l G A ad F _ hC kvt hkvt) (cwV 1 hts gX5_like_X5_register rfl rfl rfl (by decide +kernel) ⟨Nat.le_of_ble_eq_true rfl, Nat.le_of_ble_eq_true rfl⟩) hC.fp rfl rfl rfl hl.1 rfl (Nat.le_of_ble_eq_true rfl) dX5_like_9 ⟨Nat.le_of_ble_eq_true rfl, Nat.le_of_ble_eq_true rfl⟩ rfl (fun H locs hw => ?_)
      refine lv_astore (lv' := [(5, .ref (ad kvt)), (4, .null), (0, .ref (ad 51)), (1, .int vs), (2, .int (nI kvt)), (3, .int vd)]) hx hb dX5_like_12 hl (by decide) rfl (fun ls hl => ?_)
      refine lv_aloadN hx hb dX5_like_14 (lv_at hl 1 rfl) ?_
      refine lv_ifnullN (tgt := 31) hx hb dX5_like_16 (by decide) ?_
      refine lv_iconst (v := (-1)) hx hb dX5_like_31 (by decide) ?_
      exact h_iretP hx hb hlk hr hw dX5_like_32 (by simp only [sp_like, xvs, xvt]) (by simp only [sp_like, xvs, xvt]; exact ⟨_, hC, hq⟩)
  · skip
    have xvs := ix_in (n := 16) hkvs (by decide)
    refine h_callV (st1 := [.ref (ad kvs)]) [.int (nI kvs)] [] ⟨hx, hb, hml, hown, hts⟩ hE hw (c_X5_register_in l G A ad F _ hC kvs hkvs) (cwV 1 hts gX5_like_X5_register rfl rfl rfl (by decide +kernel) ⟨Nat.le_of_ble_eq_true rfl, Nat.le_of_ble_eq_true rfl⟩) hC.fp rfl rfl rfl hl.1 rfl (Nat.le_of_ble_eq_true rfl) dX5_like_2 ⟨Nat.le_of_ble_eq_true rfl, Nat.le_of_ble_eq_true rfl⟩ rfl (fun H locs hw => ?_)
    refine lv_astore (lv' := [(4, .ref (ad kvs)), (0, .ref (ad 51)), (1, .int (nI kvs)), (2, .int vt), (3, .int vd)]) hx hb dX5_like_5 hl (by decide) rfl (fun ls hl => ?_)
    refine lv_aload_n hx hb dX5_like_7 rfl (lv_at hl 1 rfl) ?_
    refine lv_iload_n hx hb dX5_like_8 rfl (lv_at hl 3 rfl) ?_
    rcases ix_cases 16 (by decide) vt with hvt | ⟨kvt, hkvt, rfl⟩
    · skip
      have xvt := ix_none hvt
      refine h_callV (st1 := [.null]) [.int vt] [] ⟨hx, hb, hml, hown, hts⟩ hE hw (c_X5_register_out l G A ad F _ hC vt hvt) (cwV 1 hts gX5_like_X5_register rfl rfl rfl (by decide +kernel) ⟨Nat.le_of_ble_eq_true rfl, Nat.le_of_ble_eq_true rfl⟩) hC.fp rfl rfl rfl hl.1 rfl (Nat.le_of_ble_eq_true rfl) dX5_like_9 ⟨Nat.le_of_ble_eq_true rfl, Nat.le_of_ble_eq_true rfl⟩ rfl (fun H locs hw => ?_)
      refine lv_astoreN (lv' := [(5, .null), (4, .ref (ad kvs)), (0, .ref (ad 51)), (1, .int (nI kvs)), (2, .int vt), (3, .int vd)]) hx hb dX5_like_12 hl (by decide) rfl (fun ls hl => ?_)
      refine lv_aload hx hb dX5_like_14 (lv_at hl 1 rfl) ?_
      refine lv_ifnull hx hb dX5_like_16 ?_
      refine lv_aloadN hx hb dX5_like_19 (lv_at hl 0 rfl) ?_
      refine lv_ifnullN (tgt := 31) hx hb dX5_like_21 (by decide) ?_
      refine lv_iconst (v := (-1)) hx hb dX5_like_31 (by decide) ?_
      exact h_iretP hx hb hlk hr hw dX5_like_32 (by simp only [sp_like, xvs, xvt]) (by simp only [sp_like, xvs, xvt]; exact ⟨_, hC, hq⟩)
    · skip
      have xvt := ix_in (n := 16) hkvt (by decide)
      refine h_callV (st1 := [.ref (ad kvt)]) [.int (nI kvt)] [] ⟨hx, hb, hml, hown, hts⟩ hE hw (c_X5_register_in l G A ad F _ hC kvt hkvt) (cwV 1 hts gX5_like_X5_register rfl rfl rfl (by decide +kernel) ⟨Nat.le_of_ble_eq_true rfl, Nat.le_of_ble_eq_true rfl⟩) hC.fp rfl rfl rfl hl.1 rfl (Nat.le_of_ble_eq_true rfl) dX5_like_9 ⟨Nat.le_of_ble_eq_true rfl, Nat.le_of_ble_eq_true rfl⟩ rfl (fun H locs hw => ?_)
      refine lv_astore (lv' := [(5, .ref (ad kvt)), (4, .ref (ad kvs)), (0, .ref (ad 51)), (1, .int (nI kvs)), (2, .int (nI kvt)), (3, .int vd)]) hx hb dX5_like_12 hl (by decide) rfl (fun ls hl => ?_)
      refine lv_aload hx hb dX5_like_14 (lv_at hl 1 rfl) ?_
      refine lv_ifnull hx hb dX5_like_16 ?_
      refine lv_aload hx hb dX5_like_19 (lv_at hl 0 rfl) ?_
      refine lv_ifnull hx hb dX5_like_21 ?_
      refine lv_iload_n hx hb dX5_like_24 rfl (lv_at hl 5 rfl) ?_
      refine h_callS (st1 := [.int (bI (vd = 0 ∨ vd = 1))]) [.int vd] [] ⟨hx, hb, hml, hown, hts⟩ hE hw (c_X5_isSide l G A (CL ad) F vd) (va_cwS 1 hts gX5_like_X5_isSide rfl rfl rfl (by decide +kernel) ⟨Nat.le_of_ble_eq_true rfl, Nat.le_of_ble_eq_true rfl⟩) rfl hl.1 rfl (Nat.le_of_ble_eq_true rfl) dX5_like_25 ⟨Nat.le_of_ble_eq_true rfl, Nat.le_of_ble_eq_true rfl⟩ rfl (fun H locs hw => ?_)
      refine lv_if_ne (tgt := 33) hx hb dX5_like_28 (by decide) (fun c_28 => ?_) (fun c_28 => ?_)
      · skip
        have c_28 := bI_ne.mp c_28
        refine lv_iconst (v := 0) hx hb dX5_like_33 (by decide) ?_
        refine lv_istore (lv' := [(6, .int 0), (5, .ref (ad kvt)), (4, .ref (ad kvs)), (0, .ref (ad 51)), (1, .int (nI kvs)), (2, .int (nI kvt)), (3, .int vd)]) hx hb dX5_like_34 hl (by decide) rfl (fun ls hl => ?_)
        have hspl : (sp_like (rg, kd, z, pl, cnt) (nI kvs) (nI kvt) vd) = (fuL vd (rg kvs) (rg kvt) 24 0, (rg, kd, z, pl, cnt)) := by simp only [sp_like, xvs, xvt, cif_t c_28]
        have loop : ∀ (d u : Nat) (F : FM) (q2 : Nat → Q4) (H : Heap) (locs : List Loc) (ls : Array Slot), d + u = 24 → CW G ad (q2, kd, (fun k => nI (z k)), pl, nI cnt) F → (∀ k, k < 28 → q2 k = rg k) → fuL vd (rg kvs) (rg kvt) d u = fuL vd (rg kvs) (rg kvt) 24 0 → wo G A s.heap (CL ad) F H locs → lv_has ls 7 [(0, .ref (ad 51)), (3, .int vd), (4, .ref (ad kvs)), (5, .ref (ad kvt)), (6, .int (nI u))] → W p l e { frames := 3, cells := 0, slots := 0, locals := 73 } s m ([.ref (ad 51), .int (nI kvs), .int (nI kvt), .int vd].toArray) below meth c H locs 0 0 (MQ below (QP G A (CL ad) (some (.int (sp_like (rg, kd, z, pl, cnt) (nI kvs) (nI kvt) vd).1)) (CR G ad (sp_like (rg, kd, z, pl, cnt) (nI kvs) (nI kvt) vd).2)) ([.ref (ad 51), .int (nI kvs), .int (nI kvt), .int vd].toArray) s 0 0 A) (F0 m 36 ls []) := by
          intro d
          induction d with
          | zero =>
            intro u F q2 H locs ls hu hC2 hk hf hw hl
            refine lv_iload hx hb dX5_like_36 (lv_at hl 4 rfl) ?_
            refine lv_bipush (v := 24) hx hb dX5_like_38 (by decide) ?_
            refine lv_icmp_ge (tgt := 87) hx hb dX5_like_40 (by decide) (fun c_40 => ?_) (fun c_40 => ?_)
            · skip
              refine lv_bipush (v := (-4)) hx hb dX5_like_87 (by decide) ?_
              exact h_iretP hx hb hlk hr hw dX5_like_89 (by rw [hspl]; simp only []; rw [← hf]; rfl) (by rw [hspl]; exact ⟨q2, hC2, hk⟩)
            · skip
              exact absurd (nI_le (a := 24) (b := u) (by omega) (by omega)) c_40
          | succ d ih =>
            intro u F q2 H locs ls hu hC2 hk hf hw hl
            refine lv_iload hx hb dX5_like_36 (lv_at hl 4 rfl) ?_
            refine lv_bipush (v := 24) hx hb dX5_like_38 (by decide) ?_
            refine lv_icmp_ge (tgt := 87) hx hb dX5_like_40 (by decide) (fun c_40 => ?_) (fun c_40 => ?_)
            · skip
              exact absurd c_40 (nI_ge (a := u) (b := 24) (by omega) (by decide))
            · skip
              refine lv_aload_n hx hb dX5_like_43 rfl (lv_at hl 0 rfl) ?_
              refine h_get hx hb hE hw hts hinX5 hown (ci := 5) rfl 5 (by decide) lk_43 (fun _ h9 => h9) hC2.fp rfl dX5_like_44 ?_
              refine lv_iload hx hb dX5_like_47 (lv_at hl 4 rfl) ?_
              refine h_callV (st1 := []) [.int (nI u)] [] ⟨hx, hb, hml, hown, hts⟩ hE hw (c_X1_becomeUnit l G A (CL ad) F (ad 28) (q2 28) (hC2.q (i := 28) (by decide)) u (by omega)) (cwV 1 hts gX5_like_X1_becomeUnit rfl rfl rfl (by decide +kernel) ⟨Nat.le_of_ble_eq_true rfl, Nat.le_of_ble_eq_true rfl⟩) (hC2.q (i := 28) (by decide)) rfl rfl rfl hl.1 rfl (Nat.le_of_ble_eq_true rfl) dX5_like_49 ⟨Nat.le_of_ble_eq_true rfl, Nat.le_of_ble_eq_true rfl⟩ rfl (fun H locs hw => ?_)
              refine lv_aload_n hx hb dX5_like_52 rfl (lv_at hl 0 rfl) ?_
              refine h_get hx hb hE hw hts hinX5 hown (ci := 5) rfl 5 (by decide) lk_43 (fun _ h9 => h9) (pt_ne hC2.fp (hC.ne (i := 51) (j := 28) (by decide) (by decide) (by decide))) rfl dX5_like_53 ?_
              refine lv_iload_n hx hb dX5_like_56 rfl (lv_at hl 1 rfl) ?_
              refine lv_aload hx hb dX5_like_57 (lv_at hl 2 rfl) ?_
              refine lv_aload_n hx hb dX5_like_59 rfl (lv_at hl 0 rfl) ?_
              refine h_get hx hb hE hw hts hinX5 hown (ci := 5) rfl 5 (by decide) lk_43 (fun _ h9 => h9) (pt_ne hC2.fp (hC.ne (i := 51) (j := 28) (by decide) (by decide) (by decide))) rfl dX5_like_60 ?_
              refine h_callV (st1 := []) [.int vd, .ref (ad kvs), .ref (ad 28)] [] ⟨hx, hb, hml, hown, hts⟩ hE hw (c_X1_becomeProductOn l G A (CL ad) (va_up F (ad 28) (eq4 (uq4 u))) (ad 28) (uq4 u) (pt_up (hC2.q (i := 28) (by decide))) vd (ad kvs) (ad 28) (rg kvs) (uq4 u) (pt_ne (pt_eq (hC2.q (i := kvs) (by omega)) (by rw [show ((q2, kd, (fun k => nI (z k)), pl, nI cnt) : CS).1 kvs = rg kvs from hk kvs (by omega)])) (hC.ne (i := kvs) (j := 28) (Nat.lt_of_lt_of_le hkvs (by decide)) (by decide) (by omega))) (pt_up (hC2.q (i := 28) (by decide)))) (cwV 3 hts gX5_like_X1_becomeProductOn rfl rfl rfl (by decide +kernel) ⟨Nat.le_of_ble_eq_true rfl, Nat.le_of_ble_eq_true rfl⟩) (pt_up (hC2.q (i := 28) (by decide))) rfl rfl rfl hl.1 rfl (Nat.le_of_ble_eq_true rfl) dX5_like_63 ⟨Nat.le_of_ble_eq_true rfl, Nat.le_of_ble_eq_true rfl⟩ rfl (fun H locs hw => ?_)
              refine lv_aload_n hx hb dX5_like_66 rfl (lv_at hl 0 rfl) ?_
              refine h_get hx hb hE hw hts hinX5 hown (ci := 5) rfl 5 (by decide) lk_43 (fun _ h9 => h9) (pt_ne (pt_ne hC2.fp (hC.ne (i := 51) (j := 28) (by decide) (by decide) (by decide))) (hC.ne (i := 51) (j := 28) (by decide) (by decide) (by decide))) rfl dX5_like_67 ?_
              refine lv_aload hx hb dX5_like_70 (lv_at hl 3 rfl) ?_
              refine h_callV (st1 := [.int (bI ((qon vd (rg kvs) (uq4 u)) = (rg kvt)))]) [.ref (ad kvt)] [] ⟨hx, hb, hml, hown, hts⟩ hE hw (c_X1_isSame l G A (CL ad) (va_up (va_up F (ad 28) (eq4 (uq4 u))) (ad 28) (eq4 (qon vd (rg kvs) (uq4 u)))) (ad 28) (ad kvt) (qon vd (rg kvs) (uq4 u)) (rg kvt) (pt_up (pt_up (hC2.q (i := 28) (by decide)))) (pt_ne (pt_ne (pt_eq (hC2.q (i := kvt) (by omega)) (by rw [show ((q2, kd, (fun k => nI (z k)), pl, nI cnt) : CS).1 kvt = rg kvt from hk kvt (by omega)])) (hC.ne (i := kvt) (j := 28) (Nat.lt_of_lt_of_le hkvt (by decide)) (by decide) (by omega))) (hC.ne (i := kvt) (j := 28) (Nat.lt_of_lt_of_le hkvt (by decide)) (by decide) (by omega)))) (cwV 1 hts gX5_like_X1_isSame rfl rfl rfl (by decide +kernel) ⟨Nat.le_of_ble_eq_true rfl, Nat.le_of_ble_eq_true rfl⟩) (pt_up (pt_up (hC2.q (i := 28) (by decide)))) rfl rfl rfl hl.1 rfl (Nat.le_of_ble_eq_true rfl) dX5_like_72 ⟨Nat.le_of_ble_eq_true rfl, Nat.le_of_ble_eq_true rfl⟩ rfl (fun H locs hw => ?_)
              refine lv_if_eq (tgt := 81) hx hb dX5_like_75 (by decide) (fun c_75 => ?_) (fun c_75 => ?_)
              · skip
                have c_75 := bI_eq.mp c_75
                obtain ⟨i9, ei9⟩ : ∃ y : Int32, y = (nI u) + 1 := ⟨_, rfl⟩
                refine lv_iinc (v := i9) (lv' := [(6, .int i9), (0, .ref (ad 51)), (3, .int vd), (4, .ref (ad kvs)), (5, .ref (ad kvt))]) hx hb dX5_like_81 hl (k := 4) rfl (by rw [ei9, show Int32.ofInt (1) = 1 from by decide]) (by decide) rfl (fun ls hl => ?_)
                refine lv_goto (tgt := 36) hx hb dX5_like_84 (by decide) ?_
                exact ih (u + 1) _ _ H locs ls (by omega) (CW.setq (CW.setq hC2 (i := 28) (by decide) (uq4 u)) (i := 28) (by decide) (qon vd (rg kvs) (uq4 u))) (qscr (qscr hk (by decide)) (by decide)) (by rw [← hf]; conv => rhs; rw [fuL, if_neg c_75]) hw (lv_sub (l' := [(0, .ref (ad 51)), (3, .int vd), (4, .ref (ad kvs)), (5, .ref (ad kvt)), (6, .int (nI (u + 1)))]) hl [1, 2, 3, 4, 0] (by rw [← nI_1, ← ei9]; rfl))
              · skip
                have c_75 := bI_ne.mp c_75
                refine lv_iload hx hb dX5_like_78 (lv_at hl 4 rfl) ?_
                exact h_iretP hx hb hlk hr hw dX5_like_80 (by rw [hspl]; simp only []; rw [← hf, fuL, if_pos c_75]) (by rw [hspl]; exact ⟨_, (CW.setq (CW.setq hC2 (i := 28) (by decide) (uq4 u)) (i := 28) (by decide) (qon vd (rg kvs) (uq4 u))), qscr (qscr hk (by decide)) (by decide)⟩)
        exact loop 24 0 _ _ _ _ ls rfl hC hq rfl hw (lv_sub (l' := [(0, .ref (ad 51)), (3, .int vd), (4, .ref (ad kvs)), (5, .ref (ad kvt)), (6, .int (nI 0))]) hl [3, 6, 2, 1, 0] rfl)
      · skip
        have c_28 := bI_eq.mp c_28
        refine lv_iconst (v := (-1)) hx hb dX5_like_31 (by decide) ?_
        exact h_iretP hx hb hlk hr hw dX5_like_32 (by simp only [sp_like, xvs, xvt, cif_f c_28]) (by simp only [sp_like, xvs, xvt, cif_f c_28]; exact ⟨_, hC, hq⟩)

set_option maxHeartbeats 4000000 in
set_option maxRecDepth 100000 in
theorem c_X5_factor (l : Launch) (G : GG) (A : Nat → Prop) (ad : Nat → Nat) (F : FM) (rg : Nat → Q4) (kd : Nat → Int32) (z : Nat → Nat) (pl : Nat → Nat → Int64) (cnt : Nat) (hR : CR G ad (rg, kd, z, pl, cnt) F) (hz : ∀ k, k < 6 → z k ≤ 16) (hc12 : cnt ≤ 12) (vs : Int32) (vk : Int32) : PT l yX5_factor wsX5_factor { frames := 4, cells := 0, slots := 0, locals := 92 } G A (CL ad) [.ref (ad 51), .int vs, .int vk] F (some (.int (sp_factor (rg, kd, z, pl, cnt) vs vk).1)) (CR G ad (sp_factor (rg, kd, z, pl, cnt) vs vk).2) := by
  refine PT.ofW (cc := cX5_factor) (maxL := 5) (ret := (some .int)) (plainFor_of_name (by decide)) rfl (Nat.le_of_ble_eq_true rfl) ?_
  intro p e s m below meth c ls hx hb hr hml hown hts hlk hE hw hl
  have hl : lv_has ls 5 [(0, .ref (ad 51)), (1, .int vs), (2, .int vk)] := hl
  have hown : s.vm.findClass RX5 = some m.cls := hown
  have lk_38 := hts (.fieldLink RX5 38 "FourParts" "latest" "LFourParts$Way;") (by decide +kernel)
  have hinX5 : ∀ w ∈ u_ws RX5 TX5 6, w ∈ wsX5_factor := by decide +kernel
  obtain ⟨q, hC, hq⟩ := hR
  refine lv_aload_n hx hb dX5_factor_0 rfl (lv_at hl 0 rfl) ?_
  refine lv_iload_n hx hb dX5_factor_1 rfl (lv_at hl 1 rfl) ?_
  rcases ix_cases 16 (by decide) vs with hvs | ⟨kvs, hkvs, rfl⟩
  · skip
    have xvs := ix_none hvs
    refine h_callV (st1 := [.null]) [.int vs] [] ⟨hx, hb, hml, hown, hts⟩ hE hw (c_X5_register_out l G A ad F _ hC vs hvs) (cwV 1 hts gX5_factor_X5_register rfl rfl rfl (by decide +kernel) ⟨Nat.le_of_ble_eq_true rfl, Nat.le_of_ble_eq_true rfl⟩) hC.fp rfl rfl rfl hl.1 rfl (Nat.le_of_ble_eq_true rfl) dX5_factor_2 ⟨Nat.le_of_ble_eq_true rfl, Nat.le_of_ble_eq_true rfl⟩ rfl (fun H locs hw => ?_)
    refine lv_astore_nN (lv' := [(3, .null), (0, .ref (ad 51)), (1, .int vs), (2, .int vk)]) hx hb dX5_factor_5 rfl hl (by decide) rfl (fun ls hl => ?_)
    refine lv_aload_nN hx hb dX5_factor_6 rfl (lv_at hl 0 rfl) ?_
    refine lv_ifnonnullN hx hb dX5_factor_7 ?_
    refine lv_iconst (v := (-1)) hx hb dX5_factor_10 (by decide) ?_
    exact h_iretP hx hb hlk hr hw dX5_factor_11 (by simp only [sp_factor, xvs, hldN]) (by simp only [sp_factor, xvs, hldN]; exact ⟨_, hC, hq⟩)
  · skip
    have xvs := ix_in (n := 16) hkvs (by decide)
    refine h_callV (st1 := [.ref (ad kvs)]) [.int (nI kvs)] [] ⟨hx, hb, hml, hown, hts⟩ hE hw (c_X5_register_in l G A ad F _ hC kvs hkvs) (cwV 1 hts gX5_factor_X5_register rfl rfl rfl (by decide +kernel) ⟨Nat.le_of_ble_eq_true rfl, Nat.le_of_ble_eq_true rfl⟩) hC.fp rfl rfl rfl hl.1 rfl (Nat.le_of_ble_eq_true rfl) dX5_factor_2 ⟨Nat.le_of_ble_eq_true rfl, Nat.le_of_ble_eq_true rfl⟩ rfl (fun H locs hw => ?_)
    refine lv_astore_n (lv' := [(3, .ref (ad kvs)), (0, .ref (ad 51)), (1, .int (nI kvs)), (2, .int vk)]) hx hb dX5_factor_5 rfl hl (by decide) rfl (fun ls hl => ?_)
    refine lv_aload_n hx hb dX5_factor_6 rfl (lv_at hl 0 rfl) ?_
    refine lv_ifnonnull (tgt := 12) hx hb dX5_factor_7 (by decide) ?_
    refine lv_aload_n hx hb dX5_factor_12 rfl (lv_at hl 1 rfl) ?_
    refine h_get hx hb hE hw hts hinX5 hown (ci := 5) rfl 4 (by decide) lk_38 (fun _ h9 => h9) hC.fp rfl dX5_factor_13 ?_
    refine lv_iload_n hx hb dX5_factor_16 rfl (lv_at hl 3 rfl) ?_
    rcases ix_cases cnt (by omega) vk with hvk | ⟨kk, hkk, rfl⟩
    · skip
      have xvk := ix_none hvk
      refine h_callV (st1 := [.null]) [.int vk] [] ⟨hx, hb, hml, hown, hts⟩ hE hw (c_X4_at_out l G A ad F _ _ _ _ _ hC cnt hc12 rfl vk hvk) (cwV 1 hts gX5_factor_X4_at rfl rfl rfl (by decide +kernel) ⟨Nat.le_of_ble_eq_true rfl, Nat.le_of_ble_eq_true rfl⟩) hC.wy rfl rfl rfl hl.1 rfl (Nat.le_of_ble_eq_true rfl) dX5_factor_17 ⟨Nat.le_of_ble_eq_true rfl, Nat.le_of_ble_eq_true rfl⟩ rfl (fun H locs hw => ?_)
      refine lv_astoreN (lv' := [(4, .null), (3, .ref (ad kvs)), (0, .ref (ad 51)), (1, .int (nI kvs)), (2, .int vk)]) hx hb dX5_factor_20 hl (by decide) rfl (fun ls hl => ?_)
      refine lv_aloadN hx hb dX5_factor_22 (lv_at hl 0 rfl) ?_
      refine lv_ifnonnullN hx hb dX5_factor_24 ?_
      refine lv_bipush (v := (-2)) hx hb dX5_factor_27 (by decide) ?_
      exact h_iretP hx hb hlk hr hw dX5_factor_29 (by simp only [sp_factor, xvs, xvk, hldN]) (by simp only [sp_factor, xvs, xvk, hldN]; exact ⟨_, hC, hq⟩)
    · skip
      have xvk := ix_in hkk (by omega)
      refine h_callV (st1 := [.ref (ad (16 + kk))]) [.int (nI kk)] [] ⟨hx, hb, hml, hown, hts⟩ hE hw (c_X4_at_in l G A ad F _ _ _ _ _ hC cnt hc12 rfl kk hkk) (cwV 1 hts gX5_factor_X4_at rfl rfl rfl (by decide +kernel) ⟨Nat.le_of_ble_eq_true rfl, Nat.le_of_ble_eq_true rfl⟩) hC.wy rfl rfl rfl hl.1 rfl (Nat.le_of_ble_eq_true rfl) dX5_factor_17 ⟨Nat.le_of_ble_eq_true rfl, Nat.le_of_ble_eq_true rfl⟩ rfl (fun H locs hw => ?_)
      refine lv_astore (lv' := [(4, .ref (ad (16 + kk))), (3, .ref (ad kvs)), (0, .ref (ad 51)), (1, .int (nI kvs)), (2, .int (nI kk))]) hx hb dX5_factor_20 hl (by decide) rfl (fun ls hl => ?_)
      refine lv_aload hx hb dX5_factor_22 (lv_at hl 0 rfl) ?_
      refine lv_ifnonnull (tgt := 30) hx hb dX5_factor_24 (by decide) ?_
      refine lv_aload_n hx hb dX5_factor_30 rfl (lv_at hl 1 rfl) ?_
      refine lv_aload hx hb dX5_factor_31 (lv_at hl 0 rfl) ?_
      by_cases hh : qhigh (rg (16 + kk))
      · skip
        refine h_callS (st1 := [.int (-3)]) [.ref (ad kvs), .ref (ad (16 + kk))] [] ⟨hx, hb, hml, hown, hts⟩ hE hw (c_X5_holdForNorm_hi l G A (CL ad) F (ad kvs) (ad (16 + kk)) (rg kvs) (rg (16 + kk)) (pt_eq (hC.q (i := kvs) (Nat.lt_of_lt_of_le hkvs (by decide))) (by rw [show ((q, kd, (fun k => nI (z k)), pl, nI cnt) : CS).1 kvs = rg kvs from hq kvs (Nat.lt_of_lt_of_le hkvs (by decide))])) (pt_eq (hC.q (i := 16 + kk) (by omega)) (by rw [show ((q, kd, (fun k => nI (z k)), pl, nI cnt) : CS).1 (16 + kk) = rg (16 + kk) from hq (16 + kk) (by omega)])) hh) (va_cwS 2 hts gX5_factor_X5_holdForNorm rfl rfl rfl (by decide +kernel) ⟨Nat.le_of_ble_eq_true rfl, Nat.le_of_ble_eq_true rfl⟩) rfl hl.1 rfl (Nat.le_of_ble_eq_true rfl) dX5_factor_33 ⟨Nat.le_of_ble_eq_true rfl, Nat.le_of_ble_eq_true rfl⟩ rfl (fun H locs hw => ?_)
        exact h_iretP hx hb hlk hr hw dX5_factor_36 (by simp only [sp_factor, xvs, xvk, cif_t hh, hldN]) (by simp only [sp_factor, xvs, xvk, cif_t hh, hldN]; exact ⟨_, hC, hq⟩)
      · skip
        refine h_callS (st1 := [.int ((qnorm (rg (16 + kk))).toInt32)]) [.ref (ad kvs), .ref (ad (16 + kk))] [] ⟨hx, hb, hml, hown, hts⟩ hE hw (c_X5_holdForNorm_lo l G A (CL ad) F (ad kvs) (ad (16 + kk)) (rg kvs) (rg (16 + kk)) (pt_eq (hC.q (i := kvs) (Nat.lt_of_lt_of_le hkvs (by decide))) (by rw [show ((q, kd, (fun k => nI (z k)), pl, nI cnt) : CS).1 kvs = rg kvs from hq kvs (Nat.lt_of_lt_of_le hkvs (by decide))])) (pt_eq (hC.q (i := 16 + kk) (by omega)) (by rw [show ((q, kd, (fun k => nI (z k)), pl, nI cnt) : CS).1 (16 + kk) = rg (16 + kk) from hq (16 + kk) (by omega)])) hh) (va_cwS 2 hts gX5_factor_X5_holdForNorm rfl rfl rfl (by decide +kernel) ⟨Nat.le_of_ble_eq_true rfl, Nat.le_of_ble_eq_true rfl⟩) rfl hl.1 rfl (Nat.le_of_ble_eq_true rfl) dX5_factor_33 ⟨Nat.le_of_ble_eq_true rfl, Nat.le_of_ble_eq_true rfl⟩ rfl (fun H locs hw => ?_)
        exact h_iretP hx hb hlk hr hw dX5_factor_36 (by simp only [sp_factor, xvs, xvk, cif_f hh, hldN]) (by simp only [sp_factor, xvs, xvk, cif_f hh, hldN]; exact ⟨_, (CW.setq hC (i := kvs) (Nat.lt_of_lt_of_le hkvs (by decide)) (rg (16 + kk))), (qup hq)⟩)

set_option maxHeartbeats 4000000 in
set_option maxRecDepth 100000 in
theorem c_X5_many (l : Launch) (G : GG) (A : Nat → Prop) (ad : Nat → Nat) (F : FM) (rg : Nat → Q4) (kd : Nat → Int32) (z : Nat → Nat) (pl : Nat → Nat → Int64) (cnt : Nat) (hR : CR G ad (rg, kd, z, pl, cnt) F) (hz : ∀ k, k < 6 → z k ≤ 16) (hc12 : cnt ≤ 12) (vn : Int32) (vw : Int32) : PT l yX5_many wsX5_many { frames := 2, cells := 0, slots := 0, locals := 44 } G A (CL ad) [.ref (ad 51), .int vn, .int vw] F (some (.int (sp_many (rg, kd, z, pl, cnt) vn vw).1)) (CR G ad (sp_many (rg, kd, z, pl, cnt) vn vw).2) := by
  refine PT.ofW (cc := cX5_many) (maxL := 3) (ret := (some .int)) (plainFor_of_name (by decide)) rfl (Nat.le_of_ble_eq_true rfl) ?_
  intro p e s m below meth c ls hx hb hr hml hown hts hlk hE hw hl
  have hl : lv_has ls 3 [(0, .ref (ad 51)), (1, .int vn), (2, .int vw)] := hl
  have hown : s.vm.findClass RX5 = some m.cls := hown
  obtain ⟨q, hC, hq⟩ := hR
  refine lv_iload_n hx hb dX5_many_0 rfl (lv_at hl 1 rfl) ?_
  refine h_callS (st1 := [.int (bI (¬ vn < 1 ∧ ¬ 200 < vn))]) [.int vn] [] ⟨hx, hb, hml, hown, hts⟩ hE hw (c_X5_isListedNorm l G A (CL ad) F vn) (va_cwS 1 hts gX5_many_X5_isListedNorm rfl rfl rfl (by decide +kernel) ⟨Nat.le_of_ble_eq_true rfl, Nat.le_of_ble_eq_true rfl⟩) rfl hl.1 rfl (Nat.le_of_ble_eq_true rfl) dX5_many_1 ⟨Nat.le_of_ble_eq_true rfl, Nat.le_of_ble_eq_true rfl⟩ rfl (fun H locs hw => ?_)
  refine lv_if_ne (tgt := 9) hx hb dX5_many_4 (by decide) (fun c_4 => ?_) (fun c_4 => ?_)
  · skip
    have c_4 := bI_ne.mp c_4
    obtain ⟨N, hN, rfl⟩ := nI_of2 (M := 200) (n := 200) (by decide) (fun w => c_4.1 (lt1 w)) (Int32.not_lt.mp c_4.2)
    refine lv_iload_n hx hb dX5_many_9 rfl (lv_at hl 2 rfl) ?_
    by_cases k0 : vw.toInt < 0 ∨ 2 < vw.toInt
    · refine lv_tableOut (tgt := 51) hx hb dX5_many_10 k0 (by decide) ?_
      have kn : ∀ y : Int32, 0 ≤ y.toInt → y.toInt ≤ 2 → ¬ vw = y := fun y h1 h2 w => by rw [w] at k0; omega
      refine lv_iconst (v := (-1)) hx hb dX5_many_51 (by decide) ?_
      exact h_iretP hx hb hlk hr hw dX5_many_52 (by simp only [sp_many, cif_t c_4, nI_clamp (show N < 2 ^ 31 by omega)]; rw [if_neg (kn 0 (by decide) (by decide)), if_neg (kn 1 (by decide) (by decide)), if_neg (kn 2 (by decide) (by decide))]) (by simp only [sp_many, cif_t c_4, nI_clamp (show N < 2 ^ 31 by omega)]; exact ⟨_, hC, hq⟩)
    · rcases int_lt3 (k := vw) (by omega) (by omega) with rfl | rfl | rfl
      · refine lv_tableIn (off := 26) (tgt := 36) hx hb dX5_many_10 (by decide) (by decide) rfl (by decide) ?_
        refine lv_iload_n hx hb dX5_many_36 rfl (lv_at hl 1 rfl) ?_
        refine h_callS (st1 := [.int (nI (mAll N))]) [.int (nI N)] [] ⟨hx, hb, hml, hown, hts⟩ hE hw (c_X0_countAll l G A (CL ad) F N hN) (va_cwS 1 hts gX5_many_X0_countAll rfl rfl rfl (by decide +kernel) ⟨Nat.le_of_ble_eq_true rfl, Nat.le_of_ble_eq_true rfl⟩) rfl hl.1 rfl (Nat.le_of_ble_eq_true rfl) dX5_many_37 ⟨Nat.le_of_ble_eq_true rfl, Nat.le_of_ble_eq_true rfl⟩ rfl (fun H locs hw => ?_)
        exact h_iretP hx hb hlk hr hw dX5_many_40 (by simp only [sp_many, cif_t c_4, nI_clamp (show N < 2 ^ 31 by omega)]; rw [if_pos trivial]) (by simp only [sp_many, cif_t c_4, nI_clamp (show N < 2 ^ 31 by omega)]; exact ⟨_, hC, hq⟩)
      · refine lv_tableIn (off := 31) (tgt := 41) hx hb dX5_many_10 (by decide) (by decide) rfl (by decide) ?_
        refine lv_iload_n hx hb dX5_many_41 rfl (lv_at hl 1 rfl) ?_
        refine h_callS (st1 := [.int (nI (mWhole N))]) [.int (nI N)] [] ⟨hx, hb, hml, hown, hts⟩ hE hw (c_X0_countWhole l G A (CL ad) F N hN) (va_cwS 1 hts gX5_many_X0_countWhole rfl rfl rfl (by decide +kernel) ⟨Nat.le_of_ble_eq_true rfl, Nat.le_of_ble_eq_true rfl⟩) rfl hl.1 rfl (Nat.le_of_ble_eq_true rfl) dX5_many_42 ⟨Nat.le_of_ble_eq_true rfl, Nat.le_of_ble_eq_true rfl⟩ rfl (fun H locs hw => ?_)
        exact h_iretP hx hb hlk hr hw dX5_many_45 (by simp only [sp_many, cif_t c_4, nI_clamp (show N < 2 ^ 31 by omega)]; rw [if_neg (by decide), if_pos trivial]) (by simp only [sp_many, cif_t c_4, nI_clamp (show N < 2 ^ 31 by omega)]; exact ⟨_, hC, hq⟩)
      · refine lv_tableIn (off := 36) (tgt := 46) hx hb dX5_many_10 (by decide) (by decide) rfl (by decide) ?_
        refine lv_iload_n hx hb dX5_many_46 rfl (lv_at hl 1 rfl) ?_
        refine h_callS (st1 := [.int (cP N 14)]) [.int (nI N)] [] ⟨hx, hb, hml, hown, hts⟩ hE hw (c_X0_countPrimitive l G A (CL ad) F N hN) (va_cwS 1 hts gX5_many_X0_countPrimitive rfl rfl rfl (by decide +kernel) ⟨Nat.le_of_ble_eq_true rfl, Nat.le_of_ble_eq_true rfl⟩) rfl hl.1 rfl (Nat.le_of_ble_eq_true rfl) dX5_many_47 ⟨Nat.le_of_ble_eq_true rfl, Nat.le_of_ble_eq_true rfl⟩ rfl (fun H locs hw => ?_)
        exact h_iretP hx hb hlk hr hw dX5_many_50 (by simp only [sp_many, cif_t c_4, nI_clamp (show N < 2 ^ 31 by omega)]; rw [if_neg (by decide), if_neg (by decide), if_pos trivial]) (by simp only [sp_many, cif_t c_4, nI_clamp (show N < 2 ^ 31 by omega)]; exact ⟨_, hC, hq⟩)
  · skip
    have c_4 := bI_eq.mp c_4
    refine lv_iconst (v := (-1)) hx hb dX5_many_7 (by decide) ?_
    exact h_iretP hx hb hlk hr hw dX5_many_8 (by simp only [sp_many, cif_f c_4]) (by simp only [sp_many, cif_f c_4]; exact ⟨_, hC, hq⟩)

set_option maxHeartbeats 4000000 in
set_option maxRecDepth 100000 in
theorem c_X5_listed (l : Launch) (G : GG) (A : Nat → Prop) (ad : Nat → Nat) (F : FM) (rg : Nat → Q4) (kd : Nat → Int32) (z : Nat → Nat) (pl : Nat → Nat → Int64) (cnt : Nat) (hR : CR G ad (rg, kd, z, pl, cnt) F) (hz : ∀ k, k < 6 → z k ≤ 16) (hc12 : cnt ≤ 12) (vs : Int32) (vn : Int32) (vi : Int32) : PT l yX5_listed wsX5_listed { frames := 3, cells := 0, slots := 0, locals := 83 } G A (CL ad) [.ref (ad 51), .int vs, .int vn, .int vi] F (some (.int (sp_listed (rg, kd, z, pl, cnt) vs vn vi).1)) (CR G ad (sp_listed (rg, kd, z, pl, cnt) vs vn vi).2) := by
  refine PT.ofW (cc := cX5_listed) (maxL := 5) (ret := (some .int)) (plainFor_of_name (by decide)) rfl (Nat.le_of_ble_eq_true rfl) ?_
  intro p e s m below meth c ls hx hb hr hml hown hts hlk hE hw hl
  have hl : lv_has ls 5 [(0, .ref (ad 51)), (1, .int vs), (2, .int vn), (3, .int vi)] := hl
  have hown : s.vm.findClass RX5 = some m.cls := hown
  have lk_31 := hts (.fieldLink RX5 31 "FourParts" "norms" "LFourParts$Norms;") (by decide +kernel)
  have hinX5 : ∀ w ∈ u_ws RX5 TX5 6, w ∈ wsX5_listed := by decide +kernel
  obtain ⟨q, hC, hq⟩ := hR
  refine lv_aload_n hx hb dX5_listed_0 rfl (lv_at hl 0 rfl) ?_
  refine lv_iload_n hx hb dX5_listed_1 rfl (lv_at hl 1 rfl) ?_
  rcases ix_cases 16 (by decide) vs with hvs | ⟨kvs, hkvs, rfl⟩
  · skip
    have xvs := ix_none hvs
    refine h_callV (st1 := [.null]) [.int vs] [] ⟨hx, hb, hml, hown, hts⟩ hE hw (c_X5_register_out l G A ad F _ hC vs hvs) (cwV 1 hts gX5_listed_X5_register rfl rfl rfl (by decide +kernel) ⟨Nat.le_of_ble_eq_true rfl, Nat.le_of_ble_eq_true rfl⟩) hC.fp rfl rfl rfl hl.1 rfl (Nat.le_of_ble_eq_true rfl) dX5_listed_2 ⟨Nat.le_of_ble_eq_true rfl, Nat.le_of_ble_eq_true rfl⟩ rfl (fun H locs hw => ?_)
    refine lv_astoreN (lv' := [(4, .null), (0, .ref (ad 51)), (1, .int vs), (2, .int vn), (3, .int vi)]) hx hb dX5_listed_5 hl (by decide) rfl (fun ls hl => ?_)
    refine lv_aloadN hx hb dX5_listed_7 (lv_at hl 0 rfl) ?_
    refine lv_ifnullN (tgt := 23) hx hb dX5_listed_9 (by decide) ?_
    refine lv_iconst (v := (-1)) hx hb dX5_listed_23 (by decide) ?_
    exact h_iretP hx hb hlk hr hw dX5_listed_24 (by simp only [sp_listed, xvs]) (by simp only [sp_listed, xvs]; exact ⟨_, hC, hq⟩)
  · skip
    have xvs := ix_in (n := 16) hkvs (by decide)
    refine h_callV (st1 := [.ref (ad kvs)]) [.int (nI kvs)] [] ⟨hx, hb, hml, hown, hts⟩ hE hw (c_X5_register_in l G A ad F _ hC kvs hkvs) (cwV 1 hts gX5_listed_X5_register rfl rfl rfl (by decide +kernel) ⟨Nat.le_of_ble_eq_true rfl, Nat.le_of_ble_eq_true rfl⟩) hC.fp rfl rfl rfl hl.1 rfl (Nat.le_of_ble_eq_true rfl) dX5_listed_2 ⟨Nat.le_of_ble_eq_true rfl, Nat.le_of_ble_eq_true rfl⟩ rfl (fun H locs hw => ?_)
    refine lv_astore (lv' := [(4, .ref (ad kvs)), (0, .ref (ad 51)), (1, .int (nI kvs)), (2, .int vn), (3, .int vi)]) hx hb dX5_listed_5 hl (by decide) rfl (fun ls hl => ?_)
    refine lv_aload hx hb dX5_listed_7 (lv_at hl 0 rfl) ?_
    refine lv_ifnull hx hb dX5_listed_9 ?_
    refine lv_iload_n hx hb dX5_listed_12 rfl (lv_at hl 3 rfl) ?_
    refine h_callS (st1 := [.int (bI (¬ vn < 1 ∧ ¬ 200 < vn))]) [.int vn] [] ⟨hx, hb, hml, hown, hts⟩ hE hw (c_X5_isListedNorm l G A (CL ad) F vn) (va_cwS 1 hts gX5_listed_X5_isListedNorm rfl rfl rfl (by decide +kernel) ⟨Nat.le_of_ble_eq_true rfl, Nat.le_of_ble_eq_true rfl⟩) rfl hl.1 rfl (Nat.le_of_ble_eq_true rfl) dX5_listed_13 ⟨Nat.le_of_ble_eq_true rfl, Nat.le_of_ble_eq_true rfl⟩ rfl (fun H locs hw => ?_)
    refine lv_if_eq (tgt := 23) hx hb dX5_listed_16 (by decide) (fun c_16 => ?_) (fun c_16 => ?_)
    · skip
      have c_16 := bI_eq.mp c_16
      refine lv_iconst (v := (-1)) hx hb dX5_listed_23 (by decide) ?_
      exact h_iretP hx hb hlk hr hw dX5_listed_24 (by simp only [sp_listed, xvs, cif_f c_16]) (by simp only [sp_listed, xvs, cif_f c_16]; exact ⟨_, hC, hq⟩)
    · skip
      have c_16 := bI_ne.mp c_16
      obtain ⟨N, hN, rfl⟩ := nI_of2 (M := 200) (n := 200) (by decide) (fun w => c_16.1 (lt1 w)) (Int32.not_lt.mp c_16.2)
      refine lv_iload_n hx hb dX5_listed_19 rfl (lv_at hl 4 rfl) ?_
      refine lv_if_ge (tgt := 25) hx hb dX5_listed_20 (by decide) (fun c_20 => ?_) (fun c_20 => ?_)
      · skip
        obtain ⟨ji, hji, rfl⟩ := nI_of (fun w => absurd c_20 (Int32.not_le.mpr w))
        refine lv_aload_n hx hb dX5_listed_25 rfl (lv_at hl 1 rfl) ?_
        refine h_get hx hb hE hw hts hinX5 hown (ci := 5) rfl 3 (by decide) lk_31 (fun _ h9 => h9) hC.fp rfl dX5_listed_26 ?_
        refine lv_iload_n hx hb dX5_listed_29 rfl (lv_at hl 3 rfl) ?_
        refine lv_iload_n hx hb dX5_listed_30 rfl (lv_at hl 4 rfl) ?_
        refine lv_aload hx hb dX5_listed_31 (lv_at hl 0 rfl) ?_
        rcases hres : (fA N 57)[ji]? with _ | t
        · skip
          refine h_callV (st1 := [.int 0]) [.int (nI N), .int (nI ji), .ref (ad kvs)] [] ⟨hx, hb, hml, hown, hts⟩ hE hw (c_X0_find_0 l G A ad F _ _ hC N ji kvs (by omega) hN hji (List.getElem?_eq_none_iff.mp hres)) (cwV 3 hts gX5_listed_X0_find rfl rfl rfl (by decide +kernel) ⟨Nat.le_of_ble_eq_true rfl, Nat.le_of_ble_eq_true rfl⟩) hC.nm rfl rfl rfl hl.1 rfl (Nat.le_of_ble_eq_true rfl) dX5_listed_33 ⟨Nat.le_of_ble_eq_true rfl, Nat.le_of_ble_eq_true rfl⟩ rfl (fun H locs hw => ?_)
          refine lv_if_eq (tgt := 43) hx hb dX5_listed_36 (by decide) (fun c_36 => ?_) (fun c_36 => ?_)
          · skip
            refine lv_bipush (v := (-4)) hx hb dX5_listed_43 (by decide) ?_
            exact h_iretP hx hb hlk hr hw dX5_listed_45 (by simp only [sp_listed, xvs, hres, cif_t c_16, cif_t c_20, cif_t c_36, nI_clamp (show N < 2 ^ 31 by omega), nI_clamp hji]) (by simp only [sp_listed, xvs, hres, cif_t c_16, cif_t c_20, cif_t c_36, nI_clamp (show N < 2 ^ 31 by omega), nI_clamp hji]; exact ⟨_, hC, hq⟩)
          · skip
            exact absurd rfl c_36
        · skip
          refine h_callV (st1 := [.int 1]) [.int (nI N), .int (nI ji), .ref (ad kvs)] [] ⟨hx, hb, hml, hown, hts⟩ hE hw (c_X0_find_1 l G A ad F _ _ hC N ji kvs (by omega) hN hji t hres) (cwV 3 hts gX5_listed_X0_find rfl rfl rfl (by decide +kernel) ⟨Nat.le_of_ble_eq_true rfl, Nat.le_of_ble_eq_true rfl⟩) hC.nm rfl rfl rfl hl.1 rfl (Nat.le_of_ble_eq_true rfl) dX5_listed_33 ⟨Nat.le_of_ble_eq_true rfl, Nat.le_of_ble_eq_true rfl⟩ rfl (fun H locs hw => ?_)
          refine lv_if_eq (tgt := 43) hx hb dX5_listed_36 (by decide) (fun c_36 => ?_) (fun c_36 => ?_)
          · skip
            exact absurd c_36 (by decide)
          · skip
            refine lv_iconst (v := 1) hx hb dX5_listed_39 (by decide) ?_
            refine lv_goto (tgt := 45) hx hb dX5_listed_40 (by decide) ?_
            exact h_iretP hx hb hlk hr hw dX5_listed_45 (by simp only [sp_listed, xvs, hres, cif_t c_16, cif_t c_20, cif_f c_36, nI_clamp (show N < 2 ^ 31 by omega), nI_clamp hji]) (by simp only [sp_listed, xvs, hres, cif_t c_16, cif_t c_20, cif_f c_36, nI_clamp (show N < 2 ^ 31 by omega), nI_clamp hji]; exact ⟨_, (CW.setq hC (i := kvs) (Nat.lt_of_lt_of_le hkvs (by decide)) (q4i t)), (qup hq)⟩)
      · skip
        refine lv_iconst (v := (-1)) hx hb dX5_listed_23 (by decide) ?_
        exact h_iretP hx hb hlk hr hw dX5_listed_24 (by simp only [sp_listed, xvs, cif_t c_16, cif_f c_20, nI_clamp (show N < 2 ^ 31 by omega)]) (by simp only [sp_listed, xvs, cif_t c_16, cif_f c_20, nI_clamp (show N < 2 ^ 31 by omega)]; exact ⟨_, hC, hq⟩)

set_option maxHeartbeats 4000000 in
set_option maxRecDepth 100000 in
theorem c_X5_turn (l : Launch) (G : GG) (A : Nat → Prop) (ad : Nat → Nat) (F : FM) (rg : Nat → Q4) (kd : Nat → Int32) (z : Nat → Nat) (pl : Nat → Nat → Int64) (cnt : Nat) (hR : CR G ad (rg, kd, z, pl, cnt) F) (hz : ∀ k, k < 6 → z k ≤ 16) (hc12 : cnt ≤ 12) (vs : Int32) (vi : Int32) (vj : Int32) : PT l yX5_turn wsX5_turn { frames := 1, cells := 0, slots := 0, locals := 22 } G A (CL ad) [.ref (ad 51), .int vs, .int vi, .int vj] F (some (.int (sp_turn (rg, kd, z, pl, cnt) vs vi vj).1)) (CR G ad (sp_turn (rg, kd, z, pl, cnt) vs vi vj).2) := by
  refine PT.ofW (cc := cX5_turn) (maxL := 5) (ret := (some .int)) (plainFor_of_name (by decide)) rfl (Nat.le_of_ble_eq_true rfl) ?_
  intro p e s m below meth c ls hx hb hr hml hown hts hlk hE hw hl
  have hl : lv_has ls 5 [(0, .ref (ad 51)), (1, .int vs), (2, .int vi), (3, .int vj)] := hl
  have hown : s.vm.findClass RX5 = some m.cls := hown
  obtain ⟨q, hC, hq⟩ := hR
  refine lv_aload_n hx hb dX5_turn_0 rfl (lv_at hl 0 rfl) ?_
  refine lv_iload_n hx hb dX5_turn_1 rfl (lv_at hl 1 rfl) ?_
  rcases ix_cases 16 (by decide) vs with hvs | ⟨kvs, hkvs, rfl⟩
  · skip
    have xvs := ix_none hvs
    refine h_callV (st1 := [.null]) [.int vs] [] ⟨hx, hb, hml, hown, hts⟩ hE hw (c_X5_register_out l G A ad F _ hC vs hvs) (cwV 1 hts gX5_turn_X5_register rfl rfl rfl (by decide +kernel) ⟨Nat.le_of_ble_eq_true rfl, Nat.le_of_ble_eq_true rfl⟩) hC.fp rfl rfl rfl hl.1 rfl (Nat.le_of_ble_eq_true rfl) dX5_turn_2 ⟨Nat.le_of_ble_eq_true rfl, Nat.le_of_ble_eq_true rfl⟩ rfl (fun H locs hw => ?_)
    refine lv_astoreN (lv' := [(4, .null), (0, .ref (ad 51)), (1, .int vs), (2, .int vi), (3, .int vj)]) hx hb dX5_turn_5 hl (by decide) rfl (fun ls hl => ?_)
    refine lv_aloadN hx hb dX5_turn_7 (lv_at hl 0 rfl) ?_
    refine lv_ifnullN (tgt := 26) hx hb dX5_turn_9 (by decide) ?_
    refine lv_ldc hx hb (v := (-2000000000)) hown (hts (.constant RX5 213 (-2000000000)) (by decide +kernel)) dX5_turn_26 ?_
    exact h_iretP hx hb hlk hr hw dX5_turn_28 (by simp only [sp_turn, xvs]) (by simp only [sp_turn, xvs]; exact ⟨_, hC, hq⟩)
  · skip
    have xvs := ix_in (n := 16) hkvs (by decide)
    refine h_callV (st1 := [.ref (ad kvs)]) [.int (nI kvs)] [] ⟨hx, hb, hml, hown, hts⟩ hE hw (c_X5_register_in l G A ad F _ hC kvs hkvs) (cwV 1 hts gX5_turn_X5_register rfl rfl rfl (by decide +kernel) ⟨Nat.le_of_ble_eq_true rfl, Nat.le_of_ble_eq_true rfl⟩) hC.fp rfl rfl rfl hl.1 rfl (Nat.le_of_ble_eq_true rfl) dX5_turn_2 ⟨Nat.le_of_ble_eq_true rfl, Nat.le_of_ble_eq_true rfl⟩ rfl (fun H locs hw => ?_)
    refine lv_astore (lv' := [(4, .ref (ad kvs)), (0, .ref (ad 51)), (1, .int (nI kvs)), (2, .int vi), (3, .int vj)]) hx hb dX5_turn_5 hl (by decide) rfl (fun ls hl => ?_)
    refine lv_aload hx hb dX5_turn_7 (lv_at hl 0 rfl) ?_
    refine lv_ifnull hx hb dX5_turn_9 ?_
    refine lv_iload_n hx hb dX5_turn_12 rfl (lv_at hl 3 rfl) ?_
    refine h_callS (st1 := [.int (bI (¬ vi < 0 ∧ ¬ 2 < vi))]) [.int vi] [] ⟨hx, hb, hml, hown, hts⟩ hE hw (c_X5_isRow l G A (CL ad) F vi) (va_cwS 1 hts gX5_turn_X5_isRow rfl rfl rfl (by decide +kernel) ⟨Nat.le_of_ble_eq_true rfl, Nat.le_of_ble_eq_true rfl⟩) rfl hl.1 rfl (Nat.le_of_ble_eq_true rfl) dX5_turn_13 ⟨Nat.le_of_ble_eq_true rfl, Nat.le_of_ble_eq_true rfl⟩ rfl (fun H locs hw => ?_)
    refine lv_if_eq (tgt := 26) hx hb dX5_turn_16 (by decide) (fun c_16 => ?_) (fun c_16 => ?_)
    · skip
      have c_16 := bI_eq.mp c_16
      refine lv_ldc hx hb (v := (-2000000000)) hown (hts (.constant RX5 213 (-2000000000)) (by decide +kernel)) dX5_turn_26 ?_
      exact h_iretP hx hb hlk hr hw dX5_turn_28 (by simp only [sp_turn, xvs, cif_f c_16]) (by simp only [sp_turn, xvs, cif_f c_16]; exact ⟨_, hC, hq⟩)
    · skip
      have c_16 := bI_ne.mp c_16
      refine lv_iload_n hx hb dX5_turn_19 rfl (lv_at hl 4 rfl) ?_
      refine h_callS (st1 := [.int (bI (¬ vj < 0 ∧ ¬ 2 < vj))]) [.int vj] [] ⟨hx, hb, hml, hown, hts⟩ hE hw (c_X5_isRow l G A (CL ad) F vj) (va_cwS 1 hts gX5_turn_X5_isRow rfl rfl rfl (by decide +kernel) ⟨Nat.le_of_ble_eq_true rfl, Nat.le_of_ble_eq_true rfl⟩) rfl hl.1 rfl (Nat.le_of_ble_eq_true rfl) dX5_turn_20 ⟨Nat.le_of_ble_eq_true rfl, Nat.le_of_ble_eq_true rfl⟩ rfl (fun H locs hw => ?_)
      refine lv_if_ne (tgt := 29) hx hb dX5_turn_23 (by decide) (fun c_23 => ?_) (fun c_23 => ?_)
      · skip
        have c_23 := bI_ne.mp c_23
        refine lv_aload hx hb dX5_turn_29 (lv_at hl 0 rfl) ?_
        refine h_callV (st1 := [.int (bI (qzero (rg kvs)))]) [] [] ⟨hx, hb, hml, hown, hts⟩ hE hw (c_X1_isZero l G A (CL ad) F (ad kvs) (rg kvs) (pt_eq (hC.q (i := kvs) (Nat.lt_of_lt_of_le hkvs (by decide))) (by rw [show ((q, kd, (fun k => nI (z k)), pl, nI cnt) : CS).1 kvs = rg kvs from hq kvs (Nat.lt_of_lt_of_le hkvs (by decide))]))) (cwV 0 hts gX5_turn_X1_isZero rfl rfl rfl (by decide +kernel) ⟨Nat.le_of_ble_eq_true rfl, Nat.le_of_ble_eq_true rfl⟩) (pt_eq (hC.q (i := kvs) (Nat.lt_of_lt_of_le hkvs (by decide))) (by rw [show ((q, kd, (fun k => nI (z k)), pl, nI cnt) : CS).1 kvs = rg kvs from hq kvs (Nat.lt_of_lt_of_le hkvs (by decide))])) rfl rfl rfl hl.1 rfl (Nat.le_of_ble_eq_true rfl) dX5_turn_31 ⟨Nat.le_of_ble_eq_true rfl, Nat.le_of_ble_eq_true rfl⟩ rfl (fun H locs hw => ?_)
        refine lv_if_eq (tgt := 40) hx hb dX5_turn_34 (by decide) (fun c_34 => ?_) (fun c_34 => ?_)
        · skip
          have c_34 := bI_eq.mp c_34
          refine lv_aload hx hb dX5_turn_40 (lv_at hl 0 rfl) ?_
          refine lv_iload_n hx hb dX5_turn_42 rfl (lv_at hl 3 rfl) ?_
          refine lv_iload_n hx hb dX5_turn_43 rfl (lv_at hl 4 rfl) ?_
          refine h_callV (st1 := [.long (qtn (rg kvs) (3 * vi + vj))]) [.int vi, .int vj] [] ⟨hx, hb, hml, hown, hts⟩ hE hw (c_X1_turnAt l G A (CL ad) F (ad kvs) (rg kvs) (pt_eq (hC.q (i := kvs) (Nat.lt_of_lt_of_le hkvs (by decide))) (by rw [show ((q, kd, (fun k => nI (z k)), pl, nI cnt) : CS).1 kvs = rg kvs from hq kvs (Nat.lt_of_lt_of_le hkvs (by decide))])) vi vj) (cwV 2 hts gX5_turn_X1_turnAt rfl rfl rfl (by decide +kernel) ⟨Nat.le_of_ble_eq_true rfl, Nat.le_of_ble_eq_true rfl⟩) (pt_eq (hC.q (i := kvs) (Nat.lt_of_lt_of_le hkvs (by decide))) (by rw [show ((q, kd, (fun k => nI (z k)), pl, nI cnt) : CS).1 kvs = rg kvs from hq kvs (Nat.lt_of_lt_of_le hkvs (by decide))])) rfl rfl rfl hl.1 rfl (Nat.le_of_ble_eq_true rfl) dX5_turn_44 ⟨Nat.le_of_ble_eq_true rfl, Nat.le_of_ble_eq_true rfl⟩ rfl (fun H locs hw => ?_)
          refine lv_l2i hx hb dX5_turn_47 rfl ?_
          exact h_iretP hx hb hlk hr hw dX5_turn_48 (by simp only [sp_turn, xvs, cif_t c_16, cif_t c_23, cif_f c_34]) (by simp only [sp_turn, xvs, cif_t c_16, cif_t c_23, cif_f c_34]; exact ⟨_, hC, hq⟩)
        · skip
          have c_34 := bI_ne.mp c_34
          refine lv_ldc hx hb (v := (-2000000001)) hown (hts (.constant RX5 214 (-2000000001)) (by decide +kernel)) dX5_turn_37 ?_
          exact h_iretP hx hb hlk hr hw dX5_turn_39 (by simp only [sp_turn, xvs, cif_t c_16, cif_t c_23, cif_t c_34]) (by simp only [sp_turn, xvs, cif_t c_16, cif_t c_23, cif_t c_34]; exact ⟨_, hC, hq⟩)
      · skip
        have c_23 := bI_eq.mp c_23
        refine lv_ldc hx hb (v := (-2000000000)) hown (hts (.constant RX5 213 (-2000000000)) (by decide +kernel)) dX5_turn_26 ?_
        exact h_iretP hx hb hlk hr hw dX5_turn_28 (by simp only [sp_turn, xvs, cif_t c_16, cif_f c_23]) (by simp only [sp_turn, xvs, cif_t c_16, cif_f c_23]; exact ⟨_, hC, hq⟩)

set_option maxHeartbeats 4000000 in
set_option maxRecDepth 100000 in
theorem c_X5_turned (l : Launch) (G : GG) (A : Nat → Prop) (ad : Nat → Nat) (F : FM) (rg : Nat → Q4) (kd : Nat → Int32) (z : Nat → Nat) (pl : Nat → Nat → Int64) (cnt : Nat) (hR : CR G ad (rg, kd, z, pl, cnt) F) (hz : ∀ k, k < 6 → z k ≤ 16) (hc12 : cnt ≤ 12) (vs : Int32) (vx : Int32) (vy : Int32) (vw : Int32) (vi : Int32) : PT l yX5_turned wsX5_turned { frames := 1, cells := 0, slots := 0, locals := 22 } G A (CL ad) [.ref (ad 51), .int vs, .int vx, .int vy, .int vw, .int vi] F (some (.long (sp_turned (rg, kd, z, pl, cnt) vs vx vy vw vi).1)) (CR G ad (sp_turned (rg, kd, z, pl, cnt) vs vx vy vw vi).2) := by
  refine PT.ofW (cc := cX5_turned) (maxL := 7) (ret := (some .long)) (plainFor_of_name (by decide)) rfl (Nat.le_of_ble_eq_true rfl) ?_
  intro p e s m below meth c ls hx hb hr hml hown hts hlk hE hw hl
  have hl : lv_has ls 7 [(0, .ref (ad 51)), (1, .int vs), (2, .int vx), (3, .int vy), (4, .int vw), (5, .int vi)] := hl
  have hown : s.vm.findClass RX5 = some m.cls := hown
  have cl_222 := hts (.constantLong RX5 222 (-1)) (by decide +kernel)
  obtain ⟨q, hC, hq⟩ := hR
  refine lv_aload_n hx hb dX5_turned_0 rfl (lv_at hl 0 rfl) ?_
  refine lv_iload_n hx hb dX5_turned_1 rfl (lv_at hl 1 rfl) ?_
  rcases ix_cases 16 (by decide) vs with hvs | ⟨kvs, hkvs, rfl⟩
  · skip
    have xvs := ix_none hvs
    refine h_callV (st1 := [.null]) [.int vs] [] ⟨hx, hb, hml, hown, hts⟩ hE hw (c_X5_register_out l G A ad F _ hC vs hvs) (cwV 1 hts gX5_turned_X5_register rfl rfl rfl (by decide +kernel) ⟨Nat.le_of_ble_eq_true rfl, Nat.le_of_ble_eq_true rfl⟩) hC.fp rfl rfl rfl hl.1 rfl (Nat.le_of_ble_eq_true rfl) dX5_turned_2 ⟨Nat.le_of_ble_eq_true rfl, Nat.le_of_ble_eq_true rfl⟩ rfl (fun H locs hw => ?_)
    refine lv_astoreN (lv' := [(6, .null), (0, .ref (ad 51)), (1, .int vs), (2, .int vx), (3, .int vy), (4, .int vw), (5, .int vi)]) hx hb dX5_turned_5 hl (by decide) rfl (fun ls hl => ?_)
    refine lv_aloadN hx hb dX5_turned_7 (lv_at hl 0 rfl) ?_
    refine lv_ifnullN (tgt := 42) hx hb dX5_turned_9 (by decide) ?_
    refine lv_ldc2 hx hb (v := (-1)) hown cl_222 dX5_turned_42 ?_
    exact h_lretP hx hb hlk hr hw dX5_turned_45 (by simp only [sp_turned, xvs]) (by simp only [sp_turned, xvs]; exact ⟨_, hC, hq⟩)
  · skip
    have xvs := ix_in (n := 16) hkvs (by decide)
    refine h_callV (st1 := [.ref (ad kvs)]) [.int (nI kvs)] [] ⟨hx, hb, hml, hown, hts⟩ hE hw (c_X5_register_in l G A ad F _ hC kvs hkvs) (cwV 1 hts gX5_turned_X5_register rfl rfl rfl (by decide +kernel) ⟨Nat.le_of_ble_eq_true rfl, Nat.le_of_ble_eq_true rfl⟩) hC.fp rfl rfl rfl hl.1 rfl (Nat.le_of_ble_eq_true rfl) dX5_turned_2 ⟨Nat.le_of_ble_eq_true rfl, Nat.le_of_ble_eq_true rfl⟩ rfl (fun H locs hw => ?_)
    refine lv_astore (lv' := [(6, .ref (ad kvs)), (0, .ref (ad 51)), (1, .int (nI kvs)), (2, .int vx), (3, .int vy), (4, .int vw), (5, .int vi)]) hx hb dX5_turned_5 hl (by decide) rfl (fun ls hl => ?_)
    refine lv_aload hx hb dX5_turned_7 (lv_at hl 0 rfl) ?_
    refine lv_ifnull hx hb dX5_turned_9 ?_
    refine lv_iload_n hx hb dX5_turned_12 rfl (lv_at hl 3 rfl) ?_
    refine h_callS (st1 := [.int (bI (¬ vx < -100 ∧ ¬ 100 < vx))]) [.int vx] [] ⟨hx, hb, hml, hown, hts⟩ hE hw (c_X5_isPoint l G A (CL ad) F vx) (va_cwS 1 hts gX5_turned_X5_isPoint rfl rfl rfl (by decide +kernel) ⟨Nat.le_of_ble_eq_true rfl, Nat.le_of_ble_eq_true rfl⟩) rfl hl.1 rfl (Nat.le_of_ble_eq_true rfl) dX5_turned_13 ⟨Nat.le_of_ble_eq_true rfl, Nat.le_of_ble_eq_true rfl⟩ rfl (fun H locs hw => ?_)
    refine lv_if_eq (tgt := 42) hx hb dX5_turned_16 (by decide) (fun c_16 => ?_) (fun c_16 => ?_)
    · skip
      have c_16 := bI_eq.mp c_16
      refine lv_ldc2 hx hb (v := (-1)) hown cl_222 dX5_turned_42 ?_
      exact h_lretP hx hb hlk hr hw dX5_turned_45 (by simp only [sp_turned, xvs, cif_f c_16]) (by simp only [sp_turned, xvs, cif_f c_16]; exact ⟨_, hC, hq⟩)
    · skip
      have c_16 := bI_ne.mp c_16
      refine lv_iload_n hx hb dX5_turned_19 rfl (lv_at hl 4 rfl) ?_
      refine h_callS (st1 := [.int (bI (¬ vy < -100 ∧ ¬ 100 < vy))]) [.int vy] [] ⟨hx, hb, hml, hown, hts⟩ hE hw (c_X5_isPoint l G A (CL ad) F vy) (va_cwS 1 hts gX5_turned_X5_isPoint rfl rfl rfl (by decide +kernel) ⟨Nat.le_of_ble_eq_true rfl, Nat.le_of_ble_eq_true rfl⟩) rfl hl.1 rfl (Nat.le_of_ble_eq_true rfl) dX5_turned_20 ⟨Nat.le_of_ble_eq_true rfl, Nat.le_of_ble_eq_true rfl⟩ rfl (fun H locs hw => ?_)
      refine lv_if_eq (tgt := 42) hx hb dX5_turned_23 (by decide) (fun c_23 => ?_) (fun c_23 => ?_)
      · skip
        have c_23 := bI_eq.mp c_23
        refine lv_ldc2 hx hb (v := (-1)) hown cl_222 dX5_turned_42 ?_
        exact h_lretP hx hb hlk hr hw dX5_turned_45 (by simp only [sp_turned, xvs, cif_t c_16, cif_f c_23]) (by simp only [sp_turned, xvs, cif_t c_16, cif_f c_23]; exact ⟨_, hC, hq⟩)
      · skip
        have c_23 := bI_ne.mp c_23
        refine lv_iload hx hb dX5_turned_26 (lv_at hl 5 rfl) ?_
        refine h_callS (st1 := [.int (bI (¬ vw < -100 ∧ ¬ 100 < vw))]) [.int vw] [] ⟨hx, hb, hml, hown, hts⟩ hE hw (c_X5_isPoint l G A (CL ad) F vw) (va_cwS 1 hts gX5_turned_X5_isPoint rfl rfl rfl (by decide +kernel) ⟨Nat.le_of_ble_eq_true rfl, Nat.le_of_ble_eq_true rfl⟩) rfl hl.1 rfl (Nat.le_of_ble_eq_true rfl) dX5_turned_28 ⟨Nat.le_of_ble_eq_true rfl, Nat.le_of_ble_eq_true rfl⟩ rfl (fun H locs hw => ?_)
        refine lv_if_eq (tgt := 42) hx hb dX5_turned_31 (by decide) (fun c_31 => ?_) (fun c_31 => ?_)
        · skip
          have c_31 := bI_eq.mp c_31
          refine lv_ldc2 hx hb (v := (-1)) hown cl_222 dX5_turned_42 ?_
          exact h_lretP hx hb hlk hr hw dX5_turned_45 (by simp only [sp_turned, xvs, cif_t c_16, cif_t c_23, cif_f c_31]) (by simp only [sp_turned, xvs, cif_t c_16, cif_t c_23, cif_f c_31]; exact ⟨_, hC, hq⟩)
        · skip
          have c_31 := bI_ne.mp c_31
          refine lv_iload hx hb dX5_turned_34 (lv_at hl 6 rfl) ?_
          refine h_callS (st1 := [.int (bI (¬ vi < 0 ∧ ¬ 2 < vi))]) [.int vi] [] ⟨hx, hb, hml, hown, hts⟩ hE hw (c_X5_isRow l G A (CL ad) F vi) (va_cwS 1 hts gX5_turned_X5_isRow rfl rfl rfl (by decide +kernel) ⟨Nat.le_of_ble_eq_true rfl, Nat.le_of_ble_eq_true rfl⟩) rfl hl.1 rfl (Nat.le_of_ble_eq_true rfl) dX5_turned_36 ⟨Nat.le_of_ble_eq_true rfl, Nat.le_of_ble_eq_true rfl⟩ rfl (fun H locs hw => ?_)
          refine lv_if_ne (tgt := 46) hx hb dX5_turned_39 (by decide) (fun c_39 => ?_) (fun c_39 => ?_)
          · skip
            have c_39 := bI_ne.mp c_39
            refine lv_aload hx hb dX5_turned_46 (lv_at hl 0 rfl) ?_
            refine lv_iload hx hb dX5_turned_48 (lv_at hl 6 rfl) ?_
            refine lv_iconst (v := 0) hx hb dX5_turned_50 (by decide) ?_
            refine h_callV (st1 := [.long (qtn (rg kvs) (3 * vi + 0))]) [.int vi, .int 0] [] ⟨hx, hb, hml, hown, hts⟩ hE hw (c_X1_turnAt l G A (CL ad) F (ad kvs) (rg kvs) (pt_eq (hC.q (i := kvs) (Nat.lt_of_lt_of_le hkvs (by decide))) (by rw [show ((q, kd, (fun k => nI (z k)), pl, nI cnt) : CS).1 kvs = rg kvs from hq kvs (Nat.lt_of_lt_of_le hkvs (by decide))])) vi 0) (cwV 2 hts gX5_turned_X1_turnAt rfl rfl rfl (by decide +kernel) ⟨Nat.le_of_ble_eq_true rfl, Nat.le_of_ble_eq_true rfl⟩) (pt_eq (hC.q (i := kvs) (Nat.lt_of_lt_of_le hkvs (by decide))) (by rw [show ((q, kd, (fun k => nI (z k)), pl, nI cnt) : CS).1 kvs = rg kvs from hq kvs (Nat.lt_of_lt_of_le hkvs (by decide))])) rfl rfl rfl hl.1 rfl (Nat.le_of_ble_eq_true rfl) dX5_turned_51 ⟨Nat.le_of_ble_eq_true rfl, Nat.le_of_ble_eq_true rfl⟩ rfl (fun H locs hw => ?_)
            refine lv_iload_n hx hb dX5_turned_54 rfl (lv_at hl 3 rfl) ?_
            refine lv_i2l hx hb dX5_turned_55 rfl ?_
            refine lv_lmul hx hb dX5_turned_56 ?_
            refine lv_aload hx hb dX5_turned_57 (lv_at hl 0 rfl) ?_
            refine lv_iload hx hb dX5_turned_59 (lv_at hl 6 rfl) ?_
            refine lv_iconst (v := 1) hx hb dX5_turned_61 (by decide) ?_
            refine h_callV (st1 := [.long (qtn (rg kvs) (3 * vi + 1)), .long ((qtn (rg kvs) (3 * vi + 0)) * vx.toInt64)]) [.int vi, .int 1] [.long ((qtn (rg kvs) (3 * vi + 0)) * vx.toInt64)] ⟨hx, hb, hml, hown, hts⟩ hE hw (c_X1_turnAt l G A (CL ad) F (ad kvs) (rg kvs) (pt_eq (hC.q (i := kvs) (Nat.lt_of_lt_of_le hkvs (by decide))) (by rw [show ((q, kd, (fun k => nI (z k)), pl, nI cnt) : CS).1 kvs = rg kvs from hq kvs (Nat.lt_of_lt_of_le hkvs (by decide))])) vi 1) (cwV 2 hts gX5_turned_X1_turnAt rfl rfl rfl (by decide +kernel) ⟨Nat.le_of_ble_eq_true rfl, Nat.le_of_ble_eq_true rfl⟩) (pt_eq (hC.q (i := kvs) (Nat.lt_of_lt_of_le hkvs (by decide))) (by rw [show ((q, kd, (fun k => nI (z k)), pl, nI cnt) : CS).1 kvs = rg kvs from hq kvs (Nat.lt_of_lt_of_le hkvs (by decide))])) rfl rfl rfl hl.1 rfl (Nat.le_of_ble_eq_true rfl) dX5_turned_62 ⟨Nat.le_of_ble_eq_true rfl, Nat.le_of_ble_eq_true rfl⟩ rfl (fun H locs hw => ?_)
            refine lv_iload_n hx hb dX5_turned_65 rfl (lv_at hl 4 rfl) ?_
            refine lv_i2l hx hb dX5_turned_66 rfl ?_
            refine lv_lmul hx hb dX5_turned_67 ?_
            refine lv_ladd hx hb dX5_turned_68 ?_
            refine lv_aload hx hb dX5_turned_69 (lv_at hl 0 rfl) ?_
            refine lv_iload hx hb dX5_turned_71 (lv_at hl 6 rfl) ?_
            refine lv_iconst (v := 2) hx hb dX5_turned_73 (by decide) ?_
            refine h_callV (st1 := [.long (qtn (rg kvs) (3 * vi + 2)), .long (((qtn (rg kvs) (3 * vi + 0)) * vx.toInt64) + ((qtn (rg kvs) (3 * vi + 1)) * vy.toInt64))]) [.int vi, .int 2] [.long (((qtn (rg kvs) (3 * vi + 0)) * vx.toInt64) + ((qtn (rg kvs) (3 * vi + 1)) * vy.toInt64))] ⟨hx, hb, hml, hown, hts⟩ hE hw (c_X1_turnAt l G A (CL ad) F (ad kvs) (rg kvs) (pt_eq (hC.q (i := kvs) (Nat.lt_of_lt_of_le hkvs (by decide))) (by rw [show ((q, kd, (fun k => nI (z k)), pl, nI cnt) : CS).1 kvs = rg kvs from hq kvs (Nat.lt_of_lt_of_le hkvs (by decide))])) vi 2) (cwV 2 hts gX5_turned_X1_turnAt rfl rfl rfl (by decide +kernel) ⟨Nat.le_of_ble_eq_true rfl, Nat.le_of_ble_eq_true rfl⟩) (pt_eq (hC.q (i := kvs) (Nat.lt_of_lt_of_le hkvs (by decide))) (by rw [show ((q, kd, (fun k => nI (z k)), pl, nI cnt) : CS).1 kvs = rg kvs from hq kvs (Nat.lt_of_lt_of_le hkvs (by decide))])) rfl rfl rfl hl.1 rfl (Nat.le_of_ble_eq_true rfl) dX5_turned_74 ⟨Nat.le_of_ble_eq_true rfl, Nat.le_of_ble_eq_true rfl⟩ rfl (fun H locs hw => ?_)
            refine lv_iload hx hb dX5_turned_77 (lv_at hl 5 rfl) ?_
            refine lv_i2l hx hb dX5_turned_79 rfl ?_
            refine lv_lmul hx hb dX5_turned_80 ?_
            refine lv_ladd hx hb dX5_turned_81 ?_
            exact h_lretP hx hb hlk hr hw dX5_turned_82 (by simp only [sp_turned, xvs, cif_t c_16, cif_t c_23, cif_t c_31, cif_t c_39]) (by simp only [sp_turned, xvs, cif_t c_16, cif_t c_23, cif_t c_31, cif_t c_39]; exact ⟨_, hC, hq⟩)
          · skip
            have c_39 := bI_eq.mp c_39
            refine lv_ldc2 hx hb (v := (-1)) hown cl_222 dX5_turned_42 ?_
            exact h_lretP hx hb hlk hr hw dX5_turned_45 (by simp only [sp_turned, xvs, cif_t c_16, cif_t c_23, cif_t c_31, cif_f c_39]) (by simp only [sp_turned, xvs, cif_t c_16, cif_t c_23, cif_t c_31, cif_f c_39]; exact ⟨_, hC, hq⟩)
