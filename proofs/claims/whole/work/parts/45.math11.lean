/-! A way's step: the factor divides what is left; the quotient is the same by either road -/
def wdv (f l : Q4) : Q4 := ((qmul (qmir f) l).1 / qnorm f, (qmul (qmir f) l).2.1 / qnorm f, (qmul (qmir f) l).2.2.1 / qnorm f, (qmul (qmir f) l).2.2.2 / qnorm f)
theorem ex_w {n b : Int} (hn : 0 < n) : 2 * ((n * b + n) / (2 * n)) = 2 * ((b + 1) / 2) ∧ 2 * (n * b / (2 * n)) + 1 = 2 * (b / 2) + 1 := by
  have e1 : n * b + n = n * (b + 1) := by grind
  have e2 : 2 * n = n * 2 := by grind
  rw [e1, e2, Int.mul_ediv_mul_of_pos _ _ hn, Int.mul_ediv_mul_of_pos _ _ hn]
  exact ⟨rfl, rfl⟩
theorem zquo_ex {n : Int} {b : Z4} (hn : 0 < n) (hb : zok b) : (if zoff (zwhole (n * b.1, n * b.2.1, n * b.2.2.1, n * b.2.2.2) n) (n * b.1, n * b.2.1, n * b.2.2.1, n * b.2.2.2) n ≤ zoff (zhalf (n * b.1, n * b.2.1, n * b.2.2.1, n * b.2.2.2) n) (n * b.1, n * b.2.1, n * b.2.2.1, n * b.2.2.2) n then zwhole (n * b.1, n * b.2.1, n * b.2.2.1, n * b.2.2.2) n else zhalf (n * b.1, n * b.2.1, n * b.2.2.1, n * b.2.2.2) n) = b := by
  obtain ⟨b0, b1, b2, b3⟩ := b
  obtain ⟨h1, h2, h3⟩ := hb
  dsimp only at h1 h2 h3 ⊢
  have ew : zwhole (n * b0, n * b1, n * b2, n * b3) n = (2 * ((b0 + 1) / 2), 2 * ((b1 + 1) / 2), 2 * ((b2 + 1) / 2), 2 * ((b3 + 1) / 2)) := by
    unfold zwhole
    dsimp only
    rw [(ex_w hn).1, (ex_w hn).1, (ex_w hn).1, (ex_w hn).1]
  have eh : zhalf (n * b0, n * b1, n * b2, n * b3) n = (2 * (b0 / 2) + 1, 2 * (b1 / 2) + 1, 2 * (b2 / 2) + 1, 2 * (b3 / 2) + 1) := by
    unfold zhalf
    dsimp only
    rw [(ex_w hn).2, (ex_w hn).2, (ex_w hn).2, (ex_w hn).2]
  rw [ew, eh]
  rcases (show b0 % 2 = 0 ∨ b0 % 2 = 1 by omega) with q | q
  · have f : (2 * ((b0 + 1) / 2), 2 * ((b1 + 1) / 2), 2 * ((b2 + 1) / 2), 2 * ((b3 + 1) / 2)) = (b0, b1, b2, b3) := by
      simp only [Prod.mk.injEq]; omega
    rw [f]
    rw [if_pos]
    have z : zoff (b0, b1, b2, b3) (n * b0, n * b1, n * b2, n * b3) n = 0 := by
      unfold zoff
      dsimp only
      rw [Int.sub_self, Int.sub_self, Int.sub_self, Int.sub_self]; decide
    rw [z]
    unfold zoff
    have a0 := sqnn ((n * b0, n * b1, n * b2, n * b3).1 - n * (2 * (b0 / 2) + 1, 2 * (b1 / 2) + 1, 2 * (b2 / 2) + 1, 2 * (b3 / 2) + 1).1)
    have a1 := sqnn ((n * b0, n * b1, n * b2, n * b3).2.1 - n * (2 * (b0 / 2) + 1, 2 * (b1 / 2) + 1, 2 * (b2 / 2) + 1, 2 * (b3 / 2) + 1).2.1)
    have a2 := sqnn ((n * b0, n * b1, n * b2, n * b3).2.2.1 - n * (2 * (b0 / 2) + 1, 2 * (b1 / 2) + 1, 2 * (b2 / 2) + 1, 2 * (b3 / 2) + 1).2.2.1)
    have a3 := sqnn ((n * b0, n * b1, n * b2, n * b3).2.2.2 - n * (2 * (b0 / 2) + 1, 2 * (b1 / 2) + 1, 2 * (b2 / 2) + 1, 2 * (b3 / 2) + 1).2.2.2)
    exact Int.add_nonneg (Int.add_nonneg (Int.add_nonneg a0 a1) a2) a3
  · have f : (2 * (b0 / 2) + 1, 2 * (b1 / 2) + 1, 2 * (b2 / 2) + 1, 2 * (b3 / 2) + 1) = (b0, b1, b2, b3) := by
      simp only [Prod.mk.injEq]; omega
    have g : (2 * ((b0 + 1) / 2), 2 * ((b1 + 1) / 2), 2 * ((b2 + 1) / 2), 2 * ((b3 + 1) / 2)) = (b0 + 1, b1 + 1, b2 + 1, b3 + 1) := by
      simp only [Prod.mk.injEq]; omega
    rw [f, g]
    rw [if_neg]
    have z : zoff (b0, b1, b2, b3) (n * b0, n * b1, n * b2, n * b3) n = 0 := by
      unfold zoff
      dsimp only
      rw [Int.sub_self, Int.sub_self, Int.sub_self, Int.sub_self]; decide
    have w : zoff (b0 + 1, b1 + 1, b2 + 1, b3 + 1) (n * b0, n * b1, n * b2, n * b3) n = 4 * (n * n) := by
      unfold zoff
      dsimp only
      grind
    rw [z, w]
    have := Int.mul_pos hn hn
    omega
theorem dv_ex {a by_ : Int64} {n b : Int} (hn : 0 < n) (ha : a.toInt = n * b) (hb : by_.toInt = n) : (a / by_).toInt = b := by
  have hne : by_ ≠ -1 := fun w => by rw [w] at hb; rw [show (-1 : Int64).toInt = -1 from by decide] at hb; omega
  rw [Int64.toInt_div_of_ne_right _ _ hne, ha, hb]
  exact Int.mul_tdiv_cancel_left b (by omega)
theorem tz_inj {x y : Q4} (h : tz x = tz y) : x = y := by
  obtain ⟨a, b, c, d⟩ := x
  obtain ⟨a', b', c', d'⟩ := y
  unfold tz at h
  simp only [Prod.mk.injEq, Int64.toInt_inj] at h
  obtain ⟨rfl, rfl, rfl, rfl⟩ := h
  rfl
theorem zmul_nz {f b : Z4} (hf : zok f) (hb : zok b) (h : 0 < zsq (zmul f b)) : 0 < zsq f ∧ 0 < zsq b ∧ zsq b ≤ zsq (zmul f b) ∧ zsq f ≤ zsq (zmul f b) := by
  have e := zmul_sq hf hb
  have f0 := zsq_nn f
  have b0 := zsq_nn b
  have f4 := zsq_4 hf
  have b4 := zsq_4 hb
  have hf0 : 0 < zsq f := by
    rcases (show zsq f = 0 ∨ 0 < zsq f by omega) with q | q
    · rw [q, Int.zero_mul] at e; omega
    · exact q
  have hb0 : 0 < zsq b := by
    rcases (show zsq b = 0 ∨ 0 < zsq b by omega) with q | q
    · rw [q, Int.mul_zero] at e; omega
    · exact q
  refine ⟨hf0, hb0, ?_, ?_⟩
  · have := Int.mul_le_mul_of_nonneg_right (show 4 ≤ zsq f by omega) b0
    omega
  · have := Int.mul_le_mul_of_nonneg_left (show 4 ≤ zsq b by omega) f0
    omega
/-- a step of a way -/
theorem way_st {P : Int64} {l : Q4} (hP0 : 0 ≤ P.toInt) (hP : P.toInt ≤ 400000000) (ol : zok (tz l)) (hl : zsq (tz l) ≤ 1600000000) (hz : ¬ qzero l) :
    zok (tz (divi 1 (2 * P, 0, 0, 0) l)) ∧ ¬ qnorm (divi 1 (2 * P, 0, 0, 0) l) = 0 ∧ zok (tz (quo 1 l (divi 1 (2 * P, 0, 0, 0) l))) ∧ zsq (tz (quo 1 l (divi 1 (2 * P, 0, 0, 0) l))) ≤ 1600000000 ∧ ¬ qzero (quo 1 l (divi 1 (2 * P, 0, 0, 0) l)) ∧ wdv (divi 1 (2 * P, 0, 0, 0) l) l = quo 1 l (divi 1 (2 * P, 0, 0, 0) l) ∧ dvT 1 100 (2 * P, 0, 0, 0) l ∧ grl (osd 1) (dvR 1 100 (2 * P, 0, 0, 0) l) 24 = divi 1 (2 * P, 0, 0, 0) l := by
  have two : (2 : Int64).toInt = 2 := by decide
  have e2 : (2 * P).toInt = 2 * P.toInt := by rw [mulL, two] <;> rw [two] <;> omega
  have tp : tz (2 * P, 0, 0, 0) = (2 * P.toInt, 0, 0, 0) := by
    unfold tz
    dsimp only
    rw [e2]; rfl
  have op : zok (tz (2 * P, 0, 0, 0)) := by
    rw [tp]
    refine ⟨?_, ?_, ?_⟩ <;> dsimp only <;> omega
  have hp : zb 800000000 (tz (2 * P, 0, 0, 0)) := by
    rw [tp]
    refine ⟨?_, ?_, ?_, ?_⟩ <;> dsimp only <;> omega
  obtain ⟨t1, t2⟩ := dvT_100 (sd := 1) op ol hp hl
  have hd : divi 1 (2 * P, 0, 0, 0) l = grl 0 (dvl 1 100 (2 * P, 0, 0, 0) l) 24 := rfl
  obtain ⟨ro, -⟩ := dvl_ok (sd := 1) 100 _ _ op ol hp hl
  have rb := dvl_nz (sd := 1) (n := 99) op ol hp hl hz
  have rl := (dvl_ld 100 _ _ op ol hp hl (Int.lt_of_le_of_lt hl (by decide))).2
  have t3 : grl (osd 1) (dvR 1 100 (2 * P, 0, 0, 0) l) 24 = divi 1 (2 * P, 0, 0, 0) l := by rw [t2]; rfl
  rw [hd] at t3 ⊢
  generalize dvl 1 100 (2 * P, 0, 0, 0) l = r at *
  have rz := zb_mono (zb_of (show zsq (tz r) ≤ 1600000000 by omega)) (show (40000 : Int) ≤ 800000000 by decide)
  obtain ⟨fo, fs⟩ := grl_ok (sd := 0) ro rz (Nat.le_refl 24)
  obtain ⟨b, bo, hb⟩ := grl_ld ro rz rl (Nat.le_refl 24)
  generalize grl 0 r 24 = f at *
  have hl0 : 0 < zsq (tz l) := by
    have := zsq_nn (tz l)
    rw [qz_z] at hz; omega
  obtain ⟨f0, b0, bl, fl⟩ := zmul_nz fo bo (by rw [← hb]; exact hl0)
  rw [← hb] at bl fl
  have fz : ¬ qzero f := by rw [qz_z]; omega
  obtain ⟨-, -, -, -, fN⟩ := qn_pos fo (by omega) fz
  have f4 := zsq_4 fo
  have hn0 : 0 < zsq (tz f) / 4 := by omega
  have lz := zb_mono (zb_of hl) (show (40000 : Int) ≤ 800000000 by decide)
  obtain ⟨-, -, -, -, k1, -⟩ := stp (sd := 1) ol fo lz (by omega) fz
  have hr : zmul (zmir (tz f)) (tz l) = (zsq (tz f) / 4 * b.1, zsq (tz f) / 4 * b.2.1, zsq (tz f) / 4 * b.2.2.1, zsq (tz f) / 4 * b.2.2.2) := by
    rw [hb, ← zassoc (zmir_ok fo) fo bo, zmir_m fo, zmul_l]
  have kq : tz (quo 1 l f) = b := by
    rw [k1]
    unfold zquo
    have er : zrat 1 (tz l) (tz f) = zmul (zmir (tz f)) (tz l) := by unfold zrat zon; exact if_neg (by decide)
    rw [er, hr]
    exact zquo_ex hn0 bo
  have fb := zb_of (show zsq (tz f) ≤ 1600000000 by omega)
  have hm := tz_mir fb (by decide)
  have hq : tz (qmul (qmir f) l) = zmul (zmir (tz f)) (tz l) := by
    have := qmul_z (x := qmir f) (y := l) (A := 40000) (B := 40000) (by rw [hm]; exact zb_mir fb) (zb_of hl) (by decide) (by rw [hm]; exact zmir_ok fo) ol
    rw [hm] at this; exact this
  rw [hr] at hq
  refine ⟨fo, fun w => fz ((qn_0 fo (by omega)).mp w), by rw [kq]; exact bo, by rw [kq]; omega, by rw [qz_z, kq]; omega, ?_, t1, t3⟩
  apply tz_inj
  rw [kq]
  unfold tz at hq
  simp only [Prod.mk.injEq] at hq
  obtain ⟨q0, q1, q2, q3⟩ := hq
  obtain ⟨b0, b1, b2, b3⟩ := b
  unfold tz wdv
  dsimp only
  rw [dv_ex hn0 q0 fN, dv_ex hn0 q1 fN, dv_ex hn0 q2 fN, dv_ex hn0 q3 fN]
