/-- how large the quotient is -/
theorem qb_z {n w q W : Int} (h0 : 0 < n) (hw : -W ≤ w ∧ w ≤ W) (h1 : -n ≤ w - n * q) (h2 : w - n * q ≤ n) : -(W / n + 1) ≤ q ∧ q ≤ W / n + 1 := by
  have f2 : W < n * (W / n) + n := Int.lt_mul_ediv_self_add h0
  generalize W / n = f at *
  constructor
  · rcases (show -(f + 1) ≤ q ∨ q ≤ -(f + 2) by omega) with k | k
    · exact k
    · have := Int.mul_le_mul_of_nonneg_left k (show 0 ≤ n by omega)
      have e : n * -(f + 2) = -(n * f) - 2 * n := by grind
      omega
  · rcases (show q ≤ f + 1 ∨ f + 2 ≤ q by omega) with k | k
    · exact k
    · have := Int.mul_le_mul_of_nonneg_left k (show 0 ≤ n by omega)
      have e : n * (f + 2) = n * f + 2 * n := by grind
      omega
theorem sq_n {o : Int64} {n v : Int} (h : o.toInt = v) (h1 : -n ≤ v) (h2 : v ≤ n) (hn : n ≤ 400000000) : (o * o).toInt = v * v ∧ 0 ≤ v * v ∧ v * v ≤ 160000000000000000 := by
  have p := prod_le (A := 400000000) (B := 400000000) (show -400000000 ≤ v by omega) (show v ≤ 400000000 by omega) (show -400000000 ≤ v by omega) (show v ≤ 400000000 by omega)
  have s := sqnn v
  refine ⟨?_, s, by omega⟩
  rw [mulL, h] <;> rw [h] <;> omega
theorem sum_z {a b c d : Int64} {x y z w : Int} (ha : a.toInt = x) (hb : b.toInt = y) (hc : c.toInt = z) (hd : d.toInt = w) (x0 : 0 ≤ x ∧ x ≤ 160000000000000000) (y0 : 0 ≤ y ∧ y ≤ 160000000000000000) (z0 : 0 ≤ z ∧ z ≤ 160000000000000000) (w0 : 0 ≤ w ∧ w ≤ 160000000000000000) : (0 + a + b + c + d).toInt = x + y + z + w := by
  have e1 : (0 + a).toInt = x := by rw [addL, ha, show (0 : Int64).toInt = 0 from by decide, Int.zero_add] <;> rw [ha, show (0 : Int64).toInt = 0 from by decide] <;> omega
  have e2 : (0 + a + b).toInt = x + y := by rw [addL, e1, hb] <;> rw [e1, hb] <;> omega
  have e3 : (0 + a + b + c).toInt = x + y + z := by rw [addL, e2, hc] <;> rw [e2, hc] <;> omega
  rw [addL, e3, hd] <;> rw [e3, hd] <;> omega
/-- what a divisor must be for all that follows: its norm at most 400000000 -/
theorem quoM_z {sd : Int32} {x y : Q4} {A : Int} (ox : zok (tz x)) (oy : zok (tz y)) (hx : zb A (tz x)) (hA0 : 0 ≤ A) (hA : A ≤ 800000000) (hy : zsq (tz y) ≤ 1600000000) (hy0 : 0 < zsq (tz y)) :
    (qnorm y).toInt = zsq (tz y) / 4 ∧ tz (quoM sd x y) = zquo sd (tz x) (tz y) ∧ tz (rstM sd x y) = zrst sd (tz x) (tz y) := by
  obtain ⟨B, hB0, hB, hBB⟩ := zsq_b (tz y)
  have hB4 : B ≤ 40000 := sq_le (by omega) (by omega)
  have hBB2 := Int.mul_le_mul hB4 hB4 hB0 (by omega)
  have hAB := Int.mul_le_mul hA hB4 hB0 (by omega)
  have hAB0 := Int.mul_nonneg hA0 hB0
  have hN : (qnorm y).toInt = zsq (tz y) / 4 := qnorm_z hB (by omega)
  have h4 := zsq_4 oy
  have hr : tz (rat sd x y) = zrat sd (tz x) (tz y) ∧ zb (2 * (A * B)) (zrat sd (tz x) (tz y)) := by
    have hm := tz_mir hB (by omega)
    have := qon_z (sd := sd) (y := qmir y) hx (by rw [hm]; exact zb_mir hB) (by omega) ox (by rw [hm]; exact zmir_ok oy)
    rw [hm] at this
    exact this
  obtain ⟨hr1, hr2⟩ := hr
  obtain ⟨n, hn⟩ : ∃ n, n = zsq (tz y) / 4 := ⟨_, rfl⟩
  have hn4 : zsq (tz y) = 4 * n := by omega
  have hn0 : 0 < n := by omega
  have hnl : n ≤ 400000000 := by omega
  have hNn : (qnorm y).toInt = n := by rw [hN, hn]
  refine ⟨hN, ?_⟩
  have b0 := hr2.1
  have b1 := hr2.2.1
  have b2 := hr2.2.2.1
  have b3 := hr2.2.2.2
  have w0 : (rat sd x y).1.toInt = (zrat sd (tz x) (tz y)).1 := by rw [← hr1]; rfl
  have w1 : (rat sd x y).2.1.toInt = (zrat sd (tz x) (tz y)).2.1 := by rw [← hr1]; rfl
  have w2 : (rat sd x y).2.2.1.toInt = (zrat sd (tz x) (tz y)).2.2.1 := by rw [← hr1]; rfl
  have w3 : (rat sd x y).2.2.2.toInt = (zrat sd (tz x) (tz y)).2.2.2 := by rw [← hr1]; rfl
  obtain ⟨fa0, fb0, fc0, fd0, fe0, ff0⟩ := pw_z (p := (rat sd x y).1) hNn hn0 hnl (by omega) (by omega)
  obtain ⟨fa1, fb1, fc1, fd1, fe1, ff1⟩ := pw_z (p := (rat sd x y).2.1) hNn hn0 hnl (by omega) (by omega)
  obtain ⟨fa2, fb2, fc2, fd2, fe2, ff2⟩ := pw_z (p := (rat sd x y).2.2.1) hNn hn0 hnl (by omega) (by omega)
  obtain ⟨fa3, fb3, fc3, fd3, fe3, ff3⟩ := pw_z (p := (rat sd x y).2.2.2) hNn hn0 hnl (by omega) (by omega)
  rw [w0] at fa0 fb0 fc0 fd0 fe0 ff0
  rw [w1] at fa1 fb1 fc1 fd1 fe1 ff1
  rw [w2] at fa2 fb2 fc2 fd2 fe2 ff2
  rw [w3] at fa3 fb3 fc3 fd3 fe3 ff3
  have sw : (swM (rat sd x y) (qnorm y)).toInt = zoff (zwhole (zrat sd (tz x) (tz y)) n) (zrat sd (tz x) (tz y)) n := by
    obtain ⟨p0, l0, m0⟩ := sq_n fc0 fe0.1 fe0.2 hnl
    obtain ⟨p1, l1, m1⟩ := sq_n fc1 fe1.1 fe1.2 hnl
    obtain ⟨p2, l2, m2⟩ := sq_n fc2 fe2.1 fe2.2 hnl
    obtain ⟨p3, l3, m3⟩ := sq_n fc3 fe3.1 fe3.2 hnl
    exact sum_z p0 p1 p2 p3 ⟨l0, m0⟩ ⟨l1, m1⟩ ⟨l2, m2⟩ ⟨l3, m3⟩
  have sh : (shM (rat sd x y) (qnorm y)).toInt = zoff (zhalf (zrat sd (tz x) (tz y)) n) (zrat sd (tz x) (tz y)) n := by
    obtain ⟨p0, l0, m0⟩ := sq_n fd0 ff0.1 ff0.2 hnl
    obtain ⟨p1, l1, m1⟩ := sq_n fd1 ff1.1 ff1.2 hnl
    obtain ⟨p2, l2, m2⟩ := sq_n fd2 ff2.1 ff2.2 hnl
    obtain ⟨p3, l3, m3⟩ := sq_n fd3 ff3.1 ff3.2 hnl
    exact sum_z p0 p1 p2 p3 ⟨l0, m0⟩ ⟨l1, m1⟩ ⟨l2, m2⟩ ⟨l3, m3⟩
  have qq : tz (quoM sd x y) = zquo sd (tz x) (tz y) ∧ zb (2 * (A * B) / n + 1) (zquo sd (tz x) (tz y)) := by
    unfold quoM zquo
    rw [← hn]
    by_cases hc : shM (rat sd x y) (qnorm y) < swM (rat sd x y) (qnorm y)
    · rw [if_pos hc]
      rw [Int64.lt_iff_toInt_lt, sw, sh] at hc
      rw [if_neg (by omega)]
      refine ⟨?_, qb_z hn0 b0 ff0.1 ff0.2, qb_z hn0 b1 ff1.1 ff1.2, qb_z hn0 b2 ff2.1 ff2.2, qb_z hn0 b3 ff3.1 ff3.2⟩
      unfold tz zhalf
      dsimp only
      rw [fb0, fb1, fb2, fb3]; rfl
    · rw [if_neg hc]
      rw [Int64.lt_iff_toInt_lt, sw, sh] at hc
      rw [if_pos (by omega)]
      refine ⟨?_, qb_z hn0 b0 fe0.1 fe0.2, qb_z hn0 b1 fe1.1 fe1.2, qb_z hn0 b2 fe2.1 fe2.2, qb_z hn0 b3 fe3.1 fe3.2⟩
      unfold tz zwhole
      dsimp only
      rw [fa0, fa1, fa2, fa3]; rfl
  obtain ⟨qq1, qq2⟩ := qq
  refine ⟨qq1, ?_⟩
  have hQB : (2 * (A * B) / n + 1) * B ≤ 8 * A + B := by
    have f1 : n * (2 * (A * B) / n) ≤ 2 * (A * B) := Int.mul_ediv_self_le (by omega)
    have hf0 : 0 ≤ 2 * (A * B) / n := Int.ediv_nonneg (by omega) (by omega)
    generalize 2 * (A * B) / n = f at *
    have k1 := Int.mul_le_mul_of_nonneg_right f1 hB0
    have k2 := Int.mul_le_mul_of_nonneg_left hBB hA0
    rw [hn4] at k2
    have k3 : n * (f * B) ≤ n * (8 * A) := by
      have e1 : n * f * B = n * (f * B) := by grind
      have e2 : 2 * (A * B) * B = 2 * (A * (B * B)) := by grind
      have e3 : n * (8 * A) = 2 * (A * (4 * n)) := by grind
      omega
    have k4 := Int.le_of_mul_le_mul_left k3 hn0
    have e : (f + 1) * B = f * B + B := by grind
    omega
  have hQB0 : 0 ≤ (2 * (A * B) / n + 1) * B := Int.mul_nonneg (by have := Int.ediv_nonneg (show 0 ≤ 2 * (A * B) by omega) (show 0 ≤ n by omega); omega) hB0
  have hm := qon_z (sd := sd) (x := quoM sd x y) (y := y) (by rw [qq1]; exact qq2) hB (by omega) (by rw [qq1]; exact zquo_ok _ _ _) oy
  rw [qq1] at hm
  unfold rstM zrst
  rw [sub_z4 hx (by rw [hm.1]; exact hm.2) (by omega), hm.1]
