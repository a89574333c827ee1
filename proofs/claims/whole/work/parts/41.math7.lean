/-! Dividing by the machine is dividing over the integers, within bounds -/
theorem pw_z {p N : Int64} {n : Int} (hN : N.toInt = n) (h0 : 0 < n) (h4 : n ≤ 400000000) (h1 : -100000000000000 ≤ p.toInt) (h2 : p.toInt ≤ 100000000000000) :
    (fwM p N).toInt = 2 * ((p.toInt + n) / (2 * n)) ∧ (fhM p N).toInt = 2 * (p.toInt / (2 * n)) + 1 ∧ (owM p N).toInt = p.toInt - n * (2 * ((p.toInt + n) / (2 * n))) ∧ (ohM p N).toInt = p.toInt - n * (2 * (p.toInt / (2 * n)) + 1) ∧ (-n ≤ p.toInt - n * (2 * ((p.toInt + n) / (2 * n))) ∧ p.toInt - n * (2 * ((p.toInt + n) / (2 * n))) ≤ n) ∧ (-n ≤ p.toInt - n * (2 * (p.toInt / (2 * n)) + 1) ∧ p.toInt - n * (2 * (p.toInt / (2 * n)) + 1) ≤ n) := by
  have two : (2 : Int64).toInt = 2 := by decide
  have one : (1 : Int64).toInt = 1 := by decide
  have e2 : (2 * N).toInt = 2 * n := by rw [mulL, two, hN] <;> rw [two, hN] <;> omega
  have ea : (p + N).toInt = p.toInt + n := by rw [addL, hN] <;> rw [hN] <;> omega
  have f1 : 2 * n * (p.toInt / (2 * n)) ≤ p.toInt := Int.mul_ediv_self_le (by omega)
  have f2 : p.toInt < 2 * n * (p.toInt / (2 * n)) + 2 * n := Int.lt_mul_ediv_self_add (by omega)
  have g1 : 2 * n * ((p.toInt + n) / (2 * n)) ≤ p.toInt + n := Int.mul_ediv_self_le (by omega)
  have g2 : p.toInt + n < 2 * n * ((p.toInt + n) / (2 * n)) + 2 * n := Int.lt_mul_ediv_self_add (by omega)
  have ef : (floM p (2 * N)).toInt = p.toInt / (2 * n) := by rw [floM_z (by rw [e2]; omega), e2]
  have eg : (floM (p + N) (2 * N)).toInt = (p.toInt + n) / (2 * n) := by rw [floM_z (by rw [e2]; omega), e2, ea]
  generalize p.toInt / (2 * n) = f at *
  generalize (p.toInt + n) / (2 * n) = g at *
  have bf : -100000000000001 ≤ f ∧ f ≤ 100000000000001 := by
    rcases (show f < 0 ∨ 0 ≤ f by omega) with q | q
    · have k := Int.mul_nonneg (show 0 ≤ 2 * n - 1 by omega) (show 0 ≤ -(f + 1) by omega)
      have e : (2 * n - 1) * -(f + 1) = -(2 * n * f + 2 * n) + (f + 1) := by grind
      omega
    · have k := Int.mul_nonneg (show 0 ≤ 2 * n - 1 by omega) q
      have e : (2 * n - 1) * f = 2 * n * f - f := by grind
      omega
  have bg : -200000000000001 ≤ g ∧ g ≤ 200000000000001 := by
    rcases (show g < 0 ∨ 0 ≤ g by omega) with q | q
    · have k := Int.mul_nonneg (show 0 ≤ 2 * n - 1 by omega) (show 0 ≤ -(g + 1) by omega)
      have e : (2 * n - 1) * -(g + 1) = -(2 * n * g + 2 * n) + (g + 1) := by grind
      omega
    · have k := Int.mul_nonneg (show 0 ≤ 2 * n - 1 by omega) q
      have e : (2 * n - 1) * g = 2 * n * g - g := by grind
      omega
  have a1 : n * (2 * g) = 2 * n * g := by grind
  have a2 : n * (2 * f + 1) = 2 * n * f + n := by grind
  have hf2 : (2 * floM p (2 * N)).toInt = 2 * f := by rw [mulL, two, ef] <;> rw [two, ef] <;> omega
  have hf3 : (2 * floM p (2 * N) + 1).toInt = 2 * f + 1 := by rw [addL, hf2, one] <;> rw [hf2, one] <;> omega
  have hg2 : (2 * floM (p + N) (2 * N)).toInt = 2 * g := by rw [mulL, two, eg] <;> rw [two, eg] <;> omega
  have hg3 : (2 * N * floM (p + N) (2 * N)).toInt = 2 * n * g := by rw [mulL, e2, eg] <;> rw [e2, eg] <;> omega
  have hf4 : (N * (2 * floM p (2 * N) + 1)).toInt = n * (2 * f + 1) := by rw [mulL, hN, hf3] <;> rw [hN, hf3] <;> omega
  refine ⟨hg2, hf3, ?_, ?_, by omega, by omega⟩
  · unfold owM
    rw [subL, hg3, a1] <;> rw [hg3] <;> omega
  · unfold ohM
    rw [subL, hf4] <;> rw [hf4] <;> omega
theorem tz_mir {y : Q4} {B : Int} (h : zb B (tz y)) (hB : B < 9223372036854775808) : tz (qmir y) = zmir (tz y) := by
  obtain ⟨-, h1, h2, h3⟩ := h
  unfold tz at h1 h2 h3
  dsimp only at h1 h2 h3
  unfold tz qmir zmir
  dsimp only
  rw [negL (by omega), negL (by omega), negL (by omega)]
theorem zb_mir {y : Z4} {B : Int} (h : zb B y) : zb B (zmir y) := by
  obtain ⟨h0, h1, h2, h3⟩ := h
  refine ⟨h0, ?_, ?_, ?_⟩ <;> (unfold zmir; dsimp only; omega)
theorem zmul_b {x y : Z4} {A B : Int} (hx : zb A x) (hy : zb B y) : zb (2 * (A * B)) (zmul x y) := by
  obtain ⟨x0, x1, x2, x3⟩ := hx
  obtain ⟨y0, y1, y2, y3⟩ := hy
  have p00 := prod_le x0.1 x0.2 y0.1 y0.2
  have p01 := prod_le x0.1 x0.2 y1.1 y1.2
  have p02 := prod_le x0.1 x0.2 y2.1 y2.2
  have p03 := prod_le x0.1 x0.2 y3.1 y3.2
  have p10 := prod_le x1.1 x1.2 y0.1 y0.2
  have p11 := prod_le x1.1 x1.2 y1.1 y1.2
  have p12 := prod_le x1.1 x1.2 y2.1 y2.2
  have p13 := prod_le x1.1 x1.2 y3.1 y3.2
  have p20 := prod_le x2.1 x2.2 y0.1 y0.2
  have p21 := prod_le x2.1 x2.2 y1.1 y1.2
  have p22 := prod_le x2.1 x2.2 y2.1 y2.2
  have p23 := prod_le x2.1 x2.2 y3.1 y3.2
  have p30 := prod_le x3.1 x3.2 y0.1 y0.2
  have p31 := prod_le x3.1 x3.2 y1.1 y1.2
  have p32 := prod_le x3.1 x3.2 y2.1 y2.2
  have p33 := prod_le x3.1 x3.2 y3.1 y3.2
  unfold zmul zb zn0 zn1 zn2 zn3
  dsimp only
  refine ⟨?_, ?_, ?_, ?_⟩ <;> omega
theorem qon_z {sd : Int32} {x y : Q4} {A B : Int} (hx : zb A (tz x)) (hy : zb B (tz y)) (hAB : 4 * (A * B) < 9223372036854775808) (ox : zok (tz x)) (oy : zok (tz y)) : tz (qon sd x y) = zon sd (tz x) (tz y) ∧ zb (2 * (A * B)) (zon sd (tz x) (tz y)) := by
  unfold qon zon
  by_cases h : sd = 0
  · rw [if_pos h, if_pos h]
    exact ⟨qmul_z hx hy hAB ox oy, zmul_b hx hy⟩
  · rw [if_neg h, if_neg h]
    refine ⟨qmul_z hy hx (by rw [Int.mul_comm B A]; exact hAB) oy ox, ?_⟩
    rw [Int.mul_comm A B]
    exact zmul_b hy hx
theorem sub_z4 {x y : Q4} {A B : Int} (hx : zb A (tz x)) (hy : zb B (tz y)) (hAB : A + B < 9223372036854775808) : tz (qsub x y) = zsub (tz x) (tz y) := by
  obtain ⟨x0, x1, x2, x3⟩ := hx
  obtain ⟨y0, y1, y2, y3⟩ := hy
  unfold tz at x0 x1 x2 x3 y0 y1 y2 y3
  dsimp only at x0 x1 x2 x3 y0 y1 y2 y3
  unfold tz qsub zsub
  dsimp only
  rw [subL (by omega) (by omega), subL (by omega) (by omega), subL (by omega) (by omega), subL (by omega) (by omega)]
/-- the greatest of the four, as a bound -/
theorem zsq_b (y : Z4) : ∃ B : Int, 0 ≤ B ∧ zb B y ∧ B * B ≤ zsq y := by
  obtain ⟨a, b, c, d⟩ := y
  have s1 := sqnn a
  have s2 := sqnn b
  have s3 := sqnn c
  have s4 := sqnn d
  have key : ∀ t : Int, t * t ≤ zsq (a, b, c, d) → ∀ m : Int, (m = t ∨ m = -t) → m * m ≤ zsq (a, b, c, d) := fun t ht m hm => by
    rcases hm with rfl | rfl
    · exact ht
    · rw [Int.neg_mul_neg]; exact ht
  have ka := key a (by unfold zsq; dsimp only; omega)
  have kb := key b (by unfold zsq; dsimp only; omega)
  have kc := key c (by unfold zsq; dsimp only; omega)
  have kd := key d (by unfold zsq; dsimp only; omega)
  have mx : ∀ u v : Int, ∃ m, (m = u ∨ m = v) ∧ u ≤ m ∧ v ≤ m := fun u v => by
    rcases Int.le_total u v with q | q
    · exact ⟨v, Or.inr rfl, q, Int.le_refl v⟩
    · exact ⟨u, Or.inl rfl, Int.le_refl u, q⟩
  obtain ⟨m1, e1, l1, r1⟩ := mx a (-a)
  obtain ⟨m2, e2, l2, r2⟩ := mx b (-b)
  obtain ⟨m3, e3, l3, r3⟩ := mx c (-c)
  obtain ⟨m4, e4, l4, r4⟩ := mx d (-d)
  have q1 := ka m1 e1
  have q2 := kb m2 e2
  have q3 := kc m3 e3
  have q4 := kd m4 e4
  obtain ⟨n1, f1, k1, t1⟩ := mx m1 m2
  obtain ⟨n2, f2, k2, t2⟩ := mx m3 m4
  obtain ⟨n3, f3, k3, t3⟩ := mx n1 n2
  have w1 : n1 * n1 ≤ zsq (a, b, c, d) := by rcases f1 with rfl | rfl <;> assumption
  have w2 : n2 * n2 ≤ zsq (a, b, c, d) := by rcases f2 with rfl | rfl <;> assumption
  have w3 : n3 * n3 ≤ zsq (a, b, c, d) := by rcases f3 with rfl | rfl <;> assumption
  refine ⟨n3, by omega, ⟨?_, ?_, ?_, ?_⟩, w3⟩ <;> (dsimp only; omega)
theorem sq_le {B C : Int} (h0 : 0 ≤ C) (h : B * B ≤ C * C) : B ≤ C := by
  rcases (show B ≤ C ∨ C + 1 ≤ B by omega) with q | q
  · exact q
  · have := Int.mul_le_mul q q (by omega) (by omega)
    have e : (C + 1) * (C + 1) = C * C + 2 * C + 1 := by grind
    omega
theorem zb_mono {A B : Int} {x : Z4} (h : zb A x) (hAB : A ≤ B) : zb B x := by
  obtain ⟨h0, h1, h2, h3⟩ := h
  refine ⟨?_, ?_, ?_, ?_⟩ <;> omega
