/-! From the machine's longs to the integers -/
def tz (x : Q4) : Z4 := (x.1.toInt, x.2.1.toInt, x.2.2.1.toInt, x.2.2.2.toInt)
theorem bm {z : Int} (h1 : -9223372036854775808 ≤ z) (h2 : z < 9223372036854775808) : z.bmod (2 ^ 64) = z := Int.bmod_eq_of_le (by omega) (by omega)
theorem mulL {x y : Int64} (h1 : -9223372036854775808 ≤ x.toInt * y.toInt) (h2 : x.toInt * y.toInt < 9223372036854775808) : (x * y).toInt = x.toInt * y.toInt := by rw [Int64.toInt_mul]; exact bm h1 h2
theorem addL {x y : Int64} (h1 : -9223372036854775808 ≤ x.toInt + y.toInt) (h2 : x.toInt + y.toInt < 9223372036854775808) : (x + y).toInt = x.toInt + y.toInt := by rw [Int64.toInt_add]; exact bm h1 h2
theorem subL {x y : Int64} (h1 : -9223372036854775808 ≤ x.toInt - y.toInt) (h2 : x.toInt - y.toInt < 9223372036854775808) : (x - y).toInt = x.toInt - y.toInt := by rw [Int64.toInt_sub]; exact bm h1 h2
theorem negL {x : Int64} (h1 : -9223372036854775808 < x.toInt) : (-x).toInt = -x.toInt := by
  rw [Int64.toInt_neg]; exact bm (by have := Int64.toInt_lt x; omega) (by omega)
theorem prod_le {a b A B : Int} (h1 : -A ≤ a) (h2 : a ≤ A) (h3 : -B ≤ b) (h4 : b ≤ B) : -(A * B) ≤ a * b ∧ a * b ≤ A * B := by
  have k1 := Int.mul_nonneg (show 0 ≤ A - a by omega) (show 0 ≤ B - b by omega)
  have k2 := Int.mul_nonneg (show 0 ≤ A + a by omega) (show 0 ≤ B + b by omega)
  have k3 := Int.mul_nonneg (show 0 ≤ A - a by omega) (show 0 ≤ B + b by omega)
  have k4 := Int.mul_nonneg (show 0 ≤ A + a by omega) (show 0 ≤ B - b by omega)
  have e1 : (A - a) * (B - b) = A * B - A * b - a * B + a * b := by grind
  have e2 : (A + a) * (B + b) = A * B + A * b + a * B + a * b := by grind
  have e3 : (A - a) * (B + b) = A * B + A * b - a * B - a * b := by grind
  have e4 : (A + a) * (B - b) = A * B - A * b + a * B - a * b := by grind
  omega
/-- all parts are within B -/
def zb (B : Int) (x : Z4) : Prop := (-B ≤ x.1 ∧ x.1 ≤ B) ∧ (-B ≤ x.2.1 ∧ x.2.1 ≤ B) ∧ (-B ≤ x.2.2.1 ∧ x.2.2.1 ≤ B) ∧ (-B ≤ x.2.2.2 ∧ x.2.2.2 ≤ B)
theorem half_e {v : Int64} (h : v.toInt % 2 = 0) : (v / 2).toInt = v.toInt / 2 := by
  rw [Int64.toInt_div_of_ne_right v 2 (by decide), show (2 : Int64).toInt = 2 from by decide]
  exact Int.tdiv_eq_ediv_of_dvd (Int.dvd_of_emod_eq_zero h)
theorem m4 {a b c d x y z w : Int64} {A B : Int} (ha : -A ≤ a.toInt ∧ a.toInt ≤ A) (hb : -A ≤ b.toInt ∧ b.toInt ≤ A) (hc : -A ≤ c.toInt ∧ c.toInt ≤ A) (hd : -A ≤ d.toInt ∧ d.toInt ≤ A) (hx : -B ≤ x.toInt ∧ x.toInt ≤ B) (hy : -B ≤ y.toInt ∧ y.toInt ≤ B) (hz : -B ≤ z.toInt ∧ z.toInt ≤ B) (hw : -B ≤ w.toInt ∧ w.toInt ≤ B) (hAB : 4 * (A * B) < 9223372036854775808) :
    (a * x - b * y - c * z - d * w).toInt = a.toInt * x.toInt - b.toInt * y.toInt - c.toInt * z.toInt - d.toInt * w.toInt ∧ (a * x + b * y + c * z - d * w).toInt = a.toInt * x.toInt + b.toInt * y.toInt + c.toInt * z.toInt - d.toInt * w.toInt ∧ (a * x - b * y + c * z + d * w).toInt = a.toInt * x.toInt - b.toInt * y.toInt + c.toInt * z.toInt + d.toInt * w.toInt ∧ (a * x + b * y - c * z + d * w).toInt = a.toInt * x.toInt + b.toInt * y.toInt - c.toInt * z.toInt + d.toInt * w.toInt := by
  have p1 := prod_le ha.1 ha.2 hx.1 hx.2
  have p2 := prod_le hb.1 hb.2 hy.1 hy.2
  have p3 := prod_le hc.1 hc.2 hz.1 hz.2
  have p4 := prod_le hd.1 hd.2 hw.1 hw.2
  have e1 : (a * x).toInt = a.toInt * x.toInt := mulL (by omega) (by omega)
  have e2 : (b * y).toInt = b.toInt * y.toInt := mulL (by omega) (by omega)
  have e3 : (c * z).toInt = c.toInt * z.toInt := mulL (by omega) (by omega)
  have e4 : (d * w).toInt = d.toInt * w.toInt := mulL (by omega) (by omega)
  refine ⟨?_, ?_, ?_, ?_⟩
  · have f1 : (a * x - b * y).toInt = a.toInt * x.toInt - b.toInt * y.toInt := by rw [subL (by rw [e1, e2]; omega) (by rw [e1, e2]; omega), e1, e2]
    have f2 : (a * x - b * y - c * z).toInt = a.toInt * x.toInt - b.toInt * y.toInt - c.toInt * z.toInt := by rw [subL (by rw [f1, e3]; omega) (by rw [f1, e3]; omega), f1, e3]
    rw [subL (by rw [f2, e4]; omega) (by rw [f2, e4]; omega), f2, e4]
  · have f1 : (a * x + b * y).toInt = a.toInt * x.toInt + b.toInt * y.toInt := by rw [addL (by rw [e1, e2]; omega) (by rw [e1, e2]; omega), e1, e2]
    have f2 : (a * x + b * y + c * z).toInt = a.toInt * x.toInt + b.toInt * y.toInt + c.toInt * z.toInt := by rw [addL (by rw [f1, e3]; omega) (by rw [f1, e3]; omega), f1, e3]
    rw [subL (by rw [f2, e4]; omega) (by rw [f2, e4]; omega), f2, e4]
  · have f1 : (a * x - b * y).toInt = a.toInt * x.toInt - b.toInt * y.toInt := by rw [subL (by rw [e1, e2]; omega) (by rw [e1, e2]; omega), e1, e2]
    have f2 : (a * x - b * y + c * z).toInt = a.toInt * x.toInt - b.toInt * y.toInt + c.toInt * z.toInt := by rw [addL (by rw [f1, e3]; omega) (by rw [f1, e3]; omega), f1, e3]
    rw [addL (by rw [f2, e4]; omega) (by rw [f2, e4]; omega), f2, e4]
  · have f1 : (a * x + b * y).toInt = a.toInt * x.toInt + b.toInt * y.toInt := by rw [addL (by rw [e1, e2]; omega) (by rw [e1, e2]; omega), e1, e2]
    have f2 : (a * x + b * y - c * z).toInt = a.toInt * x.toInt + b.toInt * y.toInt - c.toInt * z.toInt := by rw [subL (by rw [f1, e3]; omega) (by rw [f1, e3]; omega), f1, e3]
    rw [addL (by rw [f2, e4]; omega) (by rw [f2, e4]; omega), f2, e4]
theorem qmul_z {x y : Q4} {A B : Int} (hx : zb A (tz x)) (hy : zb B (tz y)) (hAB : 4 * (A * B) < 9223372036854775808) (ox : zok (tz x)) (oy : zok (tz y)) : tz (qmul x y) = zmul (tz x) (tz y) := by
  obtain ⟨x0, x1, x2, x3⟩ := hx
  obtain ⟨y0, y1, y2, y3⟩ := hy
  obtain ⟨p0, p1, p2, p3, -⟩ := zn_par ox oy
  have e0 := (m4 x0 x1 x2 x3 y0 y1 y2 y3 hAB).1
  have e1 := (m4 x0 x1 x2 x3 y1 y0 y3 y2 hAB).2.1
  have e2 := (m4 x0 x1 x2 x3 y2 y3 y0 y1 hAB).2.2.1
  have e3 := (m4 x0 x1 x2 x3 y3 y2 y1 y0 hAB).2.2.2
  unfold qmul zmul
  show (((_ : Int64) / 2).toInt, ((_ : Int64) / 2).toInt, ((_ : Int64) / 2).toInt, ((_ : Int64) / 2).toInt) = _
  rw [half_e (by rw [e0]; exact p0), half_e (by rw [e1]; exact p1), half_e (by rw [e2]; exact p2), half_e (by rw [e3]; exact p3), e0, e1, e2, e3]
  rfl
