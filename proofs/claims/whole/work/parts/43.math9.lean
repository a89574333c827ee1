/-! The divisor: it comes to its end, and the class and the reference come to the same one -/
theorem qz_z {x : Q4} : qzero x ↔ zsq (tz x) = 0 := by
  obtain ⟨a, b, c, d⟩ := x
  have key : ∀ v : Int64, v = 0 ↔ v.toInt = 0 := fun v => by rw [← Int64.toInt_inj, show (0 : Int64).toInt = 0 from by decide]
  unfold qzero zsq tz
  dsimp only
  rw [key a, key b, key c, key d]
  constructor
  · rintro ⟨h1, h2, h3, h4⟩
    rw [h1, h2, h3, h4]; decide
  · intro h
    have s1 := sqnn a.toInt
    have s2 := sqnn b.toInt
    have s3 := sqnn c.toInt
    have s4 := sqnn d.toInt
    have z : ∀ v : Int, v * v = 0 → v = 0 := fun v hv => by
      rcases Int.mul_eq_zero.mp hv with q | q <;> exact q
    exact ⟨z _ (by omega), z _ (by omega), z _ (by omega), z _ (by omega)⟩
theorem qn_0 {y : Q4} (oy : zok (tz y)) (hy : zsq (tz y) ≤ 1600000000) : qnorm y = 0 ↔ qzero y := by
  obtain ⟨B, hB0, hB, hBB⟩ := zsq_b (tz y)
  have hB4 : B ≤ 40000 := sq_le (by omega) (by omega)
  have hBB2 := Int.mul_le_mul hB4 hB4 hB0 (by omega)
  have hN : (qnorm y).toInt = zsq (tz y) / 4 := qnorm_z hB (by omega)
  have h4 := zsq_4 oy
  have h0 := zsq_nn (tz y)
  rw [qz_z, ← Int64.toInt_inj, hN, show (0 : Int64).toInt = 0 from by decide]
  omega
theorem qn_pos {y : Q4} (oy : zok (tz y)) (hy : zsq (tz y) ≤ 1600000000) (hz : ¬ qzero y) : 0 < qnorm y ∧ 0 < 2 * qnorm y ∧ ¬ 2 * qnorm y = 0 ∧ 0 < zsq (tz y) ∧ (qnorm y).toInt = zsq (tz y) / 4 := by
  obtain ⟨B, hB0, hB, hBB⟩ := zsq_b (tz y)
  have hB4 : B ≤ 40000 := sq_le (by omega) (by omega)
  have hBB2 := Int.mul_le_mul hB4 hB4 hB0 (by omega)
  have hN : (qnorm y).toInt = zsq (tz y) / 4 := qnorm_z hB (by omega)
  have h4 := zsq_4 oy
  have h0 := zsq_nn (tz y)
  rw [qz_z] at hz
  have two : (2 : Int64).toInt = 2 := by decide
  have zro : (0 : Int64).toInt = 0 := by decide
  have e2 : (2 * qnorm y).toInt = 2 * (zsq (tz y) / 4) := by rw [mulL, two, hN] <;> rw [two, hN] <;> omega
  refine ⟨?_, ?_, ?_, by omega, hN⟩
  · rw [Int64.lt_iff_toInt_lt, hN, zro]; omega
  · rw [Int64.lt_iff_toInt_lt, e2, zro]; omega
  · rw [← Int64.toInt_inj, e2, zro]; omega
theorem zb_of {y : Z4} (h : zsq y ≤ 1600000000) : zb 40000 y := by
  obtain ⟨B, hB0, hB, hBB⟩ := zsq_b y
  exact zb_mono hB (sq_le (by omega) (by omega))
/-- one step of the divisor: what holds of the rest -/
theorem stp {sd : Int32} {x y : Q4} (ox : zok (tz x)) (oy : zok (tz y)) (hx : zb 800000000 (tz x)) (hy : zsq (tz y) ≤ 1600000000) (hz : ¬ qzero y) : rstM sd x y = rst sd x y ∧ quoM sd x y = quo sd x y ∧ zok (tz (rst sd x y)) ∧ 2 * zsq (tz (rst sd x y)) ≤ zsq (tz y) ∧ tz (quo sd x y) = zquo sd (tz x) (tz y) ∧ tz (rst sd x y) = zrst sd (tz x) (tz y) := by
  obtain ⟨h1, h2, -, h3, -⟩ := qn_pos oy hy hz
  have e1 := rst_M (sd := sd) (x := x) h1 h2
  have e2 := quo_M (sd := sd) (x := x) h1 h2
  obtain ⟨-, k1, k2⟩ := quoM_z (sd := sd) ox oy hx (by decide) (by decide) hy h3
  rw [e2] at k1
  rw [e1] at k2
  have h4 := zsq_4 oy
  have hl := zrst_le (sd := sd) ox oy (by omega)
  refine ⟨e1, e2, ?_, ?_, k1, k2⟩
  · rw [k2]; exact zrst_ok ox oy
  · rw [k2]; omega
theorem dvT_ok {sd : Int32} : ∀ (n : Nat) (x y : Q4), zok (tz x) → zok (tz y) → zb 800000000 (tz x) → zsq (tz y) ≤ 1600000000 → zsq (tz y) < 4 * 2 ^ n → dvT sd n x y ∧ dvR sd n x y = dvl sd n x y
  | 0, x, y, ox, oy, hx, hy, hn => by
    have h4 := zsq_4 oy
    have h0 := zsq_nn (tz y)
    exact ⟨qz_z.mpr (by omega), rfl⟩
  | n + 1, x, y, ox, oy, hx, hy, hn => by
    by_cases hz : qzero y
    · refine ⟨Or.inl hz, ?_⟩
      rw [dvR, dvl, cif_t hz, if_pos ((qn_0 oy hy).mpr hz)]
    · obtain ⟨e1, -, h1, h2, -, -⟩ := stp (sd := sd) ox oy hx hy hz
      have h0 := zsq_nn (tz (rst sd x y))
      have hp : (4 : Int) * 2 ^ (n + 1) = 2 * (4 * 2 ^ n) := by rw [Int.pow_succ]; omega
      obtain ⟨k1, k2⟩ := dvT_ok (sd := sd) n y (rst sd x y) oy h1 (zb_mono (zb_of hy) (by decide)) (by omega) (by omega)
      refine ⟨Or.inr ⟨(qn_pos oy hy hz).2.2.1, by rw [e1]; exact k1⟩, ?_⟩
      rw [dvR, dvl, cif_f hz, if_neg (fun w => hz ((qn_0 oy hy).mp w)), e1]
      exact k2
theorem dvT_100 {sd : Int32} {x y : Q4} (ox : zok (tz x)) (oy : zok (tz y)) (hx : zb 800000000 (tz x)) (hy : zsq (tz y) ≤ 1600000000) : dvT sd 100 x y ∧ dvR sd 100 x y = dvl sd 100 x y :=
  dvT_ok 100 x y ox oy hx hy (Int.lt_of_le_of_lt hy (by decide))
/-- of what the divisor is: even or odd together; and not zero, within bounds, where what divides isn't zero -/
theorem dvl_ok {sd : Int32} : ∀ (n : Nat) (x y : Q4), zok (tz x) → zok (tz y) → zb 800000000 (tz x) → zsq (tz y) ≤ 1600000000 → zok (tz (dvl sd n x y)) ∧ (zsq (tz (dvl sd n x y)) ≤ zsq (tz x) ∨ zsq (tz (dvl sd n x y)) ≤ zsq (tz y))
  | 0, x, y, ox, oy, hx, hy => ⟨ox, Or.inl (Int.le_refl _)⟩
  | n + 1, x, y, ox, oy, hx, hy => by
    by_cases hz : qzero y
    · rw [dvl, if_pos ((qn_0 oy hy).mpr hz)]
      exact ⟨ox, Or.inl (Int.le_refl _)⟩
    · obtain ⟨e1, -, h1, h2, -, -⟩ := stp (sd := sd) ox oy hx hy hz
      have h0 := zsq_nn (tz (rst sd x y))
      obtain ⟨k1, k2⟩ := dvl_ok (sd := sd) n y (rst sd x y) oy h1 (zb_mono (zb_of hy) (by decide)) (by omega)
      rw [dvl, if_neg (fun w => hz ((qn_0 oy hy).mp w))]
      exact ⟨k1, Or.inr (by omega)⟩
theorem dvl_nz {sd : Int32} {n : Nat} {x y : Q4} (ox : zok (tz x)) (oy : zok (tz y)) (hx : zb 800000000 (tz x)) (hy : zsq (tz y) ≤ 1600000000) (hz : ¬ qzero y) : zsq (tz (dvl sd (n + 1) x y)) ≤ zsq (tz y) := by
  obtain ⟨e1, -, h1, h2, -, -⟩ := stp (sd := sd) ox oy hx hy hz
  have h0 := zsq_nn (tz (rst sd x y))
  obtain ⟨-, k2⟩ := dvl_ok (sd := sd) n y (rst sd x y) oy h1 (zb_mono (zb_of hy) (by decide)) (by omega)
  rw [dvl, if_neg (fun w => hz ((qn_0 oy hy).mp w))]
  omega
/-! Products over the integers: sums, products of three -/
def zadd (x y : Z4) : Z4 := (x.1 + y.1, x.2.1 + y.2.1, x.2.2.1 + y.2.2.1, x.2.2.2 + y.2.2.2)
theorem zadd_ok {x y : Z4} (hx : zok x) (hy : zok y) : zok (zadd x y) := by
  obtain ⟨h1, h2, h3⟩ := hx
  obtain ⟨k1, k2, k3⟩ := hy
  unfold zadd
  refine ⟨?_, ?_, ?_⟩ <;> dsimp only <;> omega
theorem zmul_add {r x y : Z4} (hr : zok r) (hx : zok x) (hy : zok y) : zmul r (zadd x y) = zadd (zmul r x) (zmul r y) := by
  obtain ⟨a0, a1, a2, a3, -⟩ := zn_par hr hx
  obtain ⟨b0, b1, b2, b3, -⟩ := zn_par hr hy
  have e0 : zn0 r (zadd x y) = zn0 r x + zn0 r y := by unfold zn0 zadd; grind
  have e1 : zn1 r (zadd x y) = zn1 r x + zn1 r y := by unfold zn1 zadd; grind
  have e2 : zn2 r (zadd x y) = zn2 r x + zn2 r y := by unfold zn2 zadd; grind
  have e3 : zn3 r (zadd x y) = zn3 r x + zn3 r y := by unfold zn3 zadd; grind
  unfold zmul
  rw [e0, e1, e2, e3]
  unfold zadd
  dsimp only
  simp only [Prod.mk.injEq]
  omega
theorem zmul_2 {x y : Z4} (hx : zok x) (hy : zok y) : 2 * (zmul x y).1 = zn0 x y ∧ 2 * (zmul x y).2.1 = zn1 x y ∧ 2 * (zmul x y).2.2.1 = zn2 x y ∧ 2 * (zmul x y).2.2.2 = zn3 x y := by
  obtain ⟨a0, a1, a2, a3, -⟩ := zn_par hx hy
  unfold zmul
  dsimp only
  omega
theorem assoc_n {x y z m k : Z4} (h0 : 2 * m.1 = zn0 x y) (h1 : 2 * m.2.1 = zn1 x y) (h2 : 2 * m.2.2.1 = zn2 x y) (h3 : 2 * m.2.2.2 = zn3 x y) (g0 : 2 * k.1 = zn0 y z) (g1 : 2 * k.2.1 = zn1 y z) (g2 : 2 * k.2.2.1 = zn2 y z) (g3 : 2 * k.2.2.2 = zn3 y z) : 2 * zn0 m z = 2 * zn0 x k ∧ 2 * zn1 m z = 2 * zn1 x k ∧ 2 * zn2 m z = 2 * zn2 x k ∧ 2 * zn3 m z = 2 * zn3 x k := by
  have l0 : 2 * zn0 m z = zn0 x y * z.1 - zn1 x y * z.2.1 - zn2 x y * z.2.2.1 - zn3 x y * z.2.2.2 := by
    rw [← h0, ← h1, ← h2, ← h3]; unfold zn0; clear h0 h1 h2 h3 g0 g1 g2 g3; obtain ⟨m0, m1, m2, m3⟩ := m; obtain ⟨q0, q1, q2, q3⟩ := z; dsimp only; grind
  have r0 : 2 * zn0 x k = x.1 * zn0 y z - x.2.1 * zn1 y z - x.2.2.1 * zn2 y z - x.2.2.2 * zn3 y z := by
    rw [← g0, ← g1, ← g2, ← g3]; unfold zn0; clear l0 h0 h1 h2 h3 g0 g1 g2 g3; obtain ⟨m0, m1, m2, m3⟩ := k; obtain ⟨q0, q1, q2, q3⟩ := x; dsimp only; grind
  have l1 : 2 * zn1 m z = zn0 x y * z.2.1 + zn1 x y * z.1 + zn2 x y * z.2.2.2 - zn3 x y * z.2.2.1 := by
    rw [← h0, ← h1, ← h2, ← h3]; unfold zn1; clear l0 r0 h0 h1 h2 h3 g0 g1 g2 g3; obtain ⟨m0, m1, m2, m3⟩ := m; obtain ⟨q0, q1, q2, q3⟩ := z; dsimp only; grind
  have r1 : 2 * zn1 x k = x.1 * zn1 y z + x.2.1 * zn0 y z + x.2.2.1 * zn3 y z - x.2.2.2 * zn2 y z := by
    rw [← g0, ← g1, ← g2, ← g3]; unfold zn1; clear l0 r0 l1 h0 h1 h2 h3 g0 g1 g2 g3; obtain ⟨m0, m1, m2, m3⟩ := k; obtain ⟨q0, q1, q2, q3⟩ := x; dsimp only; grind
  have l2 : 2 * zn2 m z = zn0 x y * z.2.2.1 - zn1 x y * z.2.2.2 + zn2 x y * z.1 + zn3 x y * z.2.1 := by
    rw [← h0, ← h1, ← h2, ← h3]; unfold zn2; clear l0 r0 l1 r1 h0 h1 h2 h3 g0 g1 g2 g3; obtain ⟨m0, m1, m2, m3⟩ := m; obtain ⟨q0, q1, q2, q3⟩ := z; dsimp only; grind
  have r2 : 2 * zn2 x k = x.1 * zn2 y z - x.2.1 * zn3 y z + x.2.2.1 * zn0 y z + x.2.2.2 * zn1 y z := by
    rw [← g0, ← g1, ← g2, ← g3]; unfold zn2; clear l0 r0 l1 r1 l2 h0 h1 h2 h3 g0 g1 g2 g3; obtain ⟨m0, m1, m2, m3⟩ := k; obtain ⟨q0, q1, q2, q3⟩ := x; dsimp only; grind
  have l3 : 2 * zn3 m z = zn0 x y * z.2.2.2 + zn1 x y * z.2.2.1 - zn2 x y * z.2.1 + zn3 x y * z.1 := by
    rw [← h0, ← h1, ← h2, ← h3]; unfold zn3; clear l0 r0 l1 r1 l2 r2 h0 h1 h2 h3 g0 g1 g2 g3; obtain ⟨m0, m1, m2, m3⟩ := m; obtain ⟨q0, q1, q2, q3⟩ := z; dsimp only; grind
  have r3 : 2 * zn3 x k = x.1 * zn3 y z + x.2.1 * zn2 y z - x.2.2.1 * zn1 y z + x.2.2.2 * zn0 y z := by
    rw [← g0, ← g1, ← g2, ← g3]; unfold zn3; clear l0 r0 l1 r1 l2 r2 l3 h0 h1 h2 h3 g0 g1 g2 g3; obtain ⟨m0, m1, m2, m3⟩ := k; obtain ⟨q0, q1, q2, q3⟩ := x; dsimp only; grind
  clear h0 h1 h2 h3 g0 g1 g2 g3
  rw [l0, r0, l1, r1, l2, r2, l3, r3]
  clear l0 r0 l1 r1 l2 r2 l3 r3
  obtain ⟨x0, x1, x2, x3⟩ := x
  obtain ⟨y0, y1, y2, y3⟩ := y
  obtain ⟨z0, z1, z2, z3⟩ := z
  unfold zn0 zn1 zn2 zn3
  dsimp only
  refine ⟨?_, ?_, ?_, ?_⟩ <;> grind
theorem zassoc {x y z : Z4} (hx : zok x) (hy : zok y) (hz : zok z) : zmul (zmul x y) z = zmul x (zmul y z) := by
  obtain ⟨h0, h1, h2, h3⟩ := zmul_2 hx hy
  obtain ⟨g0, g1, g2, g3⟩ := zmul_2 hy hz
  obtain ⟨k0, k1, k2, k3⟩ := assoc_n h0 h1 h2 h3 g0 g1 g2 g3
  generalize zmul x y = m at *
  generalize zmul y z = k at *
  unfold zmul
  simp only [Prod.mk.injEq]
  omega
def z1 : Z4 := (2, 0, 0, 0)
theorem z1_ok : zok z1 := ⟨rfl, rfl, rfl⟩
theorem zmul_1 (x : Z4) : zmul x z1 = x := by
  obtain ⟨a, b, c, d⟩ := x
  unfold zmul z1 zn0 zn1 zn2 zn3
  dsimp only
  simp only [Prod.mk.injEq]
  omega
theorem zmul_l (n : Int) (x : Z4) : zmul (2 * n, 0, 0, 0) x = (n * x.1, n * x.2.1, n * x.2.2.1, n * x.2.2.2) := by
  obtain ⟨a, b, c, d⟩ := x
  unfold zmul zn0 zn1 zn2 zn3
  dsimp only
  have e : ∀ t : Int, 2 * n * t = 2 * (n * t) := fun t => by grind
  rw [e, e, e, e]
  simp only [Prod.mk.injEq, Int.zero_mul]
  omega
theorem zmul_0 (x : Z4) : zmul x (0, 0, 0, 0) = (0, 0, 0, 0) := by
  unfold zmul zn0 zn1 zn2 zn3
  dsimp only
  simp only [Prod.mk.injEq, Int.mul_zero]
  omega
theorem zmir_m {f : Z4} (hf : zok f) : zmul (zmir f) f = (2 * (zsq f / 4), 0, 0, 0) := by
  have h4 := zsq_4 hf
  have e0 : zn0 (zmir f) f = zsq f := by unfold zn0 zmir zsq; grind
  have e1 : zn1 (zmir f) f = 0 := by unfold zn1 zmir; grind
  have e2 : zn2 (zmir f) f = 0 := by unfold zn2 zmir; grind
  have e3 : zn3 (zmir f) f = 0 := by unfold zn3 zmir; grind
  unfold zmul
  rw [e0, e1, e2, e3]
  simp only [Prod.mk.injEq]
  omega
theorem zmir_r {f : Z4} (hf : zok f) : zmul f (zmir f) = (2 * (zsq f / 4), 0, 0, 0) := by
  have h4 := zsq_4 hf
  have e0 : zn0 f (zmir f) = zsq f := by unfold zn0 zmir zsq; grind
  have e1 : zn1 f (zmir f) = 0 := by unfold zn1 zmir; grind
  have e2 : zn2 f (zmir f) = 0 := by unfold zn2 zmir; grind
  have e3 : zn3 f (zmir f) = 0 := by unfold zn3 zmir; grind
  unfold zmul
  rw [e0, e1, e2, e3]
  simp only [Prod.mk.injEq]
  omega
