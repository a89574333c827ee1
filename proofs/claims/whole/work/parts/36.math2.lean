/-! Numbers of four doubled parts over the integers -/
abbrev Z4 : Type := Int × Int × Int × Int
def zok (x : Z4) : Prop := x.2.1 % 2 = x.1 % 2 ∧ x.2.2.1 % 2 = x.1 % 2 ∧ x.2.2.2 % 2 = x.1 % 2
def zn0 (x y : Z4) : Int := x.1 * y.1 - x.2.1 * y.2.1 - x.2.2.1 * y.2.2.1 - x.2.2.2 * y.2.2.2
def zn1 (x y : Z4) : Int := x.1 * y.2.1 + x.2.1 * y.1 + x.2.2.1 * y.2.2.2 - x.2.2.2 * y.2.2.1
def zn2 (x y : Z4) : Int := x.1 * y.2.2.1 - x.2.1 * y.2.2.2 + x.2.2.1 * y.1 + x.2.2.2 * y.2.1
def zn3 (x y : Z4) : Int := x.1 * y.2.2.2 + x.2.1 * y.2.2.1 - x.2.2.1 * y.2.1 + x.2.2.2 * y.1
def zmul (x y : Z4) : Z4 := (zn0 x y / 2, zn1 x y / 2, zn2 x y / 2, zn3 x y / 2)
def zsq (x : Z4) : Int := x.1 * x.1 + x.2.1 * x.2.1 + x.2.2.1 * x.2.2.1 + x.2.2.2 * x.2.2.2
def zmir (x : Z4) : Z4 := (x.1, -x.2.1, -x.2.2.1, -x.2.2.2)
def zsub (x y : Z4) : Z4 := (x.1 - y.1, x.2.1 - y.2.1, x.2.2.1 - y.2.2.1, x.2.2.2 - y.2.2.2)
/-- Euler's four squares -/
theorem euler (x y : Z4) : zn0 x y * zn0 x y + zn1 x y * zn1 x y + zn2 x y * zn2 x y + zn3 x y * zn3 x y = zsq x * zsq y := by
  unfold zn0 zn1 zn2 zn3 zsq
  grind
theorem zok_of {x : Z4} (h : zok x) : ∃ e a b c d : Int, (e = 0 ∨ e = 1) ∧ x = (2 * a + e, 2 * b + e, 2 * c + e, 2 * d + e) := by
  obtain ⟨x1, x2, x3, x4⟩ := x
  obtain ⟨h1, h2, h3⟩ := h
  refine ⟨x1 % 2, x1 / 2, x2 / 2, x3 / 2, x4 / 2, by omega, ?_⟩
  simp only [Prod.mk.injEq]
  dsimp only at h1 h2 h3
  omega
/-- the four sums of a product are even, and their halves are all even or all odd -/
theorem zn_par {x y : Z4} (hx : zok x) (hy : zok y) : zn0 x y % 2 = 0 ∧ zn1 x y % 2 = 0 ∧ zn2 x y % 2 = 0 ∧ zn3 x y % 2 = 0 ∧ zok (zmul x y) := by
  obtain ⟨e, a, b, c, d, he, rfl⟩ := zok_of hx
  obtain ⟨f, A, B, C, D, hf, rfl⟩ := zok_of hy
  have k0 : zn0 (2 * a + e, 2 * b + e, 2 * c + e, 2 * d + e) (2 * A + f, 2 * B + f, 2 * C + f, 2 * D + f) = 4 * (a * A - b * B - c * C - d * D) + 2 * (f * (a - b - c - d) + e * (A - B - C - D) - e * f) := by unfold zn0; grind
  have k1 : zn1 (2 * a + e, 2 * b + e, 2 * c + e, 2 * d + e) (2 * A + f, 2 * B + f, 2 * C + f, 2 * D + f) = 4 * (a * B + b * A + c * D - d * C) + 2 * (f * (a + b + c - d) + e * (A + B - C + D) + e * f) := by unfold zn1; grind
  have k2 : zn2 (2 * a + e, 2 * b + e, 2 * c + e, 2 * d + e) (2 * A + f, 2 * B + f, 2 * C + f, 2 * D + f) = 4 * (a * C - b * D + c * A + d * B) + 2 * (f * (a - b + c + d) + e * (A + B + C - D) + e * f) := by unfold zn2; grind
  have k3 : zn3 (2 * a + e, 2 * b + e, 2 * c + e, 2 * d + e) (2 * A + f, 2 * B + f, 2 * C + f, 2 * D + f) = 4 * (a * D + b * C - c * B + d * A) + 2 * (f * (a + b - c + d) + e * (A - B + C + D) + e * f) := by unfold zn3; grind
  unfold zok zmul
  dsimp only
  rw [k0, k1, k2, k3]
  rcases he with rfl | rfl <;> rcases hf with rfl | rfl <;> refine ⟨?_, ?_, ?_, ?_, ?_, ?_, ?_⟩ <;> omega
theorem zsq_nn (x : Z4) : 0 ≤ zsq x := by
  unfold zsq
  have h1 := sqnn x.1
  have h2 := sqnn x.2.1
  have h3 := sqnn x.2.2.1
  have h4 := sqnn x.2.2.2
  omega
theorem zsq_4 {x : Z4} (h : zok x) : zsq x % 4 = 0 := by
  obtain ⟨e, a, b, c, d, he, rfl⟩ := zok_of h
  have k : zsq (2 * a + e, 2 * b + e, 2 * c + e, 2 * d + e) = 4 * (a * a + b * b + c * c + d * d + e * (a + b + c + d) + e * e) := by unfold zsq; grind
  rw [k]; omega
theorem zmul_sq {x y : Z4} (hx : zok x) (hy : zok y) : 4 * zsq (zmul x y) = zsq x * zsq y := by
  obtain ⟨h0, h1, h2, h3, -⟩ := zn_par hx hy
  rw [← euler]
  have e0 : zn0 x y = 2 * (zn0 x y / 2) := by omega
  have e1 : zn1 x y = 2 * (zn1 x y / 2) := by omega
  have e2 : zn2 x y = 2 * (zn2 x y / 2) := by omega
  have e3 : zn3 x y = 2 * (zn3 x y / 2) := by omega
  unfold zsq zmul
  dsimp only
  generalize zn0 x y / 2 = p0 at *
  generalize zn1 x y / 2 = p1 at *
  generalize zn2 x y / 2 = p2 at *
  generalize zn3 x y / 2 = p3 at *
  rw [e0, e1, e2, e3]
  grind
