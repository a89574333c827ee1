/-! The rest has at most half the norm of what divides -/
theorem near1 {w n : Int} (hn : 0 < n) : ∃ s : Int, 0 ≤ s ∧ s ≤ n ∧ (w - n * (2 * ((w + n) / (2 * n)))) * (w - n * (2 * ((w + n) / (2 * n)))) = s * s ∧ (w - n * (2 * (w / (2 * n)) + 1)) * (w - n * (2 * (w / (2 * n)) + 1)) = (n - s) * (n - s) := by
  have h2 : 0 < 2 * n := by omega
  have f1 : 2 * n * (w / (2 * n)) ≤ w := Int.mul_ediv_self_le (by omega)
  have f2 : w < 2 * n * (w / (2 * n)) + 2 * n := Int.lt_mul_ediv_self_add h2
  have g1 : 2 * n * ((w + n) / (2 * n)) ≤ w + n := Int.mul_ediv_self_le (by omega)
  have g2 : w + n < 2 * n * ((w + n) / (2 * n)) + 2 * n := Int.lt_mul_ediv_self_add h2
  generalize w / (2 * n) = f at *
  generalize (w + n) / (2 * n) = g at *
  have e1 : 2 * n * f = 2 * (n * f) := by grind
  have e2 : 2 * n * g = 2 * (n * g) := by grind
  have a1 : n * (2 * g) = 2 * (n * g) := by grind
  have a2 : n * (2 * f + 1) = 2 * (n * f) + n := by grind
  rw [a1, a2]
  rw [e1] at f1 f2
  rw [e2] at g1 g2
  have hg : g = f ∨ g = f + 1 := by
    rcases (show g < f ∨ f ≤ g by omega) with q | q
    · have := Int.mul_le_mul_of_nonneg_left (show g + 1 ≤ f by omega) (show 0 ≤ n by omega)
      have e : n * (g + 1) = n * g + n := by grind
      omega
    · rcases (show g < f + 2 ∨ f + 2 ≤ g by omega) with q2 | q2
      · omega
      · have := Int.mul_le_mul_of_nonneg_left q2 (show 0 ≤ n by omega)
        have e : n * (f + 2) = n * f + 2 * n := by grind
        omega
  rcases hg with rfl | rfl
  · refine ⟨w - 2 * (n * g), by omega, by omega, rfl, ?_⟩
    grind
  · have e3 : n * (f + 1) = n * f + n := by grind
    rw [e3] at g1 g2 ⊢
    refine ⟨2 * (n * f + n) - w, by omega, by omega, ?_, ?_⟩ <;> grind
/-- of the two sums of squares the lesser one is at most 2 n n -/
theorem near4 {n s0 s1 s2 s3 : Int} (h0 : 0 ≤ s0 ∧ s0 ≤ n) (h1 : 0 ≤ s1 ∧ s1 ≤ n) (h2 : 0 ≤ s2 ∧ s2 ≤ n) (h3 : 0 ≤ s3 ∧ s3 ≤ n) : (s0 * s0 + s1 * s1 + s2 * s2 + s3 * s3) + ((n - s0) * (n - s0) + (n - s1) * (n - s1) + (n - s2) * (n - s2) + (n - s3) * (n - s3)) ≤ 4 * (n * n) := by
  have k0 := Int.mul_nonneg h0.1 (show 0 ≤ n - s0 by omega)
  have k1 := Int.mul_nonneg h1.1 (show 0 ≤ n - s1 by omega)
  have k2 := Int.mul_nonneg h2.1 (show 0 ≤ n - s2 by omega)
  have k3 := Int.mul_nonneg h3.1 (show 0 ≤ n - s3 by omega)
  have e : (s0 * s0 + s1 * s1 + s2 * s2 + s3 * s3) + ((n - s0) * (n - s0) + (n - s1) * (n - s1) + (n - s2) * (n - s2) + (n - s3) * (n - s3)) = 4 * (n * n) - 2 * (s0 * (n - s0)) - 2 * (s1 * (n - s1)) - 2 * (s2 * (n - s2)) - 2 * (s3 * (n - s3)) := by grind
  omega
/-- what the rest times the mirror is: right, with m the doubled product q y -/
theorem rest_r {x q y m : Z4} (h0 : 2 * m.1 = zn0 q y) (h1 : 2 * m.2.1 = zn1 q y) (h2 : 2 * m.2.2.1 = zn2 q y) (h3 : 2 * m.2.2.2 = zn3 q y) :
    2 * zn0 (zsub x m) (zmir y) = 2 * zn0 x (zmir y) - q.1 * zsq y ∧ 2 * zn1 (zsub x m) (zmir y) = 2 * zn1 x (zmir y) - q.2.1 * zsq y ∧ 2 * zn2 (zsub x m) (zmir y) = 2 * zn2 x (zmir y) - q.2.2.1 * zsq y ∧ 2 * zn3 (zsub x m) (zmir y) = 2 * zn3 x (zmir y) - q.2.2.2 * zsq y := by
  unfold zn0 at h0
  unfold zn1 at h1
  unfold zn2 at h2
  unfold zn3 at h3
  unfold zn0 zn1 zn2 zn3 zsub zmir zsq
  dsimp only
  refine ⟨?_, ?_, ?_, ?_⟩ <;> grind
theorem rest_l {x q y m : Z4} (h0 : 2 * m.1 = zn0 y q) (h1 : 2 * m.2.1 = zn1 y q) (h2 : 2 * m.2.2.1 = zn2 y q) (h3 : 2 * m.2.2.2 = zn3 y q) :
    2 * zn0 (zmir y) (zsub x m) = 2 * zn0 (zmir y) x - q.1 * zsq y ∧ 2 * zn1 (zmir y) (zsub x m) = 2 * zn1 (zmir y) x - q.2.1 * zsq y ∧ 2 * zn2 (zmir y) (zsub x m) = 2 * zn2 (zmir y) x - q.2.2.1 * zsq y ∧ 2 * zn3 (zmir y) (zsub x m) = 2 * zn3 (zmir y) x - q.2.2.2 * zsq y := by
  unfold zn0 at h0
  unfold zn1 at h1
  unfold zn2 at h2
  unfold zn3 at h3
  unfold zn0 zn1 zn2 zn3 zsub zmir zsq
  dsimp only
  refine ⟨?_, ?_, ?_, ?_⟩ <;> grind
