theorem od_1 : ∀ n K : Nat, od n K = 1 → K = 1 ∨ K = 2 ∨ K % 4 = 0
  | 0, K, h => Or.inl h
  | n + 1, K, h => by
    rw [od] at h
    by_cases q : K % 2 = 0
    · rw [if_pos q] at h
      rcases od_1 n (K / 2) h with w | w | w <;> omega
    · rw [if_neg q] at h
      exact Or.inl h
theorem od_z : ∀ n : Nat, od n 0 = 0
  | 0 => rfl
  | n + 1 => by rw [od, if_pos rfl]; exact od_z n
theorem abL_na {v : Int64} (h1 : -20000 ≤ v.toInt) (h2 : v.toInt ≤ 20000) : abL v = lN v.toInt.natAbs := by
  have e : (lN v.toInt.natAbs).toInt = (v.toInt.natAbs : Int) := lN_toInt (by omega)
  unfold abL
  by_cases h : 0 < v
  · rw [if_pos h]
    rw [Int64.lt_iff_toInt_lt, show (0 : Int64).toInt = 0 from by decide] at h
    apply Int64.toInt_inj.mp
    rw [e]; omega
  · rw [if_neg h]
    rw [Int64.lt_iff_toInt_lt, show (0 : Int64).toInt = 0 from by decide] at h
    apply Int64.toInt_inj.mp
    rw [e, negL (by omega)]; omega
theorem low_z {x : Q4} : ¬ qhigh x ↔ zb 20000 (tz x) := by
  have key : ∀ v : Int64, lowP v ↔ (-20000 ≤ v.toInt ∧ v.toInt ≤ 20000) := fun v => by
    unfold lowP inL
    rw [Int64.lt_iff_toInt_lt, Int64.lt_iff_toInt_lt, show (-20000 : Int64).toInt = -20000 from by decide, show (20000 : Int64).toInt = 20000 from by decide]
    omega
  rw [← low_hi]
  unfold qlow zb tz
  rw [key, key, key, key]
/-- the greatest common divisor of the four parts -/
def gk (x : Q4) : Nat := Nat.gcd (Nat.gcd x.1.toInt.natAbs x.2.1.toInt.natAbs) (Nat.gcd x.2.2.1.toInt.natAbs x.2.2.2.toInt.natAbs)
theorem gk_dvd (x : Q4) : gk x ∣ x.1.toInt.natAbs ∧ gk x ∣ x.2.1.toInt.natAbs ∧ gk x ∣ x.2.2.1.toInt.natAbs ∧ gk x ∣ x.2.2.2.toInt.natAbs := by
  unfold gk
  refine ⟨?_, ?_, ?_, ?_⟩
  · exact Nat.dvd_trans (Nat.gcd_dvd_left _ _) (Nat.gcd_dvd_left _ _)
  · exact Nat.dvd_trans (Nat.gcd_dvd_left _ _) (Nat.gcd_dvd_right _ _)
  · exact Nat.dvd_trans (Nat.gcd_dvd_right _ _) (Nat.gcd_dvd_left _ _)
  · exact Nat.dvd_trans (Nat.gcd_dvd_right _ _) (Nat.gcd_dvd_right _ _)
theorem gk_0 {x : Q4} : gk x = 0 ↔ qzero x := by
  have key : ∀ v : Int64, v = 0 ↔ v.toInt.natAbs = 0 := fun v => by
    rw [← Int64.toInt_inj, show (0 : Int64).toInt = 0 from by decide]; omega
  unfold gk qzero
  rw [Nat.gcd_eq_zero_iff, Nat.gcd_eq_zero_iff, Nat.gcd_eq_zero_iff, ← key, ← key, ← key, ← key]
  exact ⟨fun h => ⟨h.1.1, h.1.2, h.2.1, h.2.2⟩, fun h => ⟨⟨h.1, h.2.1⟩, h.2.2.1, h.2.2.2⟩⟩
theorem qpr_M {x : Q4} (hx : ¬ qhigh x) : (prM x (gk x) ↔ qpr x) ∧ (qpr x → ¬ qzero x) := by
  obtain ⟨b0, b1, b2, b3⟩ := low_z.mp hx
  have a0 := abL_na b0.1 b0.2
  have a1 := abL_na b1.1 b1.2
  have a2 := abL_na b2.1 b2.2
  have a3 := abL_na b3.1 b3.2
  have l0 : x.1.toInt.natAbs < 2 ^ 31 := by unfold tz at b0; dsimp only at b0; omega
  have l1 : x.2.1.toInt.natAbs < 2 ^ 31 := by unfold tz at b1; dsimp only at b1; omega
  have l2 : x.2.2.1.toInt.natAbs < 2 ^ 31 := by unfold tz at b2; dsimp only at b2; omega
  have l3 : x.2.2.2.toInt.natAbs < 2 ^ 31 := by unfold tz at b3; dsimp only at b3; omega
  have hg : gcd2 (gcd2 x.1 x.2.1) (gcd2 x.2.2.1 x.2.2.2) = lN (gk x) := by
    rw [gcd2_N a0 a1 l0 l1, gcd2_N a2 a3 l2 l3]
    exact gcd2_N (abL_N _ (gcd_lt l0 l1)) (abL_N _ (gcd_lt l2 l3)) (gcd_lt l0 l1) (gcd_lt l2 l3)
  have hK31 : gk x < 2 ^ 31 := gcd_lt (gcd_lt l0 l1) (gcd_lt l2 l3)
  have hz := gk_0 (x := x)
  obtain ⟨d0, d1, d2, d3⟩ := gk_dvd x
  have e2 : lN (gk x) = 2 ↔ gk x = 2 := pk_lEQ (b := 2) (by omega) (by decide)
  have e1 : lN (gk x) = 1 ↔ gk x = 1 := lN_o hK31
  have hhalf : gk x % 2 = 0 → (x.1 / 2).toInt = x.1.toInt / 2 ∧ (x.2.1 / 2).toInt = x.2.1.toInt / 2 ∧ (x.2.2.1 / 2).toInt = x.2.2.1.toInt / 2 ∧ (x.2.2.2 / 2).toInt = x.2.2.2.toInt / 2 := fun h => by
    have ev : ∀ v : Int, gk x ∣ v.natAbs → v % 2 = 0 := fun v hv => by
      obtain ⟨k, hk⟩ := hv
      obtain ⟨t, ht⟩ : ∃ t, gk x = 2 * t := ⟨gk x / 2, by omega⟩
      rw [ht, Nat.mul_assoc] at hk
      omega
    exact ⟨half_e (ev _ d0), half_e (ev _ d1), half_e (ev _ d2), half_e (ev _ d3)⟩
  by_cases h2 : gk x = 2
  · have hnz : ¬ qzero x := fun w => by have := hz.mpr w; omega
    refine ⟨?_, fun _ => hnz⟩
    unfold qpr
    rw [hg, if_pos (e2.mpr h2), and2_0]
    obtain ⟨g0, g1, g2, g3⟩ := hhalf (by omega)
    unfold prM
    rw [oneM_z, g0, g1, g2, g3, show od 31 (gk x) = 1 from by rw [h2]; rfl]
    rw [Int64.toBitVec_and, Int64.toBitVec_and, Int64.toBitVec_and, BitVec.getLsbD_and, BitVec.getLsbD_and, BitVec.getLsbD_and, bit1, bit1, bit1, bit1]
    have nall : ¬ (x.1.toInt / 2 % 2 = 0 ∧ x.2.1.toInt / 2 % 2 = 0 ∧ x.2.2.1.toInt / 2 % 2 = 0 ∧ x.2.2.2.toInt / 2 % 2 = 0) := by
      rintro ⟨n0, n1, n2, n3⟩
      rw [h2] at d0 d1 d2 d3
      have f4 : ∀ v : Int, 2 ∣ v.natAbs → v / 2 % 2 = 0 → 4 ∣ v.natAbs := fun v hv hw => by omega
      have : 4 ∣ gk x := Nat.dvd_gcd (Nat.dvd_gcd (f4 _ d0 n0) (f4 _ d1 n1)) (Nat.dvd_gcd (f4 _ d2 n2) (f4 _ d3 n3))
      rw [h2] at this
      omega
    unfold zok
    dsimp only
    rw [h2]
    generalize x.1.toInt / 2 = p0 at *
    generalize x.2.1.toInt / 2 = p1 at *
    generalize x.2.2.1.toInt / 2 = p2 at *
    generalize x.2.2.2.toInt / 2 = p3 at *
    constructor
    · rintro ⟨-, -, h⟩
      by_cases q : p0 % 2 = 1 ∧ p1 % 2 = 1 ∧ p2 % 2 = 1 ∧ p3 % 2 = 1
      · exact absurd ⟨rfl, by omega, by omega, by omega⟩ h
      · rw [← Bool.decide_and, ← Bool.decide_and, ← Bool.decide_and]
        exact decide_eq_false (fun w => q ⟨w.1.1.1, w.1.1.2, w.1.2, w.2⟩)
    · intro h
      refine ⟨hnz, rfl, fun w => ?_⟩
      rw [← Bool.decide_and, ← Bool.decide_and, ← Bool.decide_and] at h
      have h := of_decide_eq_false h
      obtain ⟨-, w1, w2, w3⟩ := w
      rcases (show p0 % 2 = 0 ∨ p0 % 2 = 1 by omega) with q | q
      · exact nall ⟨q, by omega, by omega, by omega⟩
      · exact h ⟨⟨⟨q, by omega⟩, by omega⟩, by omega⟩
  · unfold qpr
    rw [hg, if_neg (fun w => h2 (e2.mp w)), e1]
    refine ⟨?_, fun w v => by have := hz.mpr v; omega⟩
    unfold prM
    constructor
    · rintro ⟨n0, n1, n2⟩
      rcases od_1 31 _ n1 with w | w | w
      · exact w
      · exact absurd w h2
      · exfalso
        apply n2
        refine ⟨by omega, ?_⟩
        obtain ⟨g0, g1, g2, g3⟩ := hhalf (by omega)
        rw [oneM_z, g0, g1, g2, g3]
        have ev : ∀ v : Int, gk x ∣ v.natAbs → v / 2 % 2 = 0 := fun v hv => by
          obtain ⟨k, hk⟩ := hv
          obtain ⟨t, ht⟩ : ∃ t, gk x = 4 * t := ⟨gk x / 4, by omega⟩
          rw [ht, Nat.mul_assoc] at hk
          omega
        have v0 := ev _ d0
        have v1 := ev _ d1
        have v2 := ev _ d2
        have v3 := ev _ d3
        refine ⟨?_, ?_, ?_⟩ <;> dsimp only <;> omega
    · intro h
      refine ⟨fun w => by have := hz.mpr w; omega, by rw [h]; rfl, fun w => by omega⟩
