theorem qnorm_z {x : Q4} {B : Int} (hx : zb B (tz x)) (hB : 4 * (B * B) < 9223372036854775808) : (qnorm x).toInt = zsq (tz x) / 4 := by
  obtain ⟨x0, x1, x2, x3⟩ := hx
  have p1 := prod_le x0.1 x0.2 x0.1 x0.2
  have p2 := prod_le x1.1 x1.2 x1.1 x1.2
  have p3 := prod_le x2.1 x2.2 x2.1 x2.2
  have p4 := prod_le x3.1 x3.2 x3.1 x3.2
  have s1 := sqnn x.1.toInt
  have s2 := sqnn x.2.1.toInt
  have s3 := sqnn x.2.2.1.toInt
  have s4 := sqnn x.2.2.2.toInt
  unfold tz at p1 p2 p3 p4
  dsimp only at p1 p2 p3 p4
  have e1 : (x.1 * x.1).toInt = x.1.toInt * x.1.toInt := mulL (by omega) (by omega)
  have e2 : (x.2.1 * x.2.1).toInt = x.2.1.toInt * x.2.1.toInt := mulL (by omega) (by omega)
  have e3 : (x.2.2.1 * x.2.2.1).toInt = x.2.2.1.toInt * x.2.2.1.toInt := mulL (by omega) (by omega)
  have e4 : (x.2.2.2 * x.2.2.2).toInt = x.2.2.2.toInt * x.2.2.2.toInt := mulL (by omega) (by omega)
  have f1 : (x.1 * x.1 + x.2.1 * x.2.1).toInt = x.1.toInt * x.1.toInt + x.2.1.toInt * x.2.1.toInt := by rw [addL (by rw [e1, e2]; omega) (by rw [e1, e2]; omega), e1, e2]
  have f2 : (x.1 * x.1 + x.2.1 * x.2.1 + x.2.2.1 * x.2.2.1).toInt = x.1.toInt * x.1.toInt + x.2.1.toInt * x.2.1.toInt + x.2.2.1.toInt * x.2.2.1.toInt := by rw [addL (by rw [f1, e3]; omega) (by rw [f1, e3]; omega), f1, e3]
  have f3 : (x.1 * x.1 + x.2.1 * x.2.1 + x.2.2.1 * x.2.2.1 + x.2.2.2 * x.2.2.2).toInt = zsq (tz x) := by rw [addL (by rw [f2, e4]; omega) (by rw [f2, e4]; omega), f2, e4]; rfl
  unfold qnorm
  rw [Int64.toInt_div_of_ne_right _ 4 (by decide), show (4 : Int64).toInt = 4 from by decide, f3]
  exact Int.tdiv_eq_ediv_of_nonneg (zsq_nn _)
theorem tdiv_b {a b : Int} (hb : 0 < b) : (0 ≤ a → 0 ≤ a.tdiv b * b ∧ a.tdiv b * b ≤ a) ∧ (a < 0 → a ≤ a.tdiv b * b ∧ a.tdiv b * b ≤ 0) := by
  have f1 : b * (a / b) ≤ a := Int.mul_ediv_self_le (by omega)
  have f2 : a < b * (a / b) + b := Int.lt_mul_ediv_self_add hb
  have hs : b.sign = 1 := Int.sign_eq_one_of_pos hb
  have ht := Int.tdiv_eq_ediv (a := a) (b := b)
  rw [hs] at ht
  generalize a / b = f at *
  by_cases h : 0 ≤ a ∨ b ∣ a
  · rw [if_pos h, Int.add_zero] at ht
    rw [ht, Int.mul_comm f b]
    refine ⟨fun h0 => ⟨?_, f1⟩, fun h0 => ⟨?_, by omega⟩⟩
    · have : 0 ≤ f := by
        rcases (show f < 0 ∨ 0 ≤ f by omega) with q | q
        · have := Int.mul_le_mul_of_nonneg_left (show f ≤ -1 by omega) (show 0 ≤ b by omega)
          omega
        · exact q
      exact Int.mul_nonneg (by omega) this
    · rcases h with h | ⟨k, hk⟩
      · omega
      · have e : f = k := by
          rcases (show f < k ∨ f = k ∨ k < f by omega) with q | q | q
          · have := Int.mul_le_mul_of_nonneg_left (show f + 1 ≤ k by omega) (show 0 ≤ b by omega)
            have e : b * (f + 1) = b * f + b := by grind
            omega
          · exact q
          · have := Int.mul_le_mul_of_nonneg_left (show k + 1 ≤ f by omega) (show 0 ≤ b by omega)
            have e : b * (k + 1) = b * k + b := by grind
            omega
        rw [e]; omega
  · rw [if_neg h] at ht
    have h0 : a < 0 := by
      rcases (show a < 0 ∨ 0 ≤ a by omega) with q | q
      · exact q
      · exact absurd (Or.inl q) h
    have e : (f + 1) * b = b * f + b := by grind
    rw [ht, e]
    refine ⟨fun w => absurd w (by omega), fun _ => ⟨by omega, ?_⟩⟩
    rcases (show f ≤ -1 ∨ 0 ≤ f by omega) with q | q
    · have := Int.mul_le_mul_of_nonneg_left q (show 0 ≤ b by omega)
      omega
    · have := Int.mul_nonneg (show 0 ≤ b by omega) q
      omega
theorem rem_0 {a b : Int64} (hb : 0 < b.toInt) : a - a / b * b = 0 ↔ b.toInt ∣ a.toInt := by
  have hne : b ≠ -1 := fun w => by rw [w] at hb; exact absurd hb (by decide)
  rw [sub_z]
  have hd := Int64.toInt_div_of_ne_right a b hne
  have h1 := Int64.toInt_lt a
  have h2 := Int64.le_toInt a
  have hk := tdiv_b (a := a.toInt) hb
  have hm : (a / b * b).toInt = a.toInt.tdiv b.toInt * b.toInt := by
    rw [mulL, hd] <;> rw [hd]
    · rcases (show a.toInt < 0 ∨ 0 ≤ a.toInt by omega) with q | q
      · have := hk.2 q; omega
      · have := hk.1 q; omega
    · rcases (show a.toInt < 0 ∨ 0 ≤ a.toInt by omega) with q | q
      · have := hk.2 q; omega
      · have := hk.1 q; omega
  rw [← Int64.toInt_inj, hm]
  constructor
  · intro h; exact ⟨a.toInt.tdiv b.toInt, by rw [Int.mul_comm]; exact h.symm⟩
  · intro h; exact Int.tdiv_mul_cancel h
/-- the reference's floored is the integers' dividing -/
theorem floM_z {a b : Int64} (hb : 0 < b.toInt) : (floM a b).toInt = a.toInt / b.toInt := by
  have hne : b ≠ -1 := fun w => by rw [w] at hb; exact absurd hb (by decide)
  have hd := Int64.toInt_div_of_ne_right a b hne
  have ht := Int.tdiv_eq_ediv (a := a.toInt) (b := b.toInt)
  rw [Int.sign_eq_one_of_pos hb] at ht
  unfold floM
  by_cases h1 : a - a / b * b = 0
  · rw [if_pos h1, hd, ht, if_pos (Or.inr ((rem_0 hb).mp h1)), Int.add_zero]
  · rw [if_neg h1]
    have h2 : ¬ b.toInt ∣ a.toInt := fun w => h1 ((rem_0 hb).mpr w)
    by_cases h3 : 0 ≤ a
    · rw [if_pos h3, hd, ht, if_pos (Or.inl (by rw [Int64.le_iff_toInt_le] at h3; simpa using h3)), Int.add_zero]
    · rw [if_neg h3]
      have h4 : a.toInt < 0 := by
        rw [Int64.le_iff_toInt_le, show (0 : Int64).toInt = 0 from by decide] at h3; omega
      rw [if_neg (fun w => w.elim (fun q => by omega) h2)] at ht
      have f1 : b.toInt * (a.toInt / b.toInt) ≤ a.toInt := Int.mul_ediv_self_le (by omega)
      have f2 : a.toInt < b.toInt * (a.toInt / b.toInt) + b.toInt := Int.lt_mul_ediv_self_add hb
      have l1 := Int64.le_toInt a
      have one : (1 : Int64).toInt = 1 := by decide
      have hf : a.toInt ≤ a.toInt / b.toInt ∧ a.toInt / b.toInt < 0 := by
        generalize a.toInt / b.toInt = f at *
        have hneg : f < 0 := by
          rcases (show f < 0 ∨ 0 ≤ f by omega) with q | q
          · exact q
          · have := Int.mul_nonneg (show 0 ≤ b.toInt by omega) q
            omega
        refine ⟨?_, hneg⟩
        have k := Int.mul_nonneg (show 0 ≤ b.toInt - 1 by omega) (show 0 ≤ -(f + 1) by omega)
        have e : (b.toInt - 1) * -(f + 1) = -(b.toInt * f + b.toInt) + (f + 1) := by grind
        omega
      rw [subL (by rw [hd, ht, one]; omega) (by rw [hd, ht, one]; omega), hd, ht, one]
      omega
