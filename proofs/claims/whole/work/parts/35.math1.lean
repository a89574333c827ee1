/-! Dividing: the class's words and the reference's are the same where the norm is positive -/
theorem neg_msb (v : Int64) : v < 0 ↔ v.toBitVec.msb = true := by
  rw [Int64.lt_iff_toInt_lt, show (0 : Int64).toInt = 0 from by decide]
  show v.toBitVec.toInt < 0 ↔ _
  rw [BitVec.toInt_neg_iff]
  rw [BitVec.msb_eq_decide, decide_eq_true_iff]
  omega
theorem xor_neg {a b : Int64} (hb : 0 < b) : (a ^^^ b) < 0 ↔ a < 0 := by
  have h1 : b.toBitVec.msb = false := by
    cases h : b.toBitVec.msb
    · rfl
    · exact absurd ((neg_msb b).mpr h) (Int64.not_lt.mpr (Int64.le_of_lt hb))
  rw [neg_msb, neg_msb, Int64.toBitVec_xor, BitVec.msb_xor, h1, Bool.xor_false]
theorem sub_z {a c : Int64} : a - c = 0 ↔ c = a := by
  constructor
  · intro h
    have : a = c := by
      have e : a = (a - c) + c := by grind
      rw [e, h]; grind
    exact this.symm
  · intro h; rw [h]; grind
theorem flo_M {a b : Int64} (hb : 0 < b) : floM a b = flo a b := by
  unfold floM flo
  by_cases h1 : a - a / b * b = 0
  · rw [if_pos h1]
    have h2 := sub_z.mp h1
    by_cases h3 : (a ^^^ b) < 0
    · rw [if_pos h3, if_pos h2]
    · rw [if_neg h3]
  · rw [if_neg h1]
    have h2 : ¬ a / b * b = a := fun w => h1 (sub_z.mpr w)
    by_cases h3 : (a ^^^ b) < 0
    · rw [if_pos h3, if_neg h2, if_neg (Int64.not_le.mpr ((xor_neg hb).mp h3))]
    · rw [if_neg h3, if_pos (Int64.not_lt.mp (fun w => h3 ((xor_neg hb).mpr w)))]
theorem nw_M {p n : Int64} (h : 0 < n) (h2 : 0 < 2 * n) : nwh p n = fwM p n := by
  unfold nwh fwM
  rw [if_pos h, flo_M h2]
theorem nh_M {p n : Int64} (h : 0 < n) (h2 : 0 < 2 * n) : nha p n = fhM p n := by
  unfold nha fhM
  rw [if_pos h, flo_M h2]
theorem off_w {x : Q4} {n : Int64} (h : 0 < n) (h2 : 0 < 2 * n) : qoff (qnw x n) x n = swM x n := by
  unfold qoff qnw swM owM
  simp only [nw_M h h2, fwM]
  grind
theorem off_h {x : Q4} {n : Int64} (h : 0 < n) (h2 : 0 < 2 * n) : qoff (qnh x n) x n = shM x n := by
  unfold qoff qnh shM ohM
  simp only [nh_M h h2, fhM]
  grind
theorem quo_M {sd : Int32} {x y : Q4} (h : 0 < qnorm y) (h2 : 0 < 2 * qnorm y) : quoM sd x y = quo sd x y := by
  unfold quoM quo
  rw [off_w h h2, off_h h h2]
  by_cases hc : shM (rat sd x y) (qnorm y) < swM (rat sd x y) (qnorm y)
  · rw [if_pos hc, if_neg (Int64.not_le.mpr hc)]
    unfold qnh
    rw [nh_M h h2, nh_M h h2, nh_M h h2, nh_M h h2]
  · rw [if_neg hc, if_pos (Int64.not_lt.mp hc)]
    unfold qnw
    rw [nw_M h h2, nw_M h h2, nw_M h h2, nw_M h h2]
theorem rst_M {sd : Int32} {x y : Q4} (h : 0 < qnorm y) (h2 : 0 < 2 * qnorm y) : rstM sd x y = rst sd x y := by
  unfold rstM rst
  rw [quo_M h h2]
