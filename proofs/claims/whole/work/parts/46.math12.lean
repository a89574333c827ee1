/-! Primes, primitive numbers: the class's tests and the reference's -/
theorem lN_of {p : Int64} (h : 0 ≤ p.toInt) : ∃ P : Nat, p = lN P ∧ (P : Int) = p.toInt ∧ P < 2 ^ 63 := by
  have hl := Int64.toInt_lt p
  refine ⟨p.toInt.toNat, ?_, by omega, by omega⟩
  apply Int64.toInt_inj.mp
  unfold lN
  rw [lg_ofNat_toInt (by omega)]
  omega
theorem lN_ge {P k : Nat} (hP : P < 2 ^ 63) (hk : k < 2 ^ 63) : lN k ≤ lN P ↔ k ≤ P := pk_lLE hk hP
theorem prl_N {P : Nat} (hP : P < 2 ^ 31) : ∀ d m : Nat, 0 < m → m + 2 * d ≤ 30000 → (prl (lN P) d m ↔ ∀ j, j < d → m + 2 * j ≤ 20000 → (m + 2 * j) * (m + 2 * j) ≤ P → ¬ P % (m + 2 * j) = 0)
  | 0, m, _, _ => ⟨fun _ j hj => absurd hj (Nat.not_lt_zero j), fun _ => trivial⟩
  | d + 1, m, hm, hd => by
    have ih := prl_N hP d (m + 2) (by omega) (by omega)
    have hsq : lN P < lN m * lN m ↔ P < m * m := by
      rw [lN_mul]
      exact pk_lLT (by omega) (Nat.lt_of_le_of_lt (Nat.mul_le_mul (show m ≤ 30000 by omega) (show m ≤ 30000 by omega)) (by decide))
    have hrm : lN P - lN P / lN m * lN m = lN (P % m) := pk_lRem (by omega) hm (by omega)
    have hr0 : lN P - lN P / lN m * lN m = 0 ↔ P % m = 0 := by
      rw [hrm]
      exact lN_0 (Nat.lt_of_le_of_lt (Nat.mod_le _ _) hP)
    rw [prl, hsq, hr0, ih]
    constructor
    · rintro (h | h | ⟨h1, h2⟩) j hj h20 hs
      · omega
      · have := Nat.mul_le_mul (show m ≤ m + 2 * j by omega) (show m ≤ m + 2 * j by omega)
        omega
      · rcases Nat.eq_zero_or_pos j with q | q
        · subst q; exact h1
        · have e : m + 2 * j = m + 2 + 2 * (j - 1) := by omega
          rw [e] at h20 hs ⊢
          exact h2 (j - 1) (by omega) h20 hs
    · intro h
      by_cases h1 : 20000 < m
      · exact Or.inl h1
      · by_cases h2 : P < m * m
        · exact Or.inr (Or.inl h2)
        · refine Or.inr (Or.inr ⟨h 0 (by omega) (by omega) (by simpa using Nat.not_lt.mp h2), fun j hj h20 hs => ?_⟩)
          have e : m + 2 + 2 * j = m + 2 * (j + 1) := by omega
          rw [e] at h20 hs ⊢
          exact h (j + 1) (by omega) h20 hs
theorem pri_N {P : Nat} (hP : P ≤ 400000000) : pri (lN P) ↔ (2 ≤ P ∧ npr P) := by
  have h4 : (4 : Int64) ≤ lN P ↔ 4 ≤ P := lN_ge (k := 4) (by omega) (by decide)
  have h2 : lN P < 2 ↔ P < 2 := pk_lLT (b := 2) (by omega) (by decide)
  have hr : lN P - lN P / 2 * 2 = 0 ↔ P % 2 = 0 := by
    rw [rem2_N (by omega)]
    exact lN_0 (by omega)
  unfold pri
  rw [h4, h2, hr, prl_N (by omega) 10000 3 (by omega) (by omega)]
  unfold npr
  constructor
  · rintro (⟨a1, a2, a3⟩ | ⟨a1, a2⟩)
    · refine ⟨by omega, fun e he hs hm => ?_⟩
      rcases (show e % 2 = 0 ∨ e % 2 = 1 by omega) with q | q
      · obtain ⟨k, hk⟩ := Nat.dvd_of_mod_eq_zero hm
        obtain ⟨t, ht⟩ : ∃ t, e = 2 * t := ⟨e / 2, by omega⟩
        rw [ht, Nat.mul_assoc] at hk
        omega
      · have hle : e ≤ 20000 := by
          rcases Nat.lt_or_ge 20000 e with w | w
          · have := Nat.mul_le_mul (show 20001 ≤ e by omega) (show 20001 ≤ e by omega)
            omega
          · exact w
        have e3 : e = 3 + 2 * ((e - 3) / 2) := by omega
        have := a3 ((e - 3) / 2) (by omega) (by omega)
        rw [← e3] at this
        exact this hs hm
    · refine ⟨by omega, fun e he hs hm => ?_⟩
      have := Nat.mul_le_mul he he
      omega
  · rintro ⟨a1, a2⟩
    by_cases h : 4 ≤ P
    · exact Or.inl ⟨h, fun w => a2 2 (by omega) (by omega) w, fun j hj h20 hs => a2 _ (by omega) hs⟩
    · exact Or.inr ⟨h, by omega⟩
/-- primes of a row whose product is what is left -/
def apN (g : Nat → Int64) (a : Nat) : Nat → Nat → Nat → Prop
  | 0, _, L => L = 1
  | d + 1, k, L => ∃ P L2 : Nat, g (a + k) = lN P ∧ 2 ≤ P ∧ npr P ∧ L = P * L2 ∧ apN g a d (k + 1) L2
theorem apN_pos {g : Nat → Int64} {a : Nat} : ∀ (d k L : Nat), apN g a d k L → 1 ≤ L
  | 0, _, _, h => by rw [show _ = 1 from h]; exact Nat.le_refl 1
  | d + 1, k, L, h => by
    obtain ⟨P, L2, -, h2, -, rfl, h5⟩ := h
    have := apN_pos d (k + 1) L2 h5
    exact Nat.mul_pos (by omega) (by omega)
theorem apl_N {g : Nat → Int64} {a : Nat} : ∀ (d k L : Nat), 1 ≤ L → L ≤ 400000000 → (apl g a d k (lN L) ↔ apN g a d k L)
  | 0, k, L, h1, h2 => by
    rw [apl, apN]
    exact lN_o (by omega)
  | d + 1, k, L, h1, h2 => by
    rw [apl, apN]
    constructor
    · rintro ⟨a1, a2, a3, a4⟩
      have h0 : 2 ≤ (g (a + k)).toInt := by
        rw [Int64.lt_iff_toInt_lt, show (2 : Int64).toInt = 2 from by decide] at a1; omega
      obtain ⟨P, hP, hPi, hP63⟩ := lN_of (p := g (a + k)) (by omega)
      rw [hP] at a2 a3 a4
      rw [pk_lRem (by omega) (by omega) hP63] at a2
      have hm : L % P = 0 := (lN_0 (Nat.lt_of_le_of_lt (Nat.mod_le _ _) (by omega))).mp a2
      obtain ⟨L2, hL2⟩ := Nat.dvd_of_mod_eq_zero hm
      have hL20 : 1 ≤ L2 := by
        rcases Nat.eq_zero_or_pos L2 with q | q
        · rw [q, Nat.mul_zero] at hL2; omega
        · exact q
      have hPL : P ≤ L := by rw [hL2]; exact Nat.le_mul_of_pos_right P hL20
      have hLL : L2 ≤ L := by rw [hL2]; exact Nat.le_mul_of_pos_left L2 (by omega)
      rw [pk_lDiv (by omega) (by omega) hP63, hL2, Nat.mul_div_cancel_left _ (by omega)] at a4
      exact ⟨P, L2, hP, by omega, ((pri_N (by omega)).mp a3).2, hL2, (apl_N d (k + 1) L2 hL20 (by omega)).mp a4⟩
    · rintro ⟨P, L2, hP, h2', hn, hL2, h5⟩
      have hL20 := apN_pos d (k + 1) L2 h5
      have hPL : P ≤ L := by rw [hL2]; exact Nat.le_mul_of_pos_right P hL20
      have hLL : L2 ≤ L := by rw [hL2]; exact Nat.le_mul_of_pos_left L2 (by omega)
      rw [hP]
      refine ⟨fun w => absurd ((pk_lLT (a := P) (b := 2) (by omega) (by decide)).mp w) (by omega), ?_, (pri_N (by omega)).mpr ⟨h2', hn⟩, ?_⟩
      · rw [pk_lRem (by omega) (by omega) (by omega), hL2, Nat.mul_mod_right]; rfl
      · rw [pk_lDiv (by omega) (by omega) (by omega), hL2, Nat.mul_div_cancel_left _ (by omega)]
        exact (apl_N d (k + 1) L2 hL20 (by omega)).mpr h5
/-- the bits of a long -/
theorem bit0 (v : Int64) : v.toBitVec.getLsbD 0 = decide (v.toInt % 2 = 1) := by
  have h : v.toInt = v.toBitVec.toInt := rfl
  rw [h, BitVec.toInt_eq_toNat_cond]
  show v.toBitVec.toNat.testBit 0 = _
  rw [Nat.testBit_eq_decide_div_mod_eq]
  have hl := v.toBitVec.isLt
  congr 1
  split <;> exact propext ⟨fun w => by omega, fun w => by omega⟩
theorem bit1 (v : Int64) : v.toBitVec.getLsbD 1 = decide (v.toInt / 2 % 2 = 1) := by
  have h : v.toInt = v.toBitVec.toInt := rfl
  rw [h, BitVec.toInt_eq_toNat_cond]
  show v.toBitVec.toNat.testBit 1 = _
  rw [Nat.testBit_eq_decide_div_mod_eq]
  have hl := v.toBitVec.isLt
  congr 1
  split <;> exact propext ⟨fun w => by omega, fun w => by omega⟩
theorem and1_z (v : Int64) : v &&& 1 = if v.toInt % 2 = 1 then 1 else 0 := by
  rw [and1, bit0]
  by_cases h : v.toInt % 2 = 1
  · rw [if_pos h, decide_eq_true h]; rfl
  · rw [if_neg h, decide_eq_false h]; rfl
theorem oneM_z {a b c d : Int64} : oneM a b c d ↔ zok (a.toInt, b.toInt, c.toInt, d.toInt) := by
  have key : ∀ v w : Int64, v &&& 1 = w &&& 1 ↔ v.toInt % 2 = w.toInt % 2 := fun v w => by
    rw [and1_z, and1_z]
    rcases (show v.toInt % 2 = 0 ∨ v.toInt % 2 = 1 by omega) with p | p <;> rcases (show w.toInt % 2 = 0 ∨ w.toInt % 2 = 1 by omega) with q | q
    · rw [if_neg (by omega), if_neg (by omega)]; exact ⟨fun _ => by omega, fun _ => rfl⟩
    · rw [if_neg (by omega), if_pos q]; exact ⟨fun w => absurd w (by decide), fun w => by omega⟩
    · rw [if_pos p, if_neg (by omega)]; exact ⟨fun w => absurd w (by decide), fun w => by omega⟩
    · rw [if_pos p, if_pos q]; exact ⟨fun _ => by omega, fun _ => rfl⟩
  unfold oneM zok
  rw [key, key, key]
theorem qone_z {x : Q4} : qone x ↔ zok (tz x) := by
  obtain ⟨a, b, c, d⟩ := x
  rw [← one_one, oneM_z]; rfl
theorem and2_0 (v : Int64) : v &&& 2 = 0 ↔ v.toBitVec.getLsbD 1 = false := by
  rw [← Int64.toBitVec_inj, Int64.toBitVec_and]
  have e : (2 : Int64).toBitVec = BitVec.twoPow 64 1 := by decide
  have z : (0 : Int64).toBitVec = 0#64 := rfl
  rw [e, z]
  constructor
  · intro h
    have := congrArg (fun b => b.getLsbD 1) h
    simpa [BitVec.getLsbD_and, BitVec.getLsbD_twoPow] using this
  · intro h
    apply BitVec.eq_of_getLsbD_eq
    intro i hi
    rw [BitVec.getLsbD_and, BitVec.getLsbD_twoPow]
    by_cases q : i = 1
    · subst q; rw [h]; simp
    · have : decide (1 = i) = false := decide_eq_false (by omega)
      rw [this]; simp
