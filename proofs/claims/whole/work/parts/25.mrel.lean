section MWS
variable {G : GG} {ma : Nat → Nat} {M : MS} {F : FM}
theorem MW.setk (h : MW G ma M F) (g : Nat → Int32) : MW G ma (g, M.2.1, M.2.2.1, M.2.2.2.1, M.2.2.2.2.1, M.2.2.2.2.2.1, M.2.2.2.2.2.2.1, M.2.2.2.2.2.2.2) (va_up F (ma 1) (eI G 6 g)) := by
  refine ⟨h.1, fun j hj => ?_⟩
  by_cases e : j = 1
  · subst e
    rw [va_up_self]; rfl
  · rw [va_up_ne _ _ (h.ne hj (by decide) e), h.2 j hj]
    unfold mE
    by_cases h8 : 8 ≤ j
    · rw [if_pos h8, if_pos h8]
    · rw [if_neg h8, if_neg h8]
      simp only [e, if_false]
theorem MW.setz (h : MW G ma M F) (g : Nat → Int32) : MW G ma (M.1, g, M.2.2.1, M.2.2.2.1, M.2.2.2.2.1, M.2.2.2.2.2.1, M.2.2.2.2.2.2.1, M.2.2.2.2.2.2.2) (va_up F (ma 2) (eI G 6 g)) := by
  refine ⟨h.1, fun j hj => ?_⟩
  by_cases e : j = 2
  · subst e
    rw [va_up_self]; rfl
  · rw [va_up_ne _ _ (h.ne hj (by decide) e), h.2 j hj]
    unfold mE
    by_cases h8 : 8 ≤ j
    · rw [if_pos h8, if_pos h8]
    · rw [if_neg h8, if_neg h8]
      simp only [e, if_false]
theorem MW.seth (h : MW G ma M F) (g : Nat → Int64) : MW G ma (M.1, M.2.1, g, M.2.2.2.1, M.2.2.2.2.1, M.2.2.2.2.2.1, M.2.2.2.2.2.2.1, M.2.2.2.2.2.2.2) (va_up F (ma 3) (eJ G 96 g)) := by
  refine ⟨h.1, fun j hj => ?_⟩
  by_cases e : j = 3
  · subst e
    rw [va_up_self]; rfl
  · rw [va_up_ne _ _ (h.ne hj (by decide) e), h.2 j hj]
    unfold mE
    by_cases h8 : 8 ≤ j
    · rw [if_pos h8, if_pos h8]
    · rw [if_neg h8, if_neg h8]
      simp only [e, if_false]
theorem MW.setr (h : MW G ma M F) (g : Nat → Int32) : MW G ma (M.1, M.2.1, M.2.2.1, g, M.2.2.2.2.1, M.2.2.2.2.2.1, M.2.2.2.2.2.2.1, M.2.2.2.2.2.2.2) (va_up F (ma 4) (eI G 64 g)) := by
  refine ⟨h.1, fun j hj => ?_⟩
  by_cases e : j = 4
  · subst e
    rw [va_up_self]; rfl
  · rw [va_up_ne _ _ (h.ne hj (by decide) e), h.2 j hj]
    unfold mE
    by_cases h8 : 8 ≤ j
    · rw [if_pos h8, if_pos h8]
    · rw [if_neg h8, if_neg h8]
      simp only [e, if_false]
theorem MW.setf (h : MW G ma M F) (g : Nat → Int64) : MW G ma (M.1, M.2.1, M.2.2.1, M.2.2.2.1, g, M.2.2.2.2.2.1, M.2.2.2.2.2.2.1, M.2.2.2.2.2.2.2) (va_up F (ma 6) (eJ G 48 g)) := by
  refine ⟨h.1, fun j hj => ?_⟩
  by_cases e : j = 6
  · subst e
    rw [va_up_self]; rfl
  · rw [va_up_ne _ _ (h.ne hj (by decide) e), h.2 j hj]
    unfold mE
    by_cases h8 : 8 ≤ j
    · rw [if_pos h8, if_pos h8]
    · rw [if_neg h8, if_neg h8]
      simp only [e, if_false]
theorem MW.setm (h : MW G ma M F) (g : Nat → Int64) : MW G ma (M.1, M.2.1, M.2.2.1, M.2.2.2.1, M.2.2.2.2.1, g, M.2.2.2.2.2.2.1, M.2.2.2.2.2.2.2) (va_up F (ma 7) (eJ G 16 g)) := by
  refine ⟨h.1, fun j hj => ?_⟩
  by_cases e : j = 7
  · subst e
    rw [va_up_self]; rfl
  · rw [va_up_ne _ _ (h.ne hj (by decide) e), h.2 j hj]
    unfold mE
    by_cases h8 : 8 ≤ j
    · rw [if_pos h8, if_pos h8]
    · rw [if_neg h8, if_neg h8]
      rcases (show j = 0 ∨ j = 1 ∨ j = 2 ∨ j = 3 ∨ j = 4 ∨ j = 5 ∨ j = 6 by omega) with rfl | rfl | rfl | rfl | rfl | rfl | rfl <;> rfl
theorem MW.setn (h : MW G ma M F) (g : Int32) : MW G ma (M.1, M.2.1, M.2.2.1, M.2.2.2.1, M.2.2.2.2.1, M.2.2.2.2.2.1, M.2.2.2.2.2.2.1, g) (va_up F (ma 0) (.inr (6, [.ref (ma 1), .ref (ma 2), .ref (ma 3), .ref (ma 4), .ref (ma 5), .int g, .ref (ma 6), .ref (ma 7), .ref (ma 8), .ref (ma 9), .ref (ma 10), .ref (ma 11), .ref (ma 12), .ref (ma 13), .ref (ma 14), .ref (ma 15), .ref (ma 16), .int 0]))) := by
  refine ⟨h.1, fun j hj => ?_⟩
  by_cases e : j = 0
  · subst e
    rw [va_up_self]; rfl
  · rw [va_up_ne _ _ (h.ne hj (by decide) e), h.2 j hj]
    unfold mE
    by_cases h8 : 8 ≤ j
    · rw [if_pos h8, if_pos h8]
    · rw [if_neg h8, if_neg h8]
      simp only [e, if_false]
end MWS
def fq (fc : Nat → Int64) (k : Nat) : Q4 := (fc (4 * k), fc (4 * k + 1), fc (4 * k + 2), fc (4 * k + 3))
def mrel (M : MS) (S : SS) : Prop := (∀ k, k < 6 → M.1 k = S.2.1 k) ∧ (∀ k, k < 6 → M.2.1 k = nI (S.2.2.1 k)) ∧ (∀ k, k < 6 → ∀ i, i < 16 → M.2.2.1 (16 * k + i) = S.2.2.2.1 k i) ∧ (∀ k, k < 16 → rgq M.2.2.2.1 k = S.1 k) ∧ M.2.2.2.2.2.2.2 = nI S.2.2.2.2 ∧ ∀ k, k < S.2.2.2.2 → fq M.2.2.2.2.1 k = S.1 (16 + k)
def MR (G : GG) (ma : Nat → Nat) (S : SS) (F : FM) : Prop := ∃ M : MS, MW G ma M F ∧ mrel M S
theorem inL_out {n : Nat} {v : Int32} (hn : n < 100) (h : v < 0 ∨ nI (n + 1) ≤ v) : ¬ inL v.toInt64 0 (lN n) := by
  rintro ⟨h1, h2⟩
  rw [Int64.lt_iff_toInt_lt, Int32.toInt_toInt64, show (0 : Int64).toInt = 0 from by decide] at h1
  rw [Int64.lt_iff_toInt_lt, Int32.toInt_toInt64, lN_toInt (by omega)] at h2
  rcases h with h | h
  · rw [Int32.lt_iff_toInt_lt, show (0 : Int32).toInt = 0 from by decide] at h; omega
  · rw [Int32.le_iff_toInt_le, nI_toInt (by omega)] at h; omega
theorem inL_in {n k : Nat} (hn : n < 100) (h : k < n + 1) : inL (nI k).toInt64 0 (lN n) := by
  rw [nI_l (by omega)]
  exact ⟨fun w => absurd ((lN_lt (a := k) (b := 0) (by omega) (by decide)).mp w) (by omega), fun w => absurd ((lN_lt (by omega) (by omega)).mp w) (by omega)⟩
theorem low_hi {x : Q4} : qlow x ↔ ¬ qhigh x := by
  have e : ∀ v : Int64, lowP v ↔ ¬ hiP v := fun v => by
    unfold lowP inL hiP
    rw [Int64.not_lt (a := 20000)]
    constructor
    · rintro ⟨h1, h2⟩ (h | h)
      · exact h1 h
      · exact h h2
    · intro h
      exact ⟨fun w => h (Or.inl w), Classical.not_not.mp (fun w => h (Or.inr w))⟩
  unfold qlow qhigh
  rw [e, e, e, e]
  constructor
  · rintro ⟨h1, h2, h3, h4⟩ (h | h | h | h)
    · exact h1 h
    · exact h2 h
    · exact h3 h
    · exact h4 h
  · intro h
    exact ⟨fun w => h (Or.inl w), fun w => h (Or.inr (Or.inl w)), fun w => h (Or.inr (Or.inr (Or.inl w))), fun w => h (Or.inr (Or.inr (Or.inr w)))⟩
theorem low_rt {v : Int64} (h : lowP v) : v.toInt32.toInt64 = v := by
  obtain ⟨h1, h2⟩ := h
  rw [Int64.lt_iff_toInt_lt, show (-20000 : Int64).toInt = -20000 from by decide] at h1
  rw [Int64.lt_iff_toInt_lt, show (20000 : Int64).toInt = 20000 from by decide] at h2
  apply Int64.toInt_inj.mp
  rw [Int32.toInt_toInt64, Int64.toInt_toInt32]
  exact Int.bmod_eq_of_le (by omega) (by omega)
theorem rgq_s {rg : Nat → Int32} {k : Nat} {x : Q4} (h : qlow x) : rgq (stq rg k x) k = x := by
  obtain ⟨h1, h2, h3, h4⟩ := h
  have e0 : stq rg k x (4 * k) = x.1.toInt32 := by unfold stq; rw [pk_un (by omega), pk_un (by omega), pk_un (by omega), pk_us]
  have e1 : stq rg k x (4 * k + 1) = x.2.1.toInt32 := by unfold stq; rw [pk_un (by omega), pk_un (by omega), pk_us]
  have e2 : stq rg k x (4 * k + 2) = x.2.2.1.toInt32 := by unfold stq; rw [pk_un (by omega), pk_us]
  have e3 : stq rg k x (4 * k + 3) = x.2.2.2.toInt32 := by unfold stq; rw [pk_us]
  unfold rgq
  rw [e0, e1, e2, e3, low_rt h1, low_rt h2, low_rt h3, low_rt h4]
theorem stq_n {rg : Nat → Int32} {k i : Nat} {x : Q4} (h : i < 4 * k ∨ 4 * k + 4 ≤ i) : stq rg k x i = rg i := by
  unfold stq
  rw [pk_un (by omega), pk_un (by omega), pk_un (by omega), pk_un (by omega)]
theorem rgq_n {rg : Nat → Int32} {k j : Nat} {x : Q4} (h : j ≠ k) : rgq (stq rg k x) j = rgq rg j := by
  unfold rgq
  rw [stq_n (by omega), stq_n (by omega), stq_n (by omega), stq_n (by omega)]
theorem and1 (v : Int64) : v &&& 1 = if v.toBitVec.getLsbD 0 then 1 else 0 := by
  apply Int64.toBitVec_inj.mp
  rw [Int64.toBitVec_and]
  apply BitVec.eq_of_getLsbD_eq
  intro i hi
  rw [BitVec.getLsbD_and]
  have e : (1 : Int64).toBitVec = 1#64 := rfl
  have z : (0 : Int64).toBitVec = 0#64 := rfl
  rw [e, BitVec.getLsbD_one]
  by_cases h0 : i = 0
  · subst h0
    cases hb : v.toBitVec.getLsbD 0
    · rw [if_neg (by decide), z]; rfl
    · rw [if_pos rfl, e]; rfl
  · have h1 : decide (i = 0) = false := decide_eq_false h0
    cases hb : v.toBitVec.getLsbD 0
    · rw [if_neg (by decide), z, h1]; simp
    · rw [if_pos rfl, e, BitVec.getLsbD_one, h1]; simp
theorem one_one {a b c d : Int64} : oneM a b c d ↔ qone (a, b, c, d) := by
  unfold oneM qone
  show _ ↔ (((a ^^^ b) ||| (a ^^^ c)) ||| (a ^^^ d)) &&& 1 = 0
  rw [and1 a, and1 b, and1 c, and1 d, and1 (((a ^^^ b) ||| (a ^^^ c)) ||| (a ^^^ d))]
  rw [Int64.toBitVec_or, Int64.toBitVec_or, Int64.toBitVec_xor, Int64.toBitVec_xor, Int64.toBitVec_xor, BitVec.getLsbD_or, BitVec.getLsbD_or, BitVec.getLsbD_xor, BitVec.getLsbD_xor, BitVec.getLsbD_xor]
  cases a.toBitVec.getLsbD 0 <;> cases b.toBitVec.getLsbD 0 <;> cases c.toBitVec.getLsbD 0 <;> cases d.toBitVec.getLsbD 0 <;> decide
