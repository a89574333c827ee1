/-! The numbers of a norm as the reference goes through them -/
/-- primitive; behind an existence, so that no one computes it -/
def qpi (t : Z4) : Prop := ∃ X : Prop, X ∧ (X ↔ qpr (q4i t))
theorem qpi_iff (t : Z4) : qpi t ↔ qpr (q4i t) := by
  unfold qpi
  generalize qpr (q4i t) = Y
  exact ⟨fun ⟨_, h1, h2⟩ => h2.mp h1, fun h => ⟨Y, h, Iff.rfl⟩⟩
def selP (w : Int32) (t : Z4) : Prop := w = 0 ∨ (w = 1 ∧ t.1 % 2 = 0) ∨ (w = 2 ∧ qpi t)
def selw (w : Int32) (t : Z4) : Prop := zok t ∧ selP w t
noncomputable def rD1 (w : Int32) (a b c : Int) (r : Nat) : List Z4 := cif (selw w (a, b, c, (r : Int))) [(a, b, c, (r : Int))] [] ++ cif (0 < r ∧ selw w (a, b, c, -(r : Int))) [(a, b, c, -(r : Int))] []
noncomputable def rD (N : Nat) (w : Int32) (a b c : Int) : List Z4 := cif (0 ≤ 4 * (N : Int) - a * a - b * b - c * c ∧ (rt (4 * (N : Int) - a * a - b * b - c * c).toNat : Int) * (rt (4 * (N : Int) - a * a - b * b - c * c).toNat : Int) = 4 * (N : Int) - a * a - b * b - c * c) (rD1 w a b c (rt (4 * (N : Int) - a * a - b * b - c * c).toNat)) []
noncomputable def rC (N : Nat) (w : Int32) (a b : Int) : List Z4 := cif (a * a + b * b ≤ 4 * (N : Int)) (dwn (rD N w a b) (rt (4 * N) : Int) (2 * rt (4 * N) + 1)) []
noncomputable def rB (N : Nat) (w : Int32) (a : Int) : List Z4 := dwn (rC N w a) (rt (4 * N) : Int) (2 * rt (4 * N) + 1)
noncomputable def rA (N : Nat) (w : Int32) : List Z4 := dwn (rB N w) (rt (4 * N) : Int) (2 * rt (4 * N) + 1)
theorem mem_rD {N : Nat} {w : Int32} {a b c : Int} {t : Z4} : t ∈ rD N w a b c ↔ (t.1 = a ∧ t.2.1 = b ∧ t.2.2.1 = c) ∧ zsq t = 4 * (N : Int) ∧ selw w t := by
  obtain ⟨t0, t1, t2, t3⟩ := t
  unfold rD
  rw [mem_cif]
  unfold rD1
  rw [List.mem_append, mem_cif, mem_cif, List.mem_singleton, List.mem_singleton]
  unfold zsq
  dsimp only
  generalize hL : 4 * (N : Int) - a * a - b * b - c * c = L
  constructor
  · rintro ⟨⟨h1, h2⟩, ⟨h3, h4⟩ | ⟨⟨h3, h5⟩, h4⟩⟩
    · simp only [Prod.mk.injEq] at h4
      obtain ⟨rfl, rfl, rfl, rfl⟩ := h4
      exact ⟨⟨rfl, rfl, rfl⟩, by omega, h3⟩
    · simp only [Prod.mk.injEq] at h4
      obtain ⟨rfl, rfl, rfl, rfl⟩ := h4
      refine ⟨⟨rfl, rfl, rfl⟩, ?_, h5⟩
      rw [Int.neg_mul_neg]; omega
  · rintro ⟨⟨rfl, rfl, rfl⟩, h2, h3⟩
    have hl : L = t3 * t3 := by omega
    have h0 := sqnn t3
    have hr : rt L.toNat = t3.natAbs := by
      apply rt_sq
      · have e : ((t3.natAbs * t3.natAbs : Nat) : Int) = t3 * t3 := by rw [Int.natCast_mul, Int.natAbs_mul_self']
        omega
      · have e : ((t3.natAbs * t3.natAbs : Nat) : Int) = t3 * t3 := by rw [Int.natCast_mul, Int.natAbs_mul_self']
        have e2 := Nat.mul_lt_mul'' (show t3.natAbs < t3.natAbs + 1 by omega) (show t3.natAbs < t3.natAbs + 1 by omega)
        omega
    rw [hr]
    refine ⟨⟨by omega, ?_⟩, ?_⟩
    · rw [hl]; exact Int.natAbs_mul_self' t3
    · rcases (show 0 ≤ t3 ∨ t3 < 0 by omega) with q | q
      · have e : ((t3.natAbs : Nat) : Int) = t3 := by omega
        rw [e]
        exact Or.inl ⟨h3, rfl⟩
      · have e : -((t3.natAbs : Nat) : Int) = t3 := by omega
        rw [e]
        exact Or.inr ⟨⟨by omega, h3⟩, rfl⟩
theorem pw_rD {N : Nat} {w : Int32} {a b c : Int} : (rD N w a b c).Pairwise zgr := by
  unfold rD
  apply pw_cif
  unfold rD1
  rw [List.pairwise_append]
  refine ⟨pw_cif (List.pairwise_singleton _ _), pw_cif (List.pairwise_singleton _ _), fun t ht u hu => ?_⟩
  obtain ⟨-, ht⟩ := mem_cif.mp ht
  obtain ⟨⟨h0, -⟩, hu⟩ := mem_cif.mp hu
  rw [List.mem_singleton.mp ht, List.mem_singleton.mp hu]
  unfold zgr
  dsimp only
  omega
theorem mem_rC {N : Nat} {w : Int32} {a b : Int} {t : Z4} : t ∈ rC N w a b ↔ (t.1 = a ∧ t.2.1 = b) ∧ zsq t = 4 * (N : Int) ∧ selw w t := by
  unfold rC
  rw [mem_cif, mem_dw]
  obtain ⟨r1, r2⟩ := rt_ok (4 * N)
  constructor
  · rintro ⟨h1, c, h2, h3, h4⟩
    obtain ⟨⟨e1, e2, e3⟩, h5, h6⟩ := mem_rD.mp h4
    exact ⟨⟨e1, e2⟩, h5, h6⟩
  · rintro ⟨⟨e1, e2⟩, h5, h6⟩
    have s0 := sqnn t.1
    have s1 := sqnn t.2.1
    have s2 := sqnn t.2.2.1
    have s3 := sqnn t.2.2.2
    have h5' := h5
    unfold zsq at h5'
    have hb : t.2.2.1 * t.2.2.1 < ((rt (4 * N) : Nat) + 1 : Int) * ((rt (4 * N) : Nat) + 1 : Int) := by
      have : ((4 * N : Nat) : Int) < (((rt (4 * N) + 1) * (rt (4 * N) + 1) : Nat) : Int) := by omega
      rw [Int.natCast_mul] at this
      push_cast at this
      omega
    obtain ⟨b1, b2⟩ := abs_sq hb
    refine ⟨by rw [← e1, ← e2]; omega, t.2.2.1, b1, b2, mem_rD.mpr ⟨⟨e1, e2, rfl⟩, h5, h6⟩⟩
theorem pw_rC {N : Nat} {w : Int32} {a b : Int} : (rC N w a b).Pairwise zgr := by
  unfold rC
  apply pw_cif
  refine pw_dwn (fun _ => pw_rD) (fun x y hxy t ht u hu => ?_) _
  obtain ⟨⟨e1, e2, e3⟩, -⟩ := mem_rD.mp ht
  obtain ⟨⟨f1, f2, f3⟩, -⟩ := mem_rD.mp hu
  unfold zgr
  omega
theorem mem_rB {N : Nat} {w : Int32} {a : Int} {t : Z4} : t ∈ rB N w a ↔ t.1 = a ∧ zsq t = 4 * (N : Int) ∧ selw w t := by
  unfold rB
  rw [mem_dw]
  obtain ⟨r1, r2⟩ := rt_ok (4 * N)
  constructor
  · rintro ⟨b, h2, h3, h4⟩
    obtain ⟨⟨e1, e2⟩, h5, h6⟩ := mem_rC.mp h4
    exact ⟨e1, h5, h6⟩
  · rintro ⟨e1, h5, h6⟩
    have s0 := sqnn t.1
    have s1 := sqnn t.2.1
    have s2 := sqnn t.2.2.1
    have s3 := sqnn t.2.2.2
    have h5' := h5
    unfold zsq at h5'
    have hb : t.2.1 * t.2.1 < ((rt (4 * N) : Nat) + 1 : Int) * ((rt (4 * N) : Nat) + 1 : Int) := by
      have : ((4 * N : Nat) : Int) < (((rt (4 * N) + 1) * (rt (4 * N) + 1) : Nat) : Int) := by omega
      rw [Int.natCast_mul] at this
      push_cast at this
      omega
    obtain ⟨b1, b2⟩ := abs_sq hb
    exact ⟨t.2.1, b1, b2, mem_rC.mpr ⟨⟨e1, rfl⟩, h5, h6⟩⟩
theorem pw_rB {N : Nat} {w : Int32} {a : Int} : (rB N w a).Pairwise zgr := by
  unfold rB
  refine pw_dwn (fun _ => pw_rC) (fun x y hxy t ht u hu => ?_) _
  obtain ⟨⟨e1, e2⟩, -⟩ := mem_rC.mp ht
  obtain ⟨⟨f1, f2⟩, -⟩ := mem_rC.mp hu
  unfold zgr
  omega
theorem mem_rA {N : Nat} {w : Int32} {t : Z4} : t ∈ rA N w ↔ zsq t = 4 * (N : Int) ∧ selw w t := by
  unfold rA
  rw [mem_dw]
  obtain ⟨r1, r2⟩ := rt_ok (4 * N)
  constructor
  · rintro ⟨b, h2, h3, h4⟩
    exact (mem_rB.mp h4).2
  · rintro ⟨h5, h6⟩
    have s0 := sqnn t.1
    have s1 := sqnn t.2.1
    have s2 := sqnn t.2.2.1
    have s3 := sqnn t.2.2.2
    have h5' := h5
    unfold zsq at h5'
    have hb : t.1 * t.1 < ((rt (4 * N) : Nat) + 1 : Int) * ((rt (4 * N) : Nat) + 1 : Int) := by
      have : ((4 * N : Nat) : Int) < (((rt (4 * N) + 1) * (rt (4 * N) + 1) : Nat) : Int) := by omega
      rw [Int.natCast_mul] at this
      push_cast at this
      omega
    obtain ⟨b1, b2⟩ := abs_sq hb
    exact ⟨t.1, b1, b2, mem_rB.mpr ⟨rfl, h5, h6⟩⟩
theorem pw_rA {N : Nat} {w : Int32} : (rA N w).Pairwise zgr := by
  unfold rA
  refine pw_dwn (fun _ => pw_rB) (fun x y hxy t ht u hu => ?_) _
  obtain ⟨e1, -⟩ := mem_rB.mp ht
  obtain ⟨f1, -⟩ := mem_rB.mp hu
  unfold zgr
  omega
/-! The class's list -/
theorem mem_bD {m c d : Int} : ∀ k : Nat, d ∈ bD m c k ↔ ∃ j : Nat, j < k ∧ d = (j : Int) - 28 ∧ c * c + d * d = m
  | 0 => by
    rw [bD]
    exact ⟨fun h => absurd h List.not_mem_nil, fun ⟨j, hj, _⟩ => absurd hj (Nat.not_lt_zero j)⟩
  | k + 1 => by
    have ih := mem_bD (m := m) (c := c) (d := d) k
    have go : (∃ j : Nat, j < k + 1 ∧ d = (j : Int) - 28 ∧ c * c + d * d = m) ↔ (d = (k : Int) - 28 ∧ c * c + d * d = m) ∨ ∃ j : Nat, j < k ∧ d = (j : Int) - 28 ∧ c * c + d * d = m := by
      constructor
      · rintro ⟨j, hj, e1, e2⟩
        by_cases e : j = k
        · subst e; exact Or.inl ⟨e1, e2⟩
        · exact Or.inr ⟨j, by omega, e1, e2⟩
      · rintro (⟨e1, e2⟩ | ⟨j, hj, e1, e2⟩)
        · exact ⟨k, by omega, e1, e2⟩
        · exact ⟨j, by omega, e1, e2⟩
    rw [go, bD, ← ih]
    by_cases h : c * c + ((k : Int) - 28) * ((k : Int) - 28) = m
    · rw [if_pos h, List.mem_cons]
      constructor
      · rintro (q | q)
        · exact Or.inl ⟨q, by rw [q]; exact h⟩
        · exact Or.inr q
      · rintro (q | q)
        · exact Or.inl q.1
        · exact Or.inr q
    · rw [if_neg h]
      constructor
      · exact Or.inr
      · rintro (⟨q1, q2⟩ | q)
        · rw [q1] at q2; exact absurd q2 h
        · exact q
theorem pw_bD {m c : Int} : ∀ k : Nat, (bD m c k).Pairwise (fun x y => y < x)
  | 0 => List.Pairwise.nil
  | k + 1 => by
    rw [bD]
    by_cases h : c * c + ((k : Int) - 28) * ((k : Int) - 28) = m
    · rw [if_pos h, List.pairwise_cons]
      refine ⟨fun d hd => ?_, pw_bD k⟩
      obtain ⟨j, hj, e, -⟩ := (mem_bD k).mp hd
      omega
    · rw [if_neg h]; exact pw_bD k
def pgr (p q : Int × Int) : Prop := q.1 < p.1 ∨ (p.1 = q.1 ∧ q.2 < p.2)
theorem mem_bC {m : Int} {p : Int × Int} : ∀ k : Nat, p ∈ bC m k ↔ (∃ j : Nat, j < k ∧ p.1 = (j : Int) - 28) ∧ (∃ j : Nat, j < 57 ∧ p.2 = (j : Int) - 28) ∧ p.1 * p.1 + p.2 * p.2 = m
  | 0 => by
    rw [bC]
    exact ⟨fun h => absurd h List.not_mem_nil, fun ⟨⟨j, hj, _⟩, _⟩ => absurd hj (Nat.not_lt_zero j)⟩
  | k + 1 => by
    rw [bC, List.mem_append, List.mem_map, mem_bC k]
    constructor
    · rintro (⟨d, hd, e⟩ | ⟨⟨j, hj, e1⟩, h2, h3⟩)
      · obtain ⟨j, hj, e1, e2⟩ := (mem_bD 57).mp hd
        subst e
        exact ⟨⟨k, by omega, rfl⟩, ⟨j, hj, e1⟩, e2⟩
      · exact ⟨⟨j, by omega, e1⟩, h2, h3⟩
    · rintro ⟨⟨j, hj, e1⟩, ⟨i, hi, e2⟩, h3⟩
      by_cases e : j = k
      · subst e
        refine Or.inl ⟨p.2, (mem_bD 57).mpr ⟨i, hi, e2, by rw [← e1]; exact h3⟩, ?_⟩
        rw [← e1]
      · exact Or.inr ⟨⟨j, by omega, e1⟩, ⟨i, hi, e2⟩, h3⟩
theorem pw_bC {m : Int} : ∀ k : Nat, (bC m k).Pairwise pgr
  | 0 => List.Pairwise.nil
  | k + 1 => by
    rw [bC, List.pairwise_append]
    refine ⟨?_, pw_bC k, fun p hp q hq => ?_⟩
    · rw [List.pairwise_map]
      exact (pw_bD 57).imp (fun h => Or.inr ⟨rfl, h⟩)
    · obtain ⟨d, -, rfl⟩ := List.mem_map.mp hp
      obtain ⟨⟨j, hj, e1⟩, -⟩ := (mem_bC k).mp hq
      exact Or.inl (by dsimp only; omega)
theorem pw_bCm {m a b : Int} : ((bC m 57).map (fun t => ((a, b, t.1, t.2) : Z4))).Pairwise zgr := by
  rw [List.pairwise_map]
  refine (pw_bC 57).imp (fun {p q} h => ?_)
  unfold pgr at h
  unfold zgr
  dsimp only
  omega
theorem mem_bCm {m a b : Int} {t : Z4} : t ∈ (bC m 57).map (fun t => ((a, b, t.1, t.2) : Z4)) ↔ t.1 = a ∧ t.2.1 = b ∧ (-28 ≤ t.2.2.1 ∧ t.2.2.1 ≤ 28) ∧ (-28 ≤ t.2.2.2 ∧ t.2.2.2 ≤ 28) ∧ t.2.2.1 * t.2.2.1 + t.2.2.2 * t.2.2.2 = m := by
  obtain ⟨t0, t1, t2, t3⟩ := t
  rw [List.mem_map]
  constructor
  · rintro ⟨p, hp, e⟩
    simp only [Prod.mk.injEq] at e
    obtain ⟨rfl, rfl, rfl, rfl⟩ := e
    obtain ⟨⟨j, hj, e1⟩, ⟨i, hi, e2⟩, h3⟩ := (mem_bC 57).mp hp
    exact ⟨rfl, rfl, by dsimp only; omega, by dsimp only; omega, h3⟩
  · rintro ⟨rfl, rfl, h1, h2, h3⟩
    dsimp only at h1 h2 h3
    exact ⟨(t2, t3), (mem_bC 57).mpr ⟨⟨(t2 + 28).toNat, by omega, by dsimp only; omega⟩, ⟨(t3 + 28).toNat, by omega, by dsimp only; omega⟩, h3⟩, rfl⟩
theorem mem_fB {N : Nat} {a : Int} {t : Z4} : ∀ k : Nat, t ∈ fB N a k ↔ (∃ j : Nat, j < k ∧ t.2.1 = 2 * (j : Int) - 28 + a % 2) ∧ t.1 = a ∧ (-28 ≤ t.2.2.1 ∧ t.2.2.1 ≤ 28) ∧ (-28 ≤ t.2.2.2 ∧ t.2.2.2 ≤ 28) ∧ t.2.2.1 * t.2.2.1 + t.2.2.2 * t.2.2.2 = 4 * N - a * a - t.2.1 * t.2.1
  | 0 => by
    rw [fB]
    exact ⟨fun h => absurd h List.not_mem_nil, fun ⟨⟨j, hj, _⟩, _⟩ => absurd hj (Nat.not_lt_zero j)⟩
  | k + 1 => by
    rw [fB, List.mem_append, mem_fB k]
    rw [mem_bCm]
    constructor
    · rintro (⟨h1, h2, h3, h4, h5⟩ | ⟨⟨j, hj, e1⟩, h2⟩)
      · exact ⟨⟨k, by omega, h2⟩, h1, h3, h4, by rw [h2]; exact h5⟩
      · exact ⟨⟨j, by omega, e1⟩, h2⟩
    · rintro ⟨⟨j, hj, e1⟩, h2, h3, h4, h5⟩
      by_cases e : j = k
      · subst e
        exact Or.inl ⟨h2, e1, h3, h4, by rw [← e1]; exact h5⟩
      · exact Or.inr ⟨⟨j, by omega, e1⟩, h2, h3, h4, h5⟩
theorem pw_fB {N : Nat} {a : Int} : ∀ k : Nat, (fB N a k).Pairwise zgr
  | 0 => List.Pairwise.nil
  | k + 1 => by
    rw [fB, List.pairwise_append]
    refine ⟨pw_bCm, pw_fB k, fun p hp q hq => ?_⟩
    obtain ⟨e1, e2, -⟩ := mem_bCm.mp hp
    obtain ⟨⟨j, hj, f2⟩, f1, -⟩ := (mem_fB k).mp hq
    unfold zgr
    omega
theorem mem_fA {N : Nat} {t : Z4} : ∀ k : Nat, t ∈ fA N k ↔ ∃ j : Nat, j < k ∧ t ∈ fB N ((j : Int) - 28) (29 - (((j : Int) - 28) % 2).toNat)
  | 0 => by
    rw [fA]
    exact ⟨fun h => absurd h List.not_mem_nil, fun ⟨j, hj, _⟩ => absurd hj (Nat.not_lt_zero j)⟩
  | k + 1 => by
    rw [fA, List.mem_append, mem_fA k]
    constructor
    · rintro (h | ⟨j, hj, h⟩)
      · exact ⟨k, by omega, h⟩
      · exact ⟨j, by omega, h⟩
    · rintro ⟨j, hj, h⟩
      by_cases e : j = k
      · subst e; exact Or.inl h
      · exact Or.inr ⟨j, by omega, h⟩
theorem pw_fA {N : Nat} : ∀ k : Nat, (fA N k).Pairwise zgr
  | 0 => List.Pairwise.nil
  | k + 1 => by
    rw [fA, List.pairwise_append]
    refine ⟨pw_fB _, pw_fA k, fun p hp q hq => ?_⟩
    obtain ⟨-, e1, -⟩ := (mem_fB _).mp hp
    obtain ⟨j, hj, hq⟩ := (mem_fA k).mp hq
    obtain ⟨-, f1, -⟩ := (mem_fB _).mp hq
    unfold zgr
    omega
theorem b28 {x : Int} (h : x * x ≤ 800) : -28 ≤ x ∧ x ≤ 28 := by
  have := abs_sq (x := x) (m := 28) (by omega)
  exact this
theorem mem_fA57 {N : Nat} (hN : N ≤ 200) {t : Z4} : t ∈ fA N 57 ↔ zsq t = 4 * (N : Int) ∧ zok t := by
  rw [mem_fA]
  constructor
  · rintro ⟨j, hj, h⟩
    obtain ⟨⟨i, hi, e2⟩, e1, -, -, h5⟩ := (mem_fB _).mp h
    have hz : zsq t = 4 * (N : Int) := by unfold zsq; rw [e1]; omega
    refine ⟨hz, (zok_2 hz).mpr ?_⟩
    have a := sq4 t.1
    have b := sq4 t.2.1
    omega
  · rintro ⟨h1, h2⟩
    have s0 := sqnn t.1
    have s1 := sqnn t.2.1
    have s2 := sqnn t.2.2.1
    have s3 := sqnn t.2.2.2
    have h1' := h1
    unfold zsq at h1'
    have b0 := b28 (x := t.1) (by omega)
    have b1 := b28 (x := t.2.1) (by omega)
    have b2 := b28 (x := t.2.2.1) (by omega)
    have b3 := b28 (x := t.2.2.2) (by omega)
    obtain ⟨z1, z2, z3⟩ := h2
    refine ⟨(t.1 + 28).toNat, by omega, (mem_fB _).mpr ?_⟩
    have e : (((t.1 + 28).toNat : Nat) : Int) - 28 = t.1 := by omega
    rw [e]
    refine ⟨⟨((t.2.1 + 28 - t.1 % 2) / 2).toNat, by omega, by omega⟩, rfl, b2, b3, by omega⟩
theorem rA_0 {N : Nat} (hN : N ≤ 200) : rA N 0 = fA N 57 := by
  refine pw_uniq _ _ pw_rA (pw_fA 57) (fun t => ?_)
  rw [mem_rA, mem_fA57 hN]
  unfold selw selP
  exact ⟨fun h => ⟨h.1, h.2.1⟩, fun h => ⟨h.1, h.2, Or.inl rfl⟩⟩
