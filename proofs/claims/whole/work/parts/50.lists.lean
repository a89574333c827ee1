/-! Lists in falling order: two with the same members are one -/
def zgr (t u : Z4) : Prop := u.1 < t.1 ∨ (t.1 = u.1 ∧ (u.2.1 < t.2.1 ∨ (t.2.1 = u.2.1 ∧ (u.2.2.1 < t.2.2.1 ∨ (t.2.2.1 = u.2.2.1 ∧ u.2.2.2 < t.2.2.2)))))
theorem zgr_irr (t : Z4) : ¬ zgr t t := by unfold zgr; omega
theorem zgr_asy {t u : Z4} (h : zgr t u) : ¬ zgr u t := by unfold zgr at *; omega
theorem pw_uniq : ∀ (l1 l2 : List Z4), l1.Pairwise zgr → l2.Pairwise zgr → (∀ t, t ∈ l1 ↔ t ∈ l2) → l1 = l2
  | [], [], _, _, _ => rfl
  | [], b :: l2, _, _, h => absurd ((h b).mpr List.mem_cons_self) List.not_mem_nil
  | a :: l1, [], _, _, h => absurd ((h a).mp List.mem_cons_self) List.not_mem_nil
  | a :: l1, b :: l2, h1, h2, h => by
    obtain ⟨a1, p1⟩ := List.pairwise_cons.mp h1
    obtain ⟨b1, p2⟩ := List.pairwise_cons.mp h2
    have e : a = b := by
      rcases List.mem_cons.mp ((h a).mp List.mem_cons_self) with q | q
      · exact q
      · rcases List.mem_cons.mp ((h b).mpr List.mem_cons_self) with q2 | q2
        · exact q2.symm
        · exact absurd (b1 a q) (zgr_asy (a1 b q2))
    subst e
    have key : l1 = l2 := by
      refine pw_uniq l1 l2 p1 p2 (fun t => ⟨fun ht => ?_, fun ht => ?_⟩)
      · rcases List.mem_cons.mp ((h t).mp (List.mem_cons_of_mem _ ht)) with q | q
        · subst q; exact absurd (a1 t ht) (zgr_irr t)
        · exact q
      · rcases List.mem_cons.mp ((h t).mpr (List.mem_cons_of_mem _ ht)) with q | q
        · subst q; exact absurd (b1 t ht) (zgr_irr t)
        · exact q
    rw [key]
/-- f at k - 1 - m, .., 1 - m, 0 - m -/
def dwn (f : Int → List Z4) (m : Int) : Nat → List Z4
  | 0 => []
  | k + 1 => f ((k : Int) - m) ++ dwn f m k
theorem mem_dwn {f : Int → List Z4} {m : Int} {t : Z4} : ∀ k : Nat, t ∈ dwn f m k ↔ ∃ j : Nat, j < k ∧ t ∈ f ((j : Int) - m)
  | 0 => by
    rw [dwn]
    exact ⟨fun h => absurd h List.not_mem_nil, fun ⟨j, hj, _⟩ => absurd hj (Nat.not_lt_zero j)⟩
  | k + 1 => by
    rw [dwn, List.mem_append, mem_dwn k]
    constructor
    · rintro (h | ⟨j, hj, h⟩)
      · exact ⟨k, by omega, h⟩
      · exact ⟨j, by omega, h⟩
    · rintro ⟨j, hj, h⟩
      by_cases e : j = k
      · subst e; exact Or.inl h
      · exact Or.inr ⟨j, by omega, h⟩
theorem mem_dw {f : Int → List Z4} {m : Nat} {t : Z4} : t ∈ dwn f (m : Int) (2 * m + 1) ↔ ∃ a : Int, -(m : Int) ≤ a ∧ a ≤ m ∧ t ∈ f a := by
  rw [mem_dwn]
  constructor
  · rintro ⟨j, hj, h⟩
    exact ⟨_, by omega, by omega, h⟩
  · rintro ⟨a, h1, h2, h⟩
    refine ⟨(a + m).toNat, by omega, ?_⟩
    rw [show (((a + m).toNat : Nat) : Int) - m = a by omega]; exact h
theorem pw_dwn {f : Int → List Z4} {m : Int} (h1 : ∀ a, (f a).Pairwise zgr) (h2 : ∀ a b : Int, b < a → ∀ t ∈ f a, ∀ u ∈ f b, zgr t u) : ∀ k : Nat, (dwn f m k).Pairwise zgr
  | 0 => List.Pairwise.nil
  | k + 1 => by
    rw [dwn, List.pairwise_append]
    refine ⟨h1 _, pw_dwn h1 h2 k, fun t ht u hu => ?_⟩
    obtain ⟨j, hj, hu⟩ := (mem_dwn k).mp hu
    exact h2 _ _ (by omega) t ht u hu
theorem len_dwn {f : Int → List Z4} : ∀ k : Nat, (dwn f 28 k).length = sC (fun a => (f a).length) k
  | 0 => rfl
  | k + 1 => by rw [dwn, sC, List.length_append, len_dwn k]
theorem mem_cif {p : Prop} {l : List Z4} {t : Z4} : t ∈ cif p l [] ↔ p ∧ t ∈ l := by
  by_cases h : p
  · rw [cif_t h]; exact ⟨fun w => ⟨h, w⟩, fun w => w.2⟩
  · rw [cif_f h]; exact ⟨fun w => absurd w List.not_mem_nil, fun w => absurd w.1 h⟩
theorem pw_cif {p : Prop} {l : List Z4} (h : l.Pairwise zgr) : (cif p l []).Pairwise zgr := by
  by_cases hp : p
  · rw [cif_t hp]; exact h
  · rw [cif_f hp]; exact List.Pairwise.nil
/-- the root -/
def rt : Nat → Nat
  | 0 => 0
  | v + 1 => if (rt v + 1) * (rt v + 1) ≤ v + 1 then rt v + 1 else rt v
theorem rt_ok : ∀ v : Nat, rt v * rt v ≤ v ∧ v < (rt v + 1) * (rt v + 1)
  | 0 => by decide
  | v + 1 => by
    obtain ⟨h1, h2⟩ := rt_ok v
    rw [rt]
    by_cases h : (rt v + 1) * (rt v + 1) ≤ v + 1
    · rw [if_pos h]
      refine ⟨h, ?_⟩
      have := Nat.mul_lt_mul'' (show rt v + 1 < rt v + 1 + 1 by omega) (show rt v + 1 < rt v + 1 + 1 by omega)
      omega
    · rw [if_neg h]; omega
theorem rt_sq {v k : Nat} (h1 : k * k ≤ v) (h2 : v < (k + 1) * (k + 1)) : rt v = k := by
  obtain ⟨h3, h4⟩ := rt_ok v
  rcases Nat.lt_trichotomy (rt v) k with q | q | q
  · have := Nat.mul_le_mul (show rt v + 1 ≤ k by omega) (show rt v + 1 ≤ k by omega); omega
  · exact q
  · have := Nat.mul_le_mul (show k + 1 ≤ rt v by omega) (show k + 1 ≤ rt v by omega); omega
theorem rt_le {v k : Nat} (h2 : v < (k + 1) * (k + 1)) : rt v ≤ k := by
  obtain ⟨h3, h4⟩ := rt_ok v
  rcases Nat.lt_or_ge k (rt v) with q | q
  · have := Nat.mul_le_mul (show k + 1 ≤ rt v by omega) (show k + 1 ≤ rt v by omega); omega
  · exact q
theorem abs_sq {x : Int} {m : Nat} (h : x * x < ((m : Int) + 1) * ((m : Int) + 1)) : -(m : Int) ≤ x ∧ x ≤ m := by
  constructor
  · rcases (show -(m : Int) ≤ x ∨ (m : Int) + 1 ≤ -x by omega) with q | q
    · exact q
    · have := Int.mul_le_mul q q (by omega) (by omega)
      rw [Int.neg_mul_neg] at this; omega
  · rcases (show x ≤ (m : Int) ∨ (m : Int) + 1 ≤ x by omega) with q | q
    · exact q
    · have := Int.mul_le_mul q q (by omega) (by omega); omega
theorem sq4 (x : Int) : x * x % 4 = x % 2 := by
  rcases (show x % 2 = 0 ∨ x % 2 = 1 by omega) with q | q
  · obtain ⟨y, rfl⟩ : ∃ y, x = 2 * y := ⟨x / 2, by omega⟩
    have e : 2 * y * (2 * y) = 4 * (y * y) := by grind
    rw [e]; omega
  · obtain ⟨y, rfl⟩ : ∃ y, x = 2 * y + 1 := ⟨x / 2, by omega⟩
    have e : (2 * y + 1) * (2 * y + 1) = 4 * (y * y + y) + 1 := by grind
    rw [e]; omega
/-- of a number with a whole norm: even or odd together -/
theorem zok_2 {t : Z4} {N : Int} (h : zsq t = 4 * N) : zok t ↔ (t.1 * t.1 + t.2.1 * t.2.1) % 2 = 0 := by
  have a := sq4 t.1
  have b := sq4 t.2.1
  have c := sq4 t.2.2.1
  have d := sq4 t.2.2.2
  unfold zsq at h
  unfold zok
  omega
theorem zok_4 {t : Z4} {N : Int} (h : zsq t = 4 * N) : (zok t ∧ t.1 % 2 = 0) ↔ (t.1 * t.1 + t.2.1 * t.2.1) % 4 = 0 := by
  have a := sq4 t.1
  have b := sq4 t.2.1
  have c := sq4 t.2.2.1
  have d := sq4 t.2.2.2
  unfold zsq at h
  unfold zok
  omega
