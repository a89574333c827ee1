/-! Primitive ones: what is left when those are taken out that are m times a number -/
def zg (t : Z4) : Nat := Nat.gcd (Nat.gcd t.1.natAbs t.2.1.natAbs) (Nat.gcd t.2.2.1.natAbs t.2.2.2.natAbs)
def zdv (t : Z4) (g : Int) : Z4 := (t.1 / g, t.2.1 / g, t.2.2.1 / g, t.2.2.2 / g)
def zsc (m : Int) (t : Z4) : Z4 := (m * t.1, m * t.2.1, m * t.2.2.1, m * t.2.2.2)
noncomputable def ct (t : Z4) : Nat := cif (zok (zdv t (zg t))) (zg t) (zg t / 2)
def ppr (t : Z4) : Prop := zg t = 1 ∨ (zg t = 2 ∧ ¬ zok (zdv t 2))
theorem zg_d (t : Z4) : (zg t : Int) ∣ t.1 ∧ (zg t : Int) ∣ t.2.1 ∧ (zg t : Int) ∣ t.2.2.1 ∧ (zg t : Int) ∣ t.2.2.2 := by
  unfold zg
  refine ⟨?_, ?_, ?_, ?_⟩ <;> apply Int.ofNat_dvd_left.mpr
  · exact Nat.dvd_trans (Nat.gcd_dvd_left _ _) (Nat.gcd_dvd_left _ _)
  · exact Nat.dvd_trans (Nat.gcd_dvd_left _ _) (Nat.gcd_dvd_right _ _)
  · exact Nat.dvd_trans (Nat.gcd_dvd_right _ _) (Nat.gcd_dvd_left _ _)
  · exact Nat.dvd_trans (Nat.gcd_dvd_right _ _) (Nat.gcd_dvd_right _ _)
theorem zsc_dv (t : Z4) : t = zsc (zg t) (zdv t (zg t)) := by
  obtain ⟨h0, h1, h2, h3⟩ := zg_d t
  unfold zsc zdv
  dsimp only
  rw [Int.mul_ediv_cancel' h0, Int.mul_ediv_cancel' h1, Int.mul_ediv_cancel' h2, Int.mul_ediv_cancel' h3]
theorem zg_sc (m : Nat) (y : Z4) : zg (zsc (m : Int) y) = m * zg y := by
  unfold zg zsc
  dsimp only
  rw [Int.natAbs_mul, Int.natAbs_mul, Int.natAbs_mul, Int.natAbs_mul, Int.natAbs_natCast, Nat.gcd_mul_left, Nat.gcd_mul_left, Nat.gcd_mul_left]
theorem zg_1 {t : Z4} (h : 0 < zg t) : zg (zdv t (zg t)) = 1 := by
  have e := congrArg zg (zsc_dv t)
  rw [zg_sc] at e
  have e2 : zg t * 1 = zg t * zg (zdv t (zg t)) := by omega
  exact (Nat.eq_of_mul_eq_mul_left h e2).symm
theorem zsc_ok {m : Int} {y : Z4} (h : zok y) : zok (zsc m y) := by
  obtain ⟨h1, h2, h3⟩ := h
  unfold zsc zok
  dsimp only
  refine ⟨?_, ?_, ?_⟩
  · rw [Int.mul_emod, h1, ← Int.mul_emod]
  · rw [Int.mul_emod, h2, ← Int.mul_emod]
  · rw [Int.mul_emod, h3, ← Int.mul_emod]
theorem zsc_odd {m : Int} {y : Z4} (hm : m % 2 = 1) (h : zok (zsc m y)) : zok y := by
  obtain ⟨h1, h2, h3⟩ := h
  have key : ∀ v : Int, m * v % 2 = v % 2 := fun v => by
    rw [Int.mul_emod, hm, Int.one_mul, Int.emod_emod]
  unfold zsc at h1 h2 h3
  dsimp only at h1 h2 h3
  rw [key, key] at h1 h2 h3
  exact ⟨h1, h2, h3⟩
theorem zsc_sq (m : Int) (y : Z4) : zsq (zsc m y) = m * m * zsq y := by
  unfold zsq zsc
  grind
theorem zsc_sc (m n : Int) (y : Z4) : zsc m (zsc n y) = zsc (m * n) y := by
  unfold zsc
  dsimp only
  rw [Int.mul_assoc, Int.mul_assoc, Int.mul_assoc, Int.mul_assoc]
theorem zdv_sc {m : Int} (hm : 0 < m) (y : Z4) (g : Int) : zdv (zsc m y) (m * g) = zdv y g := by
  unfold zdv zsc
  dsimp only
  rw [Int.mul_ediv_mul_of_pos _ _ hm, Int.mul_ediv_mul_of_pos _ _ hm, Int.mul_ediv_mul_of_pos _ _ hm, Int.mul_ediv_mul_of_pos _ _ hm]
theorem zdv_1 (y : Z4) : zdv y 1 = y := by
  unfold zdv
  rw [Int.ediv_one, Int.ediv_one, Int.ediv_one, Int.ediv_one]
theorem ct_spec {t : Z4} (h : zok t) (h0 : 0 < zg t) : ∃ y, t = zsc (ct t) y ∧ zok y ∧ ppr y ∧ 0 < ct t := by
  have e := zsc_dv t
  have e1 := zg_1 h0
  unfold ct
  by_cases hz : zok (zdv t (zg t))
  · rw [cif_t hz]
    exact ⟨_, e, hz, Or.inl e1, h0⟩
  · rw [cif_f hz]
    have hev : zg t % 2 = 0 := by
      rcases (show zg t % 2 = 0 ∨ zg t % 2 = 1 by omega) with q | q
      · exact q
      · rw [e] at h
        exact absurd (zsc_odd (by omega) h) hz
    obtain ⟨k, hk⟩ : ∃ k, zg t = k * 2 := ⟨zg t / 2, by omega⟩
    have hk2 : zg t / 2 = k := by omega
    rw [hk2]
    refine ⟨zsc 2 (zdv t (zg t)), ?_, ⟨?_, ?_, ?_⟩, Or.inr ⟨?_, ?_⟩, by omega⟩
    · rw [zsc_sc, show (k : Int) * 2 = (zg t : Int) by omega]; exact e
    · unfold zsc; dsimp only; omega
    · unfold zsc; dsimp only; omega
    · unfold zsc; dsimp only; omega
    · have := zg_sc 2 (zdv t (zg t))
      rw [e1] at this; exact this
    · have := zdv_sc (m := 2) (by decide) (zdv t (zg t)) 1
      rw [zdv_1] at this
      rw [show zdv (zsc 2 (zdv t (zg t))) 2 = zdv t (zg t) from this]; exact hz
theorem ct_sc {m : Nat} {y : Z4} (hm : 0 < m) (hy : zok y) (hp : ppr y) : ct (zsc (m : Int) y) = m := by
  unfold ct
  rw [zg_sc]
  rcases hp with h | ⟨h, hz⟩
  · rw [h, Nat.mul_one]
    have := zdv_sc (m := (m : Int)) (by omega) y 1
    rw [zdv_1, Int.mul_one] at this
    rw [this, cif_t hy]
  · rw [h]
    have := zdv_sc (m := (m : Int)) (by omega) y 2
    rw [show ((m * 2 : Nat) : Int) = (m : Int) * 2 by omega, this, cif_f hz]
    omega
/-! The class's test is this one -/
theorem iI_l {a : Int} (h : -28 ≤ a ∧ a ≤ 28) : (iI a).toInt64.toInt = a := by
  rw [Int32.toInt_toInt64, iI_toInt (by omega) (by omega)]
theorem q4i_tz {t : Z4} (h : zb 28 t) : tz (q4i t) = t := by
  obtain ⟨t0, t1, t2, t3⟩ := t
  obtain ⟨h0, h1, h2, h3⟩ := h
  unfold tz q4i
  dsimp only
  rw [iI_l h0, iI_l h1, iI_l h2, iI_l h3]
theorem q4i_nh {t : Z4} (h : zb 28 t) : ¬ qhigh (q4i t) := by
  rw [low_z, q4i_tz h]; exact zb_mono h (by decide)
theorem qpr_p {t : Z4} (h : zb 28 t) : qpr (q4i t) ↔ ppr t := by
  have ht := q4i_tz h
  have hx := q4i_nh h
  rw [← (qpr_M hx).1]
  generalize q4i t = x at *
  have e0 : x.1.toInt = t.1 := congrArg (fun v => v.1) ht
  have e1 : x.2.1.toInt = t.2.1 := congrArg (fun v => v.2.1) ht
  have e2 : x.2.2.1.toInt = t.2.2.1 := congrArg (fun v => v.2.2.1) ht
  have e3 : x.2.2.2.toInt = t.2.2.2 := congrArg (fun v => v.2.2.2) ht
  have hg : gk x = zg t := by unfold gk zg; rw [e0, e1, e2, e3]
  have hz := gk_0 (x := x)
  rw [hg] at hz ⊢
  obtain ⟨d0, d1, d2, d3⟩ := zg_d t
  have hhalf : zg t % 2 = 0 → (oneM (x.1 / 2) (x.2.1 / 2) (x.2.2.1 / 2) (x.2.2.2 / 2) ↔ zok (zdv t 2)) := fun h2 => by
    have ev : ∀ v : Int, (zg t : Int) ∣ v → v % 2 = 0 := fun v hv => by
      obtain ⟨k, hk⟩ := hv
      obtain ⟨s, hs⟩ : ∃ s : Nat, zg t = 2 * s := ⟨zg t / 2, by omega⟩
      rw [hs] at hk
      have : v = 2 * ((s : Int) * k) := by rw [hk]; push_cast; rw [Int.mul_assoc]
      omega
    rw [oneM_z, half_e (by rw [e0]; exact ev _ d0), half_e (by rw [e1]; exact ev _ d1), half_e (by rw [e2]; exact ev _ d2), half_e (by rw [e3]; exact ev _ d3), e0, e1, e2, e3]
    exact Iff.rfl
  unfold prM ppr
  constructor
  · rintro ⟨n0, n1, n2⟩
    rcases od_1 31 _ n1 with w | w | w
    · exact Or.inl w
    · exact Or.inr ⟨w, fun v => n2 ⟨by omega, (hhalf (by omega)).mpr v⟩⟩
    · exfalso
      apply n2
      refine ⟨by omega, (hhalf (by omega)).mpr ?_⟩
      have ev : ∀ v : Int, (zg t : Int) ∣ v → v / 2 % 2 = 0 := fun v hv => by
        obtain ⟨k, hk⟩ := hv
        obtain ⟨s, hs⟩ : ∃ s : Nat, zg t = 4 * s := ⟨zg t / 4, by omega⟩
        rw [hs] at hk
        have : v = 4 * ((s : Int) * k) := by rw [hk]; push_cast; rw [Int.mul_assoc]
        omega
      have v0 := ev _ d0
      have v1 := ev _ d1
      have v2 := ev _ d2
      have v3 := ev _ d3
      unfold zdv
      refine ⟨?_, ?_, ?_⟩ <;> dsimp only <;> omega
  · rintro (w | ⟨w, v⟩)
    · exact ⟨fun q => by have := hz.mpr q; omega, by rw [w]; rfl, fun q => by omega⟩
    · exact ⟨fun q => by have := hz.mpr q; omega, by rw [w]; rfl, fun q => v ((hhalf (by omega)).mp q.2)⟩
theorem zb_28 {N : Nat} (hN : N ≤ 200) {t : Z4} (h : zsq t = 4 * (N : Int)) : zb 28 t := by
  have s0 := sqnn t.1
  have s1 := sqnn t.2.1
  have s2 := sqnn t.2.2.1
  have s3 := sqnn t.2.2.2
  unfold zsq at h
  exact ⟨b28 (by omega), b28 (by omega), b28 (by omega), b28 (by omega)⟩
theorem qpi_p {t : Z4} (h : zb 28 t) : qpi t ↔ ppr t := Iff.trans (qpi_iff t) (qpr_p h)
theorem selP_2 (t : Z4) : selP 2 t ↔ qpi t := by
  unfold selP
  constructor
  · rintro (q | q | q)
    · exact absurd q (by decide)
    · exact absurd q.1 (by decide)
    · exact q.2
  · intro h; exact Or.inr (Or.inr ⟨rfl, h⟩)
theorem mem_r2 {N : Nat} (hN : N ≤ 200) {t : Z4} : t ∈ rA N 2 ↔ zsq t = 4 * (N : Int) ∧ zok t ∧ ppr t := by
  rw [mem_rA]
  unfold selw
  rw [selP_2]
  exact and_congr_right (fun h1 => and_congr Iff.rfl (qpi_p (zb_28 hN h1)))
theorem mem_r0 {N : Nat} {t : Z4} : t ∈ rA N 0 ↔ zsq t = 4 * (N : Int) ∧ zok t := by
  rw [mem_rA]
  unfold selw selP
  exact ⟨fun h => ⟨h.1, h.2.1⟩, fun h => ⟨h.1, h.2, Or.inl rfl⟩⟩
theorem zg_pos {t : Z4} (h : 0 < zsq t) : 0 < zg t := by
  rcases Nat.eq_zero_or_pos (zg t) with q | q
  · have e := zsc_dv t
    rw [q] at e
    rw [e, zsc_sq] at h
    rw [show ((0 : Nat) : Int) = 0 from rfl, Int.zero_mul, Int.zero_mul] at h
    omega
  · exact q
theorem ct_in {N : Nat} (h1 : 1 ≤ N) {t : Z4} (ht : t ∈ rA N 0) : ∃ (y : Z4) (q : Nat), t = zsc (ct t) y ∧ zok y ∧ ppr y ∧ 0 < ct t ∧ zsq y = 4 * (q : Int) ∧ N = ct t * ct t * q ∧ 1 ≤ q := by
  obtain ⟨e1, e2⟩ := mem_r0.mp ht
  obtain ⟨y, f1, f2, f3, f4⟩ := ct_spec e2 (zg_pos (by omega))
  have h4 := zsq_4 f2
  have hn := zsq_nn y
  obtain ⟨q, hq⟩ : ∃ q : Nat, zsq y = 4 * (q : Int) := ⟨(zsq y / 4).toNat, by omega⟩
  have e3 : zsq t = (ct t : Int) * (ct t : Int) * zsq y := by
    have := zsc_sq (ct t : Int) y
    rw [← f1] at this; exact this
  rw [e1, hq] at e3
  have e4 : (N : Int) = (ct t : Int) * (ct t : Int) * q := by
    have : (ct t : Int) * (ct t : Int) * (4 * (q : Int)) = 4 * ((ct t : Int) * (ct t : Int) * q) := by grind
    omega
  have e5 : N = ct t * ct t * q := by exact_mod_cast e4
  refine ⟨y, q, f1, f2, f3, f4, hq, e5, ?_⟩
  rcases Nat.eq_zero_or_pos q with w | w
  · rw [w, Nat.mul_zero] at e5; omega
  · exact w
theorem zsc_gr {m : Int} (hm : 0 < m) {t u : Z4} (h : zgr t u) : zgr (zsc m t) (zsc m u) := by
  have lt : ∀ a b : Int, a < b → m * a < m * b := fun a b q => Int.mul_lt_mul_of_pos_left q hm
  unfold zgr zsc at *
  dsimp only
  rcases h with q | ⟨e, q | ⟨e2, q | ⟨e3, q⟩⟩⟩
  · exact Or.inl (lt _ _ q)
  · exact Or.inr ⟨by rw [e], Or.inl (lt _ _ q)⟩
  · exact Or.inr ⟨by rw [e], Or.inr ⟨by rw [e2], Or.inl (lt _ _ q)⟩⟩
  · exact Or.inr ⟨by rw [e], Or.inr ⟨by rw [e2], Or.inr ⟨by rw [e3], lt _ _ q⟩⟩⟩
theorem part_m {N m : Nat} (h1 : 1 ≤ N) (h2 : N ≤ 200) (hm : 0 < m) : ((rA N 0).filter (fun t => decide (ct t = m))).length = if N % (m * m) = 0 then (rA (N / (m * m)) 2).length else 0 := by
  by_cases hd : N % (m * m) = 0
  · rw [if_pos hd]
    have hmm : 0 < m * m := Nat.mul_pos hm hm
    have e : (rA N 0).filter (fun t => decide (ct t = m)) = (rA (N / (m * m)) 2).map (zsc (m : Int)) := by
      have hq2 : N / (m * m) ≤ 200 := Nat.le_trans (Nat.div_le_self _ _) h2
      refine pw_uniq _ _ (pw_rA.filter _) ?_ (fun t => ?_)
      · rw [List.pairwise_map]
        exact pw_rA.imp (fun h => zsc_gr (by omega) h)
      · rw [List.mem_filter, List.mem_map]
        constructor
        · rintro ⟨ht, hc⟩
          have hc := of_decide_eq_true hc
          obtain ⟨y, q, f1, f2, f3, f4, f5, f6, f7⟩ := ct_in h1 ht
          rw [hc] at f1 f6
          have : N / (m * m) = q := by rw [f6]; exact Nat.mul_div_cancel_left q hmm
          rw [this] at hq2 ⊢
          exact ⟨y, (mem_r2 hq2).mpr ⟨f5, f2, f3⟩, f1.symm⟩
        · rintro ⟨y, hy, rfl⟩
          obtain ⟨f5, f2, f3⟩ := (mem_r2 hq2).mp hy
          refine ⟨mem_r0.mpr ⟨?_, zsc_ok f2⟩, decide_eq_true (ct_sc hm f2 f3)⟩
          have hN : N = m * m * (N / (m * m)) := (Nat.mul_div_cancel' (Nat.dvd_of_mod_eq_zero hd)).symm
          rw [zsc_sq, f5]
          have hN2 : (N : Int) = (m : Int) * m * ((N / (m * m) : Nat) : Int) := by
            rw [← Int.natCast_mul, ← Int.natCast_mul]
            exact congrArg Int.ofNat hN
          generalize ((N / (m * m) : Nat) : Int) = q at *
          rw [hN2]; grind
    rw [e, List.length_map]
  · rw [if_neg hd]
    have e : (rA N 0).filter (fun t => decide (ct t = m)) = [] := by
      rw [List.filter_eq_nil_iff]
      intro t ht hc
      have hc := of_decide_eq_true hc
      obtain ⟨y, q, f1, f2, f3, f4, f5, f6, f7⟩ := ct_in h1 ht
      rw [hc] at f6
      exact hd (by rw [f6, Nat.mul_mod_right])
    rw [e]; rfl
theorem len_split (f : Z4 → Nat) {n : Nat} : ∀ l : List Z4, (∀ t ∈ l, f t < n) → sm (fun m => (l.filter (fun t => decide (f t = m))).length) n = l.length
  | [], _ => by
    have : (fun m => (([] : List Z4).filter (fun t => decide (f t = m))).length) = fun _ => 0 := rfl
    rw [this, sm_0]; rfl
  | a :: l, h => by
    have ih := len_split f l (fun t ht => h t (List.mem_cons_of_mem _ ht))
    have e : (fun m => ((a :: l).filter (fun t => decide (f t = m))).length) = fun m => (l.filter (fun t => decide (f t = m))).length + (if f a = m then 1 else 0) := by
      funext m
      by_cases q : f a = m
      · rw [List.filter_cons_of_pos (by simpa using q), List.length_cons, if_pos q]
      · rw [List.filter_cons_of_neg (by simpa using q), if_neg q, Nat.add_zero]
    rw [e, sm_add, ih, sm_one (F := fun _ => 1), if_pos (h a List.mem_cons_self), List.length_cons]
theorem sm_1 {f g : Nat → Nat} (h : sm f 15 = sm g 15) (e : ∀ k, k < 15 → k ≠ 1 → f k = g k) : f 1 = g 1 := by
  have e0 := e 0 (by decide) (by decide)
  have e2 := e 2 (by decide) (by decide)
  have e3 := e 3 (by decide) (by decide)
  have e4 := e 4 (by decide) (by decide)
  have e5 := e 5 (by decide) (by decide)
  have e6 := e 6 (by decide) (by decide)
  have e7 := e 7 (by decide) (by decide)
  have e8 := e 8 (by decide) (by decide)
  have e9 := e 9 (by decide) (by decide)
  have e10 := e 10 (by decide) (by decide)
  have e11 := e 11 (by decide) (by decide)
  have e12 := e 12 (by decide) (by decide)
  have e13 := e 13 (by decide) (by decide)
  have e14 := e 14 (by decide) (by decide)
  simp only [sm] at h
  omega
def pz (N : Nat) : Nat := (cP N 14).toNatClampNeg
def pzs (N : Nat) : Nat := sm (fun m => if m = 0 then 0 else if N % (m * m) = 0 then pz (N / (m * m)) else 0) 15
theorem pz_ok : ∀ k : Nat, k < 200 → nI (pz (k + 1)) = cP (k + 1) 14 ∧ pzs (k + 1) = mAll (k + 1) := by decide +kernel
theorem prim_z : ∀ n N : Nat, N < n → 1 ≤ N → N ≤ 200 → (rA N 2).length = pz N
  | 0, N, h, _, _ => absurd h (Nat.not_lt_zero N)
  | n + 1, N, h, h1, h2 => by
    have hc : ∀ t ∈ rA N 0, ct t < 15 := fun t ht => by
      obtain ⟨y, q, f1, f2, f3, f4, f5, f6, f7⟩ := ct_in h1 ht
      rcases Nat.lt_or_ge (ct t) 15 with w | w
      · exact w
      · have a := Nat.mul_le_mul w w
        have b := Nat.le_mul_of_pos_right (ct t * ct t) f7
        omega
    have e1 := len_split ct (n := 15) (rA N 0) hc
    rw [all_len h1 h2] at e1
    have e2 : pzs N = mAll N := by
      have := (pz_ok (N - 1) (by omega)).2
      rw [show N - 1 + 1 = N by omega] at this; exact this
    have e3 := e1.trans e2.symm
    unfold pzs at e3
    have e4 := sm_1 e3 (fun k hk hne => ?_)
    · rw [part_m h1 h2 (by decide), if_pos (by omega), if_neg (by decide), if_pos (by omega), show 1 * 1 = 1 from rfl, Nat.div_one] at e4
      exact e4
    · by_cases hk0 : k = 0
      · subst hk0
        rw [if_pos rfl]
        have e : (rA N 0).filter (fun t => decide (ct t = 0)) = [] := by
          rw [List.filter_eq_nil_iff]
          intro t ht hc
          have hc := of_decide_eq_true hc
          obtain ⟨y, q, f1, f2, f3, f4, -⟩ := ct_in h1 ht
          omega
        rw [e]; rfl
      · rw [part_m h1 h2 (by omega), if_neg hk0]
        by_cases hd : N % (k * k) = 0
        · rw [if_pos hd, if_pos hd]
          have hkk : 2 ≤ k * k := Nat.le_trans (show 2 ≤ k by omega) (Nat.le_mul_self k)
          have hq : N = k * k * (N / (k * k)) := (Nat.mul_div_cancel' (Nat.dvd_of_mod_eq_zero hd)).symm
          have hlt : N / (k * k) < N := Nat.div_lt_self (by omega) hkk
          refine prim_z n (N / (k * k)) (by omega) ?_ (by omega)
          rcases Nat.eq_zero_or_pos (N / (k * k)) with w | w
          · rw [w, Nat.mul_zero] at hq; omega
          · exact w
        · rw [if_neg hd, if_neg hd]
theorem prim_len {N : Nat} (h1 : 1 ≤ N) (h2 : N ≤ 200) : nI (rA N 2).length = cP N 14 := by
  rw [prim_z (N + 1) N (by omega) h1 h2]
  have := (pz_ok (N - 1) (by omega)).1
  rw [show N - 1 + 1 = N by omega] at this; exact this
