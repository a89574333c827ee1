/-! What divides on the left -/
def zld (r y : Z4) : Prop := ∃ a : Z4, zok a ∧ y = zmul r a
theorem tz_0 {y : Q4} (h : qzero y) : tz y = (0, 0, 0, 0) := by
  obtain ⟨h1, h2, h3, h4⟩ := h
  unfold tz
  rw [h1, h2, h3, h4]; rfl
theorem ld_self (x : Z4) : zld x x := ⟨z1, z1_ok, (zmul_1 x).symm⟩
theorem ld_0 (x : Z4) : zld x (0, 0, 0, 0) := ⟨(0, 0, 0, 0), ⟨rfl, rfl, rfl⟩, (zmul_0 x).symm⟩
theorem ld_step {r x y q : Z4} (hr : zok r) (hq : zok q) (h1 : zld r y) (h2 : zld r (zsub x (zmul y q))) : zld r x := by
  obtain ⟨a, ha, rfl⟩ := h1
  obtain ⟨b, hb, hbe⟩ := h2
  rw [zassoc hr ha hq] at hbe
  have haq := (zn_par ha hq).2.2.2.2
  refine ⟨zadd b (zmul a q), zadd_ok hb haq, ?_⟩
  rw [zmul_add hr hb haq, ← hbe]
  unfold zadd zsub
  obtain ⟨x0, x1, x2, x3⟩ := x
  simp only [Prod.mk.injEq]
  omega
/-- the divisor on side 1 divides both on the left -/
theorem dvl_ld : ∀ (n : Nat) (x y : Q4), zok (tz x) → zok (tz y) → zb 800000000 (tz x) → zsq (tz y) ≤ 1600000000 → zsq (tz y) < 4 * 2 ^ n → zld (tz (dvl 1 n x y)) (tz x) ∧ zld (tz (dvl 1 n x y)) (tz y)
  | 0, x, y, ox, oy, hx, hy, hn => by
    have h4 := zsq_4 oy
    have h0 := zsq_nn (tz y)
    have hz : qzero y := qz_z.mpr (by omega)
    refine ⟨ld_self _, ?_⟩
    rw [tz_0 hz]; exact ld_0 _
  | n + 1, x, y, ox, oy, hx, hy, hn => by
    by_cases hz : qzero y
    · rw [dvl, if_pos ((qn_0 oy hy).mpr hz)]
      refine ⟨ld_self _, ?_⟩
      rw [tz_0 hz]; exact ld_0 _
    · obtain ⟨-, -, h1, h2, k1, k2⟩ := stp (sd := 1) ox oy hx hy hz
      have h0 := zsq_nn (tz (rst 1 x y))
      have hp : (4 : Int) * 2 ^ (n + 1) = 2 * (4 * 2 ^ n) := by rw [Int.pow_succ]; omega
      have hyb := zb_mono (zb_of hy) (show (40000 : Int) ≤ 800000000 by decide)
      obtain ⟨a1, a2⟩ := dvl_ld n y (rst 1 x y) oy h1 hyb (by omega) (by omega)
      obtain ⟨ro, -⟩ := dvl_ok (sd := 1) n y (rst 1 x y) oy h1 hyb (by omega)
      rw [dvl, if_neg (fun w => hz ((qn_0 oy hy).mp w))]
      refine ⟨ld_step ro (zquo_ok 1 (tz x) (tz y)) a1 ?_, a1⟩
      rw [k2] at a2
      exact a2
theorem grl_or {sd : Int32} {x : Q4} : ∀ n : Nat, grl sd x n = x ∨ ∃ u, u < n ∧ grl sd x n = qon sd x (uq4 u)
  | 0 => Or.inl rfl
  | n + 1 => by
    by_cases h : qgr (qon sd x (uq4 n)) (grl sd x n)
    · rw [grl_t h]; exact Or.inr ⟨n, by omega, rfl⟩
    · rw [grl_f h]
      rcases grl_or (sd := sd) (x := x) n with q | ⟨u, hu, q⟩
      · exact Or.inl q
      · exact Or.inr ⟨u, by omega, q⟩
theorem un_ok : ∀ u : Nat, u < 24 → (tz (uq4 u)).2.1 % 2 = (tz (uq4 u)).1 % 2 ∧ (tz (uq4 u)).2.2.1 % 2 = (tz (uq4 u)).1 % 2 ∧ (tz (uq4 u)).2.2.2 % 2 = (tz (uq4 u)).1 % 2 ∧ zsq (tz (uq4 u)) = 4 := by decide +kernel
theorem un_b {u : Nat} (h : u < 24) : zb 2 (tz (uq4 u)) := by
  obtain ⟨B, h0, hB, hBB⟩ := zsq_b (tz (uq4 u))
  rw [(un_ok u h).2.2.2] at hBB
  exact zb_mono hB (sq_le (by decide) (by omega))
/-- what is like x, by a unit -/
theorem like_z {sd : Int32} {x : Q4} {u : Nat} (hu : u < 24) (ox : zok (tz x)) (hx : zb 800000000 (tz x)) : tz (qon sd x (uq4 u)) = zon sd (tz x) (tz (uq4 u)) ∧ zok (tz (qon sd x (uq4 u))) ∧ zsq (tz (qon sd x (uq4 u))) = zsq (tz x) := by
  obtain ⟨u1, u2, u3, u4⟩ := un_ok u hu
  have uo : zok (tz (uq4 u)) := ⟨u1, u2, u3⟩
  have e := (qon_z (sd := sd) hx (un_b hu) (by decide) ox uo).1
  refine ⟨e, by rw [e]; exact zon_ok ox uo, ?_⟩
  rw [e]
  unfold zon
  split
  · have := zmul_sq ox uo
    rw [u4] at this
    omega
  · have := zmul_sq uo ox
    rw [u4] at this
    omega
theorem grl_ok {sd : Int32} {x : Q4} (ox : zok (tz x)) (hx : zb 800000000 (tz x)) {n : Nat} (hn : n ≤ 24) : zok (tz (grl sd x n)) ∧ zsq (tz (grl sd x n)) = zsq (tz x) := by
  rcases grl_or (sd := sd) (x := x) n with q | ⟨u, hu, q⟩
  · rw [q]; exact ⟨ox, rfl⟩
  · rw [q]; exact (like_z (by omega) ox hx).2
theorem zsq_zb {x : Z4} {B : Int} (h : zsq x ≤ B * B) (hB : 0 ≤ B) : zb B x := by
  obtain ⟨C, h0, hC, hCC⟩ := zsq_b x
  exact zb_mono hC (sq_le hB (by omega))
/-- the greatest one like x on the right divides what x divides on the left -/
theorem grl_ld {x : Q4} {y : Z4} (ox : zok (tz x)) (hx : zb 800000000 (tz x)) (h : zld (tz x) y) {n : Nat} (hn : n ≤ 24) : zld (tz (grl 0 x n)) y := by
  rcases grl_or (sd := 0) (x := x) n with q | ⟨u, hu, q⟩
  · rw [q]; exact h
  · rw [q, (like_z (sd := 0) (show u < 24 by omega) ox hx).1]
    obtain ⟨u1, u2, u3, u4⟩ := un_ok u (by omega)
    have uo : zok (tz (uq4 u)) := ⟨u1, u2, u3⟩
    obtain ⟨a, ha, rfl⟩ := h
    have um := zmir_ok uo
    refine ⟨zmul (zmir (tz (uq4 u))) a, (zn_par um ha).2.2.2.2, ?_⟩
    show _ = zmul (zmul (tz x) (tz (uq4 u))) (zmul (zmir (tz (uq4 u))) a)
    rw [zassoc ox uo (zn_par um ha).2.2.2.2, ← zassoc uo um ha, zmir_r uo, u4]
    rw [show (2 * ((4 : Int) / 4), (0 : Int), (0 : Int), (0 : Int)) = (2 * 1, 0, 0, 0) from rfl, zmul_l]
    simp only [Int.one_mul]
