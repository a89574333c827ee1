/-! Dividing over the integers -/
def zon (sd : Int32) (x y : Z4) : Z4 := if sd = 0 then zmul x y else zmul y x
def zrat (sd : Int32) (x y : Z4) : Z4 := zon sd x (zmir y)
def zwhole (w : Z4) (n : Int) : Z4 := (2 * ((w.1 + n) / (2 * n)), 2 * ((w.2.1 + n) / (2 * n)), 2 * ((w.2.2.1 + n) / (2 * n)), 2 * ((w.2.2.2 + n) / (2 * n)))
def zhalf (w : Z4) (n : Int) : Z4 := (2 * (w.1 / (2 * n)) + 1, 2 * (w.2.1 / (2 * n)) + 1, 2 * (w.2.2.1 / (2 * n)) + 1, 2 * (w.2.2.2 / (2 * n)) + 1)
def zoff (q w : Z4) (n : Int) : Int := (w.1 - n * q.1) * (w.1 - n * q.1) + (w.2.1 - n * q.2.1) * (w.2.1 - n * q.2.1) + (w.2.2.1 - n * q.2.2.1) * (w.2.2.1 - n * q.2.2.1) + (w.2.2.2 - n * q.2.2.2) * (w.2.2.2 - n * q.2.2.2)
def zquo (sd : Int32) (x y : Z4) : Z4 := if zoff (zwhole (zrat sd x y) (zsq y / 4)) (zrat sd x y) (zsq y / 4) ≤ zoff (zhalf (zrat sd x y) (zsq y / 4)) (zrat sd x y) (zsq y / 4) then zwhole (zrat sd x y) (zsq y / 4) else zhalf (zrat sd x y) (zsq y / 4)
def zrst (sd : Int32) (x y : Z4) : Z4 := zsub x (zon sd (zquo sd x y) y)
theorem zmir_ok {y : Z4} (h : zok y) : zok (zmir y) := by
  obtain ⟨h1, h2, h3⟩ := h
  unfold zmir
  refine ⟨?_, ?_, ?_⟩ <;> dsimp only <;> omega
theorem zmir_sq (y : Z4) : zsq (zmir y) = zsq y := by unfold zsq zmir; grind
theorem zon_ok {sd : Int32} {x y : Z4} (hx : zok x) (hy : zok y) : zok (zon sd x y) := by
  unfold zon
  split
  · exact (zn_par hx hy).2.2.2.2
  · exact (zn_par hy hx).2.2.2.2
theorem zsub_ok {x y : Z4} (hx : zok x) (hy : zok y) : zok (zsub x y) := by
  obtain ⟨h1, h2, h3⟩ := hx
  obtain ⟨k1, k2, k3⟩ := hy
  unfold zsub
  refine ⟨?_, ?_, ?_⟩ <;> dsimp only <;> omega
theorem zwhole_ok (w : Z4) (n : Int) : zok (zwhole w n) := by
  unfold zwhole
  refine ⟨?_, ?_, ?_⟩ <;> dsimp only <;> omega
theorem zhalf_ok (w : Z4) (n : Int) : zok (zhalf w n) := by
  unfold zhalf
  refine ⟨?_, ?_, ?_⟩ <;> dsimp only <;> omega
theorem zquo_ok (sd : Int32) (x y : Z4) : zok (zquo sd x y) := by
  unfold zquo
  split
  · exact zwhole_ok _ _
  · exact zhalf_ok _ _
theorem zrst_ok {sd : Int32} {x y : Z4} (hx : zok x) (hy : zok y) : zok (zrst sd x y) := zsub_ok hx (zon_ok (zquo_ok sd x y) hy)
theorem zoff_le {w : Z4} {n : Int} (hn : 0 < n) : zoff (zwhole w n) w n + zoff (zhalf w n) w n ≤ 4 * (n * n) := by
  obtain ⟨s0, a0, b0, c0, d0⟩ := near1 (w := w.1) hn
  obtain ⟨s1, a1, b1, c1, d1⟩ := near1 (w := w.2.1) hn
  obtain ⟨s2, a2, b2, c2, d2⟩ := near1 (w := w.2.2.1) hn
  obtain ⟨s3, a3, b3, c3, d3⟩ := near1 (w := w.2.2.2) hn
  have := near4 (n := n) ⟨a0, b0⟩ ⟨a1, b1⟩ ⟨a2, b2⟩ ⟨a3, b3⟩
  unfold zoff zwhole zhalf
  dsimp only
  rw [c0, c1, c2, c3, d0, d1, d2, d3]
  exact this
theorem zquo_off {sd : Int32} {x y : Z4} (hn : 0 < zsq y / 4) : zoff (zquo sd x y) (zrat sd x y) (zsq y / 4) ≤ 2 * ((zsq y / 4) * (zsq y / 4)) := by
  have h := zoff_le (w := zrat sd x y) hn
  unfold zquo
  split <;> omega
/-- the rest's squares times the norm are the squares of what the quotient is off -/
theorem zrest_off {sd : Int32} {x y q : Z4} (hx : zok x) (hy : zok y) (hq : zok q) : (zsq y / 4) * zsq (zsub x (zon sd q y)) = zoff q (zrat sd x y) (zsq y / 4) := by
  have h4 := zsq_4 hy
  have hm := zmir_ok hy
  have hs := zmir_sq y
  obtain ⟨n, hn⟩ : ∃ n, n = zsq y / 4 := ⟨_, rfl⟩
  have hn4 : zsq y = 4 * n := by omega
  rw [← hn]
  by_cases hsd : sd = 0
  · have e1 : zon sd q y = zmul q y := if_pos hsd
    have e2 : zrat sd x y = zmul x (zmir y) := if_pos hsd
    rw [e1, e2]
    obtain ⟨p0, p1, p2, p3, -⟩ := zn_par hq hy
    obtain ⟨r0, r1, r2, r3, -⟩ := zn_par hx hm
    obtain ⟨k0, k1, k2, k3⟩ := rest_r (x := x) (q := q) (y := y) (m := zmul q y) (by show 2 * (zn0 q y / 2) = _; omega) (by show 2 * (zn1 q y / 2) = _; omega) (by show 2 * (zn2 q y / 2) = _; omega) (by show 2 * (zn3 q y / 2) = _; omega)
    have eu := euler (zsub x (zmul q y)) (zmir y)
    rw [hs, hn4] at eu
    rw [hn4] at k0 k1 k2 k3
    have w0 : (zmul x (zmir y)).1 = zn0 x (zmir y) / 2 := rfl
    have w1 : (zmul x (zmir y)).2.1 = zn1 x (zmir y) / 2 := rfl
    have w2 : (zmul x (zmir y)).2.2.1 = zn2 x (zmir y) / 2 := rfl
    have w3 : (zmul x (zmir y)).2.2.2 = zn3 x (zmir y) / 2 := rfl
    unfold zoff
    rw [w0, w1, w2, w3]
    obtain ⟨v0, hv0⟩ : ∃ v, zn0 x (zmir y) = 2 * v := ⟨zn0 x (zmir y) / 2, by omega⟩
    obtain ⟨v1, hv1⟩ : ∃ v, zn1 x (zmir y) = 2 * v := ⟨zn1 x (zmir y) / 2, by omega⟩
    obtain ⟨v2, hv2⟩ : ∃ v, zn2 x (zmir y) = 2 * v := ⟨zn2 x (zmir y) / 2, by omega⟩
    obtain ⟨v3, hv3⟩ : ∃ v, zn3 x (zmir y) = 2 * v := ⟨zn3 x (zmir y) / 2, by omega⟩
    rw [hv0] at k0; rw [hv1] at k1; rw [hv2] at k2; rw [hv3] at k3
    rw [hv0, hv1, hv2, hv3, Int.mul_ediv_cancel_left v0 (by decide), Int.mul_ediv_cancel_left v1 (by decide), Int.mul_ediv_cancel_left v2 (by decide), Int.mul_ediv_cancel_left v3 (by decide)]
    have t0 : zn0 (zsub x (zmul q y)) (zmir y) = 2 * (v0 - n * q.1) := by grind
    have t1 : zn1 (zsub x (zmul q y)) (zmir y) = 2 * (v1 - n * q.2.1) := by grind
    have t2 : zn2 (zsub x (zmul q y)) (zmir y) = 2 * (v2 - n * q.2.2.1) := by grind
    have t3 : zn3 (zsub x (zmul q y)) (zmir y) = 2 * (v3 - n * q.2.2.2) := by grind
    rw [t0, t1, t2, t3] at eu
    grind
  · have e1 : zon sd q y = zmul y q := if_neg hsd
    have e2 : zrat sd x y = zmul (zmir y) x := if_neg hsd
    rw [e1, e2]
    obtain ⟨p0, p1, p2, p3, -⟩ := zn_par hy hq
    obtain ⟨r0, r1, r2, r3, -⟩ := zn_par hm hx
    obtain ⟨k0, k1, k2, k3⟩ := rest_l (x := x) (q := q) (y := y) (m := zmul y q) (by show 2 * (zn0 y q / 2) = _; omega) (by show 2 * (zn1 y q / 2) = _; omega) (by show 2 * (zn2 y q / 2) = _; omega) (by show 2 * (zn3 y q / 2) = _; omega)
    have eu := euler (zmir y) (zsub x (zmul y q))
    rw [hs, hn4] at eu
    rw [hn4] at k0 k1 k2 k3
    have w0 : (zmul (zmir y) x).1 = zn0 (zmir y) x / 2 := rfl
    have w1 : (zmul (zmir y) x).2.1 = zn1 (zmir y) x / 2 := rfl
    have w2 : (zmul (zmir y) x).2.2.1 = zn2 (zmir y) x / 2 := rfl
    have w3 : (zmul (zmir y) x).2.2.2 = zn3 (zmir y) x / 2 := rfl
    unfold zoff
    rw [w0, w1, w2, w3]
    obtain ⟨v0, hv0⟩ : ∃ v, zn0 (zmir y) x = 2 * v := ⟨zn0 (zmir y) x / 2, by omega⟩
    obtain ⟨v1, hv1⟩ : ∃ v, zn1 (zmir y) x = 2 * v := ⟨zn1 (zmir y) x / 2, by omega⟩
    obtain ⟨v2, hv2⟩ : ∃ v, zn2 (zmir y) x = 2 * v := ⟨zn2 (zmir y) x / 2, by omega⟩
    obtain ⟨v3, hv3⟩ : ∃ v, zn3 (zmir y) x = 2 * v := ⟨zn3 (zmir y) x / 2, by omega⟩
    rw [hv0] at k0; rw [hv1] at k1; rw [hv2] at k2; rw [hv3] at k3
    rw [hv0, hv1, hv2, hv3, Int.mul_ediv_cancel_left v0 (by decide), Int.mul_ediv_cancel_left v1 (by decide), Int.mul_ediv_cancel_left v2 (by decide), Int.mul_ediv_cancel_left v3 (by decide)]
    have t0 : zn0 (zmir y) (zsub x (zmul y q)) = 2 * (v0 - n * q.1) := by grind
    have t1 : zn1 (zmir y) (zsub x (zmul y q)) = 2 * (v1 - n * q.2.1) := by grind
    have t2 : zn2 (zmir y) (zsub x (zmul y q)) = 2 * (v2 - n * q.2.2.1) := by grind
    have t3 : zn3 (zmir y) (zsub x (zmul y q)) = 2 * (v3 - n * q.2.2.2) := by grind
    rw [t0, t1, t2, t3] at eu
    grind
/-- the rest has at most half the norm -/
theorem zrst_le {sd : Int32} {x y : Z4} (hx : zok x) (hy : zok y) (hn : 0 < zsq y / 4) : zsq (zrst sd x y) ≤ 2 * (zsq y / 4) := by
  have h1 := zrest_off (sd := sd) hx hy (zquo_ok sd x y)
  have h2 := zquo_off (sd := sd) (x := x) hn
  rw [← h1] at h2
  have h3 : (zsq y / 4) * zsq (zrst sd x y) ≤ (zsq y / 4) * (2 * (zsq y / 4)) := by
    have e : (zsq y / 4) * (2 * (zsq y / 4)) = 2 * ((zsq y / 4) * (zsq y / 4)) := by grind
    rw [e]; exact h2
  exact Int.le_of_mul_le_mul_left h3 hn
