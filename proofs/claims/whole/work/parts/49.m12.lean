/-! The reference's way -/
def rpN (g : Nat → Int64) (a N : Nat) : Nat → Nat → Nat → Prop
  | 0, _, P => P = N
  | d + 1, k, P => ∃ p : Nat, g (a + k) = lN p ∧ 2 ≤ p ∧ npr p ∧ P * p ≤ N ∧ rpN g a N d (k + 1) (P * p)
theorem rpN_ap {g : Nat → Int64} {a N : Nat} : ∀ (d k P : Nat), 1 ≤ P → (rpN g a N d k P ↔ ∃ L : Nat, N = P * L ∧ apN g a d k L)
  | 0, k, P, h => by
    rw [rpN]
    constructor
    · intro w; exact ⟨1, by omega, rfl⟩
    · rintro ⟨L, h1, h2⟩
      rw [show L = 1 from h2] at h1; omega
  | d + 1, k, P, h => by
    rw [rpN]
    constructor
    · rintro ⟨p, h1, h2, h3, h4, h5⟩
      obtain ⟨L2, e1, e2⟩ := (rpN_ap d (k + 1) (P * p) (Nat.mul_pos (by omega) (by omega))).mp h5
      exact ⟨p * L2, by rw [e1, Nat.mul_assoc], p, L2, h1, h2, h3, rfl, e2⟩
    · rintro ⟨L, e1, p, L2, h1, h2, h3, h4, h5⟩
      have hL := apN_pos d (k + 1) L2 h5
      have e2 : N = P * p * L2 := by rw [e1, h4, Nat.mul_assoc]
      refine ⟨p, h1, h2, h3, ?_, (rpN_ap d (k + 1) (P * p) (Nat.mul_pos (by omega) (by omega))).mpr ⟨L2, e2, h5⟩⟩
      rw [e2]; exact Nat.le_mul_of_pos_right _ hL
theorem apl_rp {g : Nat → Int64} {a n N : Nat} (h1 : 1 ≤ N) (h2 : N ≤ 400000000) : apl g a n 0 (lN N) ↔ rpN g a N n 0 1 := by
  rw [apl_N n 0 N h1 h2, rpN_ap n 0 1 (Nat.le_refl 1)]
  constructor
  · intro h; exact ⟨N, by omega, h⟩
  · rintro ⟨L, e, h⟩
    rw [show N = L by omega]; exact h
theorem rp_p {g : Nat → Int64} {a N d k P p : Nat} (h1 : 1 ≤ P) (h : P * p ≤ N) : p ≤ N := Nat.le_trans (Nat.le_mul_of_pos_left p h1) h
theorem rp_gt {g : Nat → Int64} {a N d k P : Nat} {v : Int64} (hv : g (a + k) = v) (hN : N ≤ 400000000) (h1 : 1 ≤ P) (hc : lN N < v) : ¬ rpN g a N (d + 1) k P := by
  rintro ⟨p, e1, e2, e3, e4, -⟩
  have hp : p ≤ N := rp_p (g := g) (a := a) (d := d) (k := k) h1 e4
  rw [← hv, e1] at hc
  exact absurd ((pk_lLT (by omega) (by omega)).mp hc) (by omega)
theorem rp_np {g : Nat → Int64} {a N d k P Np : Nat} {v : Int64} (hv : g (a + k) = v) (hN : N ≤ 400000000) (h1 : 1 ≤ P) (hNp : Np < 2 ^ 31) (hpN : 1 < v → v = lN Np) (hc : ¬ (1 < v ∧ npr Np)) : ¬ rpN g a N (d + 1) k P := by
  rintro ⟨p, e1, e2, e3, e4, -⟩
  have hp : p ≤ N := rp_p (g := g) (a := a) (d := d) (k := k) h1 e4
  rw [hv] at e1
  have h1v : 1 < v := by rw [e1]; exact (pk_lLT (a := 1) (by decide) (by omega)).mpr (by omega)
  have e5 : p = Np := (pk_lEQ (by omega) (by omega)).mp (e1.symm.trans (hpN h1v))
  exact hc ⟨h1v, e5 ▸ e3⟩
theorem rp_pp {g : Nat → Int64} {a N d k P : Nat} {v : Int64} (hv : g (a + k) = v) (hN : N ≤ 400000000) (h1 : 1 ≤ P) (hc : lN N < lN P * v) : ¬ rpN g a N (d + 1) k P := by
  rintro ⟨p, e1, e2, e3, e4, -⟩
  rw [hv] at e1
  rw [e1, lN_mul] at hc
  exact absurd ((pk_lLT (by omega) (by omega)).mp hc) (by omega)
theorem rp_ok {g : Nat → Int64} {a N d k P Np : Nat} {v : Int64} (hv : g (a + k) = v) (hN : N ≤ 400000000) (h1 : 1 ≤ P) (hP : P ≤ N) (hNp : Np ≤ N) (hpN : v = lN Np) (h2 : 2 ≤ Np) (hn : npr Np) (hc : ¬ lN N < lN P * v) : P * Np ≤ N ∧ (rpN g a N (d + 1) k P ↔ rpN g a N d (k + 1) (P * Np)) ∧ lN P * v = lN (P * Np) := by
  have hb : P * Np < 2 ^ 63 := Nat.lt_of_le_of_lt (Nat.mul_le_mul (show P ≤ 400000000 by omega) (show Np ≤ 400000000 by omega)) (by decide)
  have hle : P * Np ≤ N := by
    rw [hpN, lN_mul] at hc
    exact Nat.not_lt.mp (fun w => hc ((pk_lLT (by omega) hb).mpr w))
  refine ⟨hle, ⟨?_, fun h => ⟨Np, hv.trans hpN, h2, hn, hle, h⟩⟩, by rw [hpN, lN_mul]⟩
  rintro ⟨p, e1, e2, e3, e4, e5⟩
  have hp : p ≤ N := rp_p (g := g) (a := a) (d := d) (k := k) h1 e4
  have e6 : p = Np := (pk_lEQ (by omega) (by omega)).mp (e1.symm.trans (hv.trans hpN))
  rw [← e6]; exact e5
theorem pr_arg {v : Int64} {N : Nat} (hN : N ≤ 400000000) (hc : ¬ lN N < v) : ∃ Np : Nat, Np ≤ 400000000 ∧ (1 < v → v = lN Np) ∧ (1 < v → 2 ≤ Np) ∧ (1 < v → Np ≤ N) := by
  rw [Int64.lt_iff_toInt_lt, lN_toInt (by omega)] at hc
  have key : 1 < v → 1 < v.toInt := fun h => by rw [Int64.lt_iff_toInt_lt, show (1 : Int64).toInt = 1 from by decide] at h; exact h
  refine ⟨v.toInt.toNat, by omega, fun h => ?_, fun h => ?_, fun h => ?_⟩
  · have h1 := key h
    apply Int64.toInt_inj.mp
    rw [lN_toInt (by omega)]; omega
  · have h1 := key h; omega
  · have h1 := key h; omega
theorem rn_N {x : Q4} (h : rok x) (hz : ¬ qzero x) : ∃ N : Nat, qnorm x = lN N ∧ 1 ≤ N ∧ N ≤ 400000000 := by
  obtain ⟨-, -, -, h1, h2⟩ := qn_pos h.2 h.sq hz
  have h3 := h.sq
  have h4 := zsq_4 h.2
  obtain ⟨P, e1, e2, -⟩ := lN_of (p := qnorm x) (by omega)
  exact ⟨P, e1, by omega, by omega⟩
theorem apN_b {g : Nat → Int64} {a : Nat} : ∀ (d k L : Nat), L ≤ 400000000 → apN g a d k L → ∀ j, j < d → 0 ≤ (g (a + (k + j))).toInt ∧ (g (a + (k + j))).toInt ≤ 400000000
  | 0, _, _, _, _, j, hj => absurd hj (Nat.not_lt_zero j)
  | d + 1, k, L, hL, h, j, hj => by
    obtain ⟨P, L2, h1, h2, h3, h4, h5⟩ := h
    have hL2 := apN_pos d (k + 1) L2 h5
    have hP : P ≤ L := by rw [h4]; exact Nat.le_mul_of_pos_right P hL2
    have hLL : L2 ≤ L := by rw [h4]; exact Nat.le_mul_of_pos_left L2 (by omega)
    rcases Nat.eq_zero_or_pos j with q | q
    · subst q
      rw [Nat.add_zero, h1, lN_toInt (by omega)]; omega
    · have := apN_b d (k + 1) L2 (by omega) h5 (j - 1) (by omega)
      rw [show k + 1 + (j - 1) = k + j by omega] at this
      exact this
/-- what a way's steps rest on -/
def wok (x : Q4) (pr : Nat → Int64) (n : Nat) : Prop := rok x ∧ ¬ qzero x ∧ ∀ k, k < n → 0 ≤ (pr k).toInt ∧ (pr k).toInt ≤ 400000000
theorem wok_of {x : Q4} {g : Nat → Int64} {a n : Nat} (hx : rok x) (hp : qpr x) (h : apl g a n 0 (qnorm x)) : wok x (fun k => g (a + k)) n := by
  have hz := (qpr_M hx.nh).2 hp
  obtain ⟨N, e, h1, h2⟩ := rn_N hx hz
  rw [e, apl_N n 0 N h1 h2] at h
  refine ⟨hx, hz, fun k hk => ?_⟩
  have := apN_b n 0 N h2 h k hk
  rw [Nat.zero_add] at this
  exact this
theorem wl_ok {x : Q4} {pr : Nat → Int64} {n : Nat} (h : wok x pr n) : ∀ k : Nat, k ≤ n → zok (tz (wl x pr k)) ∧ zsq (tz (wl x pr k)) ≤ 1600000000 ∧ ¬ qzero (wl x pr k)
  | 0, _ => ⟨h.1.2, h.1.sq, h.2.1⟩
  | k + 1, hk => by
    obtain ⟨h1, h2, h3⟩ := wl_ok h k (by omega)
    obtain ⟨p1, p2⟩ := h.2.2 k (by omega)
    obtain ⟨-, -, q1, q2, q3, -⟩ := way_st p1 p2 h1 h2 h3
    exact ⟨q1, q2, q3⟩
theorem wf_ok {x : Q4} {pr : Nat → Int64} {n k : Nat} (h : wok x pr n) (hk : k < n) : zok (tz (wf x pr k)) ∧ ¬ qnorm (wf x pr k) = 0 ∧ wdv (wf x pr k) (wl x pr k) = wl x pr (k + 1) ∧ dvT 1 100 (2 * pr k, 0, 0, 0) (wl x pr k) ∧ grl (osd 1) (dvR 1 100 (2 * pr k, 0, 0, 0) (wl x pr k)) 24 = wf x pr k := by
  obtain ⟨h1, h2, h3⟩ := wl_ok h k (by omega)
  obtain ⟨p1, p2⟩ := h.2.2 k hk
  obtain ⟨a1, a2, -, -, -, a3, a4, a5⟩ := way_st p1 p2 h1 h2 h3
  exact ⟨a1, a2, a3, a4, a5⟩
def stf (fc : Nat → Int64) (k : Nat) (x : Q4) : Nat → Int64 := vp_updL (vp_updL (vp_updL (vp_updL fc (4 * k + 0) x.1) (4 * k + 1) x.2.1) (4 * k + 2) x.2.2.1) (4 * k + 3) x.2.2.2
theorem fq_s (fc : Nat → Int64) (k : Nat) (x : Q4) : fq (stf fc k x) k = x := by
  unfold fq stf
  rw [pk_uLn (by omega), pk_uLn (by omega), pk_uLn (by omega), show 4 * k = 4 * k + 0 by omega, pk_uLs, pk_uLn (by omega), pk_uLn (by omega), pk_uLs, pk_uLn (by omega), pk_uLs, pk_uLs]
theorem fq_n {fc : Nat → Int64} {k j : Nat} (x : Q4) (h : j ≠ k) : fq (stf fc k x) j = fq fc j := by
  unfold fq stf
  simp only [pk_uLn (show 4 * j ≠ 4 * k + 0 by omega), pk_uLn (show 4 * j ≠ 4 * k + 1 by omega), pk_uLn (show 4 * j ≠ 4 * k + 2 by omega), pk_uLn (show 4 * j ≠ 4 * k + 3 by omega), pk_uLn (show 4 * j + 1 ≠ 4 * k + 0 by omega), pk_uLn (show 4 * j + 1 ≠ 4 * k + 1 by omega), pk_uLn (show 4 * j + 1 ≠ 4 * k + 2 by omega), pk_uLn (show 4 * j + 1 ≠ 4 * k + 3 by omega), pk_uLn (show 4 * j + 2 ≠ 4 * k + 0 by omega), pk_uLn (show 4 * j + 2 ≠ 4 * k + 1 by omega), pk_uLn (show 4 * j + 2 ≠ 4 * k + 2 by omega), pk_uLn (show 4 * j + 2 ≠ 4 * k + 3 by omega), pk_uLn (show 4 * j + 3 ≠ 4 * k + 0 by omega), pk_uLn (show 4 * j + 3 ≠ 4 * k + 1 by omega), pk_uLn (show 4 * j + 3 ≠ 4 * k + 2 by omega), pk_uLn (show 4 * j + 3 ≠ 4 * k + 3 by omega)]
theorem fq_step {fc : Nat → Int64} {k : Nat} {f : Nat → Q4} {x : Q4} (hx : x = f k) (h : ∀ j, j < k → fq fc j = f j) : ∀ j, j < k + 1 → fq (stf fc k x) j = f j := fun j hj => by
  by_cases e : j = k
  · subst e; rw [fq_s, hx]
  · rw [fq_n x e]; exact h j (by omega)
theorem rel_wy {M : MS} {S : SS} {a b o n : Nat} {fc2 : Nat → Int64} {v : Nat → Q4} (h : mrel M S) (hn : 1 ≤ n) (ha : a < 16) (h1 : ∀ j, j < n - 1 → fq fc2 j = wf (S.1 a) (fun k => S.2.2.2.1 b (o + k)) j) : mrel (M.1, M.2.1, M.2.2.1, M.2.2.2.1, stf fc2 (n - 1) (wl (S.1 a) (fun k => S.2.2.2.1 b (o + k)) (n - 1)), M.2.2.2.2.2.1, v, nI n) (sWy S a b o n) := by
  obtain ⟨k1, k2, k3, k4, k5, k6⟩ := h
  refine ⟨k1, k2, k3, fun j hj => ?_, rfl, fun j hj => ?_⟩
  · show rgq M.2.2.2.1 j = wayq S.1 (S.1 a) (fun k => S.2.2.2.1 b (o + k)) n j
    unfold wayq
    rw [if_neg (by omega)]; exact k4 j hj
  · have hj : j < n := hj
    show fq (stf fc2 (n - 1) (wl (S.1 a) (fun k => S.2.2.2.1 b (o + k)) (n - 1))) j = wayq S.1 (S.1 a) (fun k => S.2.2.2.1 b (o + k)) n (16 + j)
    unfold wayq
    rw [if_pos (by omega), show 16 + j - 16 = j by omega]
    by_cases e : j + 1 < n
    · rw [if_pos e, fq_n _ (by omega)]; exact h1 j (by omega)
    · rw [if_neg e, show j = n - 1 by omega, fq_s]
theorem pos_nb {nb : Nat} (h : ¬ nI nb = 0) : 1 ≤ nb := by
  rcases Nat.eq_zero_or_pos nb with q | q
  · exact absurd (by rw [q]; rfl) h
  · exact q
theorem le12 {nb : Nat} (hb : nb ≤ 16) (h : nI nb ≤ 12) : nb ≤ 12 := by
  rw [Int32.le_iff_toInt_le, nI_toInt (by omega), show (12 : Int32).toInt = 12 from by decide] at h
  omega
theorem sub4 {nb : Nat} (h : 1 ≤ nb) : nI (4 * nb) - 4 = nI (4 * (nb - 1)) := by
  have := pk_sub (a := 4 * nb) (b := 4) (by omega)
  rw [show 4 * nb - 4 = 4 * (nb - 1) by omega] at this
  exact this
theorem sub1 {nb : Nat} (h : 1 ≤ nb) : nI nb - 1 = nI (nb - 1) := pk_sub (a := nb) (b := 1) h
set_option maxHeartbeats 4000000 in
set_option maxRecDepth 100000 in
theorem c_X6_way (l : Launch) (G : GG) (A : Nat → Prop) (ma : Nat → Nat) (F : FM) (rg : Nat → Q4) (kd : Nat → Int32) (z : Nat → Nat) (pl : Nat → Nat → Int64) (cnt : Nat) (hR : MR G ma (rg, kd, z, pl, cnt) F) (hz : ∀ k, k < 6 → z k ≤ 16) (hkd : ∀ k, k < 6 → kd k = -1 ∨ 0 ≤ kd k) (hc12 : cnt ≤ 12) (hq : ∀ k, k < 16 → rok (rg k)) (vs : Int32) (vr : Int32) (vi : Int32) (vn : Int32) : PT l yX6_way wsX6_way { frames := 3, cells := 0, slots := 0, locals := 81 } G A (ML ma) [.ref (ma 0), .int vs, .int vr, .int vi, .int vn] F (some (.int (sp_way (rg, kd, z, pl, cnt) vs vr vi vn).1)) (MR G ma (sp_way (rg, kd, z, pl, cnt) vs vr vi vn).2) := by
  refine PT.ofW (cc := cX6_way) (maxL := 14) (ret := (some .int)) (plainFor_of_name (by decide)) rfl (Nat.le_of_ble_eq_true rfl) ?_
  intro p e s m below meth c ls hx hb hr hml hown hts hlk hE hw hl
  have hl : lv_has ls 14 [(0, .ref (ma 0)), (1, .int vs), (2, .int vr), (3, .int vi), (4, .int vn)] := hl
  have hown : s.vm.findClass RX6 = some m.cls := hown
  have lk_7 := hts (.fieldLink RX6 7 "FourPartsModel" "kind" "[I") (by decide +kernel)
  have hinX6 : ∀ w ∈ u_ws RX6 TX6 18, w ∈ wsX6_way := by decide +kernel
  have lk_56 := hts (.fieldLink RX6 56 "FourPartsModel" "left" "[J") (by decide +kernel)
  have lk_26 := hts (.fieldLink RX6 26 "FourPartsModel" "factor" "[J") (by decide +kernel)
  have lk_177 := hts (.fieldLink RX6 177 "FourPartsModel" "factors" "I") (by decide +kernel)
  have lk_32 := hts (.fieldLink RX6 32 "FourPartsModel" "x" "[J") (by decide +kernel)
  have cl_77 := hts (.constantLong RX6 77 (2)) (by decide +kernel)
  have lk_16 := hts (.fieldLink RX6 16 "FourPartsModel" "sheets" "[J") (by decide +kernel)
  have lk_35 := hts (.fieldLink RX6 35 "FourPartsModel" "y" "[J") (by decide +kernel)
  have lk_44 := hts (.fieldLink RX6 44 "FourPartsModel" "best" "[J") (by decide +kernel)
  have lk_38 := hts (.fieldLink RX6 38 "FourPartsModel" "z" "[J") (by decide +kernel)
  obtain ⟨⟨mk, msz, msh, mrg, mfc, mmd, mv, mcn⟩, hM, hrel⟩ := hR
  obtain ⟨hk1, hk2, hk3, hk4, hk5, hk6⟩ := id hrel
  refine lv_iload_n hx hb dX6_way_0 rfl (lv_at hl 1 rfl) ?_
  rcases ix_cases 16 (by decide) vs with hvs | ⟨kvs, hkvs, rfl⟩
  · skip
    have xvs := ix_none hvs
    refine h_callS (st1 := [.int 0]) [.int vs] [] ⟨hx, hb, hml, hown, hts⟩ hE hw (HT.to (c_X6_isRegister l G A (ML ma) F vs) (V2 := some (.int 0)) (congrArg (fun y => some (Value.int y)) (bI_f (show ¬ inL vs.toInt64 0 15 from inL_out (n := 15) (by decide) hvs))) rfl) (va_cwS 1 hts gX6_way_X6_isRegister rfl rfl rfl (by decide +kernel) ⟨Nat.le_of_ble_eq_true rfl, Nat.le_of_ble_eq_true rfl⟩) rfl hl.1 rfl (Nat.le_of_ble_eq_true rfl) dX6_way_1 ⟨Nat.le_of_ble_eq_true rfl, Nat.le_of_ble_eq_true rfl⟩ rfl (fun H locs hw => ?_)
    refine lv_if_eq (tgt := 26) hx hb dX6_way_4 (by decide) (fun c_4 => ?_) (fun c_4 => ?_)
    · skip
      refine lv_iconst (v := (-1)) hx hb dX6_way_26 (by decide) ?_
      exact h_iretP hx hb hlk hr hw dX6_way_27 (by simp only [sp_way, xvs, cif_same]) (by simp only [sp_way, xvs, cif_same]; exact ⟨_, hM, rel_v hrel⟩)
    · skip
      first | exact absurd c_4 (by decide) | exact absurd (by decide) c_4
  · skip
    have xvs := ix_in (n := 16) hkvs (by decide)
    refine h_callS (st1 := [.int 1]) [.int (nI kvs)] [] ⟨hx, hb, hml, hown, hts⟩ hE hw (HT.to (c_X6_isRegister l G A (ML ma) F (nI kvs)) (V2 := some (.int 1)) (congrArg (fun y => some (Value.int y)) (bI_t (show inL (nI kvs).toInt64 0 15 from inL_in (n := 15) (by decide) hkvs))) rfl) (va_cwS 1 hts gX6_way_X6_isRegister rfl rfl rfl (by decide +kernel) ⟨Nat.le_of_ble_eq_true rfl, Nat.le_of_ble_eq_true rfl⟩) rfl hl.1 rfl (Nat.le_of_ble_eq_true rfl) dX6_way_1 ⟨Nat.le_of_ble_eq_true rfl, Nat.le_of_ble_eq_true rfl⟩ rfl (fun H locs hw => ?_)
    refine lv_if_eq (tgt := 26) hx hb dX6_way_4 (by decide) (fun c_4 => ?_) (fun c_4 => ?_)
    · skip
      first | exact absurd c_4 (by decide) | exact absurd (by decide) c_4
    · skip
      refine lv_iload_n hx hb dX6_way_7 rfl (lv_at hl 2 rfl) ?_
      rcases ix_cases 6 (by decide) vr with hvr | ⟨kvr, hkvr, rfl⟩
      · skip
        have xvr := ix_none hvr
        refine h_callS (st1 := [.int 0]) [.int vr] [] ⟨hx, hb, hml, hown, hts⟩ hE hw (HT.to (c_X6_isSheet l G A (ML ma) F vr) (V2 := some (.int 0)) (congrArg (fun y => some (Value.int y)) (bI_f (show ¬ inL vr.toInt64 0 5 from inL_out (n := 5) (by decide) hvr))) rfl) (va_cwS 1 hts gX6_way_X6_isSheet rfl rfl rfl (by decide +kernel) ⟨Nat.le_of_ble_eq_true rfl, Nat.le_of_ble_eq_true rfl⟩) rfl hl.1 rfl (Nat.le_of_ble_eq_true rfl) dX6_way_8 ⟨Nat.le_of_ble_eq_true rfl, Nat.le_of_ble_eq_true rfl⟩ rfl (fun H locs hw => ?_)
        refine lv_if_eq (tgt := 26) hx hb dX6_way_11 (by decide) (fun c_11 => ?_) (fun c_11 => ?_)
        · skip
          refine lv_iconst (v := (-1)) hx hb dX6_way_26 (by decide) ?_
          exact h_iretP hx hb hlk hr hw dX6_way_27 (by simp only [sp_way, xvs, xvr, cif_same]) (by simp only [sp_way, xvs, xvr, cif_same]; exact ⟨_, hM, rel_v hrel⟩)
        · skip
          first | exact absurd c_11 (by decide) | exact absurd (by decide) c_11
      · skip
        have xvr := ix_in (n := 6) hkvr (by decide)
        refine h_callS (st1 := [.int 1]) [.int (nI kvr)] [] ⟨hx, hb, hml, hown, hts⟩ hE hw (HT.to (c_X6_isSheet l G A (ML ma) F (nI kvr)) (V2 := some (.int 1)) (congrArg (fun y => some (Value.int y)) (bI_t (show inL (nI kvr).toInt64 0 5 from inL_in (n := 5) (by decide) hkvr))) rfl) (va_cwS 1 hts gX6_way_X6_isSheet rfl rfl rfl (by decide +kernel) ⟨Nat.le_of_ble_eq_true rfl, Nat.le_of_ble_eq_true rfl⟩) rfl hl.1 rfl (Nat.le_of_ble_eq_true rfl) dX6_way_8 ⟨Nat.le_of_ble_eq_true rfl, Nat.le_of_ble_eq_true rfl⟩ rfl (fun H locs hw => ?_)
        refine lv_if_eq (tgt := 26) hx hb dX6_way_11 (by decide) (fun c_11 => ?_) (fun c_11 => ?_)
        · skip
          first | exact absurd c_11 (by decide) | exact absurd (by decide) c_11
        · skip
          refine lv_iload hx hb dX6_way_14 (lv_at hl 4 rfl) ?_
          refine lv_if_eq (tgt := 26) hx hb dX6_way_16 (by decide) (fun c_16 => ?_) (fun c_16 => ?_)
          · skip
            refine lv_iconst (v := (-1)) hx hb dX6_way_26 (by decide) ?_
            exact h_iretP hx hb hlk hr hw dX6_way_27 (by simp only [sp_way, xvs, xvr, cif_t c_16, cif_same]) (by simp only [sp_way, xvs, xvr, cif_t c_16, cif_same]; exact ⟨_, hM, rel_v hrel⟩)
          · skip
            refine lv_iload hx hb dX6_way_19 (lv_at hl 4 rfl) ?_
            refine lv_bipush (v := 12) hx hb dX6_way_21 (by decide) ?_
            refine lv_icmp_le (tgt := 28) hx hb dX6_way_23 (by decide) (fun c_23 => ?_) (fun c_23 => ?_)
            · skip
              refine lv_aload_n hx hb dX6_way_28 rfl (lv_at hl 0 rfl) ?_
              refine h_get hx hb hE hw hts hinX6 hown (ci := 6) rfl 0 (by decide) lk_7 (fun _ h9 => h9) hM.ob rfl dX6_way_29 ?_
              refine lv_iload_n hx hb dX6_way_32 rfl (lv_at hl 2 rfl) ?_
              refine h_iald hx hb hE hw hM.kd (vp_in_nI (n := kvr) (N := 6) (by omega) (by decide)) (v := mk kvr) (by rw [nI_clamp (by omega)]) dX6_way_33 ?_
              refine lv_if_ge (tgt := 40) hx hb dX6_way_34 (by decide) (fun c_34 => ?_) (fun c_34 => ?_)
              · skip
                have hm34 : ¬ kd kvr = -1 := kd_nneg (by rw [← show mk kvr = kd kvr from hk1 kvr hkvr]; exact Int32.not_lt.mpr c_34)
                have hn1 : 0 ≤ kd kvr := (hkd kvr hkvr).resolve_left hm34
                have hz1 := hz kvr hkvr
                refine lv_iload hx hb dX6_way_40 (lv_at hl 4 rfl) ?_
                refine lv_if_ge (tgt := 48) hx hb dX6_way_42 (by decide) (fun c_42 => ?_) (fun c_42 => ?_)
                · skip
                  refine lv_aload_n hx hb dX6_way_48 rfl (lv_at hl 0 rfl) ?_
                  refine lv_iload_n hx hb dX6_way_49 rfl (lv_at hl 2 rfl) ?_
                  refine lv_iload_n hx hb dX6_way_50 rfl (lv_at hl 3 rfl) ?_
                  refine lv_iload hx hb dX6_way_51 (lv_at hl 4 rfl) ?_
                  by_cases hr1 : reach (nI (z kvr)) vi vn
                  · skip
                    obtain ⟨ia, nb, rfl, rfl, hab⟩ := (reach_iff hz1 _ _).mp hr1
                    have hnb1 := pos_nb c_16
                    have hnb2 := le12 (by omega) c_23
                    refine h_callV (st1 := [.int 0]) [.int (nI kvr), .int (nI ia), .int (nI nb)] [] ⟨hx, hb, hml, hown, hts⟩ hE hw (HT.to (c_X6_against l G A ma F _ _ _ _ _ _ _ _ hM kvr hkvr (nI ia) (nI nb)) (V2 := some (.int (0))) (congrArg (fun y => some (Value.int y)) (by rw [show mk kvr = kd kvr from hk1 kvr hkvr, show msz kvr = nI (z kvr) from hk2 kvr hkvr]; exact ag_in hn1 hz1 hab)) rfl) (cwV 3 hts gX6_way_X6_against rfl rfl rfl (by decide +kernel) ⟨Nat.le_of_ble_eq_true rfl, Nat.le_of_ble_eq_true rfl⟩) hM.ob rfl rfl rfl hl.1 rfl (Nat.le_of_ble_eq_true rfl) dX6_way_53 ⟨Nat.le_of_ble_eq_true rfl, Nat.le_of_ble_eq_true rfl⟩ rfl (fun H locs hw => ?_)
                    refine lv_if_eq (tgt := 62) hx hb dX6_way_56 (by decide) (fun c_56 => ?_) (fun c_56 => ?_)
                    · skip
                      refine lv_aload_n hx hb dX6_way_62 rfl (lv_at hl 0 rfl) ?_
                      refine lv_aload_n hx hb dX6_way_63 rfl (lv_at hl 0 rfl) ?_
                      refine h_get hx hb hE hw hts hinX6 hown (ci := 6) rfl 16 (by decide) lk_56 (fun _ h9 => h9) hM.ob rfl dX6_way_64 ?_
                      refine lv_iload_n hx hb dX6_way_67 rfl (lv_at hl 1 rfl) ?_
                      refine h_callV (st1 := []) [.ref (ma 16), .int (nI kvs)] [] ⟨hx, hb, hml, hown, hts⟩ hE hw (HT.to (c_X6_load l G A ma F _ _ _ _ _ _ _ _ hM 16 kvs (by decide) (by decide) hkvs) rfl (F3 := va_up F (ma 16) (eJ4 G (rg kvs))) (by rw [show rgq mrg kvs = rg kvs from hk4 kvs hkvs])) (cwV 2 hts gX6_way_X6_load rfl rfl rfl (by decide +kernel) ⟨Nat.le_of_ble_eq_true rfl, Nat.le_of_ble_eq_true rfl⟩) hM.ob rfl rfl rfl hl.1 rfl (Nat.le_of_ble_eq_true rfl) dX6_way_68 ⟨Nat.le_of_ble_eq_true rfl, Nat.le_of_ble_eq_true rfl⟩ rfl (fun H locs hw => ?_)
                      refine lv_aload_n hx hb dX6_way_71 rfl (lv_at hl 0 rfl) ?_
                      refine h_get hx hb hE hw hts hinX6 hown (ci := 6) rfl 16 (by decide) lk_56 (fun _ h9 => h9) (pt_ne hM.ob (hM.ne (i := 0) (j := 16) (by decide) (by decide) (by decide))) rfl dX6_way_72 ?_
                      refine h_callS (st1 := [.long (qnorm (rg kvs))]) [.ref (ma 16)] [] ⟨hx, hb, hml, hown, hts⟩ hE hw (c_X6_norm l G A (ML ma) (va_up F (ma 16) (eJ4 G (rg kvs))) (ma 16) (rg kvs) (pt_up (hM.v (i := 16) (by decide) (by decide)))) (va_cwS 1 hts gX6_way_X6_norm rfl rfl rfl (by decide +kernel) ⟨Nat.le_of_ble_eq_true rfl, Nat.le_of_ble_eq_true rfl⟩) rfl hl.1 rfl (Nat.le_of_ble_eq_true rfl) dX6_way_75 ⟨Nat.le_of_ble_eq_true rfl, Nat.le_of_ble_eq_true rfl⟩ rfl (fun H locs hw => ?_)
                      refine lv_lstore (lv' := [(5, .long (qnorm (rg kvs))), (0, .ref (ma 0)), (1, .int (nI kvs)), (2, .int (nI kvr)), (3, .int (nI ia)), (4, .int (nI nb))]) hx hb dX6_way_78 hl (by decide) rfl (fun ls hl => ?_)
                      refine lv_lconst (v := 1) hx hb dX6_way_80 (by decide) ?_
                      refine lv_lstore (lv' := [(7, .long 1), (5, .long (qnorm (rg kvs))), (0, .ref (ma 0)), (1, .int (nI kvs)), (2, .int (nI kvr)), (3, .int (nI ia)), (4, .int (nI nb))]) hx hb dX6_way_81 hl (by decide) rfl (fun ls hl => ?_)
                      refine lv_aload_n hx hb dX6_way_83 rfl (lv_at hl 2 rfl) ?_
                      refine lv_aload_n hx hb dX6_way_84 rfl (lv_at hl 2 rfl) ?_
                      refine h_get hx hb hE hw hts hinX6 hown (ci := 6) rfl 16 (by decide) lk_56 (fun _ h9 => h9) (pt_ne hM.ob (hM.ne (i := 0) (j := 16) (by decide) (by decide) (by decide))) rfl dX6_way_85 ?_
                      by_cases hp : qpr (rg kvs)
                      rotate_left
                      · skip
                        refine h_callV (st1 := [.int 0]) [.ref (ma 16)] [] ⟨hx, hb, hml, hown, hts⟩ hE hw (HT.to (c_X6_isPrimitiveQ l G A ma (va_up F (ma 16) (eJ4 G (rg kvs))) _ _ _ _ _ _ _ _ (MW.setv hM (i := 16) (by decide) (by decide) (rg kvs)) 16 (by decide) (by decide) (rg kvs) (pt_up (hM.v (i := 16) (by decide) (by decide))) (hq kvs hkvs).nh) (V2 := some (.int 0)) (congrArg (fun y => some (Value.int y)) (bI_f hp)) rfl) (cwV 1 hts gX6_way_X6_isPrimitive rfl rfl rfl (by decide +kernel) ⟨Nat.le_of_ble_eq_true rfl, Nat.le_of_ble_eq_true rfl⟩) (pt_ne hM.ob (hM.ne (i := 0) (j := 16) (by decide) (by decide) (by decide))) rfl rfl rfl hl.1 rfl (Nat.le_of_ble_eq_true rfl) dX6_way_88 ⟨Nat.le_of_ble_eq_true rfl, Nat.le_of_ble_eq_true rfl⟩ rfl (fun H locs hw => ?_)
                        refine lv_istore (lv' := [(9, .int 0), (7, .long 1), (5, .long (qnorm (rg kvs))), (0, .ref (ma 0)), (1, .int (nI kvs)), (2, .int (nI kvr)), (3, .int (nI ia)), (4, .int (nI nb))]) hx hb dX6_way_91 hl (by decide) rfl (fun ls hl => ?_)
                        refine lv_iconst (v := 0) hx hb dX6_way_93 (by decide) ?_
                        refine lv_istore (lv' := [(10, .int 0), (9, .int 0), (7, .long 1), (5, .long (qnorm (rg kvs))), (0, .ref (ma 0)), (1, .int (nI kvs)), (2, .int (nI kvr)), (3, .int (nI ia)), (4, .int (nI nb))]) hx hb dX6_way_94 hl (by decide) rfl (fun ls hl => ?_)
                        refine lv_iload hx hb dX6_way_96 (lv_at hl 0 rfl) ?_
                        refine lv_iload hx hb dX6_way_98 (lv_at hl 8 rfl) ?_
                        refine lv_icmp_ge (tgt := 180) hx hb dX6_way_100 (by decide) (fun c_100 => ?_) (fun c_100 => ?_)
                        · skip
                          refine lv_iload hx hb dX6_way_180 (lv_at hl 1 rfl) ?_
                          refine lv_if_eq (tgt := 193) hx hb dX6_way_182 (by decide) (fun c_182 => ?_) (fun c_182 => ?_)
                          · skip
                            refine lv_bipush (v := (-2)) hx hb dX6_way_193 (by decide) ?_
                            exact h_iretP hx hb hlk hr hw dX6_way_195 (by simp only [sp_way, xvs, xvr, rch_in hab hz1, cif_f c_16, cif_t c_23, cif_f hm34, cif_t c_42, cif_f hp]) (by simp only [sp_way, xvs, xvr, rch_in hab hz1, cif_f c_16, cif_t c_23, cif_f hm34, cif_t c_42, cif_f hp]; exact ⟨_, (MW.setv hM (i := 16) (by decide) (by decide) (rg kvs)), rel_v hrel⟩)
                          · skip
                            first | exact absurd c_182 (by decide) | exact absurd (by decide) c_182
                        · skip
                          refine lv_iload hx hb dX6_way_103 (lv_at hl 1 rfl) ?_
                          refine lv_if_eq (tgt := 180) hx hb dX6_way_105 (by decide) (fun c_105 => ?_) (fun c_105 => ?_)
                          · skip
                            refine lv_iload hx hb dX6_way_180 (lv_at hl 1 rfl) ?_
                            refine lv_if_eq (tgt := 193) hx hb dX6_way_182 (by decide) (fun c_182 => ?_) (fun c_182 => ?_)
                            · skip
                              refine lv_bipush (v := (-2)) hx hb dX6_way_193 (by decide) ?_
                              exact h_iretP hx hb hlk hr hw dX6_way_195 (by simp only [sp_way, xvs, xvr, rch_in hab hz1, cif_f c_16, cif_t c_23, cif_f hm34, cif_t c_42, cif_f hp]) (by simp only [sp_way, xvs, xvr, rch_in hab hz1, cif_f c_16, cif_t c_23, cif_f hm34, cif_t c_42, cif_f hp]; exact ⟨_, (MW.setv hM (i := 16) (by decide) (by decide) (rg kvs)), rel_v hrel⟩)
                            · skip
                              first | exact absurd c_182 (by decide) | exact absurd (by decide) c_182
                          · skip
                            first | exact absurd c_105 (by decide) | exact absurd (by decide) c_105
                      · skip
                        refine h_callV (st1 := [.int 1]) [.ref (ma 16)] [] ⟨hx, hb, hml, hown, hts⟩ hE hw (HT.to (c_X6_isPrimitiveQ l G A ma (va_up F (ma 16) (eJ4 G (rg kvs))) _ _ _ _ _ _ _ _ (MW.setv hM (i := 16) (by decide) (by decide) (rg kvs)) 16 (by decide) (by decide) (rg kvs) (pt_up (hM.v (i := 16) (by decide) (by decide))) (hq kvs hkvs).nh) (V2 := some (.int 1)) (congrArg (fun y => some (Value.int y)) (bI_t hp)) rfl) (cwV 1 hts gX6_way_X6_isPrimitive rfl rfl rfl (by decide +kernel) ⟨Nat.le_of_ble_eq_true rfl, Nat.le_of_ble_eq_true rfl⟩) (pt_ne hM.ob (hM.ne (i := 0) (j := 16) (by decide) (by decide) (by decide))) rfl rfl rfl hl.1 rfl (Nat.le_of_ble_eq_true rfl) dX6_way_88 ⟨Nat.le_of_ble_eq_true rfl, Nat.le_of_ble_eq_true rfl⟩ rfl (fun H locs hw => ?_)
                        refine lv_istore (lv' := [(9, .int 1), (7, .long 1), (5, .long (qnorm (rg kvs))), (0, .ref (ma 0)), (1, .int (nI kvs)), (2, .int (nI kvr)), (3, .int (nI ia)), (4, .int (nI nb))]) hx hb dX6_way_91 hl (by decide) rfl (fun ls hl => ?_)
                        refine lv_iconst (v := 0) hx hb dX6_way_93 (by decide) ?_
                        refine lv_istore (lv' := [(10, .int 0), (9, .int 1), (7, .long 1), (5, .long (qnorm (rg kvs))), (0, .ref (ma 0)), (1, .int (nI kvs)), (2, .int (nI kvr)), (3, .int (nI ia)), (4, .int (nI nb))]) hx hb dX6_way_94 hl (by decide) rfl (fun ls hl => ?_)
                        obtain ⟨N, hN, hN1, hN4⟩ := rn_N (hq kvs hkvs) ((qpr_M (hq kvs hkvs).nh).2 hp)
                        have hno : ¬ rpN (pl kvr) ia N nb 0 1 → (sp_way (rg, kd, z, pl, cnt) (nI kvs) (nI kvr) (nI ia) (nI nb)) = (-2, (rg, kd, z, pl, cnt)) := fun w => by simp only [sp_way, xvs, xvr, rch_in hab hz1, cif_f c_16, cif_t c_23, cif_f hm34, cif_t c_42, cif_t hp, cif_f (fun v => w ((apl_rp hN1 hN4).mp (hN ▸ v)))]
                        have hyes : rpN (pl kvr) ia N nb 0 1 → (sp_way (rg, kd, z, pl, cnt) (nI kvs) (nI kvr) (nI ia) (nI nb)) = (nI nb, sWy (rg, kd, z, pl, cnt) kvs kvr ia nb) := fun w => by simp only [sp_way, xvs, xvr, rch_in hab hz1, cif_f c_16, cif_t c_23, cif_f hm34, cif_t c_42, cif_t hp, cif_t (show apl (pl kvr) ia nb 0 (qnorm (rg kvs)) from hN.symm ▸ (apl_rp hN1 hN4).mpr w)]
                        have lp2 : ∀ (d k : Nat) (F : FM) (fc2 : Nat → Int64) (mv2 : Nat → Q4) (H : Heap) (locs : List Loc) (ls : Array Slot), wok (rg kvs) (fun t => pl kvr (ia + t)) nb → (sp_way (rg, kd, z, pl, cnt) (nI kvs) (nI kvr) (nI ia) (nI nb)) = (nI nb, sWy (rg, kd, z, pl, cnt) kvs kvr ia nb) → d + k = nb - 1 → MW G ma (mk, msz, msh, mrg, fc2, mmd, mv2, mcn) F → mv2 16 = wl (rg kvs) (fun t => pl kvr (ia + t)) k → (∀ j, j < k → fq fc2 j = wf (rg kvs) (fun t => pl kvr (ia + t)) j) → wo G A s.heap (ML ma) F H locs → lv_has ls 14 [(0, .ref (ma 0)), (1, .int (nI kvs)), (2, .int (nI kvr)), (3, .int (nI ia)), (4, .int (nI nb)), (10, .int (nI k))] → W p l e { frames := 3, cells := 0, slots := 0, locals := 81 } s m ([.ref (ma 0), .int (nI kvs), .int (nI kvr), .int (nI ia), .int (nI nb)].toArray) below meth c H locs 0 0 (MQ below (QP G A (ML ma) (some (.int (sp_way (rg, kd, z, pl, cnt) (nI kvs) (nI kvr) (nI ia) (nI nb)).1)) (MR G ma (sp_way (rg, kd, z, pl, cnt) (nI kvs) (nI kvr) (nI ia) (nI nb)).2)) ([.ref (ma 0), .int (nI kvs), .int (nI kvr), .int (nI ia), .int (nI nb)].toArray) s 0 0 A) (F0 m 199 ls []) := by
                          intro d
                          induction d with
                          | zero =>
                            intro k F fc2 mv2 H locs ls hok hsp hd hM2 h16 hf hw hl
                            obtain rfl : k = nb - 1 := by omega
                            refine lv_iload hx hb dX6_way_199 (lv_at hl 5 rfl) ?_
                            refine lv_iload hx hb dX6_way_201 (lv_at hl 4 rfl) ?_
                            refine lv_iconst (v := 1) hx hb dX6_way_203 (by decide) ?_
                            refine lv_isub hx hb dX6_way_204 ?_
                            refine W.eq (g2 := F0 m 205 ls [.int (nI (nb - 1)), .int (nI (nb - 1))]) (by rw [sub1 hnb1]) ?_
                            refine lv_icmp_ge (tgt := 376) hx hb dX6_way_205 (by decide) (fun c_205 => ?_) (fun c_205 => ?_)
                            · skip
                              refine lv_iconst (v := 0) hx hb dX6_way_376 (by decide) ?_
                              refine lv_istore (lv' := [(10, .int 0), (0, .ref (ma 0)), (1, .int (nI kvs)), (2, .int (nI kvr)), (3, .int (nI ia)), (4, .int (nI nb))]) hx hb dX6_way_377 hl (by decide) rfl (fun ls hl => ?_)
                              refine lv_iload hx hb dX6_way_379 (lv_at hl 0 rfl) ?_
                              refine lv_iconst (v := 4) hx hb dX6_way_381 (by decide) ?_
                              refine lv_icmp_ge (tgt := 412) hx hb dX6_way_382 (by decide) (fun c_382 => ?_) (fun c_382 => ?_)
                              · skip
                                first | exact absurd c_382 (by decide) | exact absurd (by decide) c_382
                              · skip
                                refine lv_aload_n hx hb dX6_way_385 rfl (lv_at hl 1 rfl) ?_
                                refine h_get hx hb hE hw hts hinX6 hown (ci := 6) rfl 6 (by decide) lk_26 (fun _ h9 => h9) hM2.ob rfl dX6_way_386 ?_
                                refine lv_iconst (v := 4) hx hb dX6_way_389 (by decide) ?_
                                refine lv_iload hx hb dX6_way_390 (lv_at hl 5 rfl) ?_
                                refine h_imulN hx hb 4 nb dX6_way_392 ?_
                                refine lv_iconst (v := 4) hx hb dX6_way_393 (by decide) ?_
                                refine lv_isub hx hb dX6_way_394 ?_
                                refine W.eq (g2 := F0 m 395 ls [.int (nI (4 * (nb - 1))), .ref (ma 6)]) (by rw [sub4 hnb1]) ?_
                                refine lv_iload hx hb dX6_way_395 (lv_at hl 0 rfl) ?_
                                refine h_iaddN hx hb (4 * (nb - 1)) 0 dX6_way_397 ?_
                                refine lv_aload_n hx hb dX6_way_398 rfl (lv_at hl 1 rfl) ?_
                                refine h_get hx hb hE hw hts hinX6 hown (ci := 6) rfl 16 (by decide) lk_56 (fun _ h9 => h9) hM2.ob rfl dX6_way_399 ?_
                                refine lv_iload hx hb dX6_way_402 (lv_at hl 0 rfl) ?_
                                refine h_lald hx hb hE hw (pt_eq (hM2.v (i := 16) (by decide) (by decide)) (by rw [show ((mk, msz, msh, mrg, fc2, mmd, mv2, mcn) : MS).2.2.2.2.2.2.1 16 = wl (rg kvs) (fun t => pl kvr (ia + t)) (nb - 1) from h16])) (n := 4) (vp_in_nI (n := 0) (N := 4) (by decide) (by decide)) (v := (wl (rg kvs) (fun t => pl kvr (ia + t)) (nb - 1)).1) rfl dX6_way_404 ?_
                                refine h_last hx hb hE hw hM2.fc (vp_in_nI (n := ((4 * (nb - 1)) + 0)) (N := 48) (by omega) (by decide)) (g := vp_updL fc2 ((4 * (nb - 1)) + 0) ((wl (rg kvs) (fun t => pl kvr (ia + t)) (nb - 1)).1)) (by rw [nI_clamp (by omega)]) dX6_way_405 (fun H locs hw => ?_)
                                refine lv_iinc (v := 1) (lv' := [(10, .int 1), (0, .ref (ma 0)), (1, .int (nI kvs)), (2, .int (nI kvr)), (3, .int (nI ia)), (4, .int (nI nb))]) hx hb dX6_way_406 hl (k := 0) rfl (by decide) (by decide) rfl (fun ls hl => ?_)
                                refine lv_goto (tgt := 379) hx hb dX6_way_409 (by decide) ?_
                                refine lv_iload hx hb dX6_way_379 (lv_at hl 0 rfl) ?_
                                refine lv_iconst (v := 4) hx hb dX6_way_381 (by decide) ?_
                                refine lv_icmp_ge (tgt := 412) hx hb dX6_way_382 (by decide) (fun c_382 => ?_) (fun c_382 => ?_)
                                · skip
                                  first | exact absurd c_382 (by decide) | exact absurd (by decide) c_382
                                · skip
                                  refine lv_aload_n hx hb dX6_way_385 rfl (lv_at hl 1 rfl) ?_
                                  refine h_get hx hb hE hw hts hinX6 hown (ci := 6) rfl 6 (by decide) lk_26 (fun _ h9 => h9) (pt_ne hM2.ob (hM.ne (i := 0) (j := 6) (by decide) (by decide) (by decide))) rfl dX6_way_386 ?_
                                  refine lv_iconst (v := 4) hx hb dX6_way_389 (by decide) ?_
                                  refine lv_iload hx hb dX6_way_390 (lv_at hl 5 rfl) ?_
                                  refine h_imulN hx hb 4 nb dX6_way_392 ?_
                                  refine lv_iconst (v := 4) hx hb dX6_way_393 (by decide) ?_
                                  refine lv_isub hx hb dX6_way_394 ?_
                                  refine W.eq (g2 := F0 m 395 ls [.int (nI (4 * (nb - 1))), .ref (ma 6)]) (by rw [sub4 hnb1]) ?_
                                  refine lv_iload hx hb dX6_way_395 (lv_at hl 0 rfl) ?_
                                  refine h_iaddN hx hb (4 * (nb - 1)) 1 dX6_way_397 ?_
                                  refine lv_aload_n hx hb dX6_way_398 rfl (lv_at hl 1 rfl) ?_
                                  refine h_get hx hb hE hw hts hinX6 hown (ci := 6) rfl 16 (by decide) lk_56 (fun _ h9 => h9) (pt_ne hM2.ob (hM.ne (i := 0) (j := 6) (by decide) (by decide) (by decide))) rfl dX6_way_399 ?_
                                  refine lv_iload hx hb dX6_way_402 (lv_at hl 0 rfl) ?_
                                  refine h_lald hx hb hE hw (pt_ne (pt_eq (hM2.v (i := 16) (by decide) (by decide)) (by rw [show ((mk, msz, msh, mrg, fc2, mmd, mv2, mcn) : MS).2.2.2.2.2.2.1 16 = wl (rg kvs) (fun t => pl kvr (ia + t)) (nb - 1) from h16])) (hM.ne (i := 16) (j := 6) (by decide) (by decide) (by decide))) (n := 4) (vp_in_nI (n := 1) (N := 4) (by decide) (by decide)) (v := (wl (rg kvs) (fun t => pl kvr (ia + t)) (nb - 1)).2.1) rfl dX6_way_404 ?_
                                  refine h_last hx hb hE hw (pt_up hM2.fc) (vp_in_nI (n := ((4 * (nb - 1)) + 1)) (N := 48) (by omega) (by decide)) (g := vp_updL (vp_updL fc2 ((4 * (nb - 1)) + 0) ((wl (rg kvs) (fun t => pl kvr (ia + t)) (nb - 1)).1)) ((4 * (nb - 1)) + 1) ((wl (rg kvs) (fun t => pl kvr (ia + t)) (nb - 1)).2.1)) (by rw [nI_clamp (by omega)]) dX6_way_405 (fun H locs hw => ?_)
                                  refine lv_iinc (v := 2) (lv' := [(10, .int 2), (0, .ref (ma 0)), (1, .int (nI kvs)), (2, .int (nI kvr)), (3, .int (nI ia)), (4, .int (nI nb))]) hx hb dX6_way_406 hl (k := 0) rfl (by decide) (by decide) rfl (fun ls hl => ?_)
                                  refine lv_goto (tgt := 379) hx hb dX6_way_409 (by decide) ?_
                                  refine lv_iload hx hb dX6_way_379 (lv_at hl 0 rfl) ?_
                                  refine lv_iconst (v := 4) hx hb dX6_way_381 (by decide) ?_
                                  refine lv_icmp_ge (tgt := 412) hx hb dX6_way_382 (by decide) (fun c_382 => ?_) (fun c_382 => ?_)
                                  · skip
                                    first | exact absurd c_382 (by decide) | exact absurd (by decide) c_382
                                  · skip
                                    refine lv_aload_n hx hb dX6_way_385 rfl (lv_at hl 1 rfl) ?_
                                    refine h_get hx hb hE hw hts hinX6 hown (ci := 6) rfl 6 (by decide) lk_26 (fun _ h9 => h9) (pt_ne (pt_ne hM2.ob (hM.ne (i := 0) (j := 6) (by decide) (by decide) (by decide))) (hM.ne (i := 0) (j := 6) (by decide) (by decide) (by decide))) rfl dX6_way_386 ?_
                                    refine lv_iconst (v := 4) hx hb dX6_way_389 (by decide) ?_
                                    refine lv_iload hx hb dX6_way_390 (lv_at hl 5 rfl) ?_
                                    refine h_imulN hx hb 4 nb dX6_way_392 ?_
                                    refine lv_iconst (v := 4) hx hb dX6_way_393 (by decide) ?_
                                    refine lv_isub hx hb dX6_way_394 ?_
                                    refine W.eq (g2 := F0 m 395 ls [.int (nI (4 * (nb - 1))), .ref (ma 6)]) (by rw [sub4 hnb1]) ?_
                                    refine lv_iload hx hb dX6_way_395 (lv_at hl 0 rfl) ?_
                                    refine h_iaddN hx hb (4 * (nb - 1)) 2 dX6_way_397 ?_
                                    refine lv_aload_n hx hb dX6_way_398 rfl (lv_at hl 1 rfl) ?_
                                    refine h_get hx hb hE hw hts hinX6 hown (ci := 6) rfl 16 (by decide) lk_56 (fun _ h9 => h9) (pt_ne (pt_ne hM2.ob (hM.ne (i := 0) (j := 6) (by decide) (by decide) (by decide))) (hM.ne (i := 0) (j := 6) (by decide) (by decide) (by decide))) rfl dX6_way_399 ?_
                                    refine lv_iload hx hb dX6_way_402 (lv_at hl 0 rfl) ?_
                                    refine h_lald hx hb hE hw (pt_ne (pt_ne (pt_eq (hM2.v (i := 16) (by decide) (by decide)) (by rw [show ((mk, msz, msh, mrg, fc2, mmd, mv2, mcn) : MS).2.2.2.2.2.2.1 16 = wl (rg kvs) (fun t => pl kvr (ia + t)) (nb - 1) from h16])) (hM.ne (i := 16) (j := 6) (by decide) (by decide) (by decide))) (hM.ne (i := 16) (j := 6) (by decide) (by decide) (by decide))) (n := 4) (vp_in_nI (n := 2) (N := 4) (by decide) (by decide)) (v := (wl (rg kvs) (fun t => pl kvr (ia + t)) (nb - 1)).2.2.1) rfl dX6_way_404 ?_
                                    refine h_last hx hb hE hw (pt_up (pt_up hM2.fc)) (vp_in_nI (n := ((4 * (nb - 1)) + 2)) (N := 48) (by omega) (by decide)) (g := vp_updL (vp_updL (vp_updL fc2 ((4 * (nb - 1)) + 0) ((wl (rg kvs) (fun t => pl kvr (ia + t)) (nb - 1)).1)) ((4 * (nb - 1)) + 1) ((wl (rg kvs) (fun t => pl kvr (ia + t)) (nb - 1)).2.1)) ((4 * (nb - 1)) + 2) ((wl (rg kvs) (fun t => pl kvr (ia + t)) (nb - 1)).2.2.1)) (by rw [nI_clamp (by omega)]) dX6_way_405 (fun H locs hw => ?_)
                                    refine lv_iinc (v := 3) (lv' := [(10, .int 3), (0, .ref (ma 0)), (1, .int (nI kvs)), (2, .int (nI kvr)), (3, .int (nI ia)), (4, .int (nI nb))]) hx hb dX6_way_406 hl (k := 0) rfl (by decide) (by decide) rfl (fun ls hl => ?_)
                                    refine lv_goto (tgt := 379) hx hb dX6_way_409 (by decide) ?_
                                    refine lv_iload hx hb dX6_way_379 (lv_at hl 0 rfl) ?_
                                    refine lv_iconst (v := 4) hx hb dX6_way_381 (by decide) ?_
                                    refine lv_icmp_ge (tgt := 412) hx hb dX6_way_382 (by decide) (fun c_382 => ?_) (fun c_382 => ?_)
                                    · skip
                                      first | exact absurd c_382 (by decide) | exact absurd (by decide) c_382
                                    · skip
                                      refine lv_aload_n hx hb dX6_way_385 rfl (lv_at hl 1 rfl) ?_
                                      refine h_get hx hb hE hw hts hinX6 hown (ci := 6) rfl 6 (by decide) lk_26 (fun _ h9 => h9) (pt_ne (pt_ne (pt_ne hM2.ob (hM.ne (i := 0) (j := 6) (by decide) (by decide) (by decide))) (hM.ne (i := 0) (j := 6) (by decide) (by decide) (by decide))) (hM.ne (i := 0) (j := 6) (by decide) (by decide) (by decide))) rfl dX6_way_386 ?_
                                      refine lv_iconst (v := 4) hx hb dX6_way_389 (by decide) ?_
                                      refine lv_iload hx hb dX6_way_390 (lv_at hl 5 rfl) ?_
                                      refine h_imulN hx hb 4 nb dX6_way_392 ?_
                                      refine lv_iconst (v := 4) hx hb dX6_way_393 (by decide) ?_
                                      refine lv_isub hx hb dX6_way_394 ?_
                                      refine W.eq (g2 := F0 m 395 ls [.int (nI (4 * (nb - 1))), .ref (ma 6)]) (by rw [sub4 hnb1]) ?_
                                      refine lv_iload hx hb dX6_way_395 (lv_at hl 0 rfl) ?_
                                      refine h_iaddN hx hb (4 * (nb - 1)) 3 dX6_way_397 ?_
                                      refine lv_aload_n hx hb dX6_way_398 rfl (lv_at hl 1 rfl) ?_
                                      refine h_get hx hb hE hw hts hinX6 hown (ci := 6) rfl 16 (by decide) lk_56 (fun _ h9 => h9) (pt_ne (pt_ne (pt_ne hM2.ob (hM.ne (i := 0) (j := 6) (by decide) (by decide) (by decide))) (hM.ne (i := 0) (j := 6) (by decide) (by decide) (by decide))) (hM.ne (i := 0) (j := 6) (by decide) (by decide) (by decide))) rfl dX6_way_399 ?_
                                      refine lv_iload hx hb dX6_way_402 (lv_at hl 0 rfl) ?_
                                      refine h_lald hx hb hE hw (pt_ne (pt_ne (pt_ne (pt_eq (hM2.v (i := 16) (by decide) (by decide)) (by rw [show ((mk, msz, msh, mrg, fc2, mmd, mv2, mcn) : MS).2.2.2.2.2.2.1 16 = wl (rg kvs) (fun t => pl kvr (ia + t)) (nb - 1) from h16])) (hM.ne (i := 16) (j := 6) (by decide) (by decide) (by decide))) (hM.ne (i := 16) (j := 6) (by decide) (by decide) (by decide))) (hM.ne (i := 16) (j := 6) (by decide) (by decide) (by decide))) (n := 4) (vp_in_nI (n := 3) (N := 4) (by decide) (by decide)) (v := (wl (rg kvs) (fun t => pl kvr (ia + t)) (nb - 1)).2.2.2) rfl dX6_way_404 ?_
                                      refine h_last hx hb hE hw (pt_up (pt_up (pt_up hM2.fc))) (vp_in_nI (n := ((4 * (nb - 1)) + 3)) (N := 48) (by omega) (by decide)) (g := vp_updL (vp_updL (vp_updL (vp_updL fc2 ((4 * (nb - 1)) + 0) ((wl (rg kvs) (fun t => pl kvr (ia + t)) (nb - 1)).1)) ((4 * (nb - 1)) + 1) ((wl (rg kvs) (fun t => pl kvr (ia + t)) (nb - 1)).2.1)) ((4 * (nb - 1)) + 2) ((wl (rg kvs) (fun t => pl kvr (ia + t)) (nb - 1)).2.2.1)) ((4 * (nb - 1)) + 3) ((wl (rg kvs) (fun t => pl kvr (ia + t)) (nb - 1)).2.2.2)) (by rw [nI_clamp (by omega)]) dX6_way_405 (fun H locs hw => ?_)
                                      refine lv_iinc (v := 4) (lv' := [(10, .int 4), (0, .ref (ma 0)), (1, .int (nI kvs)), (2, .int (nI kvr)), (3, .int (nI ia)), (4, .int (nI nb))]) hx hb dX6_way_406 hl (k := 0) rfl (by decide) (by decide) rfl (fun ls hl => ?_)
                                      refine lv_goto (tgt := 379) hx hb dX6_way_409 (by decide) ?_
                                      refine lv_iload hx hb dX6_way_379 (lv_at hl 0 rfl) ?_
                                      refine lv_iconst (v := 4) hx hb dX6_way_381 (by decide) ?_
                                      refine lv_icmp_ge (tgt := 412) hx hb dX6_way_382 (by decide) (fun c_382 => ?_) (fun c_382 => ?_)
                                      · skip
                                        refine lv_aload_n hx hb dX6_way_412 rfl (lv_at hl 1 rfl) ?_
                                        refine lv_iload hx hb dX6_way_413 (lv_at hl 5 rfl) ?_
                                        refine h_put hx hb hE hw hts hinX6 tyX6 tyX6_ok nmX6 hown (ci := 6) rfl 5 (by decide) lk_177 (fun _ h9 => h9) rfl (pt_ne (pt_ne (pt_ne (pt_ne hM2.ob (hM.ne (i := 0) (j := 6) (by decide) (by decide) (by decide))) (hM.ne (i := 0) (j := 6) (by decide) (by decide) (by decide))) (hM.ne (i := 0) (j := 6) (by decide) (by decide) (by decide))) (hM.ne (i := 0) (j := 6) (by decide) (by decide) (by decide))) (ty := .int) rfl rfl rfl (Nat.le_of_ble_eq_true rfl) (fs2 := [.ref (ma 1), .ref (ma 2), .ref (ma 3), .ref (ma 4), .ref (ma 5), .int (nI nb), .ref (ma 6), .ref (ma 7), .ref (ma 8), .ref (ma 9), .ref (ma 10), .ref (ma 11), .ref (ma 12), .ref (ma 13), .ref (ma 14), .ref (ma 15), .ref (ma 16), .int 0]) rfl dX6_way_415 (fun H locs hw => ?_)
                                        refine lv_iload hx hb dX6_way_418 (lv_at hl 5 rfl) ?_
                                        exact h_iretP hx hb hlk hr hw dX6_way_420 (by rw [hsp]) (by rw [hsp]; exact ⟨_, (MW.setn (MW.setf (MW.setf (MW.setf (MW.setf hM2 (vp_updL fc2 ((4 * (nb - 1)) + 0) ((wl (rg kvs) (fun t => pl kvr (ia + t)) (nb - 1)).1))) (vp_updL (vp_updL fc2 ((4 * (nb - 1)) + 0) ((wl (rg kvs) (fun t => pl kvr (ia + t)) (nb - 1)).1)) ((4 * (nb - 1)) + 1) ((wl (rg kvs) (fun t => pl kvr (ia + t)) (nb - 1)).2.1))) (vp_updL (vp_updL (vp_updL fc2 ((4 * (nb - 1)) + 0) ((wl (rg kvs) (fun t => pl kvr (ia + t)) (nb - 1)).1)) ((4 * (nb - 1)) + 1) ((wl (rg kvs) (fun t => pl kvr (ia + t)) (nb - 1)).2.1)) ((4 * (nb - 1)) + 2) ((wl (rg kvs) (fun t => pl kvr (ia + t)) (nb - 1)).2.2.1))) (vp_updL (vp_updL (vp_updL (vp_updL fc2 ((4 * (nb - 1)) + 0) ((wl (rg kvs) (fun t => pl kvr (ia + t)) (nb - 1)).1)) ((4 * (nb - 1)) + 1) ((wl (rg kvs) (fun t => pl kvr (ia + t)) (nb - 1)).2.1)) ((4 * (nb - 1)) + 2) ((wl (rg kvs) (fun t => pl kvr (ia + t)) (nb - 1)).2.2.1)) ((4 * (nb - 1)) + 3) ((wl (rg kvs) (fun t => pl kvr (ia + t)) (nb - 1)).2.2.2))) (nI nb)), rel_wy (M := (mk, msz, msh, mrg, mfc, mmd, mv, mcn)) (fc2 := fc2) (v := mv2) (S := (rg, kd, z, pl, cnt)) (a := kvs) (b := kvr) (o := ia) (n := nb) hrel hnb1 hkvs hf⟩)
                                      · skip
                                        first | exact absurd c_382 (by decide) | exact absurd (by decide) c_382
                            · skip
                              exact absurd (nI_le (Nat.le_refl (nb - 1)) (by omega)) c_205
                          | succ d ih =>
                            intro k F fc2 mv2 H locs ls hok hsp hd hM2 h16 hf hw hl
                            obtain ⟨hw1, hw2, hw3, hw4, hw5⟩ := wf_ok hok (k := k) (by omega)
                            refine lv_iload hx hb dX6_way_199 (lv_at hl 5 rfl) ?_
                            refine lv_iload hx hb dX6_way_201 (lv_at hl 4 rfl) ?_
                            refine lv_iconst (v := 1) hx hb dX6_way_203 (by decide) ?_
                            refine lv_isub hx hb dX6_way_204 ?_
                            refine W.eq (g2 := F0 m 205 ls [.int (nI (nb - 1)), .int (nI k)]) (by rw [sub1 hnb1]) ?_
                            refine lv_icmp_ge (tgt := 376) hx hb dX6_way_205 (by decide) (fun c_205 => ?_) (fun c_205 => ?_)
                            · skip
                              exact absurd c_205 (nI_ge (show k < nb - 1 by omega) (by omega))
                            · skip
                              refine lv_iconst (v := 0) hx hb dX6_way_208 (by decide) ?_
                              refine lv_istore (lv' := [(11, .int 0), (0, .ref (ma 0)), (1, .int (nI kvs)), (2, .int (nI kvr)), (3, .int (nI ia)), (4, .int (nI nb)), (10, .int (nI k))]) hx hb dX6_way_209 hl (by decide) rfl (fun ls hl => ?_)
                              refine lv_iload hx hb dX6_way_211 (lv_at hl 0 rfl) ?_
                              refine lv_iconst (v := 4) hx hb dX6_way_213 (by decide) ?_
                              refine lv_icmp_ge (tgt := 257) hx hb dX6_way_214 (by decide) (fun c_214 => ?_) (fun c_214 => ?_)
                              · skip
                                first | exact absurd c_214 (by decide) | exact absurd (by decide) c_214
                              · skip
                                refine lv_aload_n hx hb dX6_way_217 rfl (lv_at hl 1 rfl) ?_
                                refine h_get hx hb hE hw hts hinX6 hown (ci := 6) rfl 8 (by decide) lk_32 (fun _ h9 => h9) hM2.ob rfl dX6_way_218 ?_
                                refine lv_iload hx hb dX6_way_221 (lv_at hl 0 rfl) ?_
                                refine lv_iload hx hb dX6_way_223 (lv_at hl 0 rfl) ?_
                                refine lv_if_ne (tgt := 249) hx hb dX6_way_225 (by decide) (fun c_225 => ?_) (fun c_225 => ?_)
                                · skip
                                  first | exact absurd c_225 (by decide) | exact absurd (by decide) c_225
                                · skip
                                  refine lv_ldc2 hx hb (v := (2)) hown cl_77 dX6_way_228 ?_
                                  refine lv_aload_n hx hb dX6_way_231 rfl (lv_at hl 1 rfl) ?_
                                  refine h_get hx hb hE hw hts hinX6 hown (ci := 6) rfl 2 (by decide) lk_16 (fun _ h9 => h9) hM2.ob rfl dX6_way_232 ?_
                                  refine lv_bipush (v := 16) hx hb dX6_way_235 (by decide) ?_
                                  refine lv_iload_n hx hb dX6_way_237 rfl (lv_at hl 3 rfl) ?_
                                  refine h_imulN hx hb 16 kvr dX6_way_238 ?_
                                  refine lv_iload_n hx hb dX6_way_239 rfl (lv_at hl 4 rfl) ?_
                                  refine h_iaddN hx hb (16 * kvr) ia dX6_way_240 ?_
                                  refine lv_iload hx hb dX6_way_241 (lv_at hl 6 rfl) ?_
                                  refine h_iaddN hx hb ((16 * kvr) + ia) k dX6_way_243 ?_
                                  refine h_lald hx hb hE hw hM2.sh (vp_in_nI (n := 16 * kvr + ia + k) (N := 96) (by omega) (by decide)) (v := pl kvr (ia + k)) (by rw [nI_clamp (by omega), Nat.add_assoc]; exact hk3 kvr hkvr (ia + k) (by omega)) dX6_way_244 ?_
                                  refine lv_lmul hx hb dX6_way_245 ?_
                                  refine lv_goto (tgt := 250) hx hb dX6_way_246 (by decide) ?_
                                  refine h_last hx hb hE hw (hM2.v (i := 8) (by decide) (by decide)) (n := 4) (vp_in_nI (n := 0) (N := 4) (by decide) (by decide)) (g := vp_updL (q4f (mv2 8)) 0 ((2) * (pl kvr (ia + k)))) rfl dX6_way_250 (fun H locs hw => ?_)
                                  have hw := wo_same hw (at_sameJ (G := G) (n := 4) (st4_0 (mv2 8) ((2) * (pl kvr (ia + k)))))
                                  refine lv_iinc (v := 1) (lv' := [(11, .int 1), (0, .ref (ma 0)), (1, .int (nI kvs)), (2, .int (nI kvr)), (3, .int (nI ia)), (4, .int (nI nb)), (10, .int (nI k))]) hx hb dX6_way_251 hl (k := 0) rfl (by decide) (by decide) rfl (fun ls hl => ?_)
                                  refine lv_goto (tgt := 211) hx hb dX6_way_254 (by decide) ?_
                                  refine lv_iload hx hb dX6_way_211 (lv_at hl 0 rfl) ?_
                                  refine lv_iconst (v := 4) hx hb dX6_way_213 (by decide) ?_
                                  refine lv_icmp_ge (tgt := 257) hx hb dX6_way_214 (by decide) (fun c_214 => ?_) (fun c_214 => ?_)
                                  · skip
                                    first | exact absurd c_214 (by decide) | exact absurd (by decide) c_214
                                  · skip
                                    refine lv_aload_n hx hb dX6_way_217 rfl (lv_at hl 1 rfl) ?_
                                    refine h_get hx hb hE hw hts hinX6 hown (ci := 6) rfl 8 (by decide) lk_32 (fun _ h9 => h9) (pt_ne hM2.ob (hM.ne (i := 0) (j := 8) (by decide) (by decide) (by decide))) rfl dX6_way_218 ?_
                                    refine lv_iload hx hb dX6_way_221 (lv_at hl 0 rfl) ?_
                                    refine lv_iload hx hb dX6_way_223 (lv_at hl 0 rfl) ?_
                                    refine lv_if_ne (tgt := 249) hx hb dX6_way_225 (by decide) (fun c_225 => ?_) (fun c_225 => ?_)
                                    · skip
                                      refine lv_lconst (v := 0) hx hb dX6_way_249 (by decide) ?_
                                      refine h_last hx hb hE hw (pt_up (hM2.v (i := 8) (by decide) (by decide))) (n := 4) (vp_in_nI (n := 1) (N := 4) (by decide) (by decide)) (g := vp_updL (q4f ((2) * (pl kvr (ia + k)), (mv2 8).2.1, (mv2 8).2.2.1, (mv2 8).2.2.2)) 1 0) rfl dX6_way_250 (fun H locs hw => ?_)
                                      have hw := wo_same hw (at_sameJ (G := G) (n := 4) (st4_1 ((2) * (pl kvr (ia + k)), (mv2 8).2.1, (mv2 8).2.2.1, (mv2 8).2.2.2) 0))
                                      refine lv_iinc (v := 2) (lv' := [(11, .int 2), (0, .ref (ma 0)), (1, .int (nI kvs)), (2, .int (nI kvr)), (3, .int (nI ia)), (4, .int (nI nb)), (10, .int (nI k))]) hx hb dX6_way_251 hl (k := 0) rfl (by decide) (by decide) rfl (fun ls hl => ?_)
                                      refine lv_goto (tgt := 211) hx hb dX6_way_254 (by decide) ?_
                                      refine lv_iload hx hb dX6_way_211 (lv_at hl 0 rfl) ?_
                                      refine lv_iconst (v := 4) hx hb dX6_way_213 (by decide) ?_
                                      refine lv_icmp_ge (tgt := 257) hx hb dX6_way_214 (by decide) (fun c_214 => ?_) (fun c_214 => ?_)
                                      · skip
                                        first | exact absurd c_214 (by decide) | exact absurd (by decide) c_214
                                      · skip
                                        refine lv_aload_n hx hb dX6_way_217 rfl (lv_at hl 1 rfl) ?_
                                        refine h_get hx hb hE hw hts hinX6 hown (ci := 6) rfl 8 (by decide) lk_32 (fun _ h9 => h9) (pt_ne (pt_ne hM2.ob (hM.ne (i := 0) (j := 8) (by decide) (by decide) (by decide))) (hM.ne (i := 0) (j := 8) (by decide) (by decide) (by decide))) rfl dX6_way_218 ?_
                                        refine lv_iload hx hb dX6_way_221 (lv_at hl 0 rfl) ?_
                                        refine lv_iload hx hb dX6_way_223 (lv_at hl 0 rfl) ?_
                                        refine lv_if_ne (tgt := 249) hx hb dX6_way_225 (by decide) (fun c_225 => ?_) (fun c_225 => ?_)
                                        · skip
                                          refine lv_lconst (v := 0) hx hb dX6_way_249 (by decide) ?_
                                          refine h_last hx hb hE hw (pt_up (pt_up (hM2.v (i := 8) (by decide) (by decide)))) (n := 4) (vp_in_nI (n := 2) (N := 4) (by decide) (by decide)) (g := vp_updL (q4f ((2) * (pl kvr (ia + k)), 0, (mv2 8).2.2.1, (mv2 8).2.2.2)) 2 0) rfl dX6_way_250 (fun H locs hw => ?_)
                                          have hw := wo_same hw (at_sameJ (G := G) (n := 4) (st4_2 ((2) * (pl kvr (ia + k)), 0, (mv2 8).2.2.1, (mv2 8).2.2.2) 0))
                                          refine lv_iinc (v := 3) (lv' := [(11, .int 3), (0, .ref (ma 0)), (1, .int (nI kvs)), (2, .int (nI kvr)), (3, .int (nI ia)), (4, .int (nI nb)), (10, .int (nI k))]) hx hb dX6_way_251 hl (k := 0) rfl (by decide) (by decide) rfl (fun ls hl => ?_)
                                          refine lv_goto (tgt := 211) hx hb dX6_way_254 (by decide) ?_
                                          refine lv_iload hx hb dX6_way_211 (lv_at hl 0 rfl) ?_
                                          refine lv_iconst (v := 4) hx hb dX6_way_213 (by decide) ?_
                                          refine lv_icmp_ge (tgt := 257) hx hb dX6_way_214 (by decide) (fun c_214 => ?_) (fun c_214 => ?_)
                                          · skip
                                            first | exact absurd c_214 (by decide) | exact absurd (by decide) c_214
                                          · skip
                                            refine lv_aload_n hx hb dX6_way_217 rfl (lv_at hl 1 rfl) ?_
                                            refine h_get hx hb hE hw hts hinX6 hown (ci := 6) rfl 8 (by decide) lk_32 (fun _ h9 => h9) (pt_ne (pt_ne (pt_ne hM2.ob (hM.ne (i := 0) (j := 8) (by decide) (by decide) (by decide))) (hM.ne (i := 0) (j := 8) (by decide) (by decide) (by decide))) (hM.ne (i := 0) (j := 8) (by decide) (by decide) (by decide))) rfl dX6_way_218 ?_
                                            refine lv_iload hx hb dX6_way_221 (lv_at hl 0 rfl) ?_
                                            refine lv_iload hx hb dX6_way_223 (lv_at hl 0 rfl) ?_
                                            refine lv_if_ne (tgt := 249) hx hb dX6_way_225 (by decide) (fun c_225 => ?_) (fun c_225 => ?_)
                                            · skip
                                              refine lv_lconst (v := 0) hx hb dX6_way_249 (by decide) ?_
                                              refine h_last hx hb hE hw (pt_up (pt_up (pt_up (hM2.v (i := 8) (by decide) (by decide))))) (n := 4) (vp_in_nI (n := 3) (N := 4) (by decide) (by decide)) (g := vp_updL (q4f ((2) * (pl kvr (ia + k)), 0, 0, (mv2 8).2.2.2)) 3 0) rfl dX6_way_250 (fun H locs hw => ?_)
                                              have hw := wo_same hw (at_sameJ (G := G) (n := 4) (st4_3 ((2) * (pl kvr (ia + k)), 0, 0, (mv2 8).2.2.2) 0))
                                              refine lv_iinc (v := 4) (lv' := [(11, .int 4), (0, .ref (ma 0)), (1, .int (nI kvs)), (2, .int (nI kvr)), (3, .int (nI ia)), (4, .int (nI nb)), (10, .int (nI k))]) hx hb dX6_way_251 hl (k := 0) rfl (by decide) (by decide) rfl (fun ls hl => ?_)
                                              refine lv_goto (tgt := 211) hx hb dX6_way_254 (by decide) ?_
                                              refine lv_iload hx hb dX6_way_211 (lv_at hl 0 rfl) ?_
                                              refine lv_iconst (v := 4) hx hb dX6_way_213 (by decide) ?_
                                              refine lv_icmp_ge (tgt := 257) hx hb dX6_way_214 (by decide) (fun c_214 => ?_) (fun c_214 => ?_)
                                              · skip
                                                refine lv_aload_n hx hb dX6_way_257 rfl (lv_at hl 1 rfl) ?_
                                                refine h_get hx hb hE hw hts hinX6 hown (ci := 6) rfl 9 (by decide) lk_35 (fun _ h9 => h9) (pt_ne (pt_ne (pt_ne (pt_ne hM2.ob (hM.ne (i := 0) (j := 8) (by decide) (by decide) (by decide))) (hM.ne (i := 0) (j := 8) (by decide) (by decide) (by decide))) (hM.ne (i := 0) (j := 8) (by decide) (by decide) (by decide))) (hM.ne (i := 0) (j := 8) (by decide) (by decide) (by decide))) rfl dX6_way_258 ?_
                                                refine lv_aload_n hx hb dX6_way_261 rfl (lv_at hl 1 rfl) ?_
                                                refine h_get hx hb hE hw hts hinX6 hown (ci := 6) rfl 16 (by decide) lk_56 (fun _ h9 => h9) (pt_ne (pt_ne (pt_ne (pt_ne hM2.ob (hM.ne (i := 0) (j := 8) (by decide) (by decide) (by decide))) (hM.ne (i := 0) (j := 8) (by decide) (by decide) (by decide))) (hM.ne (i := 0) (j := 8) (by decide) (by decide) (by decide))) (hM.ne (i := 0) (j := 8) (by decide) (by decide) (by decide))) rfl dX6_way_262 ?_
                                                refine h_callS (st1 := []) [.ref (ma 9), .ref (ma 16)] [] ⟨hx, hb, hml, hown, hts⟩ hE hw (c_X6_copy4 l G A (ML ma) (va_up (va_up (va_up (va_up F (ma 8) (eJ4 G ((2) * (pl kvr (ia + k)), (mv2 8).2.1, (mv2 8).2.2.1, (mv2 8).2.2.2))) (ma 8) (eJ4 G ((2) * (pl kvr (ia + k)), 0, (mv2 8).2.2.1, (mv2 8).2.2.2))) (ma 8) (eJ4 G ((2) * (pl kvr (ia + k)), 0, 0, (mv2 8).2.2.2))) (ma 8) (eJ4 G ((2) * (pl kvr (ia + k)), 0, 0, 0))) (ma 9) (ma 16) (mv2 9) (wl (rg kvs) (fun t => pl kvr (ia + t)) k) (pt_ne (pt_ne (pt_ne (pt_ne (hM2.v (i := 9) (by decide) (by decide)) (hM.ne (i := 9) (j := 8) (by decide) (by decide) (by decide))) (hM.ne (i := 9) (j := 8) (by decide) (by decide) (by decide))) (hM.ne (i := 9) (j := 8) (by decide) (by decide) (by decide))) (hM.ne (i := 9) (j := 8) (by decide) (by decide) (by decide))) (pt_ne (pt_ne (pt_ne (pt_ne (pt_eq (hM2.v (i := 16) (by decide) (by decide)) (by rw [show ((mk, msz, msh, mrg, fc2, mmd, mv2, mcn) : MS).2.2.2.2.2.2.1 16 = wl (rg kvs) (fun t => pl kvr (ia + t)) k from h16])) (hM.ne (i := 16) (j := 8) (by decide) (by decide) (by decide))) (hM.ne (i := 16) (j := 8) (by decide) (by decide) (by decide))) (hM.ne (i := 16) (j := 8) (by decide) (by decide) (by decide))) (hM.ne (i := 16) (j := 8) (by decide) (by decide) (by decide))) (hM.ne (i := 9) (j := 16) (by decide) (by decide) (by decide))) (va_cwS 2 hts gX6_way_X6_copy4 rfl rfl rfl (by decide +kernel) ⟨Nat.le_of_ble_eq_true rfl, Nat.le_of_ble_eq_true rfl⟩) rfl hl.1 rfl (Nat.le_of_ble_eq_true rfl) dX6_way_265 ⟨Nat.le_of_ble_eq_true rfl, Nat.le_of_ble_eq_true rfl⟩ rfl (fun H locs hw => ?_)
                                                refine lv_aload_n hx hb dX6_way_268 rfl (lv_at hl 1 rfl) ?_
                                                refine lv_iconst (v := 1) hx hb dX6_way_269 (by decide) ?_
                                                refine h_callVP (st1 := []) [.int 1] [] ⟨hx, hb, hml, hown, hts⟩ hE hw (c_X6_findDivisor l G A ma (va_up (va_up (va_up (va_up (va_up F (ma 8) (eJ4 G ((2) * (pl kvr (ia + k)), (mv2 8).2.1, (mv2 8).2.2.1, (mv2 8).2.2.2))) (ma 8) (eJ4 G ((2) * (pl kvr (ia + k)), 0, (mv2 8).2.2.1, (mv2 8).2.2.2))) (ma 8) (eJ4 G ((2) * (pl kvr (ia + k)), 0, 0, (mv2 8).2.2.2))) (ma 8) (eJ4 G ((2) * (pl kvr (ia + k)), 0, 0, 0))) (ma 9) (eJ4 G (wl (rg kvs) (fun t => pl kvr (ia + t)) k))) _ _ _ _ _ _ _ _ (MW.setv (MW.setv (MW.setv (MW.setv (MW.setv hM2 (i := 8) (by decide) (by decide) ((2) * (pl kvr (ia + k)), (mv2 8).2.1, (mv2 8).2.2.1, (mv2 8).2.2.2)) (i := 8) (by decide) (by decide) ((2) * (pl kvr (ia + k)), 0, (mv2 8).2.2.1, (mv2 8).2.2.2)) (i := 8) (by decide) (by decide) ((2) * (pl kvr (ia + k)), 0, 0, (mv2 8).2.2.2)) (i := 8) (by decide) (by decide) ((2) * (pl kvr (ia + k)), 0, 0, 0)) (i := 9) (by decide) (by decide) (wl (rg kvs) (fun t => pl kvr (ia + t)) k)) ((2) * (pl kvr (ia + k)), 0, 0, 0) (wl (rg kvs) (fun t => pl kvr (ia + t)) k) rfl rfl 1 100 hw4) (cwV 1 hts gX6_way_X6_findDivisor rfl rfl rfl (by decide +kernel) ⟨Nat.le_of_ble_eq_true rfl, Nat.le_of_ble_eq_true rfl⟩) (pt_ne (pt_ne (pt_ne (pt_ne (pt_ne hM2.ob (hM.ne (i := 0) (j := 8) (by decide) (by decide) (by decide))) (hM.ne (i := 0) (j := 8) (by decide) (by decide) (by decide))) (hM.ne (i := 0) (j := 8) (by decide) (by decide) (by decide))) (hM.ne (i := 0) (j := 8) (by decide) (by decide) (by decide))) (hM.ne (i := 0) (j := 9) (by decide) (by decide) (by decide))) rfl rfl rfl hl.1 rfl (Nat.le_of_ble_eq_true rfl) dX6_way_270 ⟨Nat.le_of_ble_eq_true rfl, Nat.le_of_ble_eq_true rfl⟩ rfl (fun F H locs hP hw => ?_)
                                                obtain ⟨mv3, hM3, h312, h316⟩ := hP
                                                have e312 : mv3 12 = (wf (rg kvs) (fun t => pl kvr (ia + t)) k) := h312.trans hw5
                                                have e316 : mv3 16 = wl (rg kvs) (fun t => pl kvr (ia + t)) k := h316.trans h16
                                                refine lv_iconst (v := 0) hx hb dX6_way_273 (by decide) ?_
                                                refine lv_istore (lv' := [(11, .int 0), (0, .ref (ma 0)), (1, .int (nI kvs)), (2, .int (nI kvr)), (3, .int (nI ia)), (4, .int (nI nb)), (10, .int (nI k))]) hx hb dX6_way_274 hl (by decide) rfl (fun ls hl => ?_)
                                                refine lv_iload hx hb dX6_way_276 (lv_at hl 0 rfl) ?_
                                                refine lv_iconst (v := 4) hx hb dX6_way_278 (by decide) ?_
                                                refine lv_icmp_ge (tgt := 307) hx hb dX6_way_279 (by decide) (fun c_279 => ?_) (fun c_279 => ?_)
                                                · skip
                                                  first | exact absurd c_279 (by decide) | exact absurd (by decide) c_279
                                                · skip
                                                  refine lv_aload_n hx hb dX6_way_282 rfl (lv_at hl 1 rfl) ?_
                                                  refine h_get hx hb hE hw hts hinX6 hown (ci := 6) rfl 6 (by decide) lk_26 (fun _ h9 => h9) hM3.ob rfl dX6_way_283 ?_
                                                  refine lv_iconst (v := 4) hx hb dX6_way_286 (by decide) ?_
                                                  refine lv_iload hx hb dX6_way_287 (lv_at hl 6 rfl) ?_
                                                  refine h_imulN hx hb 4 k dX6_way_289 ?_
                                                  refine lv_iload hx hb dX6_way_290 (lv_at hl 0 rfl) ?_
                                                  refine h_iaddN hx hb (4 * k) 0 dX6_way_292 ?_
                                                  refine lv_aload_n hx hb dX6_way_293 rfl (lv_at hl 1 rfl) ?_
                                                  refine h_get hx hb hE hw hts hinX6 hown (ci := 6) rfl 12 (by decide) lk_44 (fun _ h9 => h9) hM3.ob rfl dX6_way_294 ?_
                                                  refine lv_iload hx hb dX6_way_297 (lv_at hl 0 rfl) ?_
                                                  refine h_lald hx hb hE hw (pt_eq (hM3.v (i := 12) (by decide) (by decide)) (by rw [show ((mk, msz, msh, mrg, fc2, mmd, mv3, mcn) : MS).2.2.2.2.2.2.1 12 = (wf (rg kvs) (fun t => pl kvr (ia + t)) k) from e312])) (n := 4) (vp_in_nI (n := 0) (N := 4) (by decide) (by decide)) (v := (wf (rg kvs) (fun t => pl kvr (ia + t)) k).1) rfl dX6_way_299 ?_
                                                  refine h_last hx hb hE hw hM3.fc (vp_in_nI (n := ((4 * k) + 0)) (N := 48) (by omega) (by decide)) (g := vp_updL fc2 ((4 * k) + 0) ((wf (rg kvs) (fun t => pl kvr (ia + t)) k).1)) (by rw [nI_clamp (by omega)]) dX6_way_300 (fun H locs hw => ?_)
                                                  refine lv_iinc (v := 1) (lv' := [(11, .int 1), (0, .ref (ma 0)), (1, .int (nI kvs)), (2, .int (nI kvr)), (3, .int (nI ia)), (4, .int (nI nb)), (10, .int (nI k))]) hx hb dX6_way_301 hl (k := 0) rfl (by decide) (by decide) rfl (fun ls hl => ?_)
                                                  refine lv_goto (tgt := 276) hx hb dX6_way_304 (by decide) ?_
                                                  refine lv_iload hx hb dX6_way_276 (lv_at hl 0 rfl) ?_
                                                  refine lv_iconst (v := 4) hx hb dX6_way_278 (by decide) ?_
                                                  refine lv_icmp_ge (tgt := 307) hx hb dX6_way_279 (by decide) (fun c_279 => ?_) (fun c_279 => ?_)
                                                  · skip
                                                    first | exact absurd c_279 (by decide) | exact absurd (by decide) c_279
                                                  · skip
                                                    refine lv_aload_n hx hb dX6_way_282 rfl (lv_at hl 1 rfl) ?_
                                                    refine h_get hx hb hE hw hts hinX6 hown (ci := 6) rfl 6 (by decide) lk_26 (fun _ h9 => h9) (pt_ne hM3.ob (hM.ne (i := 0) (j := 6) (by decide) (by decide) (by decide))) rfl dX6_way_283 ?_
                                                    refine lv_iconst (v := 4) hx hb dX6_way_286 (by decide) ?_
                                                    refine lv_iload hx hb dX6_way_287 (lv_at hl 6 rfl) ?_
                                                    refine h_imulN hx hb 4 k dX6_way_289 ?_
                                                    refine lv_iload hx hb dX6_way_290 (lv_at hl 0 rfl) ?_
                                                    refine h_iaddN hx hb (4 * k) 1 dX6_way_292 ?_
                                                    refine lv_aload_n hx hb dX6_way_293 rfl (lv_at hl 1 rfl) ?_
                                                    refine h_get hx hb hE hw hts hinX6 hown (ci := 6) rfl 12 (by decide) lk_44 (fun _ h9 => h9) (pt_ne hM3.ob (hM.ne (i := 0) (j := 6) (by decide) (by decide) (by decide))) rfl dX6_way_294 ?_
                                                    refine lv_iload hx hb dX6_way_297 (lv_at hl 0 rfl) ?_
                                                    refine h_lald hx hb hE hw (pt_ne (pt_eq (hM3.v (i := 12) (by decide) (by decide)) (by rw [show ((mk, msz, msh, mrg, fc2, mmd, mv3, mcn) : MS).2.2.2.2.2.2.1 12 = (wf (rg kvs) (fun t => pl kvr (ia + t)) k) from e312])) (hM.ne (i := 12) (j := 6) (by decide) (by decide) (by decide))) (n := 4) (vp_in_nI (n := 1) (N := 4) (by decide) (by decide)) (v := (wf (rg kvs) (fun t => pl kvr (ia + t)) k).2.1) rfl dX6_way_299 ?_
                                                    refine h_last hx hb hE hw (pt_up hM3.fc) (vp_in_nI (n := ((4 * k) + 1)) (N := 48) (by omega) (by decide)) (g := vp_updL (vp_updL fc2 ((4 * k) + 0) ((wf (rg kvs) (fun t => pl kvr (ia + t)) k).1)) ((4 * k) + 1) ((wf (rg kvs) (fun t => pl kvr (ia + t)) k).2.1)) (by rw [nI_clamp (by omega)]) dX6_way_300 (fun H locs hw => ?_)
                                                    refine lv_iinc (v := 2) (lv' := [(11, .int 2), (0, .ref (ma 0)), (1, .int (nI kvs)), (2, .int (nI kvr)), (3, .int (nI ia)), (4, .int (nI nb)), (10, .int (nI k))]) hx hb dX6_way_301 hl (k := 0) rfl (by decide) (by decide) rfl (fun ls hl => ?_)
                                                    refine lv_goto (tgt := 276) hx hb dX6_way_304 (by decide) ?_
                                                    refine lv_iload hx hb dX6_way_276 (lv_at hl 0 rfl) ?_
                                                    refine lv_iconst (v := 4) hx hb dX6_way_278 (by decide) ?_
                                                    refine lv_icmp_ge (tgt := 307) hx hb dX6_way_279 (by decide) (fun c_279 => ?_) (fun c_279 => ?_)
                                                    · skip
                                                      first | exact absurd c_279 (by decide) | exact absurd (by decide) c_279
                                                    · skip
                                                      refine lv_aload_n hx hb dX6_way_282 rfl (lv_at hl 1 rfl) ?_
                                                      refine h_get hx hb hE hw hts hinX6 hown (ci := 6) rfl 6 (by decide) lk_26 (fun _ h9 => h9) (pt_ne (pt_ne hM3.ob (hM.ne (i := 0) (j := 6) (by decide) (by decide) (by decide))) (hM.ne (i := 0) (j := 6) (by decide) (by decide) (by decide))) rfl dX6_way_283 ?_
                                                      refine lv_iconst (v := 4) hx hb dX6_way_286 (by decide) ?_
                                                      refine lv_iload hx hb dX6_way_287 (lv_at hl 6 rfl) ?_
                                                      refine h_imulN hx hb 4 k dX6_way_289 ?_
                                                      refine lv_iload hx hb dX6_way_290 (lv_at hl 0 rfl) ?_
                                                      refine h_iaddN hx hb (4 * k) 2 dX6_way_292 ?_
                                                      refine lv_aload_n hx hb dX6_way_293 rfl (lv_at hl 1 rfl) ?_
                                                      refine h_get hx hb hE hw hts hinX6 hown (ci := 6) rfl 12 (by decide) lk_44 (fun _ h9 => h9) (pt_ne (pt_ne hM3.ob (hM.ne (i := 0) (j := 6) (by decide) (by decide) (by decide))) (hM.ne (i := 0) (j := 6) (by decide) (by decide) (by decide))) rfl dX6_way_294 ?_
                                                      refine lv_iload hx hb dX6_way_297 (lv_at hl 0 rfl) ?_
                                                      refine h_lald hx hb hE hw (pt_ne (pt_ne (pt_eq (hM3.v (i := 12) (by decide) (by decide)) (by rw [show ((mk, msz, msh, mrg, fc2, mmd, mv3, mcn) : MS).2.2.2.2.2.2.1 12 = (wf (rg kvs) (fun t => pl kvr (ia + t)) k) from e312])) (hM.ne (i := 12) (j := 6) (by decide) (by decide) (by decide))) (hM.ne (i := 12) (j := 6) (by decide) (by decide) (by decide))) (n := 4) (vp_in_nI (n := 2) (N := 4) (by decide) (by decide)) (v := (wf (rg kvs) (fun t => pl kvr (ia + t)) k).2.2.1) rfl dX6_way_299 ?_
                                                      refine h_last hx hb hE hw (pt_up (pt_up hM3.fc)) (vp_in_nI (n := ((4 * k) + 2)) (N := 48) (by omega) (by decide)) (g := vp_updL (vp_updL (vp_updL fc2 ((4 * k) + 0) ((wf (rg kvs) (fun t => pl kvr (ia + t)) k).1)) ((4 * k) + 1) ((wf (rg kvs) (fun t => pl kvr (ia + t)) k).2.1)) ((4 * k) + 2) ((wf (rg kvs) (fun t => pl kvr (ia + t)) k).2.2.1)) (by rw [nI_clamp (by omega)]) dX6_way_300 (fun H locs hw => ?_)
                                                      refine lv_iinc (v := 3) (lv' := [(11, .int 3), (0, .ref (ma 0)), (1, .int (nI kvs)), (2, .int (nI kvr)), (3, .int (nI ia)), (4, .int (nI nb)), (10, .int (nI k))]) hx hb dX6_way_301 hl (k := 0) rfl (by decide) (by decide) rfl (fun ls hl => ?_)
                                                      refine lv_goto (tgt := 276) hx hb dX6_way_304 (by decide) ?_
                                                      refine lv_iload hx hb dX6_way_276 (lv_at hl 0 rfl) ?_
                                                      refine lv_iconst (v := 4) hx hb dX6_way_278 (by decide) ?_
                                                      refine lv_icmp_ge (tgt := 307) hx hb dX6_way_279 (by decide) (fun c_279 => ?_) (fun c_279 => ?_)
                                                      · skip
                                                        first | exact absurd c_279 (by decide) | exact absurd (by decide) c_279
                                                      · skip
                                                        refine lv_aload_n hx hb dX6_way_282 rfl (lv_at hl 1 rfl) ?_
                                                        refine h_get hx hb hE hw hts hinX6 hown (ci := 6) rfl 6 (by decide) lk_26 (fun _ h9 => h9) (pt_ne (pt_ne (pt_ne hM3.ob (hM.ne (i := 0) (j := 6) (by decide) (by decide) (by decide))) (hM.ne (i := 0) (j := 6) (by decide) (by decide) (by decide))) (hM.ne (i := 0) (j := 6) (by decide) (by decide) (by decide))) rfl dX6_way_283 ?_
                                                        refine lv_iconst (v := 4) hx hb dX6_way_286 (by decide) ?_
                                                        refine lv_iload hx hb dX6_way_287 (lv_at hl 6 rfl) ?_
                                                        refine h_imulN hx hb 4 k dX6_way_289 ?_
                                                        refine lv_iload hx hb dX6_way_290 (lv_at hl 0 rfl) ?_
                                                        refine h_iaddN hx hb (4 * k) 3 dX6_way_292 ?_
                                                        refine lv_aload_n hx hb dX6_way_293 rfl (lv_at hl 1 rfl) ?_
                                                        refine h_get hx hb hE hw hts hinX6 hown (ci := 6) rfl 12 (by decide) lk_44 (fun _ h9 => h9) (pt_ne (pt_ne (pt_ne hM3.ob (hM.ne (i := 0) (j := 6) (by decide) (by decide) (by decide))) (hM.ne (i := 0) (j := 6) (by decide) (by decide) (by decide))) (hM.ne (i := 0) (j := 6) (by decide) (by decide) (by decide))) rfl dX6_way_294 ?_
                                                        refine lv_iload hx hb dX6_way_297 (lv_at hl 0 rfl) ?_
                                                        refine h_lald hx hb hE hw (pt_ne (pt_ne (pt_ne (pt_eq (hM3.v (i := 12) (by decide) (by decide)) (by rw [show ((mk, msz, msh, mrg, fc2, mmd, mv3, mcn) : MS).2.2.2.2.2.2.1 12 = (wf (rg kvs) (fun t => pl kvr (ia + t)) k) from e312])) (hM.ne (i := 12) (j := 6) (by decide) (by decide) (by decide))) (hM.ne (i := 12) (j := 6) (by decide) (by decide) (by decide))) (hM.ne (i := 12) (j := 6) (by decide) (by decide) (by decide))) (n := 4) (vp_in_nI (n := 3) (N := 4) (by decide) (by decide)) (v := (wf (rg kvs) (fun t => pl kvr (ia + t)) k).2.2.2) rfl dX6_way_299 ?_
                                                        refine h_last hx hb hE hw (pt_up (pt_up (pt_up hM3.fc))) (vp_in_nI (n := ((4 * k) + 3)) (N := 48) (by omega) (by decide)) (g := vp_updL (vp_updL (vp_updL (vp_updL fc2 ((4 * k) + 0) ((wf (rg kvs) (fun t => pl kvr (ia + t)) k).1)) ((4 * k) + 1) ((wf (rg kvs) (fun t => pl kvr (ia + t)) k).2.1)) ((4 * k) + 2) ((wf (rg kvs) (fun t => pl kvr (ia + t)) k).2.2.1)) ((4 * k) + 3) ((wf (rg kvs) (fun t => pl kvr (ia + t)) k).2.2.2)) (by rw [nI_clamp (by omega)]) dX6_way_300 (fun H locs hw => ?_)
                                                        refine lv_iinc (v := 4) (lv' := [(11, .int 4), (0, .ref (ma 0)), (1, .int (nI kvs)), (2, .int (nI kvr)), (3, .int (nI ia)), (4, .int (nI nb)), (10, .int (nI k))]) hx hb dX6_way_301 hl (k := 0) rfl (by decide) (by decide) rfl (fun ls hl => ?_)
                                                        refine lv_goto (tgt := 276) hx hb dX6_way_304 (by decide) ?_
                                                        refine lv_iload hx hb dX6_way_276 (lv_at hl 0 rfl) ?_
                                                        refine lv_iconst (v := 4) hx hb dX6_way_278 (by decide) ?_
                                                        refine lv_icmp_ge (tgt := 307) hx hb dX6_way_279 (by decide) (fun c_279 => ?_) (fun c_279 => ?_)
                                                        · skip
                                                          refine lv_aload_n hx hb dX6_way_307 rfl (lv_at hl 1 rfl) ?_
                                                          refine h_get hx hb hE hw hts hinX6 hown (ci := 6) rfl 12 (by decide) lk_44 (fun _ h9 => h9) (pt_ne (pt_ne (pt_ne (pt_ne hM3.ob (hM.ne (i := 0) (j := 6) (by decide) (by decide) (by decide))) (hM.ne (i := 0) (j := 6) (by decide) (by decide) (by decide))) (hM.ne (i := 0) (j := 6) (by decide) (by decide) (by decide))) (hM.ne (i := 0) (j := 6) (by decide) (by decide) (by decide))) rfl dX6_way_308 ?_
                                                          refine h_callS (st1 := [.long (qnorm (wf (rg kvs) (fun t => pl kvr (ia + t)) k))]) [.ref (ma 12)] [] ⟨hx, hb, hml, hown, hts⟩ hE hw (c_X6_norm l G A (ML ma) (va_up (va_up (va_up (va_up F (ma 6) (eJ G 48 (vp_updL fc2 ((4 * k) + 0) ((wf (rg kvs) (fun t => pl kvr (ia + t)) k).1)))) (ma 6) (eJ G 48 (vp_updL (vp_updL fc2 ((4 * k) + 0) ((wf (rg kvs) (fun t => pl kvr (ia + t)) k).1)) ((4 * k) + 1) ((wf (rg kvs) (fun t => pl kvr (ia + t)) k).2.1)))) (ma 6) (eJ G 48 (vp_updL (vp_updL (vp_updL fc2 ((4 * k) + 0) ((wf (rg kvs) (fun t => pl kvr (ia + t)) k).1)) ((4 * k) + 1) ((wf (rg kvs) (fun t => pl kvr (ia + t)) k).2.1)) ((4 * k) + 2) ((wf (rg kvs) (fun t => pl kvr (ia + t)) k).2.2.1)))) (ma 6) (eJ G 48 (vp_updL (vp_updL (vp_updL (vp_updL fc2 ((4 * k) + 0) ((wf (rg kvs) (fun t => pl kvr (ia + t)) k).1)) ((4 * k) + 1) ((wf (rg kvs) (fun t => pl kvr (ia + t)) k).2.1)) ((4 * k) + 2) ((wf (rg kvs) (fun t => pl kvr (ia + t)) k).2.2.1)) ((4 * k) + 3) ((wf (rg kvs) (fun t => pl kvr (ia + t)) k).2.2.2)))) (ma 12) (wf (rg kvs) (fun t => pl kvr (ia + t)) k) (pt_ne (pt_ne (pt_ne (pt_ne (pt_eq (hM3.v (i := 12) (by decide) (by decide)) (by rw [show ((mk, msz, msh, mrg, fc2, mmd, mv3, mcn) : MS).2.2.2.2.2.2.1 12 = (wf (rg kvs) (fun t => pl kvr (ia + t)) k) from e312])) (hM.ne (i := 12) (j := 6) (by decide) (by decide) (by decide))) (hM.ne (i := 12) (j := 6) (by decide) (by decide) (by decide))) (hM.ne (i := 12) (j := 6) (by decide) (by decide) (by decide))) (hM.ne (i := 12) (j := 6) (by decide) (by decide) (by decide)))) (va_cwS 1 hts gX6_way_X6_norm rfl rfl rfl (by decide +kernel) ⟨Nat.le_of_ble_eq_true rfl, Nat.le_of_ble_eq_true rfl⟩) rfl hl.1 rfl (Nat.le_of_ble_eq_true rfl) dX6_way_311 ⟨Nat.le_of_ble_eq_true rfl, Nat.le_of_ble_eq_true rfl⟩ rfl (fun H locs hw => ?_)
                                                          refine lv_lstore (lv' := [(11, .long (qnorm (wf (rg kvs) (fun t => pl kvr (ia + t)) k))), (0, .ref (ma 0)), (1, .int (nI kvs)), (2, .int (nI kvr)), (3, .int (nI ia)), (4, .int (nI nb)), (10, .int (nI k))]) hx hb dX6_way_314 hl (by decide) rfl (fun ls hl => ?_)
                                                          refine lv_aload_n hx hb dX6_way_316 rfl (lv_at hl 1 rfl) ?_
                                                          refine h_get hx hb hE hw hts hinX6 hown (ci := 6) rfl 12 (by decide) lk_44 (fun _ h9 => h9) (pt_ne (pt_ne (pt_ne (pt_ne hM3.ob (hM.ne (i := 0) (j := 6) (by decide) (by decide) (by decide))) (hM.ne (i := 0) (j := 6) (by decide) (by decide) (by decide))) (hM.ne (i := 0) (j := 6) (by decide) (by decide) (by decide))) (hM.ne (i := 0) (j := 6) (by decide) (by decide) (by decide))) rfl dX6_way_317 ?_
                                                          refine h_callS (st1 := []) [.ref (ma 12)] [] ⟨hx, hb, hml, hown, hts⟩ hE hw (c_X6_mirror l G A (ML ma) (va_up (va_up (va_up (va_up F (ma 6) (eJ G 48 (vp_updL fc2 ((4 * k) + 0) ((wf (rg kvs) (fun t => pl kvr (ia + t)) k).1)))) (ma 6) (eJ G 48 (vp_updL (vp_updL fc2 ((4 * k) + 0) ((wf (rg kvs) (fun t => pl kvr (ia + t)) k).1)) ((4 * k) + 1) ((wf (rg kvs) (fun t => pl kvr (ia + t)) k).2.1)))) (ma 6) (eJ G 48 (vp_updL (vp_updL (vp_updL fc2 ((4 * k) + 0) ((wf (rg kvs) (fun t => pl kvr (ia + t)) k).1)) ((4 * k) + 1) ((wf (rg kvs) (fun t => pl kvr (ia + t)) k).2.1)) ((4 * k) + 2) ((wf (rg kvs) (fun t => pl kvr (ia + t)) k).2.2.1)))) (ma 6) (eJ G 48 (vp_updL (vp_updL (vp_updL (vp_updL fc2 ((4 * k) + 0) ((wf (rg kvs) (fun t => pl kvr (ia + t)) k).1)) ((4 * k) + 1) ((wf (rg kvs) (fun t => pl kvr (ia + t)) k).2.1)) ((4 * k) + 2) ((wf (rg kvs) (fun t => pl kvr (ia + t)) k).2.2.1)) ((4 * k) + 3) ((wf (rg kvs) (fun t => pl kvr (ia + t)) k).2.2.2)))) (ma 12) (wf (rg kvs) (fun t => pl kvr (ia + t)) k) (pt_ne (pt_ne (pt_ne (pt_ne (pt_eq (hM3.v (i := 12) (by decide) (by decide)) (by rw [show ((mk, msz, msh, mrg, fc2, mmd, mv3, mcn) : MS).2.2.2.2.2.2.1 12 = (wf (rg kvs) (fun t => pl kvr (ia + t)) k) from e312])) (hM.ne (i := 12) (j := 6) (by decide) (by decide) (by decide))) (hM.ne (i := 12) (j := 6) (by decide) (by decide) (by decide))) (hM.ne (i := 12) (j := 6) (by decide) (by decide) (by decide))) (hM.ne (i := 12) (j := 6) (by decide) (by decide) (by decide)))) (va_cwS 1 hts gX6_way_X6_mirror rfl rfl rfl (by decide +kernel) ⟨Nat.le_of_ble_eq_true rfl, Nat.le_of_ble_eq_true rfl⟩) rfl hl.1 rfl (Nat.le_of_ble_eq_true rfl) dX6_way_320 ⟨Nat.le_of_ble_eq_true rfl, Nat.le_of_ble_eq_true rfl⟩ rfl (fun H locs hw => ?_)
                                                          refine lv_aload_n hx hb dX6_way_323 rfl (lv_at hl 1 rfl) ?_
                                                          refine h_get hx hb hE hw hts hinX6 hown (ci := 6) rfl 10 (by decide) lk_38 (fun _ h9 => h9) (pt_ne (pt_ne (pt_ne (pt_ne (pt_ne hM3.ob (hM.ne (i := 0) (j := 6) (by decide) (by decide) (by decide))) (hM.ne (i := 0) (j := 6) (by decide) (by decide) (by decide))) (hM.ne (i := 0) (j := 6) (by decide) (by decide) (by decide))) (hM.ne (i := 0) (j := 6) (by decide) (by decide) (by decide))) (hM.ne (i := 0) (j := 12) (by decide) (by decide) (by decide))) rfl dX6_way_324 ?_
                                                          refine lv_aload_n hx hb dX6_way_327 rfl (lv_at hl 1 rfl) ?_
                                                          refine h_get hx hb hE hw hts hinX6 hown (ci := 6) rfl 12 (by decide) lk_44 (fun _ h9 => h9) (pt_ne (pt_ne (pt_ne (pt_ne (pt_ne hM3.ob (hM.ne (i := 0) (j := 6) (by decide) (by decide) (by decide))) (hM.ne (i := 0) (j := 6) (by decide) (by decide) (by decide))) (hM.ne (i := 0) (j := 6) (by decide) (by decide) (by decide))) (hM.ne (i := 0) (j := 6) (by decide) (by decide) (by decide))) (hM.ne (i := 0) (j := 12) (by decide) (by decide) (by decide))) rfl dX6_way_328 ?_
                                                          refine lv_aload_n hx hb dX6_way_331 rfl (lv_at hl 1 rfl) ?_
                                                          refine h_get hx hb hE hw hts hinX6 hown (ci := 6) rfl 16 (by decide) lk_56 (fun _ h9 => h9) (pt_ne (pt_ne (pt_ne (pt_ne (pt_ne hM3.ob (hM.ne (i := 0) (j := 6) (by decide) (by decide) (by decide))) (hM.ne (i := 0) (j := 6) (by decide) (by decide) (by decide))) (hM.ne (i := 0) (j := 6) (by decide) (by decide) (by decide))) (hM.ne (i := 0) (j := 6) (by decide) (by decide) (by decide))) (hM.ne (i := 0) (j := 12) (by decide) (by decide) (by decide))) rfl dX6_way_332 ?_
                                                          refine h_callS (st1 := []) [.ref (ma 10), .ref (ma 12), .ref (ma 16)] [] ⟨hx, hb, hml, hown, hts⟩ hE hw (c_X6_times l G A (ML ma) (va_up (va_up (va_up (va_up (va_up F (ma 6) (eJ G 48 (vp_updL fc2 ((4 * k) + 0) ((wf (rg kvs) (fun t => pl kvr (ia + t)) k).1)))) (ma 6) (eJ G 48 (vp_updL (vp_updL fc2 ((4 * k) + 0) ((wf (rg kvs) (fun t => pl kvr (ia + t)) k).1)) ((4 * k) + 1) ((wf (rg kvs) (fun t => pl kvr (ia + t)) k).2.1)))) (ma 6) (eJ G 48 (vp_updL (vp_updL (vp_updL fc2 ((4 * k) + 0) ((wf (rg kvs) (fun t => pl kvr (ia + t)) k).1)) ((4 * k) + 1) ((wf (rg kvs) (fun t => pl kvr (ia + t)) k).2.1)) ((4 * k) + 2) ((wf (rg kvs) (fun t => pl kvr (ia + t)) k).2.2.1)))) (ma 6) (eJ G 48 (vp_updL (vp_updL (vp_updL (vp_updL fc2 ((4 * k) + 0) ((wf (rg kvs) (fun t => pl kvr (ia + t)) k).1)) ((4 * k) + 1) ((wf (rg kvs) (fun t => pl kvr (ia + t)) k).2.1)) ((4 * k) + 2) ((wf (rg kvs) (fun t => pl kvr (ia + t)) k).2.2.1)) ((4 * k) + 3) ((wf (rg kvs) (fun t => pl kvr (ia + t)) k).2.2.2)))) (ma 12) (eJ4 G (qmir (wf (rg kvs) (fun t => pl kvr (ia + t)) k)))) (ma 10) (ma 12) (ma 16) (mv3 10) (qmir (wf (rg kvs) (fun t => pl kvr (ia + t)) k)) (wl (rg kvs) (fun t => pl kvr (ia + t)) k) (pt_ne (pt_ne (pt_ne (pt_ne (pt_ne (hM3.v (i := 10) (by decide) (by decide)) (hM.ne (i := 10) (j := 6) (by decide) (by decide) (by decide))) (hM.ne (i := 10) (j := 6) (by decide) (by decide) (by decide))) (hM.ne (i := 10) (j := 6) (by decide) (by decide) (by decide))) (hM.ne (i := 10) (j := 6) (by decide) (by decide) (by decide))) (hM.ne (i := 10) (j := 12) (by decide) (by decide) (by decide))) (pt_up (pt_ne (pt_ne (pt_ne (pt_ne (pt_eq (hM3.v (i := 12) (by decide) (by decide)) (by rw [show ((mk, msz, msh, mrg, fc2, mmd, mv3, mcn) : MS).2.2.2.2.2.2.1 12 = (wf (rg kvs) (fun t => pl kvr (ia + t)) k) from e312])) (hM.ne (i := 12) (j := 6) (by decide) (by decide) (by decide))) (hM.ne (i := 12) (j := 6) (by decide) (by decide) (by decide))) (hM.ne (i := 12) (j := 6) (by decide) (by decide) (by decide))) (hM.ne (i := 12) (j := 6) (by decide) (by decide) (by decide)))) (pt_ne (pt_ne (pt_ne (pt_ne (pt_ne (pt_eq (hM3.v (i := 16) (by decide) (by decide)) (by rw [show ((mk, msz, msh, mrg, fc2, mmd, mv3, mcn) : MS).2.2.2.2.2.2.1 16 = (wl (rg kvs) (fun t => pl kvr (ia + t)) k) from e316])) (hM.ne (i := 16) (j := 6) (by decide) (by decide) (by decide))) (hM.ne (i := 16) (j := 6) (by decide) (by decide) (by decide))) (hM.ne (i := 16) (j := 6) (by decide) (by decide) (by decide))) (hM.ne (i := 16) (j := 6) (by decide) (by decide) (by decide))) (hM.ne (i := 16) (j := 12) (by decide) (by decide) (by decide))) (hM.ne (i := 10) (j := 12) (by decide) (by decide) (by decide)) (hM.ne (i := 10) (j := 16) (by decide) (by decide) (by decide))) (va_cwS 3 hts gX6_way_X6_times rfl rfl rfl (by decide +kernel) ⟨Nat.le_of_ble_eq_true rfl, Nat.le_of_ble_eq_true rfl⟩) rfl hl.1 rfl (Nat.le_of_ble_eq_true rfl) dX6_way_335 ⟨Nat.le_of_ble_eq_true rfl, Nat.le_of_ble_eq_true rfl⟩ rfl (fun H locs hw => ?_)
                                                          refine lv_iconst (v := 0) hx hb dX6_way_338 (by decide) ?_
                                                          refine lv_istore (lv' := [(13, .int 0), (11, .long (qnorm (wf (rg kvs) (fun t => pl kvr (ia + t)) k))), (0, .ref (ma 0)), (1, .int (nI kvs)), (2, .int (nI kvr)), (3, .int (nI ia)), (4, .int (nI nb)), (10, .int (nI k))]) hx hb dX6_way_339 hl (by decide) rfl (fun ls hl => ?_)
                                                          refine lv_iload hx hb dX6_way_341 (lv_at hl 0 rfl) ?_
                                                          refine lv_iconst (v := 4) hx hb dX6_way_343 (by decide) ?_
                                                          refine lv_icmp_ge (tgt := 370) hx hb dX6_way_344 (by decide) (fun c_344 => ?_) (fun c_344 => ?_)
                                                          · skip
                                                            first | exact absurd c_344 (by decide) | exact absurd (by decide) c_344
                                                          · skip
                                                            refine lv_aload_n hx hb dX6_way_347 rfl (lv_at hl 2 rfl) ?_
                                                            refine h_get hx hb hE hw hts hinX6 hown (ci := 6) rfl 16 (by decide) lk_56 (fun _ h9 => h9) (pt_ne (pt_ne (pt_ne (pt_ne (pt_ne (pt_ne hM3.ob (hM.ne (i := 0) (j := 6) (by decide) (by decide) (by decide))) (hM.ne (i := 0) (j := 6) (by decide) (by decide) (by decide))) (hM.ne (i := 0) (j := 6) (by decide) (by decide) (by decide))) (hM.ne (i := 0) (j := 6) (by decide) (by decide) (by decide))) (hM.ne (i := 0) (j := 12) (by decide) (by decide) (by decide))) (hM.ne (i := 0) (j := 10) (by decide) (by decide) (by decide))) rfl dX6_way_348 ?_
                                                            refine lv_iload hx hb dX6_way_351 (lv_at hl 0 rfl) ?_
                                                            refine lv_aload_n hx hb dX6_way_353 rfl (lv_at hl 2 rfl) ?_
                                                            refine h_get hx hb hE hw hts hinX6 hown (ci := 6) rfl 10 (by decide) lk_38 (fun _ h9 => h9) (pt_ne (pt_ne (pt_ne (pt_ne (pt_ne (pt_ne hM3.ob (hM.ne (i := 0) (j := 6) (by decide) (by decide) (by decide))) (hM.ne (i := 0) (j := 6) (by decide) (by decide) (by decide))) (hM.ne (i := 0) (j := 6) (by decide) (by decide) (by decide))) (hM.ne (i := 0) (j := 6) (by decide) (by decide) (by decide))) (hM.ne (i := 0) (j := 12) (by decide) (by decide) (by decide))) (hM.ne (i := 0) (j := 10) (by decide) (by decide) (by decide))) rfl dX6_way_354 ?_
                                                            refine lv_iload hx hb dX6_way_357 (lv_at hl 0 rfl) ?_
                                                            refine h_lald hx hb hE hw (pt_up (pt_ne (pt_ne (pt_ne (pt_ne (pt_ne (hM3.v (i := 10) (by decide) (by decide)) (hM.ne (i := 10) (j := 6) (by decide) (by decide) (by decide))) (hM.ne (i := 10) (j := 6) (by decide) (by decide) (by decide))) (hM.ne (i := 10) (j := 6) (by decide) (by decide) (by decide))) (hM.ne (i := 10) (j := 6) (by decide) (by decide) (by decide))) (hM.ne (i := 10) (j := 12) (by decide) (by decide) (by decide)))) (n := 4) (vp_in_nI (n := 0) (N := 4) (by decide) (by decide)) (v := (qmul (qmir (wf (rg kvs) (fun t => pl kvr (ia + t)) k)) (wl (rg kvs) (fun t => pl kvr (ia + t)) k)).1) rfl dX6_way_359 ?_
                                                            refine lv_lload hx hb dX6_way_360 (lv_at hl 1 rfl) ?_
                                                            refine lv_ldiv hx hb dX6_way_362 hw2 ?_
                                                            refine h_last hx hb hE hw (pt_ne (pt_ne (pt_ne (pt_ne (pt_ne (pt_ne (pt_eq (hM3.v (i := 16) (by decide) (by decide)) (by rw [show ((mk, msz, msh, mrg, fc2, mmd, mv3, mcn) : MS).2.2.2.2.2.2.1 16 = (wl (rg kvs) (fun t => pl kvr (ia + t)) k) from e316])) (hM.ne (i := 16) (j := 6) (by decide) (by decide) (by decide))) (hM.ne (i := 16) (j := 6) (by decide) (by decide) (by decide))) (hM.ne (i := 16) (j := 6) (by decide) (by decide) (by decide))) (hM.ne (i := 16) (j := 6) (by decide) (by decide) (by decide))) (hM.ne (i := 16) (j := 12) (by decide) (by decide) (by decide))) (hM.ne (i := 16) (j := 10) (by decide) (by decide) (by decide))) (n := 4) (vp_in_nI (n := 0) (N := 4) (by decide) (by decide)) (g := vp_updL (q4f (wl (rg kvs) (fun t => pl kvr (ia + t)) k)) 0 (((qmul (qmir (wf (rg kvs) (fun t => pl kvr (ia + t)) k)) (wl (rg kvs) (fun t => pl kvr (ia + t)) k)).1) / (qnorm (wf (rg kvs) (fun t => pl kvr (ia + t)) k)))) rfl dX6_way_363 (fun H locs hw => ?_)
                                                            have hw := wo_same hw (at_sameJ (G := G) (n := 4) (st4_0 (wl (rg kvs) (fun t => pl kvr (ia + t)) k) (((qmul (qmir (wf (rg kvs) (fun t => pl kvr (ia + t)) k)) (wl (rg kvs) (fun t => pl kvr (ia + t)) k)).1) / (qnorm (wf (rg kvs) (fun t => pl kvr (ia + t)) k)))))
                                                            refine lv_iinc (v := 1) (lv' := [(13, .int 1), (11, .long (qnorm (wf (rg kvs) (fun t => pl kvr (ia + t)) k))), (0, .ref (ma 0)), (1, .int (nI kvs)), (2, .int (nI kvr)), (3, .int (nI ia)), (4, .int (nI nb)), (10, .int (nI k))]) hx hb dX6_way_364 hl (k := 0) rfl (by decide) (by decide) rfl (fun ls hl => ?_)
                                                            refine lv_goto (tgt := 341) hx hb dX6_way_367 (by decide) ?_
                                                            refine lv_iload hx hb dX6_way_341 (lv_at hl 0 rfl) ?_
                                                            refine lv_iconst (v := 4) hx hb dX6_way_343 (by decide) ?_
                                                            refine lv_icmp_ge (tgt := 370) hx hb dX6_way_344 (by decide) (fun c_344 => ?_) (fun c_344 => ?_)
                                                            · skip
                                                              first | exact absurd c_344 (by decide) | exact absurd (by decide) c_344
                                                            · skip
                                                              refine lv_aload_n hx hb dX6_way_347 rfl (lv_at hl 2 rfl) ?_
                                                              refine h_get hx hb hE hw hts hinX6 hown (ci := 6) rfl 16 (by decide) lk_56 (fun _ h9 => h9) (pt_ne (pt_ne (pt_ne (pt_ne (pt_ne (pt_ne (pt_ne hM3.ob (hM.ne (i := 0) (j := 6) (by decide) (by decide) (by decide))) (hM.ne (i := 0) (j := 6) (by decide) (by decide) (by decide))) (hM.ne (i := 0) (j := 6) (by decide) (by decide) (by decide))) (hM.ne (i := 0) (j := 6) (by decide) (by decide) (by decide))) (hM.ne (i := 0) (j := 12) (by decide) (by decide) (by decide))) (hM.ne (i := 0) (j := 10) (by decide) (by decide) (by decide))) (hM.ne (i := 0) (j := 16) (by decide) (by decide) (by decide))) rfl dX6_way_348 ?_
                                                              refine lv_iload hx hb dX6_way_351 (lv_at hl 0 rfl) ?_
                                                              refine lv_aload_n hx hb dX6_way_353 rfl (lv_at hl 2 rfl) ?_
                                                              refine h_get hx hb hE hw hts hinX6 hown (ci := 6) rfl 10 (by decide) lk_38 (fun _ h9 => h9) (pt_ne (pt_ne (pt_ne (pt_ne (pt_ne (pt_ne (pt_ne hM3.ob (hM.ne (i := 0) (j := 6) (by decide) (by decide) (by decide))) (hM.ne (i := 0) (j := 6) (by decide) (by decide) (by decide))) (hM.ne (i := 0) (j := 6) (by decide) (by decide) (by decide))) (hM.ne (i := 0) (j := 6) (by decide) (by decide) (by decide))) (hM.ne (i := 0) (j := 12) (by decide) (by decide) (by decide))) (hM.ne (i := 0) (j := 10) (by decide) (by decide) (by decide))) (hM.ne (i := 0) (j := 16) (by decide) (by decide) (by decide))) rfl dX6_way_354 ?_
                                                              refine lv_iload hx hb dX6_way_357 (lv_at hl 0 rfl) ?_
                                                              refine h_lald hx hb hE hw (pt_ne (pt_up (pt_ne (pt_ne (pt_ne (pt_ne (pt_ne (hM3.v (i := 10) (by decide) (by decide)) (hM.ne (i := 10) (j := 6) (by decide) (by decide) (by decide))) (hM.ne (i := 10) (j := 6) (by decide) (by decide) (by decide))) (hM.ne (i := 10) (j := 6) (by decide) (by decide) (by decide))) (hM.ne (i := 10) (j := 6) (by decide) (by decide) (by decide))) (hM.ne (i := 10) (j := 12) (by decide) (by decide) (by decide)))) (hM.ne (i := 10) (j := 16) (by decide) (by decide) (by decide))) (n := 4) (vp_in_nI (n := 1) (N := 4) (by decide) (by decide)) (v := (qmul (qmir (wf (rg kvs) (fun t => pl kvr (ia + t)) k)) (wl (rg kvs) (fun t => pl kvr (ia + t)) k)).2.1) rfl dX6_way_359 ?_
                                                              refine lv_lload hx hb dX6_way_360 (lv_at hl 1 rfl) ?_
                                                              refine lv_ldiv hx hb dX6_way_362 hw2 ?_
                                                              refine h_last hx hb hE hw (pt_up (pt_ne (pt_ne (pt_ne (pt_ne (pt_ne (pt_ne (pt_eq (hM3.v (i := 16) (by decide) (by decide)) (by rw [show ((mk, msz, msh, mrg, fc2, mmd, mv3, mcn) : MS).2.2.2.2.2.2.1 16 = (wl (rg kvs) (fun t => pl kvr (ia + t)) k) from e316])) (hM.ne (i := 16) (j := 6) (by decide) (by decide) (by decide))) (hM.ne (i := 16) (j := 6) (by decide) (by decide) (by decide))) (hM.ne (i := 16) (j := 6) (by decide) (by decide) (by decide))) (hM.ne (i := 16) (j := 6) (by decide) (by decide) (by decide))) (hM.ne (i := 16) (j := 12) (by decide) (by decide) (by decide))) (hM.ne (i := 16) (j := 10) (by decide) (by decide) (by decide)))) (n := 4) (vp_in_nI (n := 1) (N := 4) (by decide) (by decide)) (g := vp_updL (q4f (((qmul (qmir (wf (rg kvs) (fun t => pl kvr (ia + t)) k)) (wl (rg kvs) (fun t => pl kvr (ia + t)) k)).1) / (qnorm (wf (rg kvs) (fun t => pl kvr (ia + t)) k)), (wl (rg kvs) (fun t => pl kvr (ia + t)) k).2.1, (wl (rg kvs) (fun t => pl kvr (ia + t)) k).2.2.1, (wl (rg kvs) (fun t => pl kvr (ia + t)) k).2.2.2)) 1 (((qmul (qmir (wf (rg kvs) (fun t => pl kvr (ia + t)) k)) (wl (rg kvs) (fun t => pl kvr (ia + t)) k)).2.1) / (qnorm (wf (rg kvs) (fun t => pl kvr (ia + t)) k)))) rfl dX6_way_363 (fun H locs hw => ?_)
                                                              have hw := wo_same hw (at_sameJ (G := G) (n := 4) (st4_1 (((qmul (qmir (wf (rg kvs) (fun t => pl kvr (ia + t)) k)) (wl (rg kvs) (fun t => pl kvr (ia + t)) k)).1) / (qnorm (wf (rg kvs) (fun t => pl kvr (ia + t)) k)), (wl (rg kvs) (fun t => pl kvr (ia + t)) k).2.1, (wl (rg kvs) (fun t => pl kvr (ia + t)) k).2.2.1, (wl (rg kvs) (fun t => pl kvr (ia + t)) k).2.2.2) (((qmul (qmir (wf (rg kvs) (fun t => pl kvr (ia + t)) k)) (wl (rg kvs) (fun t => pl kvr (ia + t)) k)).2.1) / (qnorm (wf (rg kvs) (fun t => pl kvr (ia + t)) k)))))
                                                              refine lv_iinc (v := 2) (lv' := [(13, .int 2), (11, .long (qnorm (wf (rg kvs) (fun t => pl kvr (ia + t)) k))), (0, .ref (ma 0)), (1, .int (nI kvs)), (2, .int (nI kvr)), (3, .int (nI ia)), (4, .int (nI nb)), (10, .int (nI k))]) hx hb dX6_way_364 hl (k := 0) rfl (by decide) (by decide) rfl (fun ls hl => ?_)
                                                              refine lv_goto (tgt := 341) hx hb dX6_way_367 (by decide) ?_
                                                              refine lv_iload hx hb dX6_way_341 (lv_at hl 0 rfl) ?_
                                                              refine lv_iconst (v := 4) hx hb dX6_way_343 (by decide) ?_
                                                              refine lv_icmp_ge (tgt := 370) hx hb dX6_way_344 (by decide) (fun c_344 => ?_) (fun c_344 => ?_)
                                                              · skip
                                                                first | exact absurd c_344 (by decide) | exact absurd (by decide) c_344
                                                              · skip
                                                                refine lv_aload_n hx hb dX6_way_347 rfl (lv_at hl 2 rfl) ?_
                                                                refine h_get hx hb hE hw hts hinX6 hown (ci := 6) rfl 16 (by decide) lk_56 (fun _ h9 => h9) (pt_ne (pt_ne (pt_ne (pt_ne (pt_ne (pt_ne (pt_ne (pt_ne hM3.ob (hM.ne (i := 0) (j := 6) (by decide) (by decide) (by decide))) (hM.ne (i := 0) (j := 6) (by decide) (by decide) (by decide))) (hM.ne (i := 0) (j := 6) (by decide) (by decide) (by decide))) (hM.ne (i := 0) (j := 6) (by decide) (by decide) (by decide))) (hM.ne (i := 0) (j := 12) (by decide) (by decide) (by decide))) (hM.ne (i := 0) (j := 10) (by decide) (by decide) (by decide))) (hM.ne (i := 0) (j := 16) (by decide) (by decide) (by decide))) (hM.ne (i := 0) (j := 16) (by decide) (by decide) (by decide))) rfl dX6_way_348 ?_
                                                                refine lv_iload hx hb dX6_way_351 (lv_at hl 0 rfl) ?_
                                                                refine lv_aload_n hx hb dX6_way_353 rfl (lv_at hl 2 rfl) ?_
                                                                refine h_get hx hb hE hw hts hinX6 hown (ci := 6) rfl 10 (by decide) lk_38 (fun _ h9 => h9) (pt_ne (pt_ne (pt_ne (pt_ne (pt_ne (pt_ne (pt_ne (pt_ne hM3.ob (hM.ne (i := 0) (j := 6) (by decide) (by decide) (by decide))) (hM.ne (i := 0) (j := 6) (by decide) (by decide) (by decide))) (hM.ne (i := 0) (j := 6) (by decide) (by decide) (by decide))) (hM.ne (i := 0) (j := 6) (by decide) (by decide) (by decide))) (hM.ne (i := 0) (j := 12) (by decide) (by decide) (by decide))) (hM.ne (i := 0) (j := 10) (by decide) (by decide) (by decide))) (hM.ne (i := 0) (j := 16) (by decide) (by decide) (by decide))) (hM.ne (i := 0) (j := 16) (by decide) (by decide) (by decide))) rfl dX6_way_354 ?_
                                                                refine lv_iload hx hb dX6_way_357 (lv_at hl 0 rfl) ?_
                                                                refine h_lald hx hb hE hw (pt_ne (pt_ne (pt_up (pt_ne (pt_ne (pt_ne (pt_ne (pt_ne (hM3.v (i := 10) (by decide) (by decide)) (hM.ne (i := 10) (j := 6) (by decide) (by decide) (by decide))) (hM.ne (i := 10) (j := 6) (by decide) (by decide) (by decide))) (hM.ne (i := 10) (j := 6) (by decide) (by decide) (by decide))) (hM.ne (i := 10) (j := 6) (by decide) (by decide) (by decide))) (hM.ne (i := 10) (j := 12) (by decide) (by decide) (by decide)))) (hM.ne (i := 10) (j := 16) (by decide) (by decide) (by decide))) (hM.ne (i := 10) (j := 16) (by decide) (by decide) (by decide))) (n := 4) (vp_in_nI (n := 2) (N := 4) (by decide) (by decide)) (v := (qmul (qmir (wf (rg kvs) (fun t => pl kvr (ia + t)) k)) (wl (rg kvs) (fun t => pl kvr (ia + t)) k)).2.2.1) rfl dX6_way_359 ?_
                                                                refine lv_lload hx hb dX6_way_360 (lv_at hl 1 rfl) ?_
                                                                refine lv_ldiv hx hb dX6_way_362 hw2 ?_
                                                                refine h_last hx hb hE hw (pt_up (pt_up (pt_ne (pt_ne (pt_ne (pt_ne (pt_ne (pt_ne (pt_eq (hM3.v (i := 16) (by decide) (by decide)) (by rw [show ((mk, msz, msh, mrg, fc2, mmd, mv3, mcn) : MS).2.2.2.2.2.2.1 16 = (wl (rg kvs) (fun t => pl kvr (ia + t)) k) from e316])) (hM.ne (i := 16) (j := 6) (by decide) (by decide) (by decide))) (hM.ne (i := 16) (j := 6) (by decide) (by decide) (by decide))) (hM.ne (i := 16) (j := 6) (by decide) (by decide) (by decide))) (hM.ne (i := 16) (j := 6) (by decide) (by decide) (by decide))) (hM.ne (i := 16) (j := 12) (by decide) (by decide) (by decide))) (hM.ne (i := 16) (j := 10) (by decide) (by decide) (by decide))))) (n := 4) (vp_in_nI (n := 2) (N := 4) (by decide) (by decide)) (g := vp_updL (q4f (((qmul (qmir (wf (rg kvs) (fun t => pl kvr (ia + t)) k)) (wl (rg kvs) (fun t => pl kvr (ia + t)) k)).1) / (qnorm (wf (rg kvs) (fun t => pl kvr (ia + t)) k)), ((qmul (qmir (wf (rg kvs) (fun t => pl kvr (ia + t)) k)) (wl (rg kvs) (fun t => pl kvr (ia + t)) k)).2.1) / (qnorm (wf (rg kvs) (fun t => pl kvr (ia + t)) k)), (wl (rg kvs) (fun t => pl kvr (ia + t)) k).2.2.1, (wl (rg kvs) (fun t => pl kvr (ia + t)) k).2.2.2)) 2 (((qmul (qmir (wf (rg kvs) (fun t => pl kvr (ia + t)) k)) (wl (rg kvs) (fun t => pl kvr (ia + t)) k)).2.2.1) / (qnorm (wf (rg kvs) (fun t => pl kvr (ia + t)) k)))) rfl dX6_way_363 (fun H locs hw => ?_)
                                                                have hw := wo_same hw (at_sameJ (G := G) (n := 4) (st4_2 (((qmul (qmir (wf (rg kvs) (fun t => pl kvr (ia + t)) k)) (wl (rg kvs) (fun t => pl kvr (ia + t)) k)).1) / (qnorm (wf (rg kvs) (fun t => pl kvr (ia + t)) k)), ((qmul (qmir (wf (rg kvs) (fun t => pl kvr (ia + t)) k)) (wl (rg kvs) (fun t => pl kvr (ia + t)) k)).2.1) / (qnorm (wf (rg kvs) (fun t => pl kvr (ia + t)) k)), (wl (rg kvs) (fun t => pl kvr (ia + t)) k).2.2.1, (wl (rg kvs) (fun t => pl kvr (ia + t)) k).2.2.2) (((qmul (qmir (wf (rg kvs) (fun t => pl kvr (ia + t)) k)) (wl (rg kvs) (fun t => pl kvr (ia + t)) k)).2.2.1) / (qnorm (wf (rg kvs) (fun t => pl kvr (ia + t)) k)))))
                                                                refine lv_iinc (v := 3) (lv' := [(13, .int 3), (11, .long (qnorm (wf (rg kvs) (fun t => pl kvr (ia + t)) k))), (0, .ref (ma 0)), (1, .int (nI kvs)), (2, .int (nI kvr)), (3, .int (nI ia)), (4, .int (nI nb)), (10, .int (nI k))]) hx hb dX6_way_364 hl (k := 0) rfl (by decide) (by decide) rfl (fun ls hl => ?_)
                                                                refine lv_goto (tgt := 341) hx hb dX6_way_367 (by decide) ?_
                                                                refine lv_iload hx hb dX6_way_341 (lv_at hl 0 rfl) ?_
                                                                refine lv_iconst (v := 4) hx hb dX6_way_343 (by decide) ?_
                                                                refine lv_icmp_ge (tgt := 370) hx hb dX6_way_344 (by decide) (fun c_344 => ?_) (fun c_344 => ?_)
                                                                · skip
                                                                  first | exact absurd c_344 (by decide) | exact absurd (by decide) c_344
                                                                · skip
                                                                  refine lv_aload_n hx hb dX6_way_347 rfl (lv_at hl 2 rfl) ?_
                                                                  refine h_get hx hb hE hw hts hinX6 hown (ci := 6) rfl 16 (by decide) lk_56 (fun _ h9 => h9) (pt_ne (pt_ne (pt_ne (pt_ne (pt_ne (pt_ne (pt_ne (pt_ne (pt_ne hM3.ob (hM.ne (i := 0) (j := 6) (by decide) (by decide) (by decide))) (hM.ne (i := 0) (j := 6) (by decide) (by decide) (by decide))) (hM.ne (i := 0) (j := 6) (by decide) (by decide) (by decide))) (hM.ne (i := 0) (j := 6) (by decide) (by decide) (by decide))) (hM.ne (i := 0) (j := 12) (by decide) (by decide) (by decide))) (hM.ne (i := 0) (j := 10) (by decide) (by decide) (by decide))) (hM.ne (i := 0) (j := 16) (by decide) (by decide) (by decide))) (hM.ne (i := 0) (j := 16) (by decide) (by decide) (by decide))) (hM.ne (i := 0) (j := 16) (by decide) (by decide) (by decide))) rfl dX6_way_348 ?_
                                                                  refine lv_iload hx hb dX6_way_351 (lv_at hl 0 rfl) ?_
                                                                  refine lv_aload_n hx hb dX6_way_353 rfl (lv_at hl 2 rfl) ?_
                                                                  refine h_get hx hb hE hw hts hinX6 hown (ci := 6) rfl 10 (by decide) lk_38 (fun _ h9 => h9) (pt_ne (pt_ne (pt_ne (pt_ne (pt_ne (pt_ne (pt_ne (pt_ne (pt_ne hM3.ob (hM.ne (i := 0) (j := 6) (by decide) (by decide) (by decide))) (hM.ne (i := 0) (j := 6) (by decide) (by decide) (by decide))) (hM.ne (i := 0) (j := 6) (by decide) (by decide) (by decide))) (hM.ne (i := 0) (j := 6) (by decide) (by decide) (by decide))) (hM.ne (i := 0) (j := 12) (by decide) (by decide) (by decide))) (hM.ne (i := 0) (j := 10) (by decide) (by decide) (by decide))) (hM.ne (i := 0) (j := 16) (by decide) (by decide) (by decide))) (hM.ne (i := 0) (j := 16) (by decide) (by decide) (by decide))) (hM.ne (i := 0) (j := 16) (by decide) (by decide) (by decide))) rfl dX6_way_354 ?_
                                                                  refine lv_iload hx hb dX6_way_357 (lv_at hl 0 rfl) ?_
                                                                  refine h_lald hx hb hE hw (pt_ne (pt_ne (pt_ne (pt_up (pt_ne (pt_ne (pt_ne (pt_ne (pt_ne (hM3.v (i := 10) (by decide) (by decide)) (hM.ne (i := 10) (j := 6) (by decide) (by decide) (by decide))) (hM.ne (i := 10) (j := 6) (by decide) (by decide) (by decide))) (hM.ne (i := 10) (j := 6) (by decide) (by decide) (by decide))) (hM.ne (i := 10) (j := 6) (by decide) (by decide) (by decide))) (hM.ne (i := 10) (j := 12) (by decide) (by decide) (by decide)))) (hM.ne (i := 10) (j := 16) (by decide) (by decide) (by decide))) (hM.ne (i := 10) (j := 16) (by decide) (by decide) (by decide))) (hM.ne (i := 10) (j := 16) (by decide) (by decide) (by decide))) (n := 4) (vp_in_nI (n := 3) (N := 4) (by decide) (by decide)) (v := (qmul (qmir (wf (rg kvs) (fun t => pl kvr (ia + t)) k)) (wl (rg kvs) (fun t => pl kvr (ia + t)) k)).2.2.2) rfl dX6_way_359 ?_
                                                                  refine lv_lload hx hb dX6_way_360 (lv_at hl 1 rfl) ?_
                                                                  refine lv_ldiv hx hb dX6_way_362 hw2 ?_
                                                                  refine h_last hx hb hE hw (pt_up (pt_up (pt_up (pt_ne (pt_ne (pt_ne (pt_ne (pt_ne (pt_ne (pt_eq (hM3.v (i := 16) (by decide) (by decide)) (by rw [show ((mk, msz, msh, mrg, fc2, mmd, mv3, mcn) : MS).2.2.2.2.2.2.1 16 = (wl (rg kvs) (fun t => pl kvr (ia + t)) k) from e316])) (hM.ne (i := 16) (j := 6) (by decide) (by decide) (by decide))) (hM.ne (i := 16) (j := 6) (by decide) (by decide) (by decide))) (hM.ne (i := 16) (j := 6) (by decide) (by decide) (by decide))) (hM.ne (i := 16) (j := 6) (by decide) (by decide) (by decide))) (hM.ne (i := 16) (j := 12) (by decide) (by decide) (by decide))) (hM.ne (i := 16) (j := 10) (by decide) (by decide) (by decide)))))) (n := 4) (vp_in_nI (n := 3) (N := 4) (by decide) (by decide)) (g := vp_updL (q4f (((qmul (qmir (wf (rg kvs) (fun t => pl kvr (ia + t)) k)) (wl (rg kvs) (fun t => pl kvr (ia + t)) k)).1) / (qnorm (wf (rg kvs) (fun t => pl kvr (ia + t)) k)), ((qmul (qmir (wf (rg kvs) (fun t => pl kvr (ia + t)) k)) (wl (rg kvs) (fun t => pl kvr (ia + t)) k)).2.1) / (qnorm (wf (rg kvs) (fun t => pl kvr (ia + t)) k)), ((qmul (qmir (wf (rg kvs) (fun t => pl kvr (ia + t)) k)) (wl (rg kvs) (fun t => pl kvr (ia + t)) k)).2.2.1) / (qnorm (wf (rg kvs) (fun t => pl kvr (ia + t)) k)), (wl (rg kvs) (fun t => pl kvr (ia + t)) k).2.2.2)) 3 (((qmul (qmir (wf (rg kvs) (fun t => pl kvr (ia + t)) k)) (wl (rg kvs) (fun t => pl kvr (ia + t)) k)).2.2.2) / (qnorm (wf (rg kvs) (fun t => pl kvr (ia + t)) k)))) rfl dX6_way_363 (fun H locs hw => ?_)
                                                                  have hw := wo_same hw (at_sameJ (G := G) (n := 4) (st4_3 (((qmul (qmir (wf (rg kvs) (fun t => pl kvr (ia + t)) k)) (wl (rg kvs) (fun t => pl kvr (ia + t)) k)).1) / (qnorm (wf (rg kvs) (fun t => pl kvr (ia + t)) k)), ((qmul (qmir (wf (rg kvs) (fun t => pl kvr (ia + t)) k)) (wl (rg kvs) (fun t => pl kvr (ia + t)) k)).2.1) / (qnorm (wf (rg kvs) (fun t => pl kvr (ia + t)) k)), ((qmul (qmir (wf (rg kvs) (fun t => pl kvr (ia + t)) k)) (wl (rg kvs) (fun t => pl kvr (ia + t)) k)).2.2.1) / (qnorm (wf (rg kvs) (fun t => pl kvr (ia + t)) k)), (wl (rg kvs) (fun t => pl kvr (ia + t)) k).2.2.2) (((qmul (qmir (wf (rg kvs) (fun t => pl kvr (ia + t)) k)) (wl (rg kvs) (fun t => pl kvr (ia + t)) k)).2.2.2) / (qnorm (wf (rg kvs) (fun t => pl kvr (ia + t)) k)))))
                                                                  refine lv_iinc (v := 4) (lv' := [(13, .int 4), (11, .long (qnorm (wf (rg kvs) (fun t => pl kvr (ia + t)) k))), (0, .ref (ma 0)), (1, .int (nI kvs)), (2, .int (nI kvr)), (3, .int (nI ia)), (4, .int (nI nb)), (10, .int (nI k))]) hx hb dX6_way_364 hl (k := 0) rfl (by decide) (by decide) rfl (fun ls hl => ?_)
                                                                  refine lv_goto (tgt := 341) hx hb dX6_way_367 (by decide) ?_
                                                                  refine lv_iload hx hb dX6_way_341 (lv_at hl 0 rfl) ?_
                                                                  refine lv_iconst (v := 4) hx hb dX6_way_343 (by decide) ?_
                                                                  refine lv_icmp_ge (tgt := 370) hx hb dX6_way_344 (by decide) (fun c_344 => ?_) (fun c_344 => ?_)
                                                                  · skip
                                                                    obtain ⟨i9, ei9⟩ : ∃ y : Int32, y = (nI k) + 1 := ⟨_, rfl⟩
                                                                    refine lv_iinc (v := i9) (lv' := [(10, .int i9), (13, .int 4), (11, .long (qnorm (wf (rg kvs) (fun t => pl kvr (ia + t)) k))), (0, .ref (ma 0)), (1, .int (nI kvs)), (2, .int (nI kvr)), (3, .int (nI ia)), (4, .int (nI nb))]) hx hb dX6_way_370 hl (k := 7) rfl (by rw [ei9, show Int32.ofInt (1) = 1 from by decide]) (by decide) rfl (fun ls hl => ?_)
                                                                    refine lv_goto (tgt := 199) hx hb dX6_way_373 (by decide) ?_
                                                                    exact ih (k + 1) _ _ _ H locs ls hok hsp (by omega) (MW.setv (MW.setv (MW.setv (MW.setv (MW.setv (MW.setv (MW.setf (MW.setf (MW.setf (MW.setf hM3 (vp_updL fc2 ((4 * k) + 0) ((wf (rg kvs) (fun t => pl kvr (ia + t)) k).1))) (vp_updL (vp_updL fc2 ((4 * k) + 0) ((wf (rg kvs) (fun t => pl kvr (ia + t)) k).1)) ((4 * k) + 1) ((wf (rg kvs) (fun t => pl kvr (ia + t)) k).2.1))) (vp_updL (vp_updL (vp_updL fc2 ((4 * k) + 0) ((wf (rg kvs) (fun t => pl kvr (ia + t)) k).1)) ((4 * k) + 1) ((wf (rg kvs) (fun t => pl kvr (ia + t)) k).2.1)) ((4 * k) + 2) ((wf (rg kvs) (fun t => pl kvr (ia + t)) k).2.2.1))) (vp_updL (vp_updL (vp_updL (vp_updL fc2 ((4 * k) + 0) ((wf (rg kvs) (fun t => pl kvr (ia + t)) k).1)) ((4 * k) + 1) ((wf (rg kvs) (fun t => pl kvr (ia + t)) k).2.1)) ((4 * k) + 2) ((wf (rg kvs) (fun t => pl kvr (ia + t)) k).2.2.1)) ((4 * k) + 3) ((wf (rg kvs) (fun t => pl kvr (ia + t)) k).2.2.2))) (i := 12) (by decide) (by decide) (qmir (wf (rg kvs) (fun t => pl kvr (ia + t)) k))) (i := 10) (by decide) (by decide) (qmul (qmir (wf (rg kvs) (fun t => pl kvr (ia + t)) k)) (wl (rg kvs) (fun t => pl kvr (ia + t)) k))) (i := 16) (by decide) (by decide) (((qmul (qmir (wf (rg kvs) (fun t => pl kvr (ia + t)) k)) (wl (rg kvs) (fun t => pl kvr (ia + t)) k)).1) / (qnorm (wf (rg kvs) (fun t => pl kvr (ia + t)) k)), (wl (rg kvs) (fun t => pl kvr (ia + t)) k).2.1, (wl (rg kvs) (fun t => pl kvr (ia + t)) k).2.2.1, (wl (rg kvs) (fun t => pl kvr (ia + t)) k).2.2.2)) (i := 16) (by decide) (by decide) (((qmul (qmir (wf (rg kvs) (fun t => pl kvr (ia + t)) k)) (wl (rg kvs) (fun t => pl kvr (ia + t)) k)).1) / (qnorm (wf (rg kvs) (fun t => pl kvr (ia + t)) k)), ((qmul (qmir (wf (rg kvs) (fun t => pl kvr (ia + t)) k)) (wl (rg kvs) (fun t => pl kvr (ia + t)) k)).2.1) / (qnorm (wf (rg kvs) (fun t => pl kvr (ia + t)) k)), (wl (rg kvs) (fun t => pl kvr (ia + t)) k).2.2.1, (wl (rg kvs) (fun t => pl kvr (ia + t)) k).2.2.2)) (i := 16) (by decide) (by decide) (((qmul (qmir (wf (rg kvs) (fun t => pl kvr (ia + t)) k)) (wl (rg kvs) (fun t => pl kvr (ia + t)) k)).1) / (qnorm (wf (rg kvs) (fun t => pl kvr (ia + t)) k)), ((qmul (qmir (wf (rg kvs) (fun t => pl kvr (ia + t)) k)) (wl (rg kvs) (fun t => pl kvr (ia + t)) k)).2.1) / (qnorm (wf (rg kvs) (fun t => pl kvr (ia + t)) k)), ((qmul (qmir (wf (rg kvs) (fun t => pl kvr (ia + t)) k)) (wl (rg kvs) (fun t => pl kvr (ia + t)) k)).2.2.1) / (qnorm (wf (rg kvs) (fun t => pl kvr (ia + t)) k)), (wl (rg kvs) (fun t => pl kvr (ia + t)) k).2.2.2)) (i := 16) (by decide) (by decide) (((qmul (qmir (wf (rg kvs) (fun t => pl kvr (ia + t)) k)) (wl (rg kvs) (fun t => pl kvr (ia + t)) k)).1) / (qnorm (wf (rg kvs) (fun t => pl kvr (ia + t)) k)), ((qmul (qmir (wf (rg kvs) (fun t => pl kvr (ia + t)) k)) (wl (rg kvs) (fun t => pl kvr (ia + t)) k)).2.1) / (qnorm (wf (rg kvs) (fun t => pl kvr (ia + t)) k)), ((qmul (qmir (wf (rg kvs) (fun t => pl kvr (ia + t)) k)) (wl (rg kvs) (fun t => pl kvr (ia + t)) k)).2.2.1) / (qnorm (wf (rg kvs) (fun t => pl kvr (ia + t)) k)), ((qmul (qmir (wf (rg kvs) (fun t => pl kvr (ia + t)) k)) (wl (rg kvs) (fun t => pl kvr (ia + t)) k)).2.2.2) / (qnorm (wf (rg kvs) (fun t => pl kvr (ia + t)) k)))) hw3 (fq_step (x := wf (rg kvs) (fun t => pl kvr (ia + t)) k) rfl hf) hw (lv_sub (l' := [(0, .ref (ma 0)), (1, .int (nI kvs)), (2, .int (nI kvr)), (3, .int (nI ia)), (4, .int (nI nb)), (10, .int (nI (k + 1)))]) hl [3, 4, 5, 6, 7, 0] (by rw [← nI_1, ← ei9]; rfl))
                                                                  · skip
                                                                    first | exact absurd c_344 (by decide) | exact absurd (by decide) c_344
                                                        · skip
                                                          first | exact absurd c_279 (by decide) | exact absurd (by decide) c_279
                                              · skip
                                                first | exact absurd c_214 (by decide) | exact absurd (by decide) c_214
                                            · skip
                                              first | exact absurd c_225 (by decide) | exact absurd (by decide) c_225
                                        · skip
                                          first | exact absurd c_225 (by decide) | exact absurd (by decide) c_225
                                    · skip
                                      first | exact absurd c_225 (by decide) | exact absurd (by decide) c_225
                        have lp1 : ∀ (d k P : Nat) (F : FM) (mv2 : Nat → Q4) (H : Heap) (locs : List Loc) (ls : Array Slot), d + k = nb → 1 ≤ P → P ≤ N → (rpN (pl kvr) ia N d k P ↔ rpN (pl kvr) ia N nb 0 1) → MW G ma (mk, msz, msh, mrg, mfc, mmd, mv2, mcn) F → mv2 16 = rg kvs → wo G A s.heap (ML ma) F H locs → lv_has ls 14 [(0, .ref (ma 0)), (1, .int (nI kvs)), (2, .int (nI kvr)), (3, .int (nI ia)), (4, .int (nI nb)), (5, .long (lN N)), (7, .long (lN P)), (9, .int 1), (10, .int (nI k))] → W p l e { frames := 3, cells := 0, slots := 0, locals := 81 } s m ([.ref (ma 0), .int (nI kvs), .int (nI kvr), .int (nI ia), .int (nI nb)].toArray) below meth c H locs 0 0 (MQ below (QP G A (ML ma) (some (.int (sp_way (rg, kd, z, pl, cnt) (nI kvs) (nI kvr) (nI ia) (nI nb)).1)) (MR G ma (sp_way (rg, kd, z, pl, cnt) (nI kvs) (nI kvr) (nI ia) (nI nb)).2)) ([.ref (ma 0), .int (nI kvs), .int (nI kvr), .int (nI ia), .int (nI nb)].toArray) s 0 0 A) (F0 m 96 ls []) := by
                          intro d
                          induction d with
                          | zero =>
                            intro k P F mv2 H locs ls hd hP1 hPN hrp hM2 h16 hw hl
                            refine lv_iload hx hb dX6_way_96 (lv_at hl 8 rfl) ?_
                            refine lv_iload hx hb dX6_way_98 (lv_at hl 4 rfl) ?_
                            refine lv_icmp_ge (tgt := 180) hx hb dX6_way_100 (by decide) (fun c_100 => ?_) (fun c_100 => ?_)
                            · skip
                              refine lv_iload hx hb dX6_way_180 (lv_at hl 7 rfl) ?_
                              refine lv_if_eq (tgt := 193) hx hb dX6_way_182 (by decide) (fun c_182 => ?_) (fun c_182 => ?_)
                              · skip
                                first | exact absurd c_182 (by decide) | exact absurd (by decide) c_182
                              · skip
                                refine lv_lload hx hb dX6_way_185 (lv_at hl 6 rfl) ?_
                                refine lv_lload hx hb dX6_way_187 (lv_at hl 5 rfl) ?_
                                refine h_lc_eq (x := lN P) (y := lN N) (tgt := 196) hx hb dX6_way_189 dX6_way_190 (by decide) (fun c_189 => ?_) (fun c_189 => ?_)
                                · skip
                                  have hPe : P = N := (pk_lEQ (by omega) (by omega)).mp c_189
                                  refine lv_iconst (v := 0) hx hb dX6_way_196 (by decide) ?_
                                  refine lv_istore (lv' := [(10, .int 0), (0, .ref (ma 0)), (1, .int (nI kvs)), (2, .int (nI kvr)), (3, .int (nI ia)), (4, .int (nI nb)), (5, .long (lN N)), (7, .long (lN P)), (9, .int 1)]) hx hb dX6_way_197 hl (by decide) rfl (fun ls hl => ?_)
                                  have hy := hrp.mp hPe
                                  exact lp2 (nb - 1) 0 _ _ _ _ _ ls (wok_of (hq kvs hkvs) hp (hN.symm ▸ (apl_rp hN1 hN4).mpr hy)) (hyes hy) rfl hM2 h16 (fun j hj => absurd hj (Nat.not_lt_zero j)) hw (lv_sub (l' := [(0, .ref (ma 0)), (1, .int (nI kvs)), (2, .int (nI kvr)), (3, .int (nI ia)), (4, .int (nI nb)), (10, .int (nI 0))]) hl [1, 2, 3, 4, 5, 0] rfl)
                                · skip
                                  have hPe : ¬ P = N := fun w => c_189 (by rw [w])
                                  refine lv_bipush (v := (-2)) hx hb dX6_way_193 (by decide) ?_
                                  exact h_iretP hx hb hlk hr hw dX6_way_195 (by rw [hno (fun w => hPe (hrp.mpr w))]) (by rw [hno (fun w => hPe (hrp.mpr w))]; exact ⟨_, hM2, rel_v hrel⟩)
                            · skip
                              exact absurd (nI_le (show nb ≤ k by omega) (by omega)) c_100
                          | succ d ih =>
                            intro k P F mv2 H locs ls hd hP1 hPN hrp hM2 h16 hw hl
                            refine lv_iload hx hb dX6_way_96 (lv_at hl 8 rfl) ?_
                            refine lv_iload hx hb dX6_way_98 (lv_at hl 4 rfl) ?_
                            refine lv_icmp_ge (tgt := 180) hx hb dX6_way_100 (by decide) (fun c_100 => ?_) (fun c_100 => ?_)
                            · skip
                              exact absurd c_100 (nI_ge (show k < nb by omega) (by omega))
                            · skip
                              refine lv_iload hx hb dX6_way_103 (lv_at hl 7 rfl) ?_
                              refine lv_if_eq (tgt := 180) hx hb dX6_way_105 (by decide) (fun c_105 => ?_) (fun c_105 => ?_)
                              · skip
                                first | exact absurd c_105 (by decide) | exact absurd (by decide) c_105
                              · skip
                                refine lv_aload_n hx hb dX6_way_108 rfl (lv_at hl 0 rfl) ?_
                                refine h_get hx hb hE hw hts hinX6 hown (ci := 6) rfl 2 (by decide) lk_16 (fun _ h9 => h9) hM2.ob rfl dX6_way_109 ?_
                                refine lv_bipush (v := 16) hx hb dX6_way_112 (by decide) ?_
                                refine lv_iload_n hx hb dX6_way_114 rfl (lv_at hl 2 rfl) ?_
                                refine h_imulN hx hb 16 kvr dX6_way_115 ?_
                                refine lv_iload_n hx hb dX6_way_116 rfl (lv_at hl 3 rfl) ?_
                                refine h_iaddN hx hb (16 * kvr) ia dX6_way_117 ?_
                                refine lv_iload hx hb dX6_way_118 (lv_at hl 8 rfl) ?_
                                refine h_iaddN hx hb ((16 * kvr) + ia) k dX6_way_120 ?_
                                refine h_lald hx hb hE hw hM2.sh (vp_in_nI (n := 16 * kvr + ia + k) (N := 96) (by omega) (by decide)) (v := pl kvr (ia + k)) (by rw [nI_clamp (by omega), Nat.add_assoc]; exact hk3 kvr hkvr (ia + k) (by omega)) dX6_way_121 ?_
                                refine lv_lstore (lv' := [(11, .long (pl kvr (ia + k))), (0, .ref (ma 0)), (1, .int (nI kvs)), (2, .int (nI kvr)), (3, .int (nI ia)), (4, .int (nI nb)), (5, .long (lN N)), (7, .long (lN P)), (9, .int 1), (10, .int (nI k))]) hx hb dX6_way_122 hl (by decide) rfl (fun ls hl => ?_)
                                refine lv_lload hx hb dX6_way_124 (lv_at hl 0 rfl) ?_
                                refine lv_lload hx hb dX6_way_126 (lv_at hl 6 rfl) ?_
                                refine h_lc_gt (x := pl kvr (ia + k)) (y := lN N) (tgt := 155) hx hb dX6_way_128 dX6_way_129 (by decide) (fun c_128 => ?_) (fun c_128 => ?_)
                                · skip
                                  have hnr : ¬ rpN (pl kvr) ia N (d + 1) k P := rp_gt rfl hN4 hP1 c_128
                                  refine lv_iconst (v := 0) hx hb dX6_way_155 (by decide) ?_
                                  refine lv_istore (lv' := [(9, .int 0), (11, .long (pl kvr (ia + k))), (0, .ref (ma 0)), (1, .int (nI kvs)), (2, .int (nI kvr)), (3, .int (nI ia)), (4, .int (nI nb)), (5, .long (lN N)), (7, .long (lN P)), (10, .int (nI k))]) hx hb dX6_way_156 hl (by decide) rfl (fun ls hl => ?_)
                                  refine lv_lload hx hb dX6_way_158 (lv_at hl 8 rfl) ?_
                                  refine lv_iload hx hb dX6_way_160 (lv_at hl 0 rfl) ?_
                                  refine lv_if_eq (tgt := 170) hx hb dX6_way_162 (by decide) (fun c_162 => ?_) (fun c_162 => ?_)
                                  · skip
                                    refine lv_lconst (v := 1) hx hb dX6_way_170 (by decide) ?_
                                    refine lv_lmul hx hb dX6_way_171 ?_
                                    refine lv_lstore (lv' := [(7, .long ((lN P) * 1)), (9, .int 0), (11, .long (pl kvr (ia + k))), (0, .ref (ma 0)), (1, .int (nI kvs)), (2, .int (nI kvr)), (3, .int (nI ia)), (4, .int (nI nb)), (5, .long (lN N)), (10, .int (nI k))]) hx hb dX6_way_172 hl (by decide) rfl (fun ls hl => ?_)
                                    obtain ⟨i9, ei9⟩ : ∃ y : Int32, y = (nI k) + 1 := ⟨_, rfl⟩
                                    refine lv_iinc (v := i9) (lv' := [(10, .int i9), (7, .long ((lN P) * 1)), (9, .int 0), (11, .long (pl kvr (ia + k))), (0, .ref (ma 0)), (1, .int (nI kvs)), (2, .int (nI kvr)), (3, .int (nI ia)), (4, .int (nI nb)), (5, .long (lN N))]) hx hb dX6_way_174 hl (k := 9) rfl (by rw [ei9, show Int32.ofInt (1) = 1 from by decide]) (by decide) rfl (fun ls hl => ?_)
                                    refine lv_goto (tgt := 96) hx hb dX6_way_177 (by decide) ?_
                                    refine lv_iload hx hb dX6_way_96 (lv_at hl 0 rfl) ?_
                                    refine lv_iload hx hb dX6_way_98 (lv_at hl 8 rfl) ?_
                                    refine lv_icmp_ge (tgt := 180) hx hb dX6_way_100 (by decide) (fun c_100 => ?_) (fun c_100 => ?_)
                                    · skip
                                      refine lv_iload hx hb dX6_way_180 (lv_at hl 2 rfl) ?_
                                      refine lv_if_eq (tgt := 193) hx hb dX6_way_182 (by decide) (fun c_182 => ?_) (fun c_182 => ?_)
                                      · skip
                                        refine lv_bipush (v := (-2)) hx hb dX6_way_193 (by decide) ?_
                                        exact h_iretP hx hb hlk hr hw dX6_way_195 (by rw [hno (fun w => hnr (hrp.mpr w))]) (by rw [hno (fun w => hnr (hrp.mpr w))]; exact ⟨_, hM2, rel_v hrel⟩)
                                      · skip
                                        first | exact absurd c_182 (by decide) | exact absurd (by decide) c_182
                                    · skip
                                      refine lv_iload hx hb dX6_way_103 (lv_at hl 2 rfl) ?_
                                      refine lv_if_eq (tgt := 180) hx hb dX6_way_105 (by decide) (fun c_105 => ?_) (fun c_105 => ?_)
                                      · skip
                                        refine lv_iload hx hb dX6_way_180 (lv_at hl 2 rfl) ?_
                                        refine lv_if_eq (tgt := 193) hx hb dX6_way_182 (by decide) (fun c_182 => ?_) (fun c_182 => ?_)
                                        · skip
                                          refine lv_bipush (v := (-2)) hx hb dX6_way_193 (by decide) ?_
                                          exact h_iretP hx hb hlk hr hw dX6_way_195 (by rw [hno (fun w => hnr (hrp.mpr w))]) (by rw [hno (fun w => hnr (hrp.mpr w))]; exact ⟨_, hM2, rel_v hrel⟩)
                                        · skip
                                          first | exact absurd c_182 (by decide) | exact absurd (by decide) c_182
                                      · skip
                                        first | exact absurd c_105 (by decide) | exact absurd (by decide) c_105
                                  · skip
                                    first | exact absurd c_162 (by decide) | exact absurd (by decide) c_162
                                · skip
                                  obtain ⟨Np, hNpb, hNp1, hNp2, hNp3⟩ := pr_arg hN4 c_128
                                  refine lv_lload hx hb dX6_way_132 (lv_at hl 0 rfl) ?_
                                  refine h_callS (st1 := [.int (bI (1 < pl kvr (ia + k) ∧ npr Np))]) [.long (pl kvr (ia + k))] [] ⟨hx, hb, hml, hown, hts⟩ hE hw (c_X6_isPrime l G A (ML ma) F (pl kvr (ia + k)) Np (by omega) hNp1 hNp2) (va_cwS 1 hts gX6_way_X6_isPrime rfl rfl rfl (by decide +kernel) ⟨Nat.le_of_ble_eq_true rfl, Nat.le_of_ble_eq_true rfl⟩) rfl hl.1 rfl (Nat.le_of_ble_eq_true rfl) dX6_way_134 ⟨Nat.le_of_ble_eq_true rfl, Nat.le_of_ble_eq_true rfl⟩ rfl (fun H locs hw => ?_)
                                  refine lv_if_eq (tgt := 155) hx hb dX6_way_137 (by decide) (fun c_137 => ?_) (fun c_137 => ?_)
                                  · skip
                                    have c_137 := bI_eq.mp c_137
                                    have hnr : ¬ rpN (pl kvr) ia N (d + 1) k P := rp_np rfl hN4 hP1 (by omega) hNp1 c_137
                                    refine lv_iconst (v := 0) hx hb dX6_way_155 (by decide) ?_
                                    refine lv_istore (lv' := [(9, .int 0), (11, .long (pl kvr (ia + k))), (0, .ref (ma 0)), (1, .int (nI kvs)), (2, .int (nI kvr)), (3, .int (nI ia)), (4, .int (nI nb)), (5, .long (lN N)), (7, .long (lN P)), (10, .int (nI k))]) hx hb dX6_way_156 hl (by decide) rfl (fun ls hl => ?_)
                                    refine lv_lload hx hb dX6_way_158 (lv_at hl 8 rfl) ?_
                                    refine lv_iload hx hb dX6_way_160 (lv_at hl 0 rfl) ?_
                                    refine lv_if_eq (tgt := 170) hx hb dX6_way_162 (by decide) (fun c_162 => ?_) (fun c_162 => ?_)
                                    · skip
                                      refine lv_lconst (v := 1) hx hb dX6_way_170 (by decide) ?_
                                      refine lv_lmul hx hb dX6_way_171 ?_
                                      refine lv_lstore (lv' := [(7, .long ((lN P) * 1)), (9, .int 0), (11, .long (pl kvr (ia + k))), (0, .ref (ma 0)), (1, .int (nI kvs)), (2, .int (nI kvr)), (3, .int (nI ia)), (4, .int (nI nb)), (5, .long (lN N)), (10, .int (nI k))]) hx hb dX6_way_172 hl (by decide) rfl (fun ls hl => ?_)
                                      obtain ⟨i9, ei9⟩ : ∃ y : Int32, y = (nI k) + 1 := ⟨_, rfl⟩
                                      refine lv_iinc (v := i9) (lv' := [(10, .int i9), (7, .long ((lN P) * 1)), (9, .int 0), (11, .long (pl kvr (ia + k))), (0, .ref (ma 0)), (1, .int (nI kvs)), (2, .int (nI kvr)), (3, .int (nI ia)), (4, .int (nI nb)), (5, .long (lN N))]) hx hb dX6_way_174 hl (k := 9) rfl (by rw [ei9, show Int32.ofInt (1) = 1 from by decide]) (by decide) rfl (fun ls hl => ?_)
                                      refine lv_goto (tgt := 96) hx hb dX6_way_177 (by decide) ?_
                                      refine lv_iload hx hb dX6_way_96 (lv_at hl 0 rfl) ?_
                                      refine lv_iload hx hb dX6_way_98 (lv_at hl 8 rfl) ?_
                                      refine lv_icmp_ge (tgt := 180) hx hb dX6_way_100 (by decide) (fun c_100 => ?_) (fun c_100 => ?_)
                                      · skip
                                        refine lv_iload hx hb dX6_way_180 (lv_at hl 2 rfl) ?_
                                        refine lv_if_eq (tgt := 193) hx hb dX6_way_182 (by decide) (fun c_182 => ?_) (fun c_182 => ?_)
                                        · skip
                                          refine lv_bipush (v := (-2)) hx hb dX6_way_193 (by decide) ?_
                                          exact h_iretP hx hb hlk hr hw dX6_way_195 (by rw [hno (fun w => hnr (hrp.mpr w))]) (by rw [hno (fun w => hnr (hrp.mpr w))]; exact ⟨_, hM2, rel_v hrel⟩)
                                        · skip
                                          first | exact absurd c_182 (by decide) | exact absurd (by decide) c_182
                                      · skip
                                        refine lv_iload hx hb dX6_way_103 (lv_at hl 2 rfl) ?_
                                        refine lv_if_eq (tgt := 180) hx hb dX6_way_105 (by decide) (fun c_105 => ?_) (fun c_105 => ?_)
                                        · skip
                                          refine lv_iload hx hb dX6_way_180 (lv_at hl 2 rfl) ?_
                                          refine lv_if_eq (tgt := 193) hx hb dX6_way_182 (by decide) (fun c_182 => ?_) (fun c_182 => ?_)
                                          · skip
                                            refine lv_bipush (v := (-2)) hx hb dX6_way_193 (by decide) ?_
                                            exact h_iretP hx hb hlk hr hw dX6_way_195 (by rw [hno (fun w => hnr (hrp.mpr w))]) (by rw [hno (fun w => hnr (hrp.mpr w))]; exact ⟨_, hM2, rel_v hrel⟩)
                                          · skip
                                            first | exact absurd c_182 (by decide) | exact absurd (by decide) c_182
                                        · skip
                                          first | exact absurd c_105 (by decide) | exact absurd (by decide) c_105
                                    · skip
                                      first | exact absurd c_162 (by decide) | exact absurd (by decide) c_162
                                  · skip
                                    have c_137 := bI_ne.mp c_137
                                    refine lv_lload hx hb dX6_way_140 (lv_at hl 7 rfl) ?_
                                    refine lv_lload hx hb dX6_way_142 (lv_at hl 0 rfl) ?_
                                    refine lv_lmul hx hb dX6_way_144 ?_
                                    refine lv_lload hx hb dX6_way_145 (lv_at hl 6 rfl) ?_
                                    refine h_lc_gt (x := (lN P) * (pl kvr (ia + k))) (y := lN N) (tgt := 155) hx hb dX6_way_147 dX6_way_148 (by decide) (fun c_147 => ?_) (fun c_147 => ?_)
                                    · skip
                                      have hnr : ¬ rpN (pl kvr) ia N (d + 1) k P := rp_pp rfl hN4 hP1 c_147
                                      refine lv_iconst (v := 0) hx hb dX6_way_155 (by decide) ?_
                                      refine lv_istore (lv' := [(9, .int 0), (11, .long (pl kvr (ia + k))), (0, .ref (ma 0)), (1, .int (nI kvs)), (2, .int (nI kvr)), (3, .int (nI ia)), (4, .int (nI nb)), (5, .long (lN N)), (7, .long (lN P)), (10, .int (nI k))]) hx hb dX6_way_156 hl (by decide) rfl (fun ls hl => ?_)
                                      refine lv_lload hx hb dX6_way_158 (lv_at hl 8 rfl) ?_
                                      refine lv_iload hx hb dX6_way_160 (lv_at hl 0 rfl) ?_
                                      refine lv_if_eq (tgt := 170) hx hb dX6_way_162 (by decide) (fun c_162 => ?_) (fun c_162 => ?_)
                                      · skip
                                        refine lv_lconst (v := 1) hx hb dX6_way_170 (by decide) ?_
                                        refine lv_lmul hx hb dX6_way_171 ?_
                                        refine lv_lstore (lv' := [(7, .long ((lN P) * 1)), (9, .int 0), (11, .long (pl kvr (ia + k))), (0, .ref (ma 0)), (1, .int (nI kvs)), (2, .int (nI kvr)), (3, .int (nI ia)), (4, .int (nI nb)), (5, .long (lN N)), (10, .int (nI k))]) hx hb dX6_way_172 hl (by decide) rfl (fun ls hl => ?_)
                                        obtain ⟨i9, ei9⟩ : ∃ y : Int32, y = (nI k) + 1 := ⟨_, rfl⟩
                                        refine lv_iinc (v := i9) (lv' := [(10, .int i9), (7, .long ((lN P) * 1)), (9, .int 0), (11, .long (pl kvr (ia + k))), (0, .ref (ma 0)), (1, .int (nI kvs)), (2, .int (nI kvr)), (3, .int (nI ia)), (4, .int (nI nb)), (5, .long (lN N))]) hx hb dX6_way_174 hl (k := 9) rfl (by rw [ei9, show Int32.ofInt (1) = 1 from by decide]) (by decide) rfl (fun ls hl => ?_)
                                        refine lv_goto (tgt := 96) hx hb dX6_way_177 (by decide) ?_
                                        refine lv_iload hx hb dX6_way_96 (lv_at hl 0 rfl) ?_
                                        refine lv_iload hx hb dX6_way_98 (lv_at hl 8 rfl) ?_
                                        refine lv_icmp_ge (tgt := 180) hx hb dX6_way_100 (by decide) (fun c_100 => ?_) (fun c_100 => ?_)
                                        · skip
                                          refine lv_iload hx hb dX6_way_180 (lv_at hl 2 rfl) ?_
                                          refine lv_if_eq (tgt := 193) hx hb dX6_way_182 (by decide) (fun c_182 => ?_) (fun c_182 => ?_)
                                          · skip
                                            refine lv_bipush (v := (-2)) hx hb dX6_way_193 (by decide) ?_
                                            exact h_iretP hx hb hlk hr hw dX6_way_195 (by rw [hno (fun w => hnr (hrp.mpr w))]) (by rw [hno (fun w => hnr (hrp.mpr w))]; exact ⟨_, hM2, rel_v hrel⟩)
                                          · skip
                                            first | exact absurd c_182 (by decide) | exact absurd (by decide) c_182
                                        · skip
                                          refine lv_iload hx hb dX6_way_103 (lv_at hl 2 rfl) ?_
                                          refine lv_if_eq (tgt := 180) hx hb dX6_way_105 (by decide) (fun c_105 => ?_) (fun c_105 => ?_)
                                          · skip
                                            refine lv_iload hx hb dX6_way_180 (lv_at hl 2 rfl) ?_
                                            refine lv_if_eq (tgt := 193) hx hb dX6_way_182 (by decide) (fun c_182 => ?_) (fun c_182 => ?_)
                                            · skip
                                              refine lv_bipush (v := (-2)) hx hb dX6_way_193 (by decide) ?_
                                              exact h_iretP hx hb hlk hr hw dX6_way_195 (by rw [hno (fun w => hnr (hrp.mpr w))]) (by rw [hno (fun w => hnr (hrp.mpr w))]; exact ⟨_, hM2, rel_v hrel⟩)
                                            · skip
                                              first | exact absurd c_182 (by decide) | exact absurd (by decide) c_182
                                          · skip
                                            first | exact absurd c_105 (by decide) | exact absurd (by decide) c_105
                                      · skip
                                        first | exact absurd c_162 (by decide) | exact absurd (by decide) c_162
                                    · skip
                                      obtain ⟨hPP, hrs, hmul⟩ := rp_ok (d := d) rfl hN4 hP1 hPN (hNp3 c_137.1) (hNp1 c_137.1) (hNp2 c_137.1) c_137.2 c_147
                                      refine lv_iconst (v := 1) hx hb dX6_way_151 (by decide) ?_
                                      refine lv_goto (tgt := 156) hx hb dX6_way_152 (by decide) ?_
                                      refine lv_istore (lv' := [(9, .int 1), (11, .long (pl kvr (ia + k))), (0, .ref (ma 0)), (1, .int (nI kvs)), (2, .int (nI kvr)), (3, .int (nI ia)), (4, .int (nI nb)), (5, .long (lN N)), (7, .long (lN P)), (10, .int (nI k))]) hx hb dX6_way_156 hl (by decide) rfl (fun ls hl => ?_)
                                      refine lv_lload hx hb dX6_way_158 (lv_at hl 8 rfl) ?_
                                      refine lv_iload hx hb dX6_way_160 (lv_at hl 0 rfl) ?_
                                      refine lv_if_eq (tgt := 170) hx hb dX6_way_162 (by decide) (fun c_162 => ?_) (fun c_162 => ?_)
                                      · skip
                                        first | exact absurd c_162 (by decide) | exact absurd (by decide) c_162
                                      · skip
                                        refine lv_lload hx hb dX6_way_165 (lv_at hl 1 rfl) ?_
                                        refine lv_goto (tgt := 171) hx hb dX6_way_167 (by decide) ?_
                                        refine lv_lmul hx hb dX6_way_171 ?_
                                        refine lv_lstore (lv' := [(7, .long ((lN P) * (pl kvr (ia + k)))), (9, .int 1), (11, .long (pl kvr (ia + k))), (0, .ref (ma 0)), (1, .int (nI kvs)), (2, .int (nI kvr)), (3, .int (nI ia)), (4, .int (nI nb)), (5, .long (lN N)), (10, .int (nI k))]) hx hb dX6_way_172 hl (by decide) rfl (fun ls hl => ?_)
                                        obtain ⟨i9, ei9⟩ : ∃ y : Int32, y = (nI k) + 1 := ⟨_, rfl⟩
                                        refine lv_iinc (v := i9) (lv' := [(10, .int i9), (7, .long ((lN P) * (pl kvr (ia + k)))), (9, .int 1), (11, .long (pl kvr (ia + k))), (0, .ref (ma 0)), (1, .int (nI kvs)), (2, .int (nI kvr)), (3, .int (nI ia)), (4, .int (nI nb)), (5, .long (lN N))]) hx hb dX6_way_174 hl (k := 9) rfl (by rw [ei9, show Int32.ofInt (1) = 1 from by decide]) (by decide) rfl (fun ls hl => ?_)
                                        refine lv_goto (tgt := 96) hx hb dX6_way_177 (by decide) ?_
                                        exact ih (k + 1) (P * Np) _ _ _ _ ls (by omega) (Nat.mul_pos hP1 (by have := hNp2 c_137.1; omega)) hPP (hrs.symm.trans hrp) hM2 h16 hw (lv_sub (l' := [(0, .ref (ma 0)), (1, .int (nI kvs)), (2, .int (nI kvr)), (3, .int (nI ia)), (4, .int (nI nb)), (5, .long (lN N)), (7, .long (lN (P * Np))), (9, .int 1), (10, .int (nI (k + 1)))]) hl [4, 5, 6, 7, 8, 9, 1, 2, 0] (by rw [← nI_1, ← ei9, ← hmul]; rfl))
                        exact lp1 nb 0 1 _ _ _ _ ls rfl (Nat.le_refl 1) hN1 Iff.rfl (MW.setv hM (i := 16) (by decide) (by decide) (rg kvs)) rfl hw (lv_sub (l' := [(0, .ref (ma 0)), (1, .int (nI kvs)), (2, .int (nI kvr)), (3, .int (nI ia)), (4, .int (nI nb)), (5, .long (lN N)), (7, .long (lN 1)), (9, .int 1), (10, .int (nI 0))]) hl [4, 5, 6, 7, 8, 3, 2, 1, 0] (by rw [← hN]; rfl))
                    · skip
                      first | exact absurd c_56 (by decide) | exact absurd (by decide) c_56
                  · skip
                    refine h_callV (st1 := [.int (-12)]) [.int (nI kvr), .int vi, .int vn] [] ⟨hx, hb, hml, hown, hts⟩ hE hw (HT.to (c_X6_against l G A ma F _ _ _ _ _ _ _ _ hM kvr hkvr vi vn) (V2 := some (.int (-12))) (congrArg (fun y => some (Value.int y)) (by rw [show mk kvr = kd kvr from hk1 kvr hkvr, show msz kvr = nI (z kvr) from hk2 kvr hkvr]; exact ag_out hn1 hz1 (Int32.not_lt.mpr c_42) hr1)) rfl) (cwV 3 hts gX6_way_X6_against rfl rfl rfl (by decide +kernel) ⟨Nat.le_of_ble_eq_true rfl, Nat.le_of_ble_eq_true rfl⟩) hM.ob rfl rfl rfl hl.1 rfl (Nat.le_of_ble_eq_true rfl) dX6_way_53 ⟨Nat.le_of_ble_eq_true rfl, Nat.le_of_ble_eq_true rfl⟩ rfl (fun H locs hw => ?_)
                    refine lv_if_eq (tgt := 62) hx hb dX6_way_56 (by decide) (fun c_56 => ?_) (fun c_56 => ?_)
                    · skip
                      first | exact absurd c_56 (by decide) | exact absurd (by decide) c_56
                    · skip
                      refine lv_bipush (v := (-12)) hx hb dX6_way_59 (by decide) ?_
                      exact h_iretP hx hb hlk hr hw dX6_way_61 (by simp only [sp_way, xvs, xvr, rch_out hz1 hr1, cif_f c_16, cif_t c_23, cif_f hm34, cif_t c_42, cif_same]) (by simp only [sp_way, xvs, xvr, rch_out hz1 hr1, cif_f c_16, cif_t c_23, cif_f hm34, cif_t c_42, cif_same]; exact ⟨_, hM, rel_v hrel⟩)
                · skip
                  refine lv_bipush (v := (-13)) hx hb dX6_way_45 (by decide) ?_
                  exact h_iretP hx hb hlk hr hw dX6_way_47 (by simp only [sp_way, xvs, xvr, cif_f c_16, cif_t c_23, cif_f hm34, cif_f c_42, cif_same]) (by simp only [sp_way, xvs, xvr, cif_f c_16, cif_t c_23, cif_f hm34, cif_f c_42, cif_same]; exact ⟨_, hM, rel_v hrel⟩)
              · skip
                have hm34 : kd kvr = -1 := kd_neg (hkd kvr hkvr) (by rw [← show mk kvr = kd kvr from hk1 kvr hkvr]; exact Int32.not_le.mp c_34)
                refine lv_bipush (v := (-11)) hx hb dX6_way_37 (by decide) ?_
                exact h_iretP hx hb hlk hr hw dX6_way_39 (by simp only [sp_way, xvs, xvr, cif_f c_16, cif_t c_23, cif_t hm34, cif_same]) (by simp only [sp_way, xvs, xvr, cif_f c_16, cif_t c_23, cif_t hm34, cif_same]; exact ⟨_, hM, rel_v hrel⟩)
            · skip
              refine lv_iconst (v := (-1)) hx hb dX6_way_26 (by decide) ?_
              exact h_iretP hx hb hlk hr hw dX6_way_27 (by simp only [sp_way, xvs, xvr, cif_f c_16, cif_f c_23, cif_same]) (by simp only [sp_way, xvs, xvr, cif_f c_16, cif_f c_23, cif_same]; exact ⟨_, hM, rel_v hrel⟩)
