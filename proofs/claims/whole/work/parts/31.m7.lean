/-! greatest common divisors -/
theorem abL_pos {a : Int64} (h : 0 ≤ a) : abL a = a := by
  unfold abL
  by_cases h1 : 0 < a
  · rw [if_pos h1]
  · rw [if_neg h1]
    have h2 : a = 0 := Int64.le_antisymm (Int64.not_lt.mp h1) h
    rw [h2]; rfl
theorem abL_neg {a : Int64} (h : ¬ 0 ≤ a) : abL a = -a := if_neg (fun w => h (Int64.le_of_lt w))
def gcN : Nat → Nat → Nat → Nat
  | 0, p, _ => p
  | n + 1, p, q => if q = 0 then p else gcN n q (p % q)
theorem gcL_N : ∀ (n p q : Nat), p < 2 ^ 63 → q < 2 ^ 63 → gcL n (lN p) (lN q) = lN (gcN n p q)
  | 0, _, _, _, _ => rfl
  | n + 1, p, q, hp, hq => by
    rw [gcL, gcN]
    by_cases h : q = 0
    · rw [if_pos h, if_pos (by rw [h]; rfl)]
    · rw [if_neg h, if_neg (show ¬ lN q = 0 from fun w => h ((pk_lEQ (b := 0) hq (by decide)).mp w)), pk_lRem hp (by omega) hq]
      exact gcL_N n q (p % q) hq (Nat.lt_of_lt_of_le (Nat.mod_lt _ (by omega)) (by omega))
theorem gcN_gcd : ∀ (k n p q : Nat), q < 2 ^ k → 2 * k < n → gcN n p q = Nat.gcd p q
  | 0, n, p, q, hq, hn => by
    have h0 : q = 0 := by simpa using hq
    obtain ⟨m, rfl⟩ : ∃ m, n = m + 1 := ⟨n - 1, by omega⟩
    rw [gcN, if_pos h0, h0, Nat.gcd_zero_right]
  | k + 1, n, p, q, hq, hn => by
    obtain ⟨m, rfl⟩ : ∃ m, n = m + 2 := ⟨n - 2, by omega⟩
    rw [gcN]
    by_cases h0 : q = 0
    · rw [if_pos h0, h0, Nat.gcd_zero_right]
    · rw [if_neg h0, gcN]
      have e1 : Nat.gcd p q = Nat.gcd q (p % q) := by rw [Nat.gcd_comm p q, Nat.gcd_rec q p, Nat.gcd_comm]
      have hr : p % q < q := Nat.mod_lt _ (by omega)
      by_cases h1 : p % q = 0
      · rw [if_pos h1, e1, h1, Nat.gcd_zero_right]
      · rw [if_neg h1, e1]
        have e2 : Nat.gcd q (p % q) = Nat.gcd (p % q) (q % (p % q)) := by rw [Nat.gcd_comm q, Nat.gcd_rec (p % q) q, Nat.gcd_comm]
        rw [e2]
        refine gcN_gcd k m (p % q) (q % (p % q)) ?_ (by omega)
        have h2 : q % (p % q) < p % q := Nat.mod_lt _ (by omega)
        have h3 : p % q + q % (p % q) ≤ q := by
          have := Nat.div_add_mod q (p % q)
          have h4 : 1 ≤ q / (p % q) := (Nat.one_le_div_iff (by omega)).mpr (by omega)
          have h5 : (p % q) * 1 ≤ (p % q) * (q / (p % q)) := Nat.mul_le_mul_left _ h4
          omega
        have h6 : 2 ^ (k + 1) = 2 * 2 ^ k := by rw [Nat.pow_succ]; omega
        omega
theorem gcd2_N {a b : Int64} {P Q : Nat} (ha : abL a = lN P) (hb : abL b = lN Q) (hP : P < 2 ^ 31) (hQ : Q < 2 ^ 31) : gcd2 a b = lN (Nat.gcd P Q) := by
  unfold gcd2
  rw [ha, hb, gcL_N 100 P Q (by omega) (by omega), gcN_gcd 31 100 P Q (by omega) (by decide)]
theorem abL_N (n : Nat) (h : n < 2 ^ 31) : abL (lN n) = lN n := abL_pos (by rw [Int64.le_iff_toInt_le, lN_toInt h]; exact Int.natCast_nonneg n)
set_option maxHeartbeats 4000000 in
set_option maxRecDepth 100000 in
theorem c_X6_common (l : Launch) (G : GG) (A : Nat → Prop) (L : List Nat) (F : FM) (va vb : Int64) (P Q : Nat) (ha : abL va = lN P) (hb1 : abL vb = lN Q) (hP : P < 2 ^ 31) (hQ : Q < 2 ^ 31) : HT l yX6_common wsX6_common { frames := 0, cells := 0, slots := 0, locals := 0 } G A L [.long va, .long vb] F (some (.long (lN (Nat.gcd P Q)))) F := by
  refine HT.ofW (cc := cX6_common) (maxL := 10) (ret := (some .long)) (plainFor_of_name (by decide)) rfl (Nat.le_of_ble_eq_true rfl) ?_
  intro p e s m below meth c ls hx hb hr hml hown hts hlk hE hw hl
  have hl : lv_has ls 10 [(0, .long va), (2, .long vb)] := hl
  have hown : s.vm.findClass RX6 = some m.cls := hown
  have loop : ∀ (n p1 q1 : Nat) (H : Heap) (locs : List Loc) (ls : Array Slot), q1 < n → p1 < 2 ^ 31 → q1 < 2 ^ 31 → Nat.gcd p1 q1 = Nat.gcd P Q → wo G A s.heap L F H locs → lv_has ls 10 [(4, .long (lN p1)), (6, .long (lN q1))] → W p l e { frames := 0, cells := 0, slots := 0, locals := 0 } s m ([.long va, .long vb].toArray) below meth c H locs 0 0 (MQ below (QH G A L (some (.long (lN (Nat.gcd P Q)))) F) ([.long va, .long vb].toArray) s 0 0 A) (F0 m 28 ls []) := by
    intro n
    induction n with
    | zero =>
      intro p1 q1 H locs ls h
      exact absurd h (by omega)
    | succ n ih =>
      intro p1 q1 H locs ls hn hp hq hg hw hl
      refine lv_lload hx hb dX6_common_28 (lv_at hl 1 rfl) ?_
      refine lv_lconst (v := 0) hx hb dX6_common_30 (by decide) ?_
      refine h_lc_eq (x := lN q1) (y := 0) (tgt := 53) hx hb dX6_common_31 dX6_common_32 (by decide) (fun c_31 => ?_) (fun c_31 => ?_)
      · skip
        have hz : q1 = 0 := (pk_lEQ (a := q1) (b := 0) (by omega) (by decide)).mp c_31
        refine lv_lload hx hb dX6_common_53 (lv_at hl 0 rfl) ?_
        exact h_lret hx hb hlk hr hw dX6_common_55 (by rw [← hg, hz, Nat.gcd_zero_right]) rfl
      · skip
        have hz : q1 ≠ 0 := fun w => c_31 (by rw [w]; rfl)
        refine lv_lload hx hb dX6_common_35 (lv_at hl 0 rfl) ?_
        refine lv_lload hx hb dX6_common_37 (lv_at hl 1 rfl) ?_
        refine lv_lrem hx hb dX6_common_39 c_31 ?_
        refine lv_topl (fun r9 er9 => ?_)
        refine lv_lstore (lv' := [(8, .long r9), (4, .long (lN p1)), (6, .long (lN q1))]) hx hb dX6_common_40 hl (by decide) rfl (fun ls hl => ?_)
        refine lv_lload hx hb dX6_common_42 (lv_at hl 2 rfl) ?_
        refine lv_lstore (lv' := [(4, .long (lN q1)), (8, .long r9), (6, .long (lN q1))]) hx hb dX6_common_44 hl (by decide) rfl (fun ls hl => ?_)
        refine lv_lload hx hb dX6_common_46 (lv_at hl 1 rfl) ?_
        refine lv_lstore (lv' := [(6, .long r9), (4, .long (lN q1)), (8, .long r9)]) hx hb dX6_common_48 hl (by decide) rfl (fun ls hl => ?_)
        refine lv_goto (tgt := 28) hx hb dX6_common_50 (by decide) ?_
        exact ih q1 (p1 % q1) _ _ ls (Nat.lt_of_lt_of_le (Nat.mod_lt _ (by omega)) (by omega)) hq (Nat.lt_of_lt_of_le (Nat.mod_lt _ (by omega)) (by omega)) (by rw [← hg, Nat.gcd_comm p1 q1, Nat.gcd_rec q1 p1, Nat.gcd_comm]) hw (lv_sub (l' := [(4, .long (lN q1)), (6, .long (lN (p1 % q1)))]) hl [1, 0] (by rw [← pk_lRem (by omega) (by omega) (by omega), ← er9]; rfl))
  refine lv_lload_n hx hb dX6_common_0 rfl (lv_at hl 0 rfl) ?_
  refine lv_lconst (v := 0) hx hb dX6_common_1 (by decide) ?_
  refine h_lc_ge (x := va) (y := 0) (tgt := 11) hx hb dX6_common_2 dX6_common_3 (by decide) (fun c_2 => ?_) (fun c_2 => ?_)
  · skip
    refine lv_lload_n hx hb dX6_common_11 rfl (lv_at hl 0 rfl) ?_
    refine lv_topl (fun p9 ep9 => ?_)
    refine lv_lstore (lv' := [(4, .long p9), (0, .long va), (2, .long vb)]) hx hb dX6_common_12 hl (by decide) rfl (fun ls hl => ?_)
    refine lv_lload_n hx hb dX6_common_14 rfl (lv_at hl 2 rfl) ?_
    refine lv_lconst (v := 0) hx hb dX6_common_15 (by decide) ?_
    refine h_lc_ge (x := vb) (y := 0) (tgt := 25) hx hb dX6_common_16 dX6_common_17 (by decide) (fun c_16 => ?_) (fun c_16 => ?_)
    · skip
      refine lv_lload_n hx hb dX6_common_25 rfl (lv_at hl 2 rfl) ?_
      refine lv_topl (fun q9 eq9 => ?_)
      refine lv_lstore (lv' := [(6, .long q9), (4, .long p9), (0, .long va), (2, .long vb)]) hx hb dX6_common_26 hl (by decide) rfl (fun ls hl => ?_)
      have hp9 : p9 = lN P := by rw [ep9, ← ha, abL_pos c_2]
      have hq9 : q9 = lN Q := by rw [eq9, ← hb1, abL_pos c_16]
      exact loop (Q + 1) P Q _ _ ls (by omega) hP hQ rfl hw (lv_sub (l' := [(4, .long (lN P)), (6, .long (lN Q))]) hl [1, 0] (by rw [← hp9, ← hq9]; rfl))
    · skip
      refine lv_lload_n hx hb dX6_common_20 rfl (lv_at hl 2 rfl) ?_
      refine lv_lneg hx hb dX6_common_21 ?_
      refine lv_goto (tgt := 26) hx hb dX6_common_22 (by decide) ?_
      refine lv_topl (fun q9 eq9 => ?_)
      refine lv_lstore (lv' := [(6, .long q9), (4, .long p9), (0, .long va), (2, .long vb)]) hx hb dX6_common_26 hl (by decide) rfl (fun ls hl => ?_)
      have hp9 : p9 = lN P := by rw [ep9, ← ha, abL_pos c_2]
      have hq9 : q9 = lN Q := by rw [eq9, ← hb1, abL_neg c_16]
      exact loop (Q + 1) P Q _ _ ls (by omega) hP hQ rfl hw (lv_sub (l' := [(4, .long (lN P)), (6, .long (lN Q))]) hl [1, 0] (by rw [← hp9, ← hq9]; rfl))
  · skip
    refine lv_lload_n hx hb dX6_common_6 rfl (lv_at hl 0 rfl) ?_
    refine lv_lneg hx hb dX6_common_7 ?_
    refine lv_goto (tgt := 12) hx hb dX6_common_8 (by decide) ?_
    refine lv_topl (fun p9 ep9 => ?_)
    refine lv_lstore (lv' := [(4, .long p9), (0, .long va), (2, .long vb)]) hx hb dX6_common_12 hl (by decide) rfl (fun ls hl => ?_)
    refine lv_lload_n hx hb dX6_common_14 rfl (lv_at hl 2 rfl) ?_
    refine lv_lconst (v := 0) hx hb dX6_common_15 (by decide) ?_
    refine h_lc_ge (x := vb) (y := 0) (tgt := 25) hx hb dX6_common_16 dX6_common_17 (by decide) (fun c_16 => ?_) (fun c_16 => ?_)
    · skip
      refine lv_lload_n hx hb dX6_common_25 rfl (lv_at hl 2 rfl) ?_
      refine lv_topl (fun q9 eq9 => ?_)
      refine lv_lstore (lv' := [(6, .long q9), (4, .long p9), (0, .long va), (2, .long vb)]) hx hb dX6_common_26 hl (by decide) rfl (fun ls hl => ?_)
      have hp9 : p9 = lN P := by rw [ep9, ← ha, abL_neg c_2]
      have hq9 : q9 = lN Q := by rw [eq9, ← hb1, abL_pos c_16]
      exact loop (Q + 1) P Q _ _ ls (by omega) hP hQ rfl hw (lv_sub (l' := [(4, .long (lN P)), (6, .long (lN Q))]) hl [1, 0] (by rw [← hp9, ← hq9]; rfl))
    · skip
      refine lv_lload_n hx hb dX6_common_20 rfl (lv_at hl 2 rfl) ?_
      refine lv_lneg hx hb dX6_common_21 ?_
      refine lv_goto (tgt := 26) hx hb dX6_common_22 (by decide) ?_
      refine lv_topl (fun q9 eq9 => ?_)
      refine lv_lstore (lv' := [(6, .long q9), (4, .long p9), (0, .long va), (2, .long vb)]) hx hb dX6_common_26 hl (by decide) rfl (fun ls hl => ?_)
      have hp9 : p9 = lN P := by rw [ep9, ← ha, abL_neg c_2]
      have hq9 : q9 = lN Q := by rw [eq9, ← hb1, abL_neg c_16]
      exact loop (Q + 1) P Q _ _ ls (by omega) hP hQ rfl hw (lv_sub (l' := [(4, .long (lN P)), (6, .long (lN Q))]) hl [1, 0] (by rw [← hp9, ← hq9]; rfl))

set_option maxHeartbeats 4000000 in
set_option maxRecDepth 100000 in
theorem c_X6_unitOf (l : Launch) (G : GG) (A : Nat → Prop) (ma : Nat → Nat) (F : FM) (mk msz : Nat → Int32) (msh : Nat → Int64) (mrg : Nat → Int32) (mfc mmd : Nat → Int64) (mv : Nat → Q4) (mcn : Int32) (hM : MW G ma (mk, msz, msh, mrg, mfc, mmd, mv, mcn) F) (x : Q4) (e0 : pt (ML ma) F (ma 8) (eJ4 G x)) : HT l yX6_unitOf wsX6_unitOf { frames := 0, cells := 0, slots := 0, locals := 0 } G A (ML ma) [.ref (ma 0), .ref (ma 8)] F (some (.int (fuN x 24 0))) F := by
  refine HT.ofW (cc := cX6_unitOf) (maxL := 3) (ret := (some .int)) (plainFor_of_name (by decide)) rfl (Nat.le_of_ble_eq_true rfl) ?_
  intro p e s m below meth c ls hx hb hr hml hown hts hlk hE hw hl
  have hl : lv_has ls 3 [(0, .ref (ma 0)), (1, .ref (ma 8))] := hl
  have hown : s.vm.findClass RX6 = some m.cls := hown
  have lk_23 := hts (.fieldLink RX6 23 "FourPartsModel" "units" "[I") (by decide +kernel)
  have hinX6 : ∀ w ∈ u_ws RX6 TX6 18, w ∈ wsX6_unitOf := by decide +kernel
  have loop : ∀ (d u : Nat) (H : Heap) (locs : List Loc) (ls : Array Slot), d + u = 24 → fuN x d u = fuN x 24 0 → wo G A s.heap (ML ma) F H locs → lv_has ls 3 [(0, .ref (ma 0)), (1, .ref (ma 8)), (2, .int (nI u))] → W p l e { frames := 0, cells := 0, slots := 0, locals := 0 } s m ([.ref (ma 0), .ref (ma 8)].toArray) below meth c H locs 0 0 (MQ below (QH G A (ML ma) (some (.int (fuN x 24 0))) F) ([.ref (ma 0), .ref (ma 8)].toArray) s 0 0 A) (F0 m 2 ls []) := by
    intro d
    induction d with
    | zero =>
      intro u H locs ls hu hf hw hl
      refine lv_iload_n hx hb dX6_unitOf_2 rfl (lv_at hl 2 rfl) ?_
      refine lv_bipush (v := 24) hx hb dX6_unitOf_3 (by decide) ?_
      refine lv_icmp_ge (tgt := 86) hx hb dX6_unitOf_5 (by decide) (fun c_5 => ?_) (fun c_5 => ?_)
      · skip
        refine lv_bipush (v := (-4)) hx hb dX6_unitOf_86 (by decide) ?_
        exact h_iret hx hb hlk hr hw dX6_unitOf_88 (by rw [← hf]; rfl) rfl
      · skip
        exact absurd (nI_le (a := 24) (b := u) (by omega) (by omega)) c_5
    | succ d ih =>
      intro u H locs ls hu hf hw hl
      refine lv_iload_n hx hb dX6_unitOf_2 rfl (lv_at hl 2 rfl) ?_
      refine lv_bipush (v := 24) hx hb dX6_unitOf_3 (by decide) ?_
      refine lv_icmp_ge (tgt := 86) hx hb dX6_unitOf_5 (by decide) (fun c_5 => ?_) (fun c_5 => ?_)
      · skip
        exact absurd c_5 (nI_ge (a := u) (b := 24) (by omega) (by decide))
      · skip
        refine lv_aload_n hx hb dX6_unitOf_8 rfl (lv_at hl 1 rfl) ?_
        refine lv_iconst (v := 0) hx hb dX6_unitOf_9 (by decide) ?_
        refine h_lald hx hb hE hw e0 (n := 4) (vp_in_nI (n := 0) (N := 4) (by decide) (by decide)) (v := x.1) rfl dX6_unitOf_10 ?_
        refine lv_aload_n hx hb dX6_unitOf_11 rfl (lv_at hl 0 rfl) ?_
        refine h_get hx hb hE hw hts hinX6 hown (ci := 6) rfl 4 (by decide) lk_23 (fun _ h9 => h9) hM.ob rfl dX6_unitOf_12 ?_
        refine lv_iconst (v := 4) hx hb dX6_unitOf_15 (by decide) ?_
        refine lv_iload_n hx hb dX6_unitOf_16 rfl (lv_at hl 2 rfl) ?_
        refine h_imulN hx hb 4 u dX6_unitOf_17 ?_
        refine h_iald hx hb hE hw hM.un (vp_in_nI (n := (4 * u)) (N := 96) (by omega) (by decide)) (v := uni (4 * u)) (by rw [nI_clamp (by omega)]) dX6_unitOf_18 ?_
        refine lv_i2l hx hb dX6_unitOf_19 rfl ?_
        refine h_lc_ne (x := x.1) (y := (uni (4 * u)).toInt64) (tgt := 80) hx hb dX6_unitOf_20 dX6_unitOf_21 (by decide) (fun c_20 => ?_) (fun c_20 => ?_)
        · skip
          obtain ⟨i9, ei9⟩ : ∃ y : Int32, y = (nI u) + 1 := ⟨_, rfl⟩
          refine lv_iinc (v := i9) (lv' := [(2, .int i9), (0, .ref (ma 0)), (1, .ref (ma 8))]) hx hb dX6_unitOf_80 hl (k := 2) rfl (by rw [ei9, show Int32.ofInt (1) = 1 from by decide]) (by decide) rfl (fun ls hl => ?_)
          refine lv_goto (tgt := 2) hx hb dX6_unitOf_83 (by decide) ?_
          exact ih (u + 1) _ _ ls (by omega) (by rw [← hf]; conv => rhs; rw [fuN, if_neg (fun w => c_20 (congrArg Prod.fst w).symm)]) hw (lv_sub (l' := [(0, .ref (ma 0)), (1, .ref (ma 8)), (2, .int (nI (u + 1)))]) hl [1, 2, 0] (by rw [← nI_1, ← ei9]; rfl))
        · skip
          refine lv_aload_n hx hb dX6_unitOf_24 rfl (lv_at hl 1 rfl) ?_
          refine lv_iconst (v := 1) hx hb dX6_unitOf_25 (by decide) ?_
          refine h_lald hx hb hE hw e0 (n := 4) (vp_in_nI (n := 1) (N := 4) (by decide) (by decide)) (v := x.2.1) rfl dX6_unitOf_26 ?_
          refine lv_aload_n hx hb dX6_unitOf_27 rfl (lv_at hl 0 rfl) ?_
          refine h_get hx hb hE hw hts hinX6 hown (ci := 6) rfl 4 (by decide) lk_23 (fun _ h9 => h9) hM.ob rfl dX6_unitOf_28 ?_
          refine lv_iconst (v := 4) hx hb dX6_unitOf_31 (by decide) ?_
          refine lv_iload_n hx hb dX6_unitOf_32 rfl (lv_at hl 2 rfl) ?_
          refine h_imulN hx hb 4 u dX6_unitOf_33 ?_
          refine lv_iconst (v := 1) hx hb dX6_unitOf_34 (by decide) ?_
          refine h_iaddN hx hb (4 * u) 1 dX6_unitOf_35 ?_
          refine h_iald hx hb hE hw hM.un (vp_in_nI (n := ((4 * u) + 1)) (N := 96) (by omega) (by decide)) (v := uni ((4 * u) + 1)) (by rw [nI_clamp (by omega)]) dX6_unitOf_36 ?_
          refine lv_i2l hx hb dX6_unitOf_37 rfl ?_
          refine h_lc_ne (x := x.2.1) (y := (uni ((4 * u) + 1)).toInt64) (tgt := 80) hx hb dX6_unitOf_38 dX6_unitOf_39 (by decide) (fun c_38 => ?_) (fun c_38 => ?_)
          · skip
            obtain ⟨i9, ei9⟩ : ∃ y : Int32, y = (nI u) + 1 := ⟨_, rfl⟩
            refine lv_iinc (v := i9) (lv' := [(2, .int i9), (0, .ref (ma 0)), (1, .ref (ma 8))]) hx hb dX6_unitOf_80 hl (k := 2) rfl (by rw [ei9, show Int32.ofInt (1) = 1 from by decide]) (by decide) rfl (fun ls hl => ?_)
            refine lv_goto (tgt := 2) hx hb dX6_unitOf_83 (by decide) ?_
            exact ih (u + 1) _ _ ls (by omega) (by rw [← hf]; conv => rhs; rw [fuN, if_neg (fun w => c_38 (congrArg (fun t => t.2.1) w).symm)]) hw (lv_sub (l' := [(0, .ref (ma 0)), (1, .ref (ma 8)), (2, .int (nI (u + 1)))]) hl [1, 2, 0] (by rw [← nI_1, ← ei9]; rfl))
          · skip
            refine lv_aload_n hx hb dX6_unitOf_42 rfl (lv_at hl 1 rfl) ?_
            refine lv_iconst (v := 2) hx hb dX6_unitOf_43 (by decide) ?_
            refine h_lald hx hb hE hw e0 (n := 4) (vp_in_nI (n := 2) (N := 4) (by decide) (by decide)) (v := x.2.2.1) rfl dX6_unitOf_44 ?_
            refine lv_aload_n hx hb dX6_unitOf_45 rfl (lv_at hl 0 rfl) ?_
            refine h_get hx hb hE hw hts hinX6 hown (ci := 6) rfl 4 (by decide) lk_23 (fun _ h9 => h9) hM.ob rfl dX6_unitOf_46 ?_
            refine lv_iconst (v := 4) hx hb dX6_unitOf_49 (by decide) ?_
            refine lv_iload_n hx hb dX6_unitOf_50 rfl (lv_at hl 2 rfl) ?_
            refine h_imulN hx hb 4 u dX6_unitOf_51 ?_
            refine lv_iconst (v := 2) hx hb dX6_unitOf_52 (by decide) ?_
            refine h_iaddN hx hb (4 * u) 2 dX6_unitOf_53 ?_
            refine h_iald hx hb hE hw hM.un (vp_in_nI (n := ((4 * u) + 2)) (N := 96) (by omega) (by decide)) (v := uni ((4 * u) + 2)) (by rw [nI_clamp (by omega)]) dX6_unitOf_54 ?_
            refine lv_i2l hx hb dX6_unitOf_55 rfl ?_
            refine h_lc_ne (x := x.2.2.1) (y := (uni ((4 * u) + 2)).toInt64) (tgt := 80) hx hb dX6_unitOf_56 dX6_unitOf_57 (by decide) (fun c_56 => ?_) (fun c_56 => ?_)
            · skip
              obtain ⟨i9, ei9⟩ : ∃ y : Int32, y = (nI u) + 1 := ⟨_, rfl⟩
              refine lv_iinc (v := i9) (lv' := [(2, .int i9), (0, .ref (ma 0)), (1, .ref (ma 8))]) hx hb dX6_unitOf_80 hl (k := 2) rfl (by rw [ei9, show Int32.ofInt (1) = 1 from by decide]) (by decide) rfl (fun ls hl => ?_)
              refine lv_goto (tgt := 2) hx hb dX6_unitOf_83 (by decide) ?_
              exact ih (u + 1) _ _ ls (by omega) (by rw [← hf]; conv => rhs; rw [fuN, if_neg (fun w => c_56 (congrArg (fun t => t.2.2.1) w).symm)]) hw (lv_sub (l' := [(0, .ref (ma 0)), (1, .ref (ma 8)), (2, .int (nI (u + 1)))]) hl [1, 2, 0] (by rw [← nI_1, ← ei9]; rfl))
            · skip
              refine lv_aload_n hx hb dX6_unitOf_60 rfl (lv_at hl 1 rfl) ?_
              refine lv_iconst (v := 3) hx hb dX6_unitOf_61 (by decide) ?_
              refine h_lald hx hb hE hw e0 (n := 4) (vp_in_nI (n := 3) (N := 4) (by decide) (by decide)) (v := x.2.2.2) rfl dX6_unitOf_62 ?_
              refine lv_aload_n hx hb dX6_unitOf_63 rfl (lv_at hl 0 rfl) ?_
              refine h_get hx hb hE hw hts hinX6 hown (ci := 6) rfl 4 (by decide) lk_23 (fun _ h9 => h9) hM.ob rfl dX6_unitOf_64 ?_
              refine lv_iconst (v := 4) hx hb dX6_unitOf_67 (by decide) ?_
              refine lv_iload_n hx hb dX6_unitOf_68 rfl (lv_at hl 2 rfl) ?_
              refine h_imulN hx hb 4 u dX6_unitOf_69 ?_
              refine lv_iconst (v := 3) hx hb dX6_unitOf_70 (by decide) ?_
              refine h_iaddN hx hb (4 * u) 3 dX6_unitOf_71 ?_
              refine h_iald hx hb hE hw hM.un (vp_in_nI (n := ((4 * u) + 3)) (N := 96) (by omega) (by decide)) (v := uni ((4 * u) + 3)) (by rw [nI_clamp (by omega)]) dX6_unitOf_72 ?_
              refine lv_i2l hx hb dX6_unitOf_73 rfl ?_
              refine h_lc_ne (x := x.2.2.2) (y := (uni ((4 * u) + 3)).toInt64) (tgt := 80) hx hb dX6_unitOf_74 dX6_unitOf_75 (by decide) (fun c_74 => ?_) (fun c_74 => ?_)
              · skip
                obtain ⟨i9, ei9⟩ : ∃ y : Int32, y = (nI u) + 1 := ⟨_, rfl⟩
                refine lv_iinc (v := i9) (lv' := [(2, .int i9), (0, .ref (ma 0)), (1, .ref (ma 8))]) hx hb dX6_unitOf_80 hl (k := 2) rfl (by rw [ei9, show Int32.ofInt (1) = 1 from by decide]) (by decide) rfl (fun ls hl => ?_)
                refine lv_goto (tgt := 2) hx hb dX6_unitOf_83 (by decide) ?_
                exact ih (u + 1) _ _ ls (by omega) (by rw [← hf]; conv => rhs; rw [fuN, if_neg (fun w => c_74 (congrArg (fun t => t.2.2.2) w).symm)]) hw (lv_sub (l' := [(0, .ref (ma 0)), (1, .ref (ma 8)), (2, .int (nI (u + 1)))]) hl [1, 2, 0] (by rw [← nI_1, ← ei9]; rfl))
              · skip
                refine lv_iload_n hx hb dX6_unitOf_78 rfl (lv_at hl 2 rfl) ?_
                exact h_iret hx hb hlk hr hw dX6_unitOf_79 (by rw [← hf, fuN, if_pos (Prod.ext c_20.symm (Prod.ext c_38.symm (Prod.ext c_56.symm c_74.symm)))]) rfl
  refine lv_iconst (v := 0) hx hb dX6_unitOf_0 (by decide) ?_
  refine lv_istore_n (lv' := [(2, .int 0), (0, .ref (ma 0)), (1, .ref (ma 8))]) hx hb dX6_unitOf_1 rfl hl (by decide) rfl (fun ls hl => ?_)
  exact loop 24 0 _ _ ls rfl rfl hw (lv_sub (l' := [(0, .ref (ma 0)), (1, .ref (ma 8)), (2, .int (nI 0))]) hl [1, 2, 0] rfl)
