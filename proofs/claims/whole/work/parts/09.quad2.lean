
theorem two_ne {n : Int64} (h : ¬ n ≤ 0) : ¬ (2 * n = 0) := by
  intro q
  have h1 := congrArg Int64.toInt q
  have h2 : ¬ n.toInt ≤ 0 := fun z => h (Int64.le_iff_toInt_le.mpr z)
  have h3 : n.toInt < 9223372036854775808 := Int64.toInt_lt n
  rw [Int64.toInt_mul] at h1
  have h4 : (2 : Int64).toInt = 2 := by decide
  have h5 : (0 : Int64).toInt = 0 := by decide
  rw [h4, h5] at h1
  rw [Int.bmod_def, show ((2 ^ 64 : Nat) : Int) = 18446744073709551616 from rfl] at h1
  split at h1 <;> omega
theorem int_of {k z : Int32} (h : k.toInt = z.toInt) : k = z := Int32.toInt_inj.mp h
theorem int_lt9 {k : Int32} (h1 : 0 ≤ k.toInt) (h2 : k.toInt ≤ 8) : k = 0 ∨ k = 1 ∨ k = 2 ∨ k = 3 ∨ k = 4 ∨ k = 5 ∨ k = 6 ∨ k = 7 ∨ k = 8 := by
  rcases (show k.toInt = 0 ∨ k.toInt = 1 ∨ k.toInt = 2 ∨ k.toInt = 3 ∨ k.toInt = 4 ∨ k.toInt = 5 ∨ k.toInt = 6 ∨ k.toInt = 7 ∨ k.toInt = 8 by omega) with h | h | h | h | h | h | h | h | h
  · exact Or.inl (int_of h)
  · exact Or.inr (Or.inl (int_of h))
  · exact Or.inr (Or.inr (Or.inl (int_of h)))
  · exact Or.inr (Or.inr (Or.inr (Or.inl (int_of h))))
  · exact Or.inr (Or.inr (Or.inr (Or.inr (Or.inl (int_of h)))))
  · exact Or.inr (Or.inr (Or.inr (Or.inr (Or.inr (Or.inl (int_of h))))))
  · exact Or.inr (Or.inr (Or.inr (Or.inr (Or.inr (Or.inr (Or.inl (int_of h)))))))
  · exact Or.inr (Or.inr (Or.inr (Or.inr (Or.inr (Or.inr (Or.inr (Or.inl (int_of h))))))))
  · exact Or.inr (Or.inr (Or.inr (Or.inr (Or.inr (Or.inr (Or.inr (Or.inr (int_of h))))))))
set_option maxHeartbeats 4000000 in
set_option maxRecDepth 100000 in
theorem c_J9_floorDiv_f86c9 (l : Launch) (G : GG) (A : Nat → Prop) (L : List Nat) (F : FM) (a b : Int64) (hne : ¬ b = 0) : HT l yJ9_floorDiv_f86c9 wsJ9_floorDiv_f86c9 { frames := 0, cells := 0, slots := 0, locals := 0 } G A L [.long a, .long b] F (some (.long (flo a b))) F := by
  refine HT.ofW (cc := cJ9_floorDiv_f86c9) (maxL := 6) (ret := (some .long)) (by decide +kernel) rfl (Nat.le_of_ble_eq_true rfl) ?_
  intro p e s m below meth c ls hx hb hr hml hown hts hlk hE hw hl
  have hl : lv_has ls 6 [(0, .long a), (2, .long b)] := hl
  have hown : s.vm.findClass RJ9 = some m.cls := hown
  refine lv_lload_n hx hb dJ9_floorDiv_f86c9_0 rfl (lv_at hl 0 rfl) ?_
  refine lv_lload_n hx hb dJ9_floorDiv_f86c9_1 rfl (lv_at hl 1 rfl) ?_
  refine lv_ldiv hx hb dJ9_floorDiv_f86c9_2 hne ?_
  refine lv_lstore (lv' := [(4, .long (a / b)), (0, .long a), (2, .long b)]) hx hb dJ9_floorDiv_f86c9_3 hl (by decide) rfl (fun ls hl => ?_)
  refine lv_lload_n hx hb dJ9_floorDiv_f86c9_5 rfl (lv_at hl 1 rfl) ?_
  refine lv_lload_n hx hb dJ9_floorDiv_f86c9_6 rfl (lv_at hl 2 rfl) ?_
  refine lv_lxor hx hb dJ9_floorDiv_f86c9_7 ?_
  refine lv_lconst (v := 0) hx hb dJ9_floorDiv_f86c9_8 (by decide) ?_
  refine h_lc_ge (x := a ^^^ b) (y := 0) (tgt := 27) hx hb dJ9_floorDiv_f86c9_9 dJ9_floorDiv_f86c9_10 (by decide) (fun c_9 => ?_) (fun c_9 => ?_)
  · skip
    refine lv_lload hx hb dJ9_floorDiv_f86c9_27 (lv_at hl 0 rfl) ?_
    exact h_lret hx hb hlk hr hw dJ9_floorDiv_f86c9_29 (by unfold flo; rw [if_neg (fun q => absurd c_9 (Int64.not_le.mpr q))]) rfl
  · skip
    refine lv_lload hx hb dJ9_floorDiv_f86c9_13 (lv_at hl 0 rfl) ?_
    refine lv_lload_n hx hb dJ9_floorDiv_f86c9_15 rfl (lv_at hl 2 rfl) ?_
    refine lv_lmul hx hb dJ9_floorDiv_f86c9_16 ?_
    refine lv_lload_n hx hb dJ9_floorDiv_f86c9_17 rfl (lv_at hl 1 rfl) ?_
    refine h_lc_eq (x := (a / b) * b) (y := a) (tgt := 27) hx hb dJ9_floorDiv_f86c9_18 dJ9_floorDiv_f86c9_19 (by decide) (fun c_18 => ?_) (fun c_18 => ?_)
    · skip
      refine lv_lload hx hb dJ9_floorDiv_f86c9_27 (lv_at hl 0 rfl) ?_
      exact h_lret hx hb hlk hr hw dJ9_floorDiv_f86c9_29 (by unfold flo; rw [if_pos (Int64.not_le.mp c_9), if_pos c_18]) rfl
    · skip
      refine lv_lload hx hb dJ9_floorDiv_f86c9_22 (lv_at hl 0 rfl) ?_
      refine lv_lconst (v := 1) hx hb dJ9_floorDiv_f86c9_24 (by decide) ?_
      refine lv_lsub hx hb dJ9_floorDiv_f86c9_25 ?_
      exact h_lret hx hb hlk hr hw dJ9_floorDiv_f86c9_26 (by unfold flo; rw [if_pos (Int64.not_le.mp c_9), if_neg c_18]) rfl

set_option maxHeartbeats 4000000 in
set_option maxRecDepth 100000 in
theorem c_X1_nearestWhole (l : Launch) (G : GG) (A : Nat → Prop) (L : List Nat) (F : FM) (a b : Int64) : HT l yX1_nearestWhole wsX1_nearestWhole { frames := 1, cells := 0, slots := 0, locals := 25 } G A L [.long a, .long b] F (some (.long (nwh a b))) F := by
  refine HT.ofW (cc := cX1_nearestWhole) (maxL := 4) (ret := (some .long)) (plainFor_of_name (by decide)) rfl (Nat.le_of_ble_eq_true rfl) ?_
  intro p e s m below meth c ls hx hb hr hml hown hts hlk hE hw hl
  have hl : lv_has ls 4 [(0, .long a), (2, .long b)] := hl
  have hown : s.vm.findClass RX1 = some m.cls := hown
  have cl_28 := hts (.constantLong RX1 28 (2)) (by decide +kernel)
  refine lv_lload_n hx hb dX1_nearestWhole_0 rfl (lv_at hl 1 rfl) ?_
  refine lv_lconst (v := 0) hx hb dX1_nearestWhole_1 (by decide) ?_
  refine h_lc_le (x := b) (y := 0) (tgt := 24) hx hb dX1_nearestWhole_2 dX1_nearestWhole_3 (by decide) (fun c_2 => ?_) (fun c_2 => ?_)
  · skip
    refine lv_lconst (v := 0) hx hb dX1_nearestWhole_24 (by decide) ?_
    exact h_lret hx hb hlk hr hw dX1_nearestWhole_25 (by unfold nwh; rw [if_neg (fun q => absurd c_2 (Int64.not_le.mpr q))]) rfl
  · skip
    refine lv_ldc2 hx hb (v := (2)) hown cl_28 dX1_nearestWhole_6 ?_
    refine lv_lload_n hx hb dX1_nearestWhole_9 rfl (lv_at hl 0 rfl) ?_
    refine lv_lload_n hx hb dX1_nearestWhole_10 rfl (lv_at hl 1 rfl) ?_
    refine lv_ladd hx hb dX1_nearestWhole_11 ?_
    refine lv_ldc2 hx hb (v := (2)) hown cl_28 dX1_nearestWhole_12 ?_
    refine lv_lload_n hx hb dX1_nearestWhole_15 rfl (lv_at hl 1 rfl) ?_
    refine lv_lmul hx hb dX1_nearestWhole_16 ?_
    refine h_callS (st1 := [.long (flo (a + b) ((2) * b)), .long (2)]) [.long (a + b), .long ((2) * b)] [.long (2)] ⟨hx, hb, hml, hown, hts⟩ hE hw (c_J9_floorDiv_f86c9 l G A L F (a + b) ((2) * b) (two_ne c_2)) (va_cwS 2 hts gX1_nearestWhole_J9_floorDiv_f86c9 rfl rfl rfl (by decide +kernel) ⟨Nat.le_of_ble_eq_true rfl, Nat.le_of_ble_eq_true rfl⟩) rfl hl.1 rfl (Nat.le_of_ble_eq_true rfl) dX1_nearestWhole_17 ⟨Nat.le_of_ble_eq_true rfl, Nat.le_of_ble_eq_true rfl⟩ rfl (fun H locs hw => ?_)
    refine lv_lmul hx hb dX1_nearestWhole_20 ?_
    refine lv_goto (tgt := 25) hx hb dX1_nearestWhole_21 (by decide) ?_
    exact h_lret hx hb hlk hr hw dX1_nearestWhole_25 (by unfold nwh; rw [if_pos (Int64.not_le.mp c_2)]) rfl

set_option maxHeartbeats 4000000 in
set_option maxRecDepth 100000 in
theorem c_X1_nearestHalf (l : Launch) (G : GG) (A : Nat → Prop) (L : List Nat) (F : FM) (a b : Int64) : HT l yX1_nearestHalf wsX1_nearestHalf { frames := 1, cells := 0, slots := 0, locals := 25 } G A L [.long a, .long b] F (some (.long (nha a b))) F := by
  refine HT.ofW (cc := cX1_nearestHalf) (maxL := 4) (ret := (some .long)) (plainFor_of_name (by decide)) rfl (Nat.le_of_ble_eq_true rfl) ?_
  intro p e s m below meth c ls hx hb hr hml hown hts hlk hE hw hl
  have hl : lv_has ls 4 [(0, .long a), (2, .long b)] := hl
  have hown : s.vm.findClass RX1 = some m.cls := hown
  have cl_28 := hts (.constantLong RX1 28 (2)) (by decide +kernel)
  refine lv_lload_n hx hb dX1_nearestHalf_0 rfl (lv_at hl 1 rfl) ?_
  refine lv_lconst (v := 0) hx hb dX1_nearestHalf_1 (by decide) ?_
  refine h_lc_le (x := b) (y := 0) (tgt := 24) hx hb dX1_nearestHalf_2 dX1_nearestHalf_3 (by decide) (fun c_2 => ?_) (fun c_2 => ?_)
  · skip
    refine lv_lconst (v := 0) hx hb dX1_nearestHalf_24 (by decide) ?_
    exact h_lret hx hb hlk hr hw dX1_nearestHalf_25 (by unfold nha; rw [if_neg (fun q => absurd c_2 (Int64.not_le.mpr q))]) rfl
  · skip
    refine lv_ldc2 hx hb (v := (2)) hown cl_28 dX1_nearestHalf_6 ?_
    refine lv_lload_n hx hb dX1_nearestHalf_9 rfl (lv_at hl 0 rfl) ?_
    refine lv_ldc2 hx hb (v := (2)) hown cl_28 dX1_nearestHalf_10 ?_
    refine lv_lload_n hx hb dX1_nearestHalf_13 rfl (lv_at hl 1 rfl) ?_
    refine lv_lmul hx hb dX1_nearestHalf_14 ?_
    refine h_callS (st1 := [.long (flo a ((2) * b)), .long (2)]) [.long a, .long ((2) * b)] [.long (2)] ⟨hx, hb, hml, hown, hts⟩ hE hw (c_J9_floorDiv_f86c9 l G A L F a ((2) * b) (two_ne c_2)) (va_cwS 2 hts gX1_nearestHalf_J9_floorDiv_f86c9 rfl rfl rfl (by decide +kernel) ⟨Nat.le_of_ble_eq_true rfl, Nat.le_of_ble_eq_true rfl⟩) rfl hl.1 rfl (Nat.le_of_ble_eq_true rfl) dX1_nearestHalf_15 ⟨Nat.le_of_ble_eq_true rfl, Nat.le_of_ble_eq_true rfl⟩ rfl (fun H locs hw => ?_)
    refine lv_lmul hx hb dX1_nearestHalf_18 ?_
    refine lv_lconst (v := 1) hx hb dX1_nearestHalf_19 (by decide) ?_
    refine lv_ladd hx hb dX1_nearestHalf_20 ?_
    refine lv_goto (tgt := 25) hx hb dX1_nearestHalf_21 (by decide) ?_
    exact h_lret hx hb hlk hr hw dX1_nearestHalf_25 (by unfold nha; rw [if_pos (Int64.not_le.mp c_2)]) rfl

set_option maxHeartbeats 4000000 in
set_option maxRecDepth 100000 in
theorem c_X1_becomeNearestWholes (l : Launch) (G : GG) (A : Nat → Prop) (L : List Nat) (F : FM) (h0 : Nat) (x : Q4) (e0 : pt L F h0 (eq4 x)) (h1 : Nat) (y : Q4) (e1 : pt L F h1 (eq4 y)) (n : Int64) : HT l yX1_becomeNearestWholes wsX1_becomeNearestWholes { frames := 2, cells := 0, slots := 0, locals := 48 } G A L [.ref h0, .ref h1, .long n] F none (va_up F h0 (eq4 (qnw y n))) := by
  refine HT.ofW (cc := cX1_becomeNearestWholes) (maxL := 4) (ret := none) (plainFor_of_name (by decide)) rfl (Nat.le_of_ble_eq_true rfl) ?_
  intro p e s m below meth c ls hx hb hr hml hown hts hlk hE hw hl
  have hl : lv_has ls 4 [(0, .ref h0), (1, .ref h1), (2, .long n)] := hl
  have hown : s.vm.findClass RX1 = some m.cls := hown
  have lk_9 := hts (.fieldLink RX1 9 "FourParts$Quad" "a" "J") (by decide +kernel)
  have hinX1 : ∀ w ∈ u_ws RX1 TX1 4, w ∈ wsX1_becomeNearestWholes := by decide +kernel
  have lk_15 := hts (.fieldLink RX1 15 "FourParts$Quad" "b" "J") (by decide +kernel)
  have lk_18 := hts (.fieldLink RX1 18 "FourParts$Quad" "c" "J") (by decide +kernel)
  have lk_21 := hts (.fieldLink RX1 21 "FourParts$Quad" "d" "J") (by decide +kernel)
  refine lv_aload_n hx hb dX1_becomeNearestWholes_0 rfl (lv_at hl 0 rfl) ?_
  refine lv_aload_n hx hb dX1_becomeNearestWholes_1 rfl (lv_at hl 1 rfl) ?_
  refine h_get hx hb hE hw hts hinX1 hown (ci := 1) rfl 0 (by decide) lk_9 (fun _ h9 => h9) e1 rfl dX1_becomeNearestWholes_2 ?_
  refine lv_lload_n hx hb dX1_becomeNearestWholes_5 rfl (lv_at hl 2 rfl) ?_
  refine h_callS (st1 := [.long (nwh y.1 n), .ref h0]) [.long y.1, .long n] [.ref h0] ⟨hx, hb, hml, hown, hts⟩ hE hw (c_X1_nearestWhole l G A L F y.1 n) (va_cwS 2 hts gX1_becomeNearestWholes_X1_nearestWhole rfl rfl rfl (by decide +kernel) ⟨Nat.le_of_ble_eq_true rfl, Nat.le_of_ble_eq_true rfl⟩) rfl hl.1 rfl (Nat.le_of_ble_eq_true rfl) dX1_becomeNearestWholes_6 ⟨Nat.le_of_ble_eq_true rfl, Nat.le_of_ble_eq_true rfl⟩ rfl (fun H locs hw => ?_)
  refine lv_aload_n hx hb dX1_becomeNearestWholes_9 rfl (lv_at hl 1 rfl) ?_
  refine h_get hx hb hE hw hts hinX1 hown (ci := 1) rfl 1 (by decide) lk_15 (fun _ h9 => h9) e1 rfl dX1_becomeNearestWholes_10 ?_
  refine lv_lload_n hx hb dX1_becomeNearestWholes_13 rfl (lv_at hl 2 rfl) ?_
  refine h_callS (st1 := [.long (nwh y.2.1 n), .long (nwh y.1 n), .ref h0]) [.long y.2.1, .long n] [.long (nwh y.1 n), .ref h0] ⟨hx, hb, hml, hown, hts⟩ hE hw (c_X1_nearestWhole l G A L F y.2.1 n) (va_cwS 2 hts gX1_becomeNearestWholes_X1_nearestWhole rfl rfl rfl (by decide +kernel) ⟨Nat.le_of_ble_eq_true rfl, Nat.le_of_ble_eq_true rfl⟩) rfl hl.1 rfl (Nat.le_of_ble_eq_true rfl) dX1_becomeNearestWholes_14 ⟨Nat.le_of_ble_eq_true rfl, Nat.le_of_ble_eq_true rfl⟩ rfl (fun H locs hw => ?_)
  refine lv_aload_n hx hb dX1_becomeNearestWholes_17 rfl (lv_at hl 1 rfl) ?_
  refine h_get hx hb hE hw hts hinX1 hown (ci := 1) rfl 2 (by decide) lk_18 (fun _ h9 => h9) e1 rfl dX1_becomeNearestWholes_18 ?_
  refine lv_lload_n hx hb dX1_becomeNearestWholes_21 rfl (lv_at hl 2 rfl) ?_
  refine h_callS (st1 := [.long (nwh y.2.2.1 n), .long (nwh y.2.1 n), .long (nwh y.1 n), .ref h0]) [.long y.2.2.1, .long n] [.long (nwh y.2.1 n), .long (nwh y.1 n), .ref h0] ⟨hx, hb, hml, hown, hts⟩ hE hw (c_X1_nearestWhole l G A L F y.2.2.1 n) (va_cwS 2 hts gX1_becomeNearestWholes_X1_nearestWhole rfl rfl rfl (by decide +kernel) ⟨Nat.le_of_ble_eq_true rfl, Nat.le_of_ble_eq_true rfl⟩) rfl hl.1 rfl (Nat.le_of_ble_eq_true rfl) dX1_becomeNearestWholes_22 ⟨Nat.le_of_ble_eq_true rfl, Nat.le_of_ble_eq_true rfl⟩ rfl (fun H locs hw => ?_)
  refine lv_aload_n hx hb dX1_becomeNearestWholes_25 rfl (lv_at hl 1 rfl) ?_
  refine h_get hx hb hE hw hts hinX1 hown (ci := 1) rfl 3 (by decide) lk_21 (fun _ h9 => h9) e1 rfl dX1_becomeNearestWholes_26 ?_
  refine lv_lload_n hx hb dX1_becomeNearestWholes_29 rfl (lv_at hl 2 rfl) ?_
  refine h_callS (st1 := [.long (nwh y.2.2.2 n), .long (nwh y.2.2.1 n), .long (nwh y.2.1 n), .long (nwh y.1 n), .ref h0]) [.long y.2.2.2, .long n] [.long (nwh y.2.2.1 n), .long (nwh y.2.1 n), .long (nwh y.1 n), .ref h0] ⟨hx, hb, hml, hown, hts⟩ hE hw (c_X1_nearestWhole l G A L F y.2.2.2 n) (va_cwS 2 hts gX1_becomeNearestWholes_X1_nearestWhole rfl rfl rfl (by decide +kernel) ⟨Nat.le_of_ble_eq_true rfl, Nat.le_of_ble_eq_true rfl⟩) rfl hl.1 rfl (Nat.le_of_ble_eq_true rfl) dX1_becomeNearestWholes_30 ⟨Nat.le_of_ble_eq_true rfl, Nat.le_of_ble_eq_true rfl⟩ rfl (fun H locs hw => ?_)
  refine h_callV (st1 := []) [.long (nwh y.1 n), .long (nwh y.2.1 n), .long (nwh y.2.2.1 n), .long (nwh y.2.2.2 n)] [] ⟨hx, hb, hml, hown, hts⟩ hE hw (c_X1_become l G A L F h0 x e0 (nwh y.1 n) (nwh y.2.1 n) (nwh y.2.2.1 n) (nwh y.2.2.2 n)) (cwV 4 hts gX1_becomeNearestWholes_X1_become rfl rfl rfl (by decide +kernel) ⟨Nat.le_of_ble_eq_true rfl, Nat.le_of_ble_eq_true rfl⟩) e0 rfl rfl rfl hl.1 rfl (Nat.le_of_ble_eq_true rfl) dX1_becomeNearestWholes_33 ⟨Nat.le_of_ble_eq_true rfl, Nat.le_of_ble_eq_true rfl⟩ rfl (fun H locs hw => ?_)
  exact h_vret hx hb hlk hr hw dX1_becomeNearestWholes_36 rfl rfl

set_option maxHeartbeats 4000000 in
set_option maxRecDepth 100000 in
theorem c_X1_becomeNearestHalves (l : Launch) (G : GG) (A : Nat → Prop) (L : List Nat) (F : FM) (h0 : Nat) (x : Q4) (e0 : pt L F h0 (eq4 x)) (h1 : Nat) (y : Q4) (e1 : pt L F h1 (eq4 y)) (n : Int64) : HT l yX1_becomeNearestHalves wsX1_becomeNearestHalves { frames := 2, cells := 0, slots := 0, locals := 48 } G A L [.ref h0, .ref h1, .long n] F none (va_up F h0 (eq4 (qnh y n))) := by
  refine HT.ofW (cc := cX1_becomeNearestHalves) (maxL := 4) (ret := none) (plainFor_of_name (by decide)) rfl (Nat.le_of_ble_eq_true rfl) ?_
  intro p e s m below meth c ls hx hb hr hml hown hts hlk hE hw hl
  have hl : lv_has ls 4 [(0, .ref h0), (1, .ref h1), (2, .long n)] := hl
  have hown : s.vm.findClass RX1 = some m.cls := hown
  have lk_9 := hts (.fieldLink RX1 9 "FourParts$Quad" "a" "J") (by decide +kernel)
  have hinX1 : ∀ w ∈ u_ws RX1 TX1 4, w ∈ wsX1_becomeNearestHalves := by decide +kernel
  have lk_15 := hts (.fieldLink RX1 15 "FourParts$Quad" "b" "J") (by decide +kernel)
  have lk_18 := hts (.fieldLink RX1 18 "FourParts$Quad" "c" "J") (by decide +kernel)
  have lk_21 := hts (.fieldLink RX1 21 "FourParts$Quad" "d" "J") (by decide +kernel)
  refine lv_aload_n hx hb dX1_becomeNearestHalves_0 rfl (lv_at hl 0 rfl) ?_
  refine lv_aload_n hx hb dX1_becomeNearestHalves_1 rfl (lv_at hl 1 rfl) ?_
  refine h_get hx hb hE hw hts hinX1 hown (ci := 1) rfl 0 (by decide) lk_9 (fun _ h9 => h9) e1 rfl dX1_becomeNearestHalves_2 ?_
  refine lv_lload_n hx hb dX1_becomeNearestHalves_5 rfl (lv_at hl 2 rfl) ?_
  refine h_callS (st1 := [.long (nha y.1 n), .ref h0]) [.long y.1, .long n] [.ref h0] ⟨hx, hb, hml, hown, hts⟩ hE hw (c_X1_nearestHalf l G A L F y.1 n) (va_cwS 2 hts gX1_becomeNearestHalves_X1_nearestHalf rfl rfl rfl (by decide +kernel) ⟨Nat.le_of_ble_eq_true rfl, Nat.le_of_ble_eq_true rfl⟩) rfl hl.1 rfl (Nat.le_of_ble_eq_true rfl) dX1_becomeNearestHalves_6 ⟨Nat.le_of_ble_eq_true rfl, Nat.le_of_ble_eq_true rfl⟩ rfl (fun H locs hw => ?_)
  refine lv_aload_n hx hb dX1_becomeNearestHalves_9 rfl (lv_at hl 1 rfl) ?_
  refine h_get hx hb hE hw hts hinX1 hown (ci := 1) rfl 1 (by decide) lk_15 (fun _ h9 => h9) e1 rfl dX1_becomeNearestHalves_10 ?_
  refine lv_lload_n hx hb dX1_becomeNearestHalves_13 rfl (lv_at hl 2 rfl) ?_
  refine h_callS (st1 := [.long (nha y.2.1 n), .long (nha y.1 n), .ref h0]) [.long y.2.1, .long n] [.long (nha y.1 n), .ref h0] ⟨hx, hb, hml, hown, hts⟩ hE hw (c_X1_nearestHalf l G A L F y.2.1 n) (va_cwS 2 hts gX1_becomeNearestHalves_X1_nearestHalf rfl rfl rfl (by decide +kernel) ⟨Nat.le_of_ble_eq_true rfl, Nat.le_of_ble_eq_true rfl⟩) rfl hl.1 rfl (Nat.le_of_ble_eq_true rfl) dX1_becomeNearestHalves_14 ⟨Nat.le_of_ble_eq_true rfl, Nat.le_of_ble_eq_true rfl⟩ rfl (fun H locs hw => ?_)
  refine lv_aload_n hx hb dX1_becomeNearestHalves_17 rfl (lv_at hl 1 rfl) ?_
  refine h_get hx hb hE hw hts hinX1 hown (ci := 1) rfl 2 (by decide) lk_18 (fun _ h9 => h9) e1 rfl dX1_becomeNearestHalves_18 ?_
  refine lv_lload_n hx hb dX1_becomeNearestHalves_21 rfl (lv_at hl 2 rfl) ?_
  refine h_callS (st1 := [.long (nha y.2.2.1 n), .long (nha y.2.1 n), .long (nha y.1 n), .ref h0]) [.long y.2.2.1, .long n] [.long (nha y.2.1 n), .long (nha y.1 n), .ref h0] ⟨hx, hb, hml, hown, hts⟩ hE hw (c_X1_nearestHalf l G A L F y.2.2.1 n) (va_cwS 2 hts gX1_becomeNearestHalves_X1_nearestHalf rfl rfl rfl (by decide +kernel) ⟨Nat.le_of_ble_eq_true rfl, Nat.le_of_ble_eq_true rfl⟩) rfl hl.1 rfl (Nat.le_of_ble_eq_true rfl) dX1_becomeNearestHalves_22 ⟨Nat.le_of_ble_eq_true rfl, Nat.le_of_ble_eq_true rfl⟩ rfl (fun H locs hw => ?_)
  refine lv_aload_n hx hb dX1_becomeNearestHalves_25 rfl (lv_at hl 1 rfl) ?_
  refine h_get hx hb hE hw hts hinX1 hown (ci := 1) rfl 3 (by decide) lk_21 (fun _ h9 => h9) e1 rfl dX1_becomeNearestHalves_26 ?_
  refine lv_lload_n hx hb dX1_becomeNearestHalves_29 rfl (lv_at hl 2 rfl) ?_
  refine h_callS (st1 := [.long (nha y.2.2.2 n), .long (nha y.2.2.1 n), .long (nha y.2.1 n), .long (nha y.1 n), .ref h0]) [.long y.2.2.2, .long n] [.long (nha y.2.2.1 n), .long (nha y.2.1 n), .long (nha y.1 n), .ref h0] ⟨hx, hb, hml, hown, hts⟩ hE hw (c_X1_nearestHalf l G A L F y.2.2.2 n) (va_cwS 2 hts gX1_becomeNearestHalves_X1_nearestHalf rfl rfl rfl (by decide +kernel) ⟨Nat.le_of_ble_eq_true rfl, Nat.le_of_ble_eq_true rfl⟩) rfl hl.1 rfl (Nat.le_of_ble_eq_true rfl) dX1_becomeNearestHalves_30 ⟨Nat.le_of_ble_eq_true rfl, Nat.le_of_ble_eq_true rfl⟩ rfl (fun H locs hw => ?_)
  refine h_callV (st1 := []) [.long (nha y.1 n), .long (nha y.2.1 n), .long (nha y.2.2.1 n), .long (nha y.2.2.2 n)] [] ⟨hx, hb, hml, hown, hts⟩ hE hw (c_X1_become l G A L F h0 x e0 (nha y.1 n) (nha y.2.1 n) (nha y.2.2.1 n) (nha y.2.2.2 n)) (cwV 4 hts gX1_becomeNearestHalves_X1_become rfl rfl rfl (by decide +kernel) ⟨Nat.le_of_ble_eq_true rfl, Nat.le_of_ble_eq_true rfl⟩) e0 rfl rfl rfl hl.1 rfl (Nat.le_of_ble_eq_true rfl) dX1_becomeNearestHalves_33 ⟨Nat.le_of_ble_eq_true rfl, Nat.le_of_ble_eq_true rfl⟩ rfl (fun H locs hw => ?_)
  exact h_vret hx hb hlk hr hw dX1_becomeNearestHalves_36 rfl rfl

set_option maxHeartbeats 4000000 in
set_option maxRecDepth 100000 in
theorem c_X1_offFrom (l : Launch) (G : GG) (A : Nat → Prop) (L : List Nat) (F : FM) (h0 h1 : Nat) (x y : Q4) (e0 : pt L F h0 (eq4 x)) (e1 : pt L F h1 (eq4 y)) (n : Int64) : HT l yX1_offFrom wsX1_offFrom { frames := 1, cells := 0, slots := 0, locals := 21 } G A L [.ref h0, .ref h1, .long n] F (some (.long (qoff x y n))) F := by
  refine HT.ofW (cc := cX1_offFrom) (maxL := 4) (ret := (some .long)) (plainFor_of_name (by decide)) rfl (Nat.le_of_ble_eq_true rfl) ?_
  intro p e s m below meth c ls hx hb hr hml hown hts hlk hE hw hl
  have hl : lv_has ls 4 [(0, .ref h0), (1, .ref h1), (2, .long n)] := hl
  have hown : s.vm.findClass RX1 = some m.cls := hown
  have lk_9 := hts (.fieldLink RX1 9 "FourParts$Quad" "a" "J") (by decide +kernel)
  have hinX1 : ∀ w ∈ u_ws RX1 TX1 4, w ∈ wsX1_offFrom := by decide +kernel
  have lk_15 := hts (.fieldLink RX1 15 "FourParts$Quad" "b" "J") (by decide +kernel)
  have lk_18 := hts (.fieldLink RX1 18 "FourParts$Quad" "c" "J") (by decide +kernel)
  have lk_21 := hts (.fieldLink RX1 21 "FourParts$Quad" "d" "J") (by decide +kernel)
  refine lv_aload_n hx hb dX1_offFrom_0 rfl (lv_at hl 1 rfl) ?_
  refine h_get hx hb hE hw hts hinX1 hown (ci := 1) rfl 0 (by decide) lk_9 (fun _ h9 => h9) e1 rfl dX1_offFrom_1 ?_
  refine lv_lload_n hx hb dX1_offFrom_4 rfl (lv_at hl 2 rfl) ?_
  refine lv_aload_n hx hb dX1_offFrom_5 rfl (lv_at hl 0 rfl) ?_
  refine h_get hx hb hE hw hts hinX1 hown (ci := 1) rfl 0 (by decide) lk_9 (fun _ h9 => h9) e0 rfl dX1_offFrom_6 ?_
  refine lv_lmul hx hb dX1_offFrom_9 ?_
  refine lv_lsub hx hb dX1_offFrom_10 ?_
  refine h_callS (st1 := [.long ((y.1 - (n * x.1)) * (y.1 - (n * x.1)))]) [.long (y.1 - (n * x.1))] [] ⟨hx, hb, hml, hown, hts⟩ hE hw (c_X1_square l G A L F (y.1 - (n * x.1))) (va_cwS 1 hts gX1_offFrom_X1_square rfl rfl rfl (by decide +kernel) ⟨Nat.le_of_ble_eq_true rfl, Nat.le_of_ble_eq_true rfl⟩) rfl hl.1 rfl (Nat.le_of_ble_eq_true rfl) dX1_offFrom_11 ⟨Nat.le_of_ble_eq_true rfl, Nat.le_of_ble_eq_true rfl⟩ rfl (fun H locs hw => ?_)
  refine lv_aload_n hx hb dX1_offFrom_14 rfl (lv_at hl 1 rfl) ?_
  refine h_get hx hb hE hw hts hinX1 hown (ci := 1) rfl 1 (by decide) lk_15 (fun _ h9 => h9) e1 rfl dX1_offFrom_15 ?_
  refine lv_lload_n hx hb dX1_offFrom_18 rfl (lv_at hl 2 rfl) ?_
  refine lv_aload_n hx hb dX1_offFrom_19 rfl (lv_at hl 0 rfl) ?_
  refine h_get hx hb hE hw hts hinX1 hown (ci := 1) rfl 1 (by decide) lk_15 (fun _ h9 => h9) e0 rfl dX1_offFrom_20 ?_
  refine lv_lmul hx hb dX1_offFrom_23 ?_
  refine lv_lsub hx hb dX1_offFrom_24 ?_
  refine h_callS (st1 := [.long ((y.2.1 - (n * x.2.1)) * (y.2.1 - (n * x.2.1))), .long ((y.1 - (n * x.1)) * (y.1 - (n * x.1)))]) [.long (y.2.1 - (n * x.2.1))] [.long ((y.1 - (n * x.1)) * (y.1 - (n * x.1)))] ⟨hx, hb, hml, hown, hts⟩ hE hw (c_X1_square l G A L F (y.2.1 - (n * x.2.1))) (va_cwS 1 hts gX1_offFrom_X1_square rfl rfl rfl (by decide +kernel) ⟨Nat.le_of_ble_eq_true rfl, Nat.le_of_ble_eq_true rfl⟩) rfl hl.1 rfl (Nat.le_of_ble_eq_true rfl) dX1_offFrom_25 ⟨Nat.le_of_ble_eq_true rfl, Nat.le_of_ble_eq_true rfl⟩ rfl (fun H locs hw => ?_)
  refine lv_ladd hx hb dX1_offFrom_28 ?_
  refine lv_aload_n hx hb dX1_offFrom_29 rfl (lv_at hl 1 rfl) ?_
  refine h_get hx hb hE hw hts hinX1 hown (ci := 1) rfl 2 (by decide) lk_18 (fun _ h9 => h9) e1 rfl dX1_offFrom_30 ?_
  refine lv_lload_n hx hb dX1_offFrom_33 rfl (lv_at hl 2 rfl) ?_
  refine lv_aload_n hx hb dX1_offFrom_34 rfl (lv_at hl 0 rfl) ?_
  refine h_get hx hb hE hw hts hinX1 hown (ci := 1) rfl 2 (by decide) lk_18 (fun _ h9 => h9) e0 rfl dX1_offFrom_35 ?_
  refine lv_lmul hx hb dX1_offFrom_38 ?_
  refine lv_lsub hx hb dX1_offFrom_39 ?_
  refine h_callS (st1 := [.long ((y.2.2.1 - (n * x.2.2.1)) * (y.2.2.1 - (n * x.2.2.1))), .long (((y.1 - (n * x.1)) * (y.1 - (n * x.1))) + ((y.2.1 - (n * x.2.1)) * (y.2.1 - (n * x.2.1))))]) [.long (y.2.2.1 - (n * x.2.2.1))] [.long (((y.1 - (n * x.1)) * (y.1 - (n * x.1))) + ((y.2.1 - (n * x.2.1)) * (y.2.1 - (n * x.2.1))))] ⟨hx, hb, hml, hown, hts⟩ hE hw (c_X1_square l G A L F (y.2.2.1 - (n * x.2.2.1))) (va_cwS 1 hts gX1_offFrom_X1_square rfl rfl rfl (by decide +kernel) ⟨Nat.le_of_ble_eq_true rfl, Nat.le_of_ble_eq_true rfl⟩) rfl hl.1 rfl (Nat.le_of_ble_eq_true rfl) dX1_offFrom_40 ⟨Nat.le_of_ble_eq_true rfl, Nat.le_of_ble_eq_true rfl⟩ rfl (fun H locs hw => ?_)
  refine lv_ladd hx hb dX1_offFrom_43 ?_
  refine lv_aload_n hx hb dX1_offFrom_44 rfl (lv_at hl 1 rfl) ?_
  refine h_get hx hb hE hw hts hinX1 hown (ci := 1) rfl 3 (by decide) lk_21 (fun _ h9 => h9) e1 rfl dX1_offFrom_45 ?_
  refine lv_lload_n hx hb dX1_offFrom_48 rfl (lv_at hl 2 rfl) ?_
  refine lv_aload_n hx hb dX1_offFrom_49 rfl (lv_at hl 0 rfl) ?_
  refine h_get hx hb hE hw hts hinX1 hown (ci := 1) rfl 3 (by decide) lk_21 (fun _ h9 => h9) e0 rfl dX1_offFrom_50 ?_
  refine lv_lmul hx hb dX1_offFrom_53 ?_
  refine lv_lsub hx hb dX1_offFrom_54 ?_
  refine h_callS (st1 := [.long ((y.2.2.2 - (n * x.2.2.2)) * (y.2.2.2 - (n * x.2.2.2))), .long ((((y.1 - (n * x.1)) * (y.1 - (n * x.1))) + ((y.2.1 - (n * x.2.1)) * (y.2.1 - (n * x.2.1)))) + ((y.2.2.1 - (n * x.2.2.1)) * (y.2.2.1 - (n * x.2.2.1))))]) [.long (y.2.2.2 - (n * x.2.2.2))] [.long ((((y.1 - (n * x.1)) * (y.1 - (n * x.1))) + ((y.2.1 - (n * x.2.1)) * (y.2.1 - (n * x.2.1)))) + ((y.2.2.1 - (n * x.2.2.1)) * (y.2.2.1 - (n * x.2.2.1))))] ⟨hx, hb, hml, hown, hts⟩ hE hw (c_X1_square l G A L F (y.2.2.2 - (n * x.2.2.2))) (va_cwS 1 hts gX1_offFrom_X1_square rfl rfl rfl (by decide +kernel) ⟨Nat.le_of_ble_eq_true rfl, Nat.le_of_ble_eq_true rfl⟩) rfl hl.1 rfl (Nat.le_of_ble_eq_true rfl) dX1_offFrom_55 ⟨Nat.le_of_ble_eq_true rfl, Nat.le_of_ble_eq_true rfl⟩ rfl (fun H locs hw => ?_)
  refine lv_ladd hx hb dX1_offFrom_58 ?_
  exact h_lret hx hb hlk hr hw dX1_offFrom_59 rfl rfl

set_option maxHeartbeats 4000000 in
set_option maxRecDepth 100000 in
theorem c_X1_commonOf (l : Launch) (G : GG) (A : Nat → Prop) (L : List Nat) (F : FM) (a b : Int64) : HT l yX1_commonOf wsX1_commonOf { frames := 1, cells := 0, slots := 0, locals := 24 } G A L [.long a, .long b] F (some (.long (gcd2 a b))) F := by
  refine HT.ofW (cc := cX1_commonOf) (maxL := 11) (ret := (some .long)) (plainFor_of_name (by decide)) rfl (Nat.le_of_ble_eq_true rfl) ?_
  intro p e s m below meth c ls hx hb hr hml hown hts hlk hE hw hl
  have hl : lv_has ls 11 [(0, .long a), (2, .long b)] := hl
  have hown : s.vm.findClass RX1 = some m.cls := hown
  have loop : ∀ (n i : Nat) (x y : Int64) (H : Heap) (locs : List Loc) (ls : Array Slot), n + i = 100 → gcL n x y = gcd2 a b → wo G A s.heap L F H locs → lv_has ls 11 [(4, .long x), (6, .long y), (8, .int (nI i))] → W p l e { frames := 1, cells := 0, slots := 0, locals := 24 } s m ([.long a, .long b].toArray) below meth c H locs 0 0 (MQ below (QH G A L (some (.long (gcd2 a b))) F) ([.long a, .long b].toArray) s 0 0 A) (F0 m 15 ls []) := by
    intro n
    induction n with
    | zero =>
      intro i x y H locs ls hi hg hw hl
      refine lv_iload hx hb dX1_commonOf_15 (lv_at hl 2 rfl) ?_
      refine lv_bipush (v := 100) hx hb dX1_commonOf_17 (by decide) ?_
      refine lv_icmp_ge (tgt := 50) hx hb dX1_commonOf_19 (by decide) (fun c_19 => ?_) (fun c_19 => ?_)
      · skip
        refine lv_lload hx hb dX1_commonOf_50 (lv_at hl 0 rfl) ?_
        exact h_lret hx hb hlk hr hw dX1_commonOf_52 (by rw [← hg]; rfl) rfl
      · skip
        exact absurd (show (100 : Int32) ≤ nI i from (by rw [show i = 100 by omega]; decide)) c_19
    | succ n ih =>
      intro i x y H locs ls hi hg hw hl
      refine lv_iload hx hb dX1_commonOf_15 (lv_at hl 2 rfl) ?_
      refine lv_bipush (v := 100) hx hb dX1_commonOf_17 (by decide) ?_
      refine lv_icmp_ge (tgt := 50) hx hb dX1_commonOf_19 (by decide) (fun c_19 => ?_) (fun c_19 => ?_)
      · skip
        exact absurd c_19 (nI_ge (a := i) (b := 100) (by omega) (by decide))
      · skip
        refine lv_lload hx hb dX1_commonOf_22 (lv_at hl 1 rfl) ?_
        refine lv_lconst (v := 0) hx hb dX1_commonOf_24 (by decide) ?_
        refine h_lc_eq (x := y) (y := 0) (tgt := 50) hx hb dX1_commonOf_25 dX1_commonOf_26 (by decide) (fun c_25 => ?_) (fun c_25 => ?_)
        · skip
          refine lv_lload hx hb dX1_commonOf_50 (lv_at hl 0 rfl) ?_
          exact h_lret hx hb hlk hr hw dX1_commonOf_52 (by rw [← hg, gcL, if_pos c_25]) rfl
        · skip
          refine lv_lload hx hb dX1_commonOf_29 (lv_at hl 0 rfl) ?_
          refine lv_lload hx hb dX1_commonOf_31 (lv_at hl 1 rfl) ?_
          refine lv_lrem hx hb dX1_commonOf_33 c_25 ?_
          refine lv_topl (fun r9 er9 => ?_)
          refine lv_lstore (lv' := [(9, .long r9), (4, .long x), (6, .long y), (8, .int (nI i))]) hx hb dX1_commonOf_34 hl (by decide) rfl (fun ls hl => ?_)
          refine lv_lload hx hb dX1_commonOf_36 (lv_at hl 2 rfl) ?_
          refine lv_lstore (lv' := [(4, .long y), (9, .long r9), (6, .long y), (8, .int (nI i))]) hx hb dX1_commonOf_38 hl (by decide) rfl (fun ls hl => ?_)
          refine lv_lload hx hb dX1_commonOf_40 (lv_at hl 1 rfl) ?_
          refine lv_lstore (lv' := [(6, .long r9), (4, .long y), (9, .long r9), (8, .int (nI i))]) hx hb dX1_commonOf_42 hl (by decide) rfl (fun ls hl => ?_)
          obtain ⟨i9, ei9⟩ : ∃ y : Int32, y = (nI i) + 1 := ⟨_, rfl⟩
          refine lv_iinc (v := i9) (lv' := [(8, .int i9), (6, .long r9), (4, .long y), (9, .long r9)]) hx hb dX1_commonOf_44 hl (k := 3) rfl (by rw [ei9, show Int32.ofInt (1) = 1 from by decide]) (by decide) rfl (fun ls hl => ?_)
          refine lv_goto (tgt := 15) hx hb dX1_commonOf_47 (by decide) ?_
          exact ih (i + 1) y r9 H locs ls (by omega) (by rw [← hg, gcL, if_neg c_25, er9]) hw (lv_sub (l' := [(4, .long y), (6, .long r9), (8, .int (nI (i + 1)))]) hl [2, 1, 0] (by rw [← nI_1, ← ei9]; rfl))
  refine lv_lload_n hx hb dX1_commonOf_0 rfl (lv_at hl 0 rfl) ?_
  refine va_mabs_long hx hb (hml.trans hl.1.symm) hown (hts (.methodLink RX1 67 Lib.MathLoose.abs_long.x) (by decide +kernel)) (hts (.static Lib.MathLoose.abs_long.x) (by decide +kernel)) (hts (.initialized "java/lang/Math") (by decide +kernel)) (hts (.code Lib.MathLoose.abs_long.x Lib.MathLoose.abs_long.code 2 (some .long)) (by decide +kernel)) (Nat.le_of_ble_eq_true rfl) (Nat.le_of_ble_eq_true rfl) (Nat.le_of_ble_eq_true rfl) (Nat.le_of_ble_eq_true rfl) dX1_commonOf_1 ?_
  refine W.eq (g2 := F0 m 4 ls [.long (abL a)]) rfl ?_
  refine lv_lstore (lv' := [(4, .long (abL a)), (0, .long a), (2, .long b)]) hx hb dX1_commonOf_4 hl (by decide) rfl (fun ls hl => ?_)
  refine lv_lload_n hx hb dX1_commonOf_6 rfl (lv_at hl 2 rfl) ?_
  refine va_mabs_long hx hb (hml.trans hl.1.symm) hown (hts (.methodLink RX1 67 Lib.MathLoose.abs_long.x) (by decide +kernel)) (hts (.static Lib.MathLoose.abs_long.x) (by decide +kernel)) (hts (.initialized "java/lang/Math") (by decide +kernel)) (hts (.code Lib.MathLoose.abs_long.x Lib.MathLoose.abs_long.code 2 (some .long)) (by decide +kernel)) (Nat.le_of_ble_eq_true rfl) (Nat.le_of_ble_eq_true rfl) (Nat.le_of_ble_eq_true rfl) (Nat.le_of_ble_eq_true rfl) dX1_commonOf_7 ?_
  refine W.eq (g2 := F0 m 10 ls [.long (abL b)]) rfl ?_
  refine lv_lstore (lv' := [(6, .long (abL b)), (4, .long (abL a)), (0, .long a), (2, .long b)]) hx hb dX1_commonOf_10 hl (by decide) rfl (fun ls hl => ?_)
  refine lv_iconst (v := 0) hx hb dX1_commonOf_12 (by decide) ?_
  refine lv_istore (lv' := [(8, .int 0), (6, .long (abL b)), (4, .long (abL a)), (0, .long a), (2, .long b)]) hx hb dX1_commonOf_13 hl (by decide) rfl (fun ls hl => ?_)
  exact loop 100 0 (abL a) (abL b) _ _ ls rfl rfl hw (lv_sub (l' := [(4, .long (abL a)), (6, .long (abL b)), (8, .int (nI 0))]) hl [2, 1, 0] rfl)

set_option maxHeartbeats 4000000 in
set_option maxRecDepth 100000 in
theorem c_X1_isPrimitive (l : Launch) (G : GG) (A : Nat → Prop) (L : List Nat) (F : FM) (h0 : Nat) (x : Q4) (e0 : pt L F h0 (eq4 x)) : HT l yX1_isPrimitive wsX1_isPrimitive { frames := 2, cells := 0, slots := 0, locals := 54 } G A L [.ref h0] F (some (.int (bI (qpr x)))) F := by
  refine HT.ofW (cc := cX1_isPrimitive) (maxL := 3) (ret := (some .boolean)) (plainFor_of_name (by decide)) rfl (Nat.le_of_ble_eq_true rfl) ?_
  intro p e s m below meth c ls hx hb hr hml hown hts hlk hE hw hl
  have hl : lv_has ls 3 [(0, .ref h0)] := hl
  have hown : s.vm.findClass RX1 = some m.cls := hown
  have lk_9 := hts (.fieldLink RX1 9 "FourParts$Quad" "a" "J") (by decide +kernel)
  have hinX1 : ∀ w ∈ u_ws RX1 TX1 4, w ∈ wsX1_isPrimitive := by decide +kernel
  have lk_15 := hts (.fieldLink RX1 15 "FourParts$Quad" "b" "J") (by decide +kernel)
  have lk_18 := hts (.fieldLink RX1 18 "FourParts$Quad" "c" "J") (by decide +kernel)
  have lk_21 := hts (.fieldLink RX1 21 "FourParts$Quad" "d" "J") (by decide +kernel)
  have cl_28 := hts (.constantLong RX1 28 (2)) (by decide +kernel)
  refine lv_aload_n hx hb dX1_isPrimitive_0 rfl (lv_at hl 0 rfl) ?_
  refine h_get hx hb hE hw hts hinX1 hown (ci := 1) rfl 0 (by decide) lk_9 (fun _ h9 => h9) e0 rfl dX1_isPrimitive_1 ?_
  refine lv_aload_n hx hb dX1_isPrimitive_4 rfl (lv_at hl 0 rfl) ?_
  refine h_get hx hb hE hw hts hinX1 hown (ci := 1) rfl 1 (by decide) lk_15 (fun _ h9 => h9) e0 rfl dX1_isPrimitive_5 ?_
  refine h_callS (st1 := [.long (gcd2 x.1 x.2.1)]) [.long x.1, .long x.2.1] [] ⟨hx, hb, hml, hown, hts⟩ hE hw (c_X1_commonOf l G A L F x.1 x.2.1) (va_cwS 2 hts gX1_isPrimitive_X1_commonOf rfl rfl rfl (by decide +kernel) ⟨Nat.le_of_ble_eq_true rfl, Nat.le_of_ble_eq_true rfl⟩) rfl hl.1 rfl (Nat.le_of_ble_eq_true rfl) dX1_isPrimitive_8 ⟨Nat.le_of_ble_eq_true rfl, Nat.le_of_ble_eq_true rfl⟩ rfl (fun H locs hw => ?_)
  refine lv_aload_n hx hb dX1_isPrimitive_11 rfl (lv_at hl 0 rfl) ?_
  refine h_get hx hb hE hw hts hinX1 hown (ci := 1) rfl 2 (by decide) lk_18 (fun _ h9 => h9) e0 rfl dX1_isPrimitive_12 ?_
  refine lv_aload_n hx hb dX1_isPrimitive_15 rfl (lv_at hl 0 rfl) ?_
  refine h_get hx hb hE hw hts hinX1 hown (ci := 1) rfl 3 (by decide) lk_21 (fun _ h9 => h9) e0 rfl dX1_isPrimitive_16 ?_
  refine h_callS (st1 := [.long (gcd2 x.2.2.1 x.2.2.2), .long (gcd2 x.1 x.2.1)]) [.long x.2.2.1, .long x.2.2.2] [.long (gcd2 x.1 x.2.1)] ⟨hx, hb, hml, hown, hts⟩ hE hw (c_X1_commonOf l G A L F x.2.2.1 x.2.2.2) (va_cwS 2 hts gX1_isPrimitive_X1_commonOf rfl rfl rfl (by decide +kernel) ⟨Nat.le_of_ble_eq_true rfl, Nat.le_of_ble_eq_true rfl⟩) rfl hl.1 rfl (Nat.le_of_ble_eq_true rfl) dX1_isPrimitive_19 ⟨Nat.le_of_ble_eq_true rfl, Nat.le_of_ble_eq_true rfl⟩ rfl (fun H locs hw => ?_)
  refine h_callS (st1 := [.long (gcd2 (gcd2 x.1 x.2.1) (gcd2 x.2.2.1 x.2.2.2))]) [.long (gcd2 x.1 x.2.1), .long (gcd2 x.2.2.1 x.2.2.2)] [] ⟨hx, hb, hml, hown, hts⟩ hE hw (c_X1_commonOf l G A L F (gcd2 x.1 x.2.1) (gcd2 x.2.2.1 x.2.2.2)) (va_cwS 2 hts gX1_isPrimitive_X1_commonOf rfl rfl rfl (by decide +kernel) ⟨Nat.le_of_ble_eq_true rfl, Nat.le_of_ble_eq_true rfl⟩) rfl hl.1 rfl (Nat.le_of_ble_eq_true rfl) dX1_isPrimitive_22 ⟨Nat.le_of_ble_eq_true rfl, Nat.le_of_ble_eq_true rfl⟩ rfl (fun H locs hw => ?_)
  refine lv_topl (fun k9 ek9 => ?_)
  refine lv_lstore_n (lv' := [(1, .long k9), (0, .ref h0)]) hx hb dX1_isPrimitive_25 rfl hl (by decide) rfl (fun ls hl => ?_)
  refine lv_lload_n hx hb dX1_isPrimitive_26 rfl (lv_at hl 0 rfl) ?_
  refine lv_ldc2 hx hb (v := (2)) hown cl_28 dX1_isPrimitive_27 ?_
  refine h_lc_eq (x := k9) (y := (2)) (tgt := 46) hx hb dX1_isPrimitive_30 dX1_isPrimitive_31 (by decide) (fun c_30 => ?_) (fun c_30 => ?_)
  · skip
    refine lv_aload_n hx hb dX1_isPrimitive_46 rfl (lv_at hl 1 rfl) ?_
    refine h_get hx hb hE hw hts hinX1 hown (ci := 1) rfl 0 (by decide) lk_9 (fun _ h9 => h9) e0 rfl dX1_isPrimitive_47 ?_
    refine lv_aload_n hx hb dX1_isPrimitive_50 rfl (lv_at hl 1 rfl) ?_
    refine h_get hx hb hE hw hts hinX1 hown (ci := 1) rfl 1 (by decide) lk_15 (fun _ h9 => h9) e0 rfl dX1_isPrimitive_51 ?_
    refine lv_land hx hb dX1_isPrimitive_54 ?_
    refine lv_aload_n hx hb dX1_isPrimitive_55 rfl (lv_at hl 1 rfl) ?_
    refine h_get hx hb hE hw hts hinX1 hown (ci := 1) rfl 2 (by decide) lk_18 (fun _ h9 => h9) e0 rfl dX1_isPrimitive_56 ?_
    refine lv_land hx hb dX1_isPrimitive_59 ?_
    refine lv_aload_n hx hb dX1_isPrimitive_60 rfl (lv_at hl 1 rfl) ?_
    refine h_get hx hb hE hw hts hinX1 hown (ci := 1) rfl 3 (by decide) lk_21 (fun _ h9 => h9) e0 rfl dX1_isPrimitive_61 ?_
    refine lv_land hx hb dX1_isPrimitive_64 ?_
    refine lv_ldc2 hx hb (v := (2)) hown cl_28 dX1_isPrimitive_65 ?_
    refine lv_land hx hb dX1_isPrimitive_68 ?_
    refine lv_lconst (v := 0) hx hb dX1_isPrimitive_69 (by decide) ?_
    refine h_lc_ne (x := (((x.1 &&& x.2.1) &&& x.2.2.1) &&& x.2.2.2) &&& (2)) (y := 0) (tgt := 78) hx hb dX1_isPrimitive_70 dX1_isPrimitive_71 (by decide) (fun c_70 => ?_) (fun c_70 => ?_)
    · skip
      refine lv_iconst (v := 0) hx hb dX1_isPrimitive_78 (by decide) ?_
      exact h_zret hx hb hlk hr hw dX1_isPrimitive_79 rfl (by rw [bI_f (by unfold qpr; rw [← ek9, if_pos c_30]; exact c_70)]) rfl
    · skip
      refine lv_iconst (v := 1) hx hb dX1_isPrimitive_74 (by decide) ?_
      refine lv_goto (tgt := 79) hx hb dX1_isPrimitive_75 (by decide) ?_
      exact h_zret hx hb hlk hr hw dX1_isPrimitive_79 rfl (by rw [bI_t (by unfold qpr; rw [← ek9, if_pos c_30]; exact c_70)]) rfl
  · skip
    refine lv_lload_n hx hb dX1_isPrimitive_34 rfl (lv_at hl 0 rfl) ?_
    refine lv_lconst (v := 1) hx hb dX1_isPrimitive_35 (by decide) ?_
    refine h_lc_ne (x := k9) (y := 1) (tgt := 44) hx hb dX1_isPrimitive_36 dX1_isPrimitive_37 (by decide) (fun c_36 => ?_) (fun c_36 => ?_)
    · skip
      refine lv_iconst (v := 0) hx hb dX1_isPrimitive_44 (by decide) ?_
      exact h_zret hx hb hlk hr hw dX1_isPrimitive_45 rfl (by rw [bI_f (by unfold qpr; rw [← ek9, if_neg c_30]; exact c_36)]) rfl
    · skip
      refine lv_iconst (v := 1) hx hb dX1_isPrimitive_40 (by decide) ?_
      refine lv_goto (tgt := 45) hx hb dX1_isPrimitive_41 (by decide) ?_
      exact h_zret hx hb hlk hr hw dX1_isPrimitive_45 rfl (by rw [bI_t (by unfold qpr; rw [← ek9, if_neg c_30]; exact c_36)]) rfl

set_option maxHeartbeats 4000000 in
set_option maxRecDepth 100000 in
theorem c_X1_turnAt (l : Launch) (G : GG) (A : Nat → Prop) (L : List Nat) (F : FM) (h0 : Nat) (x : Q4) (e0 : pt L F h0 (eq4 x)) (i j : Int32) : HT l yX1_turnAt wsX1_turnAt { frames := 0, cells := 0, slots := 0, locals := 0 } G A L [.ref h0, .int i, .int j] F (some (.long (qtn x (3 * i + j)))) F := by
  refine HT.ofW (cc := cX1_turnAt) (maxL := 3) (ret := (some .long)) (plainFor_of_name (by decide)) rfl (Nat.le_of_ble_eq_true rfl) ?_
  intro p e s m below meth c ls hx hb hr hml hown hts hlk hE hw hl
  have hl : lv_has ls 3 [(0, .ref h0), (1, .int i), (2, .int j)] := hl
  have hown : s.vm.findClass RX1 = some m.cls := hown
  have lk_9 := hts (.fieldLink RX1 9 "FourParts$Quad" "a" "J") (by decide +kernel)
  have hinX1 : ∀ w ∈ u_ws RX1 TX1 4, w ∈ wsX1_turnAt := by decide +kernel
  have lk_15 := hts (.fieldLink RX1 15 "FourParts$Quad" "b" "J") (by decide +kernel)
  have lk_18 := hts (.fieldLink RX1 18 "FourParts$Quad" "c" "J") (by decide +kernel)
  have lk_21 := hts (.fieldLink RX1 21 "FourParts$Quad" "d" "J") (by decide +kernel)
  have cl_54 := hts (.constantLong RX1 54 (4)) (by decide +kernel)
  have cl_28 := hts (.constantLong RX1 28 (2)) (by decide +kernel)
  refine lv_iconst (v := 3) hx hb dX1_turnAt_0 (by decide) ?_
  refine lv_iload_n hx hb dX1_turnAt_1 rfl (lv_at hl 1 rfl) ?_
  refine lv_imul hx hb dX1_turnAt_2 ?_
  refine lv_iload_n hx hb dX1_turnAt_3 rfl (lv_at hl 2 rfl) ?_
  refine lv_iadd hx hb dX1_turnAt_4 ?_
  generalize hk : 3 * i + j = k
  by_cases k0 : k.toInt < 0 ∨ 8 < k.toInt
  · refine lv_tableOut (tgt := 332) hx hb dX1_turnAt_5 k0 (by decide) ?_
    have kn : ∀ z : Int32, 0 ≤ z.toInt → z.toInt ≤ 8 → ¬ k = z := fun z h1 h2 q => by rw [q] at k0; omega
    refine lv_lconst (v := 0) hx hb dX1_turnAt_332 (by decide) ?_
    exact h_lret hx hb hlk hr hw dX1_turnAt_333 (by unfold qtn; rw [if_neg (kn 0 (by decide) (by decide)), if_neg (kn 1 (by decide) (by decide)), if_neg (kn 2 (by decide) (by decide)), if_neg (kn 3 (by decide) (by decide)), if_neg (kn 4 (by decide) (by decide)), if_neg (kn 5 (by decide) (by decide)), if_neg (kn 6 (by decide) (by decide)), if_neg (kn 7 (by decide) (by decide)), if_neg (kn 8 (by decide) (by decide))]) rfl
  · have hkv : k = 0 ∨ k = 1 ∨ k = 2 ∨ k = 3 ∨ k = 4 ∨ k = 5 ∨ k = 6 ∨ k = 7 ∨ k = 8 := int_lt9 (by omega) (by omega)
    rcases hkv with rfl | rfl | rfl | rfl | rfl | rfl | rfl | rfl | rfl
    · refine lv_tableIn (off := 51) (tgt := 56) hx hb dX1_turnAt_5 (by decide) (by decide) rfl (by decide) ?_
      refine lv_aload_n hx hb dX1_turnAt_56 rfl (lv_at hl 0 rfl) ?_
      refine h_get hx hb hE hw hts hinX1 hown (ci := 1) rfl 0 (by decide) lk_9 (fun _ h9 => h9) e0 rfl dX1_turnAt_57 ?_
      refine lv_aload_n hx hb dX1_turnAt_60 rfl (lv_at hl 0 rfl) ?_
      refine h_get hx hb hE hw hts hinX1 hown (ci := 1) rfl 0 (by decide) lk_9 (fun _ h9 => h9) e0 rfl dX1_turnAt_61 ?_
      refine lv_lmul hx hb dX1_turnAt_64 ?_
      refine lv_aload_n hx hb dX1_turnAt_65 rfl (lv_at hl 0 rfl) ?_
      refine h_get hx hb hE hw hts hinX1 hown (ci := 1) rfl 1 (by decide) lk_15 (fun _ h9 => h9) e0 rfl dX1_turnAt_66 ?_
      refine lv_aload_n hx hb dX1_turnAt_69 rfl (lv_at hl 0 rfl) ?_
      refine h_get hx hb hE hw hts hinX1 hown (ci := 1) rfl 1 (by decide) lk_15 (fun _ h9 => h9) e0 rfl dX1_turnAt_70 ?_
      refine lv_lmul hx hb dX1_turnAt_73 ?_
      refine lv_ladd hx hb dX1_turnAt_74 ?_
      refine lv_aload_n hx hb dX1_turnAt_75 rfl (lv_at hl 0 rfl) ?_
      refine h_get hx hb hE hw hts hinX1 hown (ci := 1) rfl 2 (by decide) lk_18 (fun _ h9 => h9) e0 rfl dX1_turnAt_76 ?_
      refine lv_aload_n hx hb dX1_turnAt_79 rfl (lv_at hl 0 rfl) ?_
      refine h_get hx hb hE hw hts hinX1 hown (ci := 1) rfl 2 (by decide) lk_18 (fun _ h9 => h9) e0 rfl dX1_turnAt_80 ?_
      refine lv_lmul hx hb dX1_turnAt_83 ?_
      refine lv_lsub hx hb dX1_turnAt_84 ?_
      refine lv_aload_n hx hb dX1_turnAt_85 rfl (lv_at hl 0 rfl) ?_
      refine h_get hx hb hE hw hts hinX1 hown (ci := 1) rfl 3 (by decide) lk_21 (fun _ h9 => h9) e0 rfl dX1_turnAt_86 ?_
      refine lv_aload_n hx hb dX1_turnAt_89 rfl (lv_at hl 0 rfl) ?_
      refine h_get hx hb hE hw hts hinX1 hown (ci := 1) rfl 3 (by decide) lk_21 (fun _ h9 => h9) e0 rfl dX1_turnAt_90 ?_
      refine lv_lmul hx hb dX1_turnAt_93 ?_
      refine lv_lsub hx hb dX1_turnAt_94 ?_
      refine lv_ldc2 hx hb (v := (4)) hown cl_54 dX1_turnAt_95 ?_
      refine lv_ldiv hx hb dX1_turnAt_98 (by decide) ?_
      exact h_lret hx hb hlk hr hw dX1_turnAt_99 rfl rfl
    · refine lv_tableIn (off := 95) (tgt := 100) hx hb dX1_turnAt_5 (by decide) (by decide) rfl (by decide) ?_
      refine lv_aload_n hx hb dX1_turnAt_100 rfl (lv_at hl 0 rfl) ?_
      refine h_get hx hb hE hw hts hinX1 hown (ci := 1) rfl 1 (by decide) lk_15 (fun _ h9 => h9) e0 rfl dX1_turnAt_101 ?_
      refine lv_aload_n hx hb dX1_turnAt_104 rfl (lv_at hl 0 rfl) ?_
      refine h_get hx hb hE hw hts hinX1 hown (ci := 1) rfl 2 (by decide) lk_18 (fun _ h9 => h9) e0 rfl dX1_turnAt_105 ?_
      refine lv_lmul hx hb dX1_turnAt_108 ?_
      refine lv_aload_n hx hb dX1_turnAt_109 rfl (lv_at hl 0 rfl) ?_
      refine h_get hx hb hE hw hts hinX1 hown (ci := 1) rfl 0 (by decide) lk_9 (fun _ h9 => h9) e0 rfl dX1_turnAt_110 ?_
      refine lv_aload_n hx hb dX1_turnAt_113 rfl (lv_at hl 0 rfl) ?_
      refine h_get hx hb hE hw hts hinX1 hown (ci := 1) rfl 3 (by decide) lk_21 (fun _ h9 => h9) e0 rfl dX1_turnAt_114 ?_
      refine lv_lmul hx hb dX1_turnAt_117 ?_
      refine lv_lsub hx hb dX1_turnAt_118 ?_
      refine lv_ldc2 hx hb (v := (2)) hown cl_28 dX1_turnAt_119 ?_
      refine lv_ldiv hx hb dX1_turnAt_122 (by decide) ?_
      exact h_lret hx hb hlk hr hw dX1_turnAt_123 rfl rfl
    · refine lv_tableIn (off := 119) (tgt := 124) hx hb dX1_turnAt_5 (by decide) (by decide) rfl (by decide) ?_
      refine lv_aload_n hx hb dX1_turnAt_124 rfl (lv_at hl 0 rfl) ?_
      refine h_get hx hb hE hw hts hinX1 hown (ci := 1) rfl 1 (by decide) lk_15 (fun _ h9 => h9) e0 rfl dX1_turnAt_125 ?_
      refine lv_aload_n hx hb dX1_turnAt_128 rfl (lv_at hl 0 rfl) ?_
      refine h_get hx hb hE hw hts hinX1 hown (ci := 1) rfl 3 (by decide) lk_21 (fun _ h9 => h9) e0 rfl dX1_turnAt_129 ?_
      refine lv_lmul hx hb dX1_turnAt_132 ?_
      refine lv_aload_n hx hb dX1_turnAt_133 rfl (lv_at hl 0 rfl) ?_
      refine h_get hx hb hE hw hts hinX1 hown (ci := 1) rfl 0 (by decide) lk_9 (fun _ h9 => h9) e0 rfl dX1_turnAt_134 ?_
      refine lv_aload_n hx hb dX1_turnAt_137 rfl (lv_at hl 0 rfl) ?_
      refine h_get hx hb hE hw hts hinX1 hown (ci := 1) rfl 2 (by decide) lk_18 (fun _ h9 => h9) e0 rfl dX1_turnAt_138 ?_
      refine lv_lmul hx hb dX1_turnAt_141 ?_
      refine lv_ladd hx hb dX1_turnAt_142 ?_
      refine lv_ldc2 hx hb (v := (2)) hown cl_28 dX1_turnAt_143 ?_
      refine lv_ldiv hx hb dX1_turnAt_146 (by decide) ?_
      exact h_lret hx hb hlk hr hw dX1_turnAt_147 rfl rfl
    · refine lv_tableIn (off := 143) (tgt := 148) hx hb dX1_turnAt_5 (by decide) (by decide) rfl (by decide) ?_
      refine lv_aload_n hx hb dX1_turnAt_148 rfl (lv_at hl 0 rfl) ?_
      refine h_get hx hb hE hw hts hinX1 hown (ci := 1) rfl 1 (by decide) lk_15 (fun _ h9 => h9) e0 rfl dX1_turnAt_149 ?_
      refine lv_aload_n hx hb dX1_turnAt_152 rfl (lv_at hl 0 rfl) ?_
      refine h_get hx hb hE hw hts hinX1 hown (ci := 1) rfl 2 (by decide) lk_18 (fun _ h9 => h9) e0 rfl dX1_turnAt_153 ?_
      refine lv_lmul hx hb dX1_turnAt_156 ?_
      refine lv_aload_n hx hb dX1_turnAt_157 rfl (lv_at hl 0 rfl) ?_
      refine h_get hx hb hE hw hts hinX1 hown (ci := 1) rfl 0 (by decide) lk_9 (fun _ h9 => h9) e0 rfl dX1_turnAt_158 ?_
      refine lv_aload_n hx hb dX1_turnAt_161 rfl (lv_at hl 0 rfl) ?_
      refine h_get hx hb hE hw hts hinX1 hown (ci := 1) rfl 3 (by decide) lk_21 (fun _ h9 => h9) e0 rfl dX1_turnAt_162 ?_
      refine lv_lmul hx hb dX1_turnAt_165 ?_
      refine lv_ladd hx hb dX1_turnAt_166 ?_
      refine lv_ldc2 hx hb (v := (2)) hown cl_28 dX1_turnAt_167 ?_
      refine lv_ldiv hx hb dX1_turnAt_170 (by decide) ?_
      exact h_lret hx hb hlk hr hw dX1_turnAt_171 rfl rfl
    · refine lv_tableIn (off := 167) (tgt := 172) hx hb dX1_turnAt_5 (by decide) (by decide) rfl (by decide) ?_
      refine lv_aload_n hx hb dX1_turnAt_172 rfl (lv_at hl 0 rfl) ?_
      refine h_get hx hb hE hw hts hinX1 hown (ci := 1) rfl 0 (by decide) lk_9 (fun _ h9 => h9) e0 rfl dX1_turnAt_173 ?_
      refine lv_aload_n hx hb dX1_turnAt_176 rfl (lv_at hl 0 rfl) ?_
      refine h_get hx hb hE hw hts hinX1 hown (ci := 1) rfl 0 (by decide) lk_9 (fun _ h9 => h9) e0 rfl dX1_turnAt_177 ?_
      refine lv_lmul hx hb dX1_turnAt_180 ?_
      refine lv_aload_n hx hb dX1_turnAt_181 rfl (lv_at hl 0 rfl) ?_
      refine h_get hx hb hE hw hts hinX1 hown (ci := 1) rfl 1 (by decide) lk_15 (fun _ h9 => h9) e0 rfl dX1_turnAt_182 ?_
      refine lv_aload_n hx hb dX1_turnAt_185 rfl (lv_at hl 0 rfl) ?_
      refine h_get hx hb hE hw hts hinX1 hown (ci := 1) rfl 1 (by decide) lk_15 (fun _ h9 => h9) e0 rfl dX1_turnAt_186 ?_
      refine lv_lmul hx hb dX1_turnAt_189 ?_
      refine lv_lsub hx hb dX1_turnAt_190 ?_
      refine lv_aload_n hx hb dX1_turnAt_191 rfl (lv_at hl 0 rfl) ?_
      refine h_get hx hb hE hw hts hinX1 hown (ci := 1) rfl 2 (by decide) lk_18 (fun _ h9 => h9) e0 rfl dX1_turnAt_192 ?_
      refine lv_aload_n hx hb dX1_turnAt_195 rfl (lv_at hl 0 rfl) ?_
      refine h_get hx hb hE hw hts hinX1 hown (ci := 1) rfl 2 (by decide) lk_18 (fun _ h9 => h9) e0 rfl dX1_turnAt_196 ?_
      refine lv_lmul hx hb dX1_turnAt_199 ?_
      refine lv_ladd hx hb dX1_turnAt_200 ?_
      refine lv_aload_n hx hb dX1_turnAt_201 rfl (lv_at hl 0 rfl) ?_
      refine h_get hx hb hE hw hts hinX1 hown (ci := 1) rfl 3 (by decide) lk_21 (fun _ h9 => h9) e0 rfl dX1_turnAt_202 ?_
      refine lv_aload_n hx hb dX1_turnAt_205 rfl (lv_at hl 0 rfl) ?_
      refine h_get hx hb hE hw hts hinX1 hown (ci := 1) rfl 3 (by decide) lk_21 (fun _ h9 => h9) e0 rfl dX1_turnAt_206 ?_
      refine lv_lmul hx hb dX1_turnAt_209 ?_
      refine lv_lsub hx hb dX1_turnAt_210 ?_
      refine lv_ldc2 hx hb (v := (4)) hown cl_54 dX1_turnAt_211 ?_
      refine lv_ldiv hx hb dX1_turnAt_214 (by decide) ?_
      exact h_lret hx hb hlk hr hw dX1_turnAt_215 rfl rfl
    · refine lv_tableIn (off := 211) (tgt := 216) hx hb dX1_turnAt_5 (by decide) (by decide) rfl (by decide) ?_
      refine lv_aload_n hx hb dX1_turnAt_216 rfl (lv_at hl 0 rfl) ?_
      refine h_get hx hb hE hw hts hinX1 hown (ci := 1) rfl 2 (by decide) lk_18 (fun _ h9 => h9) e0 rfl dX1_turnAt_217 ?_
      refine lv_aload_n hx hb dX1_turnAt_220 rfl (lv_at hl 0 rfl) ?_
      refine h_get hx hb hE hw hts hinX1 hown (ci := 1) rfl 3 (by decide) lk_21 (fun _ h9 => h9) e0 rfl dX1_turnAt_221 ?_
      refine lv_lmul hx hb dX1_turnAt_224 ?_
      refine lv_aload_n hx hb dX1_turnAt_225 rfl (lv_at hl 0 rfl) ?_
      refine h_get hx hb hE hw hts hinX1 hown (ci := 1) rfl 0 (by decide) lk_9 (fun _ h9 => h9) e0 rfl dX1_turnAt_226 ?_
      refine lv_aload_n hx hb dX1_turnAt_229 rfl (lv_at hl 0 rfl) ?_
      refine h_get hx hb hE hw hts hinX1 hown (ci := 1) rfl 1 (by decide) lk_15 (fun _ h9 => h9) e0 rfl dX1_turnAt_230 ?_
      refine lv_lmul hx hb dX1_turnAt_233 ?_
      refine lv_lsub hx hb dX1_turnAt_234 ?_
      refine lv_ldc2 hx hb (v := (2)) hown cl_28 dX1_turnAt_235 ?_
      refine lv_ldiv hx hb dX1_turnAt_238 (by decide) ?_
      exact h_lret hx hb hlk hr hw dX1_turnAt_239 rfl rfl
    · refine lv_tableIn (off := 235) (tgt := 240) hx hb dX1_turnAt_5 (by decide) (by decide) rfl (by decide) ?_
      refine lv_aload_n hx hb dX1_turnAt_240 rfl (lv_at hl 0 rfl) ?_
      refine h_get hx hb hE hw hts hinX1 hown (ci := 1) rfl 1 (by decide) lk_15 (fun _ h9 => h9) e0 rfl dX1_turnAt_241 ?_
      refine lv_aload_n hx hb dX1_turnAt_244 rfl (lv_at hl 0 rfl) ?_
      refine h_get hx hb hE hw hts hinX1 hown (ci := 1) rfl 3 (by decide) lk_21 (fun _ h9 => h9) e0 rfl dX1_turnAt_245 ?_
      refine lv_lmul hx hb dX1_turnAt_248 ?_
      refine lv_aload_n hx hb dX1_turnAt_249 rfl (lv_at hl 0 rfl) ?_
      refine h_get hx hb hE hw hts hinX1 hown (ci := 1) rfl 0 (by decide) lk_9 (fun _ h9 => h9) e0 rfl dX1_turnAt_250 ?_
      refine lv_aload_n hx hb dX1_turnAt_253 rfl (lv_at hl 0 rfl) ?_
      refine h_get hx hb hE hw hts hinX1 hown (ci := 1) rfl 2 (by decide) lk_18 (fun _ h9 => h9) e0 rfl dX1_turnAt_254 ?_
      refine lv_lmul hx hb dX1_turnAt_257 ?_
      refine lv_lsub hx hb dX1_turnAt_258 ?_
      refine lv_ldc2 hx hb (v := (2)) hown cl_28 dX1_turnAt_259 ?_
      refine lv_ldiv hx hb dX1_turnAt_262 (by decide) ?_
      exact h_lret hx hb hlk hr hw dX1_turnAt_263 rfl rfl
    · refine lv_tableIn (off := 259) (tgt := 264) hx hb dX1_turnAt_5 (by decide) (by decide) rfl (by decide) ?_
      refine lv_aload_n hx hb dX1_turnAt_264 rfl (lv_at hl 0 rfl) ?_
      refine h_get hx hb hE hw hts hinX1 hown (ci := 1) rfl 2 (by decide) lk_18 (fun _ h9 => h9) e0 rfl dX1_turnAt_265 ?_
      refine lv_aload_n hx hb dX1_turnAt_268 rfl (lv_at hl 0 rfl) ?_
      refine h_get hx hb hE hw hts hinX1 hown (ci := 1) rfl 3 (by decide) lk_21 (fun _ h9 => h9) e0 rfl dX1_turnAt_269 ?_
      refine lv_lmul hx hb dX1_turnAt_272 ?_
      refine lv_aload_n hx hb dX1_turnAt_273 rfl (lv_at hl 0 rfl) ?_
      refine h_get hx hb hE hw hts hinX1 hown (ci := 1) rfl 0 (by decide) lk_9 (fun _ h9 => h9) e0 rfl dX1_turnAt_274 ?_
      refine lv_aload_n hx hb dX1_turnAt_277 rfl (lv_at hl 0 rfl) ?_
      refine h_get hx hb hE hw hts hinX1 hown (ci := 1) rfl 1 (by decide) lk_15 (fun _ h9 => h9) e0 rfl dX1_turnAt_278 ?_
      refine lv_lmul hx hb dX1_turnAt_281 ?_
      refine lv_ladd hx hb dX1_turnAt_282 ?_
      refine lv_ldc2 hx hb (v := (2)) hown cl_28 dX1_turnAt_283 ?_
      refine lv_ldiv hx hb dX1_turnAt_286 (by decide) ?_
      exact h_lret hx hb hlk hr hw dX1_turnAt_287 rfl rfl
    · refine lv_tableIn (off := 283) (tgt := 288) hx hb dX1_turnAt_5 (by decide) (by decide) rfl (by decide) ?_
      refine lv_aload_n hx hb dX1_turnAt_288 rfl (lv_at hl 0 rfl) ?_
      refine h_get hx hb hE hw hts hinX1 hown (ci := 1) rfl 0 (by decide) lk_9 (fun _ h9 => h9) e0 rfl dX1_turnAt_289 ?_
      refine lv_aload_n hx hb dX1_turnAt_292 rfl (lv_at hl 0 rfl) ?_
      refine h_get hx hb hE hw hts hinX1 hown (ci := 1) rfl 0 (by decide) lk_9 (fun _ h9 => h9) e0 rfl dX1_turnAt_293 ?_
      refine lv_lmul hx hb dX1_turnAt_296 ?_
      refine lv_aload_n hx hb dX1_turnAt_297 rfl (lv_at hl 0 rfl) ?_
      refine h_get hx hb hE hw hts hinX1 hown (ci := 1) rfl 1 (by decide) lk_15 (fun _ h9 => h9) e0 rfl dX1_turnAt_298 ?_
      refine lv_aload_n hx hb dX1_turnAt_301 rfl (lv_at hl 0 rfl) ?_
      refine h_get hx hb hE hw hts hinX1 hown (ci := 1) rfl 1 (by decide) lk_15 (fun _ h9 => h9) e0 rfl dX1_turnAt_302 ?_
      refine lv_lmul hx hb dX1_turnAt_305 ?_
      refine lv_lsub hx hb dX1_turnAt_306 ?_
      refine lv_aload_n hx hb dX1_turnAt_307 rfl (lv_at hl 0 rfl) ?_
      refine h_get hx hb hE hw hts hinX1 hown (ci := 1) rfl 2 (by decide) lk_18 (fun _ h9 => h9) e0 rfl dX1_turnAt_308 ?_
      refine lv_aload_n hx hb dX1_turnAt_311 rfl (lv_at hl 0 rfl) ?_
      refine h_get hx hb hE hw hts hinX1 hown (ci := 1) rfl 2 (by decide) lk_18 (fun _ h9 => h9) e0 rfl dX1_turnAt_312 ?_
      refine lv_lmul hx hb dX1_turnAt_315 ?_
      refine lv_lsub hx hb dX1_turnAt_316 ?_
      refine lv_aload_n hx hb dX1_turnAt_317 rfl (lv_at hl 0 rfl) ?_
      refine h_get hx hb hE hw hts hinX1 hown (ci := 1) rfl 3 (by decide) lk_21 (fun _ h9 => h9) e0 rfl dX1_turnAt_318 ?_
      refine lv_aload_n hx hb dX1_turnAt_321 rfl (lv_at hl 0 rfl) ?_
      refine h_get hx hb hE hw hts hinX1 hown (ci := 1) rfl 3 (by decide) lk_21 (fun _ h9 => h9) e0 rfl dX1_turnAt_322 ?_
      refine lv_lmul hx hb dX1_turnAt_325 ?_
      refine lv_ladd hx hb dX1_turnAt_326 ?_
      refine lv_ldc2 hx hb (v := (4)) hown cl_54 dX1_turnAt_327 ?_
      refine lv_ldiv hx hb dX1_turnAt_330 (by decide) ?_
      exact h_lret hx hb hlk hr hw dX1_turnAt_331 rfl rfl

set_option maxHeartbeats 4000000 in
set_option maxRecDepth 100000 in
theorem c_X1_becomeUnit (l : Launch) (G : GG) (A : Nat → Prop) (L : List Nat) (F : FM) (h0 : Nat) (x : Q4) (e0 : pt L F h0 (eq4 x)) (u : Nat) (hu : u < 24) : HT l yX1_becomeUnit wsX1_becomeUnit { frames := 1, cells := 0, slots := 0, locals := 28 } G A L [.ref h0, .int (nI u)] F none (va_up F h0 (eq4 (uq4 u))) := by
  refine HT.ofW (cc := cX1_becomeUnit) (maxL := 2) (ret := none) (plainFor_of_name (by decide)) rfl (Nat.le_of_ble_eq_true rfl) ?_
  intro p e s m below meth c ls hx hb hr hml hown hts hlk hE hw hl
  have hl : lv_has ls 2 [(0, .ref h0), (1, .int (nI u))] := hl
  have hown : s.vm.findClass RX1 = some m.cls := hown
  obtain ⟨tU, hZU, hTU⟩ := hE.2.1
  have hnw : (Cond.fieldLinkNest RX1 34 "FourParts" "UNIT_PARTS" "[I" "FourParts").before [.ref h0, .int (nI u)].toArray s = true := va_Nw.use rfl hE.2.2.2
  have hi : ∀ k : Nat, k < 4 → vp_in (nI (4 * u + k)) 96 := fun k hk => vp_in_nI (by omega) (by decide)
  have hc : ∀ k : Nat, k < 4 → (nI (4 * u + k)).toNatClampNeg = 4 * u + k := fun k hk => nI_clamp (by omega)
  have hm : ∀ k : Nat, (4 : Int32) * nI u + nI k = nI (4 * u + k) := fun k => by rw [show (4 : Int32) = nI 4 from rfl, pk_mul, nI_add]
  refine lv_iload_n hx hb dX1_becomeUnit_0 rfl (lv_at hl 1 rfl) ?_
  refine lv_if_lt (tgt := 10) hx hb dX1_becomeUnit_1 (by decide) (fun c_1 => ?_) (fun c_1 => ?_)
  · skip
    exact absurd c_1 (nI_pos (by omega))
  · skip
    refine lv_iload_n hx hb dX1_becomeUnit_4 rfl (lv_at hl 1 rfl) ?_
    refine lv_bipush (v := 24) hx hb dX1_becomeUnit_5 (by decide) ?_
    refine lv_icmp_lt (tgt := 11) hx hb dX1_becomeUnit_7 (by decide) (fun c_7 => ?_) (fun c_7 => ?_)
    · skip
      refine lv_aload_n hx hb dX1_becomeUnit_11 rfl (lv_at hl 0 rfl) ?_
      refine va_getsN hx hb hZU hw.2 hown hnw (fun _ h9 => h9) dX1_becomeUnit_12 ?_
      refine lv_iconst (v := 4) hx hb dX1_becomeUnit_15 (by decide) ?_
      refine lv_iload_n hx hb dX1_becomeUnit_16 rfl (lv_at hl 1 rfl) ?_
      refine lv_imul hx hb dX1_becomeUnit_17 ?_
      refine W.eq (g2 := F0 m 18 ls [.int (nI (4 * u + 0)), .ref tU, .ref h0]) (by rw [← hm 0, show nI 0 = 0 from rfl, Int32.add_zero]) ?_
      refine va_ti hx hb hTU hw.2 (hi 0 (by decide)) (v := .int (uPt.getD (4 * u) 0)) (by rw [hc 0 (by decide)]; rfl) dX1_becomeUnit_18 ?_
      refine lv_i2l hx hb dX1_becomeUnit_19 rfl ?_
      refine va_getsN hx hb hZU hw.2 hown hnw (fun _ h9 => h9) dX1_becomeUnit_20 ?_
      refine lv_iconst (v := 4) hx hb dX1_becomeUnit_23 (by decide) ?_
      refine lv_iload_n hx hb dX1_becomeUnit_24 rfl (lv_at hl 1 rfl) ?_
      refine lv_imul hx hb dX1_becomeUnit_25 ?_
      refine lv_iconst (v := 1) hx hb dX1_becomeUnit_26 (by decide) ?_
      refine lv_iadd hx hb dX1_becomeUnit_27 ?_
      refine W.eq (g2 := F0 m 28 ls [.int (nI (4 * u + 1)), .ref tU, .long ((uPt.getD (4 * u) 0).toInt64), .ref h0]) (by rw [← hm 1]; rfl) ?_
      refine va_ti hx hb hTU hw.2 (hi 1 (by decide)) (v := .int (uPt.getD (4 * u + 1) 0)) (by rw [hc 1 (by decide)]; rfl) dX1_becomeUnit_28 ?_
      refine lv_i2l hx hb dX1_becomeUnit_29 rfl ?_
      refine va_getsN hx hb hZU hw.2 hown hnw (fun _ h9 => h9) dX1_becomeUnit_30 ?_
      refine lv_iconst (v := 4) hx hb dX1_becomeUnit_33 (by decide) ?_
      refine lv_iload_n hx hb dX1_becomeUnit_34 rfl (lv_at hl 1 rfl) ?_
      refine lv_imul hx hb dX1_becomeUnit_35 ?_
      refine lv_iconst (v := 2) hx hb dX1_becomeUnit_36 (by decide) ?_
      refine lv_iadd hx hb dX1_becomeUnit_37 ?_
      refine W.eq (g2 := F0 m 38 ls [.int (nI (4 * u + 2)), .ref tU, .long ((uPt.getD (4 * u + 1) 0).toInt64), .long ((uPt.getD (4 * u) 0).toInt64), .ref h0]) (by rw [← hm 2]; rfl) ?_
      refine va_ti hx hb hTU hw.2 (hi 2 (by decide)) (v := .int (uPt.getD (4 * u + 2) 0)) (by rw [hc 2 (by decide)]; rfl) dX1_becomeUnit_38 ?_
      refine lv_i2l hx hb dX1_becomeUnit_39 rfl ?_
      refine va_getsN hx hb hZU hw.2 hown hnw (fun _ h9 => h9) dX1_becomeUnit_40 ?_
      refine lv_iconst (v := 4) hx hb dX1_becomeUnit_43 (by decide) ?_
      refine lv_iload_n hx hb dX1_becomeUnit_44 rfl (lv_at hl 1 rfl) ?_
      refine lv_imul hx hb dX1_becomeUnit_45 ?_
      refine lv_iconst (v := 3) hx hb dX1_becomeUnit_46 (by decide) ?_
      refine lv_iadd hx hb dX1_becomeUnit_47 ?_
      refine W.eq (g2 := F0 m 48 ls [.int (nI (4 * u + 3)), .ref tU, .long ((uPt.getD (4 * u + 2) 0).toInt64), .long ((uPt.getD (4 * u + 1) 0).toInt64), .long ((uPt.getD (4 * u) 0).toInt64), .ref h0]) (by rw [← hm 3]; rfl) ?_
      refine va_ti hx hb hTU hw.2 (hi 3 (by decide)) (v := .int (uPt.getD (4 * u + 3) 0)) (by rw [hc 3 (by decide)]; rfl) dX1_becomeUnit_48 ?_
      refine lv_i2l hx hb dX1_becomeUnit_49 rfl ?_
      refine h_callV (st1 := []) [.long ((uPt.getD (4 * u) 0).toInt64), .long ((uPt.getD (4 * u + 1) 0).toInt64), .long ((uPt.getD (4 * u + 2) 0).toInt64), .long ((uPt.getD (4 * u + 3) 0).toInt64)] [] ⟨hx, hb, hml, hown, hts⟩ hE hw (c_X1_become l G A L F h0 x e0 ((uPt.getD (4 * u) 0).toInt64) ((uPt.getD (4 * u + 1) 0).toInt64) ((uPt.getD (4 * u + 2) 0).toInt64) ((uPt.getD (4 * u + 3) 0).toInt64)) (cwV 4 hts gX1_becomeUnit_X1_become rfl rfl rfl (by decide +kernel) ⟨Nat.le_of_ble_eq_true rfl, Nat.le_of_ble_eq_true rfl⟩) e0 rfl rfl rfl hl.1 rfl (Nat.le_of_ble_eq_true rfl) dX1_becomeUnit_50 ⟨Nat.le_of_ble_eq_true rfl, Nat.le_of_ble_eq_true rfl⟩ rfl (fun H locs hw => ?_)
      exact h_vret hx hb hlk hr hw dX1_becomeUnit_53 rfl rfl
    · skip
      exact absurd (show nI u < 24 from nI_lt (b := 24) hu (by decide)) c_7
