/-! A way: what is left ahead of the k-th step, and the k-th factor -/
noncomputable def wl (x : Q4) (pr : Nat → Int64) : Nat → Q4
  | 0 => x
  | k + 1 => quo 1 (wl x pr k) (divi 1 (2 * pr k, 0, 0, 0) (wl x pr k))
noncomputable def wf (x : Q4) (pr : Nat → Int64) (k : Nat) : Q4 := divi 1 (2 * pr k, 0, 0, 0) (wl x pr k)
theorem wl_s (x : Q4) (pr : Nat → Int64) (k : Nat) : wl x pr (k + 1) = quo 1 (wl x pr k) (wf x pr k) := rfl
theorem mm12 {z : Nat} (hz : z ≤ 12) : (if (0 : Int32) < (if (12 : Int32) < nI z then 12 else nI z) then (if (12 : Int32) < nI z then 12 else nI z) else 0) = nI z := by
  have h1 : ¬ (12 : Int32) < nI z := nI_nlt (a := 12) (b := z) hz (by decide)
  rw [if_neg h1]
  by_cases h2 : (0 : Int32) < nI z
  · rw [if_pos h2]
  · rw [if_neg h2]
    have h3 : z = 0 := by
      rcases Nat.eq_zero_or_pos z with q | q
      · exact q
      · exact absurd (nI_lt (a := 0) q (by omega)) h2
    rw [h3]; rfl
set_option maxHeartbeats 4000000 in
set_option maxRecDepth 100000 in
theorem c_X4_at_in (l : Launch) (G : GG) (A : Nat → Prop) (ad : Nat → Nat) (F : FM) (q : Nat → Q4) (kd sz : Nat → Int32) (pl : Nat → Nat → Int64) (cnt : Int32) (hC : CW G ad (q, kd, sz, pl, cnt) F) (n : Nat) (hn : n ≤ 12) (hc : cnt = nI n) (j : Nat) (hj : j < n) : HT l yX4_at wsX4_at { frames := 0, cells := 0, slots := 0, locals := 0 } G A (CL ad) [.ref (ad 56), .int (nI j)] F (some (.ref (ad (16 + j)))) F := by
  refine HT.ofW (cc := cX4_at) (maxL := 2) (ret := (some (.object "FourParts$Quad"))) (plainFor_of_name (by decide)) rfl (Nat.le_of_ble_eq_true rfl) ?_
  intro p e s m below meth c ls hx hb hr hml hown hts hlk hE hw hl
  have hl : lv_has ls 2 [(0, .ref (ad 56)), (1, .int (nI j))] := hl
  have hown : s.vm.findClass RX4 = some m.cls := hown
  have lk_25 := hts (.fieldLink RX4 25 "FourParts$Way" "count" "I") (by decide +kernel)
  have hinX4 : ∀ w ∈ u_ws RX4 TX4 4, w ∈ wsX4_at := by decide +kernel
  have lk_11 := hts (.fieldLink RX4 11 "FourParts$Way" "factors" "[LFourParts$Quad;") (by decide +kernel)
  refine lv_iload_n hx hb dX4_at_0 rfl (lv_at hl 1 rfl) ?_
  refine lv_if_lt (tgt := 30) hx hb dX4_at_1 (by decide) (fun c_1 => ?_) (fun c_1 => ?_)
  · skip
    exact absurd c_1 (nI_pos (by omega))
  · skip
    refine lv_iload_n hx hb dX4_at_4 rfl (lv_at hl 1 rfl) ?_
    refine lv_aload_n hx hb dX4_at_5 rfl (lv_at hl 0 rfl) ?_
    refine h_get hx hb hE hw hts hinX4 hown (ci := 4) rfl 3 (by decide) lk_25 (fun _ h9 => h9) (hC.wy2 hc) rfl dX4_at_6 ?_
    refine lv_icmp_ge (tgt := 30) hx hb dX4_at_9 (by decide) (fun c_9 => ?_) (fun c_9 => ?_)
    · skip
      exact absurd c_9 (nI_ge hj (by omega))
    · skip
      refine lv_iload_n hx hb dX4_at_12 rfl (lv_at hl 1 rfl) ?_
      refine lv_aload_n hx hb dX4_at_13 rfl (lv_at hl 0 rfl) ?_
      refine h_get hx hb hE hw hts hinX4 hown (ci := 4) rfl 0 (by decide) lk_11 (fun _ h9 => h9) (hC.wy2 hc) rfl dX4_at_14 ?_
      refine h_ilen hx hb hE hw 2 rfl hC.fc (v := 12) rfl dX4_at_17 ?_
      refine lv_icmp_ge (tgt := 30) hx hb dX4_at_18 (by decide) (fun c_18 => ?_) (fun c_18 => ?_)
      · skip
        exact absurd c_18 (nI_ge (a := j) (b := 12) (by omega) (by decide))
      · skip
        refine lv_aload_n hx hb dX4_at_21 rfl (lv_at hl 0 rfl) ?_
        refine h_get hx hb hE hw hts hinX4 hown (ci := 4) rfl 0 (by decide) lk_11 (fun _ h9 => h9) (hC.wy2 hc) rfl dX4_at_22 ?_
        refine lv_iload_n hx hb dX4_at_25 rfl (lv_at hl 1 rfl) ?_
        refine h_qald hx hb hE hw hC.fc (vp_in_nI (show j < 12 by omega) (by decide)) (v := ad (16 + j)) (by rw [nI_clamp (by omega)]) dX4_at_26 ?_
        refine lv_goto (tgt := 31) hx hb dX4_at_27 (by decide) ?_
        exact h_aret hx hb hlk hr hw dX4_at_31 (Or.inr ⟨_, rfl⟩) rfl rfl

set_option maxHeartbeats 4000000 in
set_option maxRecDepth 100000 in
theorem c_X4_at_out (l : Launch) (G : GG) (A : Nat → Prop) (ad : Nat → Nat) (F : FM) (q : Nat → Q4) (kd sz : Nat → Int32) (pl : Nat → Nat → Int64) (cnt : Int32) (hC : CW G ad (q, kd, sz, pl, cnt) F) (n : Nat) (hn : n ≤ 12) (hc : cnt = nI n) (i : Int32) (hi : i < 0 ∨ nI n ≤ i) : HT l yX4_at wsX4_at { frames := 0, cells := 0, slots := 0, locals := 0 } G A (CL ad) [.ref (ad 56), .int i] F (some .null) F := by
  refine HT.ofW (cc := cX4_at) (maxL := 2) (ret := (some (.object "FourParts$Quad"))) (plainFor_of_name (by decide)) rfl (Nat.le_of_ble_eq_true rfl) ?_
  intro p e s m below meth c ls hx hb hr hml hown hts hlk hE hw hl
  have hl : lv_has ls 2 [(0, .ref (ad 56)), (1, .int i)] := hl
  have hown : s.vm.findClass RX4 = some m.cls := hown
  have lk_25 := hts (.fieldLink RX4 25 "FourParts$Way" "count" "I") (by decide +kernel)
  have hinX4 : ∀ w ∈ u_ws RX4 TX4 4, w ∈ wsX4_at := by decide +kernel
  refine lv_iload_n hx hb dX4_at_0 rfl (lv_at hl 1 rfl) ?_
  refine lv_if_lt (tgt := 30) hx hb dX4_at_1 (by decide) (fun c_1 => ?_) (fun c_1 => ?_)
  · skip
    refine lv_null hx hb dX4_at_30 ?_
    exact h_aret hx hb hlk hr hw dX4_at_31 (Or.inl rfl) rfl rfl
  · skip
    refine lv_iload_n hx hb dX4_at_4 rfl (lv_at hl 1 rfl) ?_
    refine lv_aload_n hx hb dX4_at_5 rfl (lv_at hl 0 rfl) ?_
    refine h_get hx hb hE hw hts hinX4 hown (ci := 4) rfl 3 (by decide) lk_25 (fun _ h9 => h9) (hC.wy2 hc) rfl dX4_at_6 ?_
    refine lv_icmp_ge (tgt := 30) hx hb dX4_at_9 (by decide) (fun c_9 => ?_) (fun c_9 => ?_)
    · skip
      refine lv_null hx hb dX4_at_30 ?_
      exact h_aret hx hb hlk hr hw dX4_at_31 (Or.inl rfl) rfl rfl
    · skip
      exact absurd hi (fun z => z.elim (fun w => c_1 w) (fun w => c_9 w))

set_option maxHeartbeats 4000000 in
set_option maxRecDepth 100000 in
theorem c_X4_follow (l : Launch) (G : GG) (A : Nat → Prop) (ad : Nat → Nat) (F : FM) (q : Nat → Q4) (kd sz : Nat → Int32) (pl : Nat → Nat → Int64) (cnt : Int32) (hC : CW G ad (q, kd, sz, pl, cnt) F) (i r z o n : Nat) (hi : i < 16) (hr6 : r < 6) (hsz : sz r = nI z) (hz : z ≤ 16) (hn1 : 1 ≤ n) (hn12 : n ≤ 12) (ho : o + n ≤ z) (hnz : ∀ k, k + 1 < n → ¬ qnorm (wf (q i) (fun k => pl r (o + k)) k) = 0) : PT l yX4_follow wsX4_follow { frames := 5, cells := 0, slots := 0, locals := 122 } G A (CL ad) [.ref (ad 56), .ref (ad i), .ref (ad (39 + r)), .int (nI o), .int (nI n), .ref (ad 54)] F none (fun F2 => ∃ q2 : Nat → Q4, CW G ad (q2, kd, sz, pl, nI n) F2 ∧ (∀ k, k + 1 < n → q2 (16 + k) = wf (q i) (fun k => pl r (o + k)) k) ∧ q2 (16 + (n - 1)) = wl (q i) (fun k => pl r (o + k)) (n - 1) ∧ (∀ k, n ≤ k → k < 12 → q2 (16 + k) = q (16 + k)) ∧ ∀ k, k < 16 → q2 k = q k) := by
  refine PT.ofW (cc := cX4_follow) (maxL := 7) (ret := none) (plainFor_of_name (by decide)) rfl (Nat.le_of_ble_eq_true rfl) ?_
  intro p e s m below meth c ls hx hb hr hml hown hts hlk hE hw hl
  have hl : lv_has ls 7 [(0, .ref (ad 56)), (1, .ref (ad i)), (2, .ref (ad (39 + r))), (3, .int (nI o)), (4, .int (nI n)), (5, .ref (ad 54))] := hl
  have hown : s.vm.findClass RX4 = some m.cls := hown
  have lk_25 := hts (.fieldLink RX4 25 "FourParts$Way" "count" "I") (by decide +kernel)
  have hinX4 : ∀ w ∈ u_ws RX4 TX4 4, w ∈ wsX4_follow := by decide +kernel
  have lk_11 := hts (.fieldLink RX4 11 "FourParts$Way" "factors" "[LFourParts$Quad;") (by decide +kernel)
  have lk_22 := hts (.fieldLink RX4 22 "FourParts$Way" "left" "LFourParts$Quad;") (by decide +kernel)
  have lk_18 := hts (.fieldLink RX4 18 "FourParts$Way" "prime" "LFourParts$Quad;") (by decide +kernel)
  have cl_42 := hts (.constantLong RX4 42 (2)) (by decide +kernel)
  have lk_60 := hts (.fieldLink RX4 60 "FourParts$Reckoner" "common" "LFourParts$Quad;") (by decide +kernel)
  have hinX2 : ∀ w ∈ u_ws RX2 TX2 8, w ∈ wsX4_follow := by decide +kernel
  have lk_67 := hts (.fieldLink RX4 67 "FourParts$Reckoner" "quotient" "LFourParts$Quad;") (by decide +kernel)
  have loop : ∀ (d k : Nat) (F : FM) (q2 : Nat → Q4) (H : Heap) (locs : List Loc) (ls : Array Slot), d + k + 1 = n → CW G ad (q2, kd, sz, pl, nI n) F → q2 38 = wl (q i) (fun k => pl r (o + k)) k → (∀ j, j < k → q2 (16 + j) = wf (q i) (fun k => pl r (o + k)) j) → (∀ j, k ≤ j → j < 12 → q2 (16 + j) = q (16 + j)) → (∀ j, j < 16 → q2 j = q j) → wo G A s.heap (CL ad) F H locs → lv_has ls 7 [(0, .ref (ad 56)), (2, .ref (ad (39 + r))), (3, .int (nI o)), (5, .ref (ad 54)), (6, .int (nI k))] → W p l e { frames := 5, cells := 0, slots := 0, locals := 122 } s m ([.ref (ad 56), .ref (ad i), .ref (ad (39 + r)), .int (nI o), .int (nI n), .ref (ad 54)].toArray) below meth c H locs 0 0 (MQ below (QP G A (CL ad) none (fun F2 => ∃ q2 : Nat → Q4, CW G ad (q2, kd, sz, pl, nI n) F2 ∧ (∀ k, k + 1 < n → q2 (16 + k) = wf (q i) (fun k => pl r (o + k)) k) ∧ q2 (16 + (n - 1)) = wl (q i) (fun k => pl r (o + k)) (n - 1) ∧ (∀ k, n ≤ k → k < 12 → q2 (16 + k) = q (16 + k)) ∧ ∀ k, k < 16 → q2 k = q k)) ([.ref (ad 56), .ref (ad i), .ref (ad (39 + r)), .int (nI o), .int (nI n), .ref (ad 54)].toArray) s 0 0 A) (F0 m 29 ls []) := by
    intro d
    induction d with
    | zero =>
      intro k F q2 H locs ls hd hC2 h38 hf hg hq hw hl
      refine lv_iload hx hb dX4_follow_29 (lv_at hl 4 rfl) ?_
      refine lv_aload_n hx hb dX4_follow_31 rfl (lv_at hl 0 rfl) ?_
      refine h_get hx hb hE hw hts hinX4 hown (ci := 4) rfl 3 (by decide) lk_25 (fun _ h9 => h9) (hC2.wy2 rfl) rfl dX4_follow_32 ?_
      refine lv_iconst (v := 1) hx hb dX4_follow_35 (by decide) ?_
      refine lv_isub hx hb dX4_follow_36 ?_
      refine W.eq (g2 := F0 m 37 ls [.int (nI (n - 1)), .int (nI k)]) (by rw [show nI n = nI (n - 1 + 1) by rw [Nat.sub_add_cancel (by omega)], nI_pred]) ?_
      refine lv_icmp_ge (tgt := 127) hx hb dX4_follow_37 (by decide) (fun c_37 => ?_) (fun c_37 => ?_)
      · skip
        refine lv_aload_n hx hb dX4_follow_127 rfl (lv_at hl 0 rfl) ?_
        refine h_get hx hb hE hw hts hinX4 hown (ci := 4) rfl 3 (by decide) lk_25 (fun _ h9 => h9) (hC2.wy2 rfl) rfl dX4_follow_128 ?_
        refine lv_if_le (tgt := 152) hx hb dX4_follow_131 (by decide) (fun c_131 => ?_) (fun c_131 => ?_)
        · skip
          exact absurd c_131 (nI_nle (by omega) (by omega))
        · skip
          refine lv_aload_n hx hb dX4_follow_134 rfl (lv_at hl 0 rfl) ?_
          refine h_get hx hb hE hw hts hinX4 hown (ci := 4) rfl 0 (by decide) lk_11 (fun _ h9 => h9) (hC2.wy2 rfl) rfl dX4_follow_135 ?_
          refine lv_aload_n hx hb dX4_follow_138 rfl (lv_at hl 0 rfl) ?_
          refine h_get hx hb hE hw hts hinX4 hown (ci := 4) rfl 3 (by decide) lk_25 (fun _ h9 => h9) (hC2.wy2 rfl) rfl dX4_follow_139 ?_
          refine lv_iconst (v := 1) hx hb dX4_follow_142 (by decide) ?_
          refine lv_isub hx hb dX4_follow_143 ?_
          refine W.eq (g2 := F0 m 144 ls [.int (nI (n - 1)), .ref (ad 58)]) (by rw [show nI n = nI (n - 1 + 1) by rw [Nat.sub_add_cancel (by omega)], nI_pred]) ?_
          refine h_qald hx hb hE hw hC2.fc (vp_in_nI (show n - 1 < 12 by omega) (by decide)) (v := ad (16 + (n - 1))) (by rw [nI_clamp (by omega)]) dX4_follow_144 ?_
          refine lv_aload_n hx hb dX4_follow_145 rfl (lv_at hl 0 rfl) ?_
          refine h_get hx hb hE hw hts hinX4 hown (ci := 4) rfl 2 (by decide) lk_22 (fun _ h9 => h9) (hC2.wy2 rfl) rfl dX4_follow_146 ?_
          refine h_callV (st1 := []) [.ref (ad 38)] [] ⟨hx, hb, hml, hown, hts⟩ hE hw (c_X1_becomeLike l G A (CL ad) F (ad (16 + (n - 1))) (q2 (16 + (n - 1))) (hC2.q (i := 16 + (n - 1)) (by omega))  (ad 38) (q2 38) (hC2.q (i := 38) (by decide))) (cwV 1 hts gX4_follow_X1_becomeLike rfl rfl rfl (by decide +kernel) ⟨Nat.le_of_ble_eq_true rfl, Nat.le_of_ble_eq_true rfl⟩) (hC2.q (i := 16 + (n - 1)) (by omega)) rfl rfl rfl hl.1 rfl (Nat.le_of_ble_eq_true rfl) dX4_follow_149 ⟨Nat.le_of_ble_eq_true rfl, Nat.le_of_ble_eq_true rfl⟩ rfl (fun H locs hw => ?_)
          exact h_vretP hx hb hlk hr hw dX4_follow_152 rfl ⟨_, (CW.setq hC2 (i := (16 + (n - 1))) (by omega) (q2 38)), fun j hj => by rw [← hf j (by omega)]; exact upq_n _ _ (by omega), by rw [show n - 1 = k by omega, ← h38]; exact upq_s _ _ _, fun j h1 h2 => by rw [← hg j (by omega) h2]; exact upq_n _ _ (by omega), fun j hj => by rw [← hq j hj]; exact upq_n _ _ (by omega)⟩
      · skip
        exact absurd (nI_le (show n - 1 ≤ k by omega) (by omega)) c_37
    | succ d ih =>
      intro k F q2 H locs ls hd hC2 h38 hf hg hq hw hl
      refine lv_iload hx hb dX4_follow_29 (lv_at hl 4 rfl) ?_
      refine lv_aload_n hx hb dX4_follow_31 rfl (lv_at hl 0 rfl) ?_
      refine h_get hx hb hE hw hts hinX4 hown (ci := 4) rfl 3 (by decide) lk_25 (fun _ h9 => h9) (hC2.wy2 rfl) rfl dX4_follow_32 ?_
      refine lv_iconst (v := 1) hx hb dX4_follow_35 (by decide) ?_
      refine lv_isub hx hb dX4_follow_36 ?_
      refine W.eq (g2 := F0 m 37 ls [.int (nI (n - 1)), .int (nI k)]) (by rw [show nI n = nI (n - 1 + 1) by rw [Nat.sub_add_cancel (by omega)], nI_pred]) ?_
      refine lv_icmp_ge (tgt := 127) hx hb dX4_follow_37 (by decide) (fun c_37 => ?_) (fun c_37 => ?_)
      · skip
        exact absurd c_37 (nI_ge (show k < n - 1 by omega) (by omega))
      · skip
        refine lv_aload_n hx hb dX4_follow_40 rfl (lv_at hl 0 rfl) ?_
        refine h_get hx hb hE hw hts hinX4 hown (ci := 4) rfl 1 (by decide) lk_18 (fun _ h9 => h9) (hC2.wy2 rfl) rfl dX4_follow_41 ?_
        refine lv_ldc2 hx hb (v := (2)) hown cl_42 dX4_follow_44 ?_
        refine lv_aload_n hx hb dX4_follow_47 rfl (lv_at hl 1 rfl) ?_
        refine lv_iload_n hx hb dX4_follow_48 rfl (lv_at hl 2 rfl) ?_
        refine lv_iload hx hb dX4_follow_49 (lv_at hl 4 rfl) ?_
        refine lv_iadd hx hb dX4_follow_51 ?_
        refine W.eq (g2 := F0 m 52 ls [.int (nI (o + k)), .ref (ad (39 + r)), .long (2), .ref (ad 37)]) (by rw [nI_add]) ?_
        refine h_callV (st1 := [.long ((pl r) (o + k)), .long (2), .ref (ad 37)]) [.int (nI (o + k))] [.long (2), .ref (ad 37)] ⟨hx, hb, hml, hown, hts⟩ hE hw (c_X3_at l G A (CL ad) F (ad (39 + r)) (ad (45 + r)) z (kd r) (pl r) (hC2.sh2 hr6 hsz rfl) (hC2.pl hr6) hz (o + k) (by omega)) (cwV 1 hts gX4_follow_X3_at rfl rfl rfl (by decide +kernel) ⟨Nat.le_of_ble_eq_true rfl, Nat.le_of_ble_eq_true rfl⟩) (hC2.sh2 hr6 hsz rfl) rfl rfl rfl hl.1 rfl (Nat.le_of_ble_eq_true rfl) dX4_follow_52 ⟨Nat.le_of_ble_eq_true rfl, Nat.le_of_ble_eq_true rfl⟩ rfl (fun H locs hw => ?_)
        refine lv_lmul hx hb dX4_follow_55 ?_
        refine lv_lconst (v := 0) hx hb dX4_follow_56 (by decide) ?_
        refine lv_lconst (v := 0) hx hb dX4_follow_57 (by decide) ?_
        refine lv_lconst (v := 0) hx hb dX4_follow_58 (by decide) ?_
        refine h_callV (st1 := []) [.long ((2) * ((pl r) (o + k))), .long 0, .long 0, .long 0] [] ⟨hx, hb, hml, hown, hts⟩ hE hw (c_X1_become l G A (CL ad) F (ad 37) (q2 37) (hC2.q (i := 37) (by decide)) ((2) * ((pl r) (o + k))) 0 0 0) (cwV 4 hts gX4_follow_X1_become rfl rfl rfl (by decide +kernel) ⟨Nat.le_of_ble_eq_true rfl, Nat.le_of_ble_eq_true rfl⟩) (hC2.q (i := 37) (by decide)) rfl rfl rfl hl.1 rfl (Nat.le_of_ble_eq_true rfl) dX4_follow_59 ⟨Nat.le_of_ble_eq_true rfl, Nat.le_of_ble_eq_true rfl⟩ rfl (fun H locs hw => ?_)
        refine lv_aload hx hb dX4_follow_62 (lv_at hl 3 rfl) ?_
        refine lv_aload_n hx hb dX4_follow_64 rfl (lv_at hl 0 rfl) ?_
        refine h_get hx hb hE hw hts hinX4 hown (ci := 4) rfl 1 (by decide) lk_18 (fun _ h9 => h9) (pt_ne (hC2.wy2 rfl) (hC.ne (i := 56) (j := 37) (by decide) (by decide) (by decide))) rfl dX4_follow_65 ?_
        refine lv_aload_n hx hb dX4_follow_68 rfl (lv_at hl 0 rfl) ?_
        refine h_get hx hb hE hw hts hinX4 hown (ci := 4) rfl 2 (by decide) lk_22 (fun _ h9 => h9) (pt_ne (hC2.wy2 rfl) (hC.ne (i := 56) (j := 37) (by decide) (by decide) (by decide))) rfl dX4_follow_69 ?_
        refine lv_iconst (v := 1) hx hb dX4_follow_72 (by decide) ?_
        refine h_callVP (st1 := []) [.ref (ad 37), .ref (ad 38), .int 1] [] ⟨hx, hb, hml, hown, hts⟩ hE hw (c_X2_findCommon l G A ad (va_up F (ad 37) (eq4 ((2) * ((pl r) (o + k)), 0, 0, 0))) _ _ (CW.setq hC2 (i := 37) (by decide) ((2) * ((pl r) (o + k)), 0, 0, 0)) 37 38 (by decide) (by decide) (by decide) (by decide) 1) (cwV 3 hts gX4_follow_X2_findCommon rfl rfl rfl (by decide +kernel) ⟨Nat.le_of_ble_eq_true rfl, Nat.le_of_ble_eq_true rfl⟩) (pt_ne hC2.rk (hC.ne (i := 54) (j := 37) (by decide) (by decide) (by decide))) rfl rfl rfl hl.1 rfl (Nat.le_of_ble_eq_true rfl) dX4_follow_73 ⟨Nat.le_of_ble_eq_true rfl, Nat.le_of_ble_eq_true rfl⟩ rfl (fun F H locs hP hw => ?_)
        obtain ⟨q3, hC3, h331, hk3⟩ := hP
        have h3p : q3 38 = wl (q i) (fun k => pl r (o + k)) k := (hk3 38 (by decide)).trans h38
        have h3f : q3 31 = wf (q i) (fun k => pl r (o + k)) k := by rw [h331]; unfold wf; rw [← h38]; rfl
        refine lv_aload_n hx hb dX4_follow_76 rfl (lv_at hl 0 rfl) ?_
        refine h_get hx hb hE hw hts hinX4 hown (ci := 4) rfl 0 (by decide) lk_11 (fun _ h9 => h9) (hC3.wy2 rfl) rfl dX4_follow_77 ?_
        refine lv_iload hx hb dX4_follow_80 (lv_at hl 4 rfl) ?_
        refine h_qald hx hb hE hw hC3.fc (vp_in_nI (show k < 12 by omega) (by decide)) (v := ad (16 + k)) (by rw [nI_clamp (by omega)]) dX4_follow_82 ?_
        refine lv_aload hx hb dX4_follow_83 (lv_at hl 3 rfl) ?_
        refine h_get hx hb hE hw hts hinX2 hown (ci := 2) rfl 2 (by decide) lk_60 (fun _ h9 => h9) hC3.rk rfl dX4_follow_85 ?_
        refine h_callV (st1 := []) [.ref (ad 31)] [] ⟨hx, hb, hml, hown, hts⟩ hE hw (c_X1_becomeLike l G A (CL ad) F (ad (16 + k)) (q3 (16 + k)) (hC3.q (i := 16 + k) (by omega))  (ad 31) (q3 31) (hC3.q (i := 31) (by decide))) (cwV 1 hts gX4_follow_X1_becomeLike rfl rfl rfl (by decide +kernel) ⟨Nat.le_of_ble_eq_true rfl, Nat.le_of_ble_eq_true rfl⟩) (hC3.q (i := 16 + k) (by omega)) rfl rfl rfl hl.1 rfl (Nat.le_of_ble_eq_true rfl) dX4_follow_88 ⟨Nat.le_of_ble_eq_true rfl, Nat.le_of_ble_eq_true rfl⟩ rfl (fun H locs hw => ?_)
        refine lv_aload hx hb dX4_follow_91 (lv_at hl 3 rfl) ?_
        refine lv_aload_n hx hb dX4_follow_93 rfl (lv_at hl 0 rfl) ?_
        refine h_get hx hb hE hw hts hinX4 hown (ci := 4) rfl 2 (by decide) lk_22 (fun _ h9 => h9) (pt_ne (hC3.wy2 rfl) (hC.ne (i := 56) (j := 16 + k) (by decide) (by omega) (Ne.symm (by omega)))) rfl dX4_follow_94 ?_
        refine lv_aload_n hx hb dX4_follow_97 rfl (lv_at hl 0 rfl) ?_
        refine h_get hx hb hE hw hts hinX4 hown (ci := 4) rfl 0 (by decide) lk_11 (fun _ h9 => h9) (pt_ne (hC3.wy2 rfl) (hC.ne (i := 56) (j := 16 + k) (by decide) (by omega) (Ne.symm (by omega)))) rfl dX4_follow_98 ?_
        refine lv_iload hx hb dX4_follow_101 (lv_at hl 4 rfl) ?_
        refine h_qald hx hb hE hw (pt_ne hC3.fc (hC.ne (i := 58) (j := 16 + k) (by decide) (by omega) (Ne.symm (by omega)))) (vp_in_nI (show k < 12 by omega) (by decide)) (v := ad (16 + k)) (by rw [nI_clamp (by omega)]) dX4_follow_103 ?_
        refine lv_iconst (v := 1) hx hb dX4_follow_104 (by decide) ?_
        refine h_callVP (st1 := [.int (bI (¬ qnorm (upq q3 (16 + k) (q3 31) (16 + k)) = 0))]) [.ref (ad 38), .ref (ad (16 + k)), .int 1] [] ⟨hx, hb, hml, hown, hts⟩ hE hw (c_X2_splitBy l G A ad (va_up F (ad (16 + k)) (eq4 (q3 31))) _ _ (CW.setq hC3 (i := (16 + k)) (by omega) (q3 31)) 38 (16 + k) (by decide) (by omega) (by decide) (by decide) (by decide) (by decide) (show 16 + k ≠ 29 from (by omega)) (show 16 + k ≠ 30 from (by omega)) (show 16 + k ≠ 34 from (by omega)) (show 16 + k ≠ 35 from (by omega)) 1) (cwV 3 hts gX4_follow_X2_splitBy rfl rfl rfl (by decide +kernel) ⟨Nat.le_of_ble_eq_true rfl, Nat.le_of_ble_eq_true rfl⟩) (pt_ne hC3.rk (hC.ne (i := 54) (j := 16 + k) (by decide) (by omega) (Ne.symm (by omega)))) rfl rfl rfl hl.1 rfl (Nat.le_of_ble_eq_true rfl) dX4_follow_105 ⟨Nat.le_of_ble_eq_true rfl, Nat.le_of_ble_eq_true rfl⟩ rfl (fun F H locs hP hw => ?_)
        obtain ⟨q5, hC5, h5v, hk5⟩ := hP
        have h5x : q5 29 = wl (q i) (fun k => pl r (o + k)) (k + 1) := by
          have h1 : (upq q3 (16 + k) (q3 31)) (16 + k) = q3 31 := upq_s _ _ _
          have h2 : (upq q3 (16 + k) (q3 31)) 38 = q3 38 := upq_n _ _ (by omega)
          have h3 := (h5v (by show ¬ qnorm ((upq q3 (16 + k) (q3 31)) (16 + k)) = 0; rw [h1, h3f]; exact hnz k (by omega))).1
          rw [h3, wl_s]
          show quo 1 ((upq q3 (16 + k) (q3 31)) 38) ((upq q3 (16 + k) (q3 31)) (16 + k)) = _
          rw [h1, h2, h3f, h3p]
        refine lv_pop hx hb dX4_follow_108 rfl ?_
        refine lv_aload_n hx hb dX4_follow_109 rfl (lv_at hl 0 rfl) ?_
        refine h_get hx hb hE hw hts hinX4 hown (ci := 4) rfl 2 (by decide) lk_22 (fun _ h9 => h9) (hC5.wy2 rfl) rfl dX4_follow_110 ?_
        refine lv_aload hx hb dX4_follow_113 (lv_at hl 3 rfl) ?_
        refine h_get hx hb hE hw hts hinX2 hown (ci := 2) rfl 0 (by decide) lk_67 (fun _ h9 => h9) hC5.rk rfl dX4_follow_115 ?_
        refine h_callV (st1 := []) [.ref (ad 29)] [] ⟨hx, hb, hml, hown, hts⟩ hE hw (c_X1_becomeLike l G A (CL ad) F (ad 38) (q5 38) (hC5.q (i := 38) (by decide))  (ad 29) (q5 29) (hC5.q (i := 29) (by decide))) (cwV 1 hts gX4_follow_X1_becomeLike rfl rfl rfl (by decide +kernel) ⟨Nat.le_of_ble_eq_true rfl, Nat.le_of_ble_eq_true rfl⟩) (hC5.q (i := 38) (by decide)) rfl rfl rfl hl.1 rfl (Nat.le_of_ble_eq_true rfl) dX4_follow_118 ⟨Nat.le_of_ble_eq_true rfl, Nat.le_of_ble_eq_true rfl⟩ rfl (fun H locs hw => ?_)
        obtain ⟨i9, ei9⟩ : ∃ y : Int32, y = (nI k) + 1 := ⟨_, rfl⟩
        refine lv_iinc (v := i9) (lv' := [(6, .int i9), (0, .ref (ad 56)), (2, .ref (ad (39 + r))), (3, .int (nI o)), (5, .ref (ad 54))]) hx hb dX4_follow_121 hl (k := 4) rfl (by rw [ei9, show Int32.ofInt (1) = 1 from by decide]) (by decide) rfl (fun ls hl => ?_)
        refine lv_goto (tgt := 29) hx hb dX4_follow_124 (by decide) ?_
        have hq6 : ∀ j, j < 29 → j ≠ 16 + k → (upq q5 38 (q5 29)) j = q2 j := fun j h1 h2 => by
          rw [upq_n _ _ (by omega), hk5 j (by omega) (by omega) (by omega) (by omega)]
          show (upq q3 (16 + k) (q3 31)) j = _
          rw [upq_n _ _ h2, hk3 j (by omega)]
          exact upq_n _ _ (by omega)
        have hq7 : (upq q5 38 (q5 29)) (16 + k) = wf (q i) (fun k => pl r (o + k)) k := by
          rw [upq_n _ _ (by omega), hk5 (16 + k) (by omega) (by omega) (by omega) (by omega)]
          show (upq q3 (16 + k) (q3 31)) (16 + k) = _
          rw [upq_s, h3f]
        exact ih (k + 1) _ _ H locs ls (by omega) (CW.setq hC5 (i := 38) (by decide) (q5 29)) h5x (fun j hj => by
                    by_cases hjk : j = k
                    · rw [hjk]; exact hq7
                    · rw [← hf j (by omega)]; exact hq6 _ (by omega) (by omega)) (fun j h1 h2 => by rw [← hg j (by omega) h2]; exact hq6 _ (by omega) (by omega)) (fun j hj => by rw [← hq j hj]; exact hq6 _ (by omega) (by omega)) hw (lv_sub (l' := [(0, .ref (ad 56)), (2, .ref (ad (39 + r))), (3, .int (nI o)), (5, .ref (ad 54)), (6, .int (nI (k + 1)))]) hl [1, 2, 3, 4, 0] (by rw [← nI_1, ← ei9]; rfl))
  refine lv_aload_n hx hb dX4_follow_0 rfl (lv_at hl 0 rfl) ?_
  refine h_get hx hb hE hw hts hinX4 hown (ci := 4) rfl 2 (by decide) lk_22 (fun _ h9 => h9) hC.wy rfl dX4_follow_1 ?_
  refine lv_aload_n hx hb dX4_follow_4 rfl (lv_at hl 1 rfl) ?_
  refine h_callV (st1 := []) [.ref (ad i)] [] ⟨hx, hb, hml, hown, hts⟩ hE hw (c_X1_becomeLike l G A (CL ad) F (ad 38) (q 38) (hC.q (i := 38) (by decide))  (ad i) (q i) (hC.q (i := i) (by omega))) (cwV 1 hts gX4_follow_X1_becomeLike rfl rfl rfl (by decide +kernel) ⟨Nat.le_of_ble_eq_true rfl, Nat.le_of_ble_eq_true rfl⟩) (hC.q (i := 38) (by decide)) rfl rfl rfl hl.1 rfl (Nat.le_of_ble_eq_true rfl) dX4_follow_5 ⟨Nat.le_of_ble_eq_true rfl, Nat.le_of_ble_eq_true rfl⟩ rfl (fun H locs hw => ?_)
  refine lv_aload_n hx hb dX4_follow_8 rfl (lv_at hl 0 rfl) ?_
  refine lv_iconst (v := 0) hx hb dX4_follow_9 (by decide) ?_
  refine lv_iload hx hb dX4_follow_10 (lv_at hl 4 rfl) ?_
  refine lv_aload_n hx hb dX4_follow_12 rfl (lv_at hl 0 rfl) ?_
  refine h_get hx hb hE hw hts hinX4 hown (ci := 4) rfl 0 (by decide) lk_11 (fun _ h9 => h9) (pt_ne hC.wy (hC.ne (i := 56) (j := 38) (by decide) (by decide) (by decide))) rfl dX4_follow_13 ?_
  refine h_ilen hx hb hE hw 2 rfl (pt_ne hC.fc (hC.ne (i := 58) (j := 38) (by decide) (by decide) (by decide))) (v := 12) rfl dX4_follow_16 ?_
  refine va_mmin hx hb (hml.trans hl.1.symm) hown (hts (.methodLink RX4 33 Lib.Math.min.name) (by decide +kernel)) (hts (.static Lib.Math.min.name) (by decide +kernel)) (hts (.initialized "java/lang/Math") (by decide +kernel)) (hts (.code Lib.Math.min.name Lib.Math.min.code 2 (some .int)) (by decide +kernel)) (Nat.le_of_ble_eq_true rfl) (Nat.le_of_ble_eq_true rfl) (Nat.le_of_ble_eq_true rfl) (Nat.le_of_ble_eq_true rfl) dX4_follow_17 ?_
  refine va_mmax hx hb (hml.trans hl.1.symm) hown (hts (.methodLink RX4 39 Lib.Math.max.name) (by decide +kernel)) (hts (.static Lib.Math.max.name) (by decide +kernel)) (hts (.initialized "java/lang/Math") (by decide +kernel)) (hts (.code Lib.Math.max.name Lib.Math.max.code 2 (some .int)) (by decide +kernel)) (Nat.le_of_ble_eq_true rfl) (Nat.le_of_ble_eq_true rfl) (Nat.le_of_ble_eq_true rfl) (Nat.le_of_ble_eq_true rfl) dX4_follow_20 ?_
  refine W.eq (g2 := F0 m 23 ls [.int (nI n), .ref (ad 56)]) (by rw [mm12 hn12]) ?_
  refine h_put hx hb hE hw hts hinX4 tyX4 tyX4_ok nmX4 hown (ci := 4) rfl 3 (by decide) lk_25 (fun _ h9 => h9) rfl (pt_ne hC.wy (hC.ne (i := 56) (j := 38) (by decide) (by decide) (by decide))) (ty := .int) rfl rfl rfl (Nat.le_of_ble_eq_true rfl) (fs2 := [.ref (ad 58), .ref (ad 37), .ref (ad 38), .int (nI n)]) rfl dX4_follow_23 (fun H locs hw => ?_)
  refine lv_iconst (v := 0) hx hb dX4_follow_26 (by decide) ?_
  refine lv_istore (lv' := [(6, .int 0), (0, .ref (ad 56)), (1, .ref (ad i)), (2, .ref (ad (39 + r))), (3, .int (nI o)), (4, .int (nI n)), (5, .ref (ad 54))]) hx hb dX4_follow_27 hl (by decide) rfl (fun ls hl => ?_)
  exact loop (n - 1) 0 _ _ _ _ ls (by omega) (CW.setc (CW.setq hC (i := 38) (by decide) (q i)) (nI n)) rfl (fun j hj => absurd hj (by omega)) (fun j h1 h2 => upq_n _ _ (by omega)) (fun j hj => upq_n _ _ (by omega)) hw (lv_sub (l' := [(0, .ref (ad 56)), (2, .ref (ad (39 + r))), (3, .int (nI o)), (5, .ref (ad 54)), (6, .int (nI 0))]) hl [1, 3, 4, 6, 0] rfl)
