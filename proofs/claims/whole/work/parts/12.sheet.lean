/-! Sheets -/
def reach (z i n : Int32) : Prop := ¬ i < 0 ∧ ¬ n < 0 ∧ ¬ z < i ∧ ¬ z - i < n
def cutL (kd : Int32) (v : Int64) : Int64 := if kd = 0 then v.toInt32.toInt8.toInt32.toInt64 else if kd = 1 then v.toInt32.toInt64 else v
theorem reach_iff {z : Nat} (hz : z ≤ 16) (i n : Int32) : reach (nI z) i n ↔ ∃ a b : Nat, i = nI a ∧ n = nI b ∧ a + b ≤ z := by
  constructor
  · rintro ⟨h1, h2, h3, h4⟩
    obtain ⟨a, ha, rfl⟩ := nI_of h1
    obtain ⟨b, hb, rfl⟩ := nI_of h2
    have h5 : a ≤ z := by
      rcases Nat.lt_or_ge z a with q | q
      · exact absurd (nI_lt q ha) h3
      · exact q
    rw [pk_sub h5] at h4
    refine ⟨a, b, rfl, rfl, ?_⟩
    rcases Nat.lt_or_ge (z - a) b with q | q
    · exact absurd (nI_lt q hb) h4
    · omega
  · rintro ⟨a, b, rfl, rfl, h⟩
    refine ⟨nI_pos (by omega), nI_pos (by omega), nI_nlt (by omega) (by omega), ?_⟩
    rw [pk_sub (by omega)]
    exact nI_nlt (by omega) (by omega)
theorem arr_same {cA : ClassId} {n : Nat} {f g : Nat → Value} (h : ∀ k, k < n → f k = g k) : arrV cA n f = arrV cA n g := by
  unfold arrV
  congr 1
  congr 1
  funext j
  exact h j.val j.isLt
theorem at_sameJ {G : GG} {a n : Nat} {f g : Nat → Int64} (h : ∀ k, k < n → f k = g k) (H : Heap) (hv : va_at G.1 vwCl (a, eJ G n f) H) : va_at G.1 vwCl (a, eJ G n g) H := by
  have e : arrV G.2.2.1 n (fun j => Value.long (f j)) = arrV G.2.2.1 n (fun j => Value.long (g j)) := arr_same (fun k hk => by rw [h k hk])
  have hv2 : H[a]? = some (vp_cell G.2.2.1 (n, .inr (.inl f))) := hv
  show H[a]? = some (vp_cell G.2.2.1 (n, .inr (.inl g)))
  rw [vp_cell_l] at hv2 ⊢
  rw [← e]; exact hv2
theorem at_sameI {G : GG} {a n : Nat} {f g : Nat → Int32} (h : ∀ k, k < n → f k = g k) (H : Heap) (hv : va_at G.1 vwCl (a, eI G n f) H) : va_at G.1 vwCl (a, eI G n g) H := by
  have e : arrV G.2.1 n (fun j => Value.int (f j)) = arrV G.2.1 n (fun j => Value.int (g j)) := arr_same (fun k hk => by rw [h k hk])
  have hv2 : H[a]? = some (vp_cell G.2.1 (n, .inl f)) := hv
  show H[a]? = some (vp_cell G.2.1 (n, .inl g))
  rw [vp_cell_i] at hv2 ⊢
  rw [← e]; exact hv2
theorem at_sameQ {G : GG} {a n : Nat} {f g : Nat → Option Nat} (h : ∀ k, k < n → f k = g k) (H : Heap) (hv : va_at G.1 vwCl (a, eRQ G n f) H) : va_at G.1 vwCl (a, eRQ G n g) H := by
  have e : arrV G.2.2.2.1 n (fun j => va_rf (f j)) = arrV G.2.2.2.1 n (fun j => va_rf (g j)) := arr_same (fun k hk => by rw [h k hk])
  have hv2 : H[a]? = some (vp_cell G.2.2.2.1 (n, .inr (.inr (.inr (.inr f))))) := hv
  show H[a]? = some (vp_cell G.2.2.2.1 (n, .inr (.inr (.inr (.inr g)))))
  rw [vp_cell_q] at hv2 ⊢
  rw [← e]; exact hv2
theorem at_sameS {G : GG} {a n : Nat} {f g : Nat → Option Nat} (h : ∀ k, k < n → f k = g k) (H : Heap) (hv : va_at G.1 vwCl (a, eRS G n f) H) : va_at G.1 vwCl (a, eRS G n g) H := by
  have e : arrV G.2.2.2.2 n (fun j => va_rf (f j)) = arrV G.2.2.2.2 n (fun j => va_rf (g j)) := arr_same (fun k hk => by rw [h k hk])
  have hv2 : H[a]? = some (vp_cell G.2.2.2.2 (n, .inr (.inr (.inr (.inr f))))) := hv
  show H[a]? = some (vp_cell G.2.2.2.2 (n, .inr (.inr (.inr (.inr g)))))
  rw [vp_cell_q] at hv2 ⊢
  rw [← e]; exact hv2
section CPL
variable {p : Program} {l : Launch} {e : Env} {R : Room} {s : State} {m : MethodId} {args : Array Value} {below : List Frame} {meth : Method} {c : Code} {H : Heap} {locs : List Loc} {cells slots : Nat} {Q : State → Prop} {pc : Nat} {ls : Array Slot} {rest : List Value} {cc : ByteArray} {G : GG} {A : Nat → Prop} {H0 : Heap} {L : List Nat} {F : FM} {a : Nat}
theorem h_copyl (hexec : p.tables.exec = Jvm.exec) (hb : c.code = cc) (hE : en G A s) (hw : wo G A H0 L F H locs) (hml : c.maxLocals = ls.size) {own : String} {index : Nat} (hown : s.vm.findClass own = some m.cls) (hlink : (Cond.methodLink own index arraycopyName).before args s = true) (hnat : (Cond.native arraycopyName).before args s = true) (hstat : (Cond.static arraycopyName).before args s = true) (hini : (Cond.initialized "java/lang/System").before args s = true)
    {a0 n0 n1 : Nat} {f g : Nat → Int64} (h0 : pt L F a0 (eJ G n0 f)) (h1 : pt L F a (eJ G n1 g)) {i j n : Nat} (hi : i + n ≤ n0) (hj : j + n ≤ n1) (hb0 : n0 < 2 ^ 31) (hb1 : n1 < 2 ^ 31) (hframes : 1 ≤ R.frames) (hlocals : (rest.map fun v => v.category).sum + (nativeFrameWords "java/lang/System" "arraycopy" 5 + 11) ≤ R.locals) (hdg : decode cc pc = .ok (.invokestatic index, 3))
    (kk : ∀ (H1 : Heap) (locs1 : List Loc), wo G A H0 L (va_up F a (eJ G n1 (va_cpy f g i j n))) H1 locs1 → W p l e R s m args below meth c H1 locs1 cells slots Q (F0 m (pc + 3) ls rest)) : W p l e R s m args below meth c H locs cells slots Q (F0 m pc ls (.int (nI n) :: .int (nI j) :: .ref a :: .int (nI i) :: .ref a0 :: rest)) := by
  obtain ⟨k0, hk0⟩ := pl_at F h0.1
  rw [h0.2] at hk0
  obtain ⟨k1, hk1⟩ := pl_at F h1.1
  have hk1' := hk1
  rw [h1.2] at hk1'
  have ci : (nI i).toNatClampNeg = i := nI_clamp (by omega)
  have cj : (nI j).toNatClampNeg = j := nI_clamp (by omega)
  have cn : (nI n).toNatClampNeg = n := nI_clamp (by omega)
  refine va_copyl (D := G.1) (tys := gty G) hexec hb hml hown hlink hnat hstat hini hE.1 hw.1.1 hw.1.2 hw.2 k0 k1 1 1 hk0 hk1' rfl rfl rfl (nI_pos (by omega)) (nI_pos (by omega)) (nI_pos (by omega)) (by rw [ci, cn]; exact hi) (by rw [cj, cn]; exact hj) (fun _ _ => rfl) hframes hlocals hdg (fun H1 locs1 q1 q2 q3 => kk H1 locs1 ⟨⟨?_, ?_⟩, q3⟩)
  · rw [ci, cj, cn] at q1; rw [← pl_set hw.1.2 h1.1 hk1]; exact q1
  · rw [ci, cj, cn] at q2; rw [← pl_set hw.1.2 h1.1 hk1]; exact q2
end CPL

theorem zfill {g : Nat → Int64} {i : Nat} (hg : ∀ k, k < i → g k = 0) : ∀ k, k < i + 1 → vp_updL g i 0 k = 0 := by
  intro k hk
  by_cases q : k = i
  · rw [q, pk_uLs]
  · rw [pk_uLn q]; exact hg k (by omega)

theorem lk2 {kd : Int32} (h0 : ¬ kd = 0) (h1 : ¬ kd = 1) : Op.lookupswitch.offset (#[((0 : Int), (28 : Int)), (1, 33)] : Array (Int × Int)).toList 37 kd.toInt = 37 := by
  have a0 : ¬ kd.toInt = 0 := fun q => h0 (int_of (z := 0) q)
  have a1 : ¬ kd.toInt = 1 := fun q => h1 (int_of (z := 1) q)
  simp [Op.lookupswitch.offset, a0, a1, Ne.symm a0, Ne.symm a1]
  try omega
theorem mm16 {z : Nat} (hz : z ≤ 16) : (if (0 : Int32) < (if (16 : Int32) < nI z then 16 else nI z) then (if (16 : Int32) < nI z then 16 else nI z) else 0) = nI z := by
  have h1 : ¬ (16 : Int32) < nI z := nI_nlt (a := 16) (b := z) hz (by decide)
  rw [if_neg h1]
  by_cases h2 : (0 : Int32) < nI z
  · rw [if_pos h2]
  · rw [if_neg h2]
    have h3 : z = 0 := by
      rcases Nat.eq_zero_or_pos z with q | q
      · exact q
      · exact absurd (nI_lt (a := 0) q (by omega)) h2
    rw [h3]; rfl
set_option maxHeartbeats 4000000 in
set_option maxRecDepth 100000 in
theorem c_X3_isMissing (l : Launch) (G : GG) (A : Nat → Prop) (L : List Nat) (F : FM) (h ar : Nat) (sz kd : Int32) (e0 : pt L F h (eSh ar sz kd)) : HT l yX3_isMissing wsX3_isMissing { frames := 0, cells := 0, slots := 0, locals := 0 } G A L [.ref h] F (some (.int (bI (kd = -1)))) F := by
  refine HT.ofW (cc := cX3_isMissing) (maxL := 1) (ret := (some .boolean)) (plainFor_of_name (by decide)) rfl (Nat.le_of_ble_eq_true rfl) ?_
  intro p e s m below meth c ls hx hb hr hml hown hts hlk hE hw hl
  have hl : lv_has ls 1 [(0, .ref h)] := hl
  have hown : s.vm.findClass RX3 = some m.cls := hown
  have lk_19 := hts (.fieldLink RX3 19 "FourParts$Sheet" "kind" "I") (by decide +kernel)
  have hinX3 : ∀ w ∈ u_ws RX3 TX3 3, w ∈ wsX3_isMissing := by decide +kernel
  refine lv_aload_n hx hb dX3_isMissing_0 rfl (lv_at hl 0 rfl) ?_
  refine h_get hx hb hE hw hts hinX3 hown (ci := 3) rfl 2 (by decide) lk_19 (fun _ h9 => h9) e0 rfl dX3_isMissing_1 ?_
  refine lv_iconst (v := (-1)) hx hb dX3_isMissing_4 (by decide) ?_
  refine lv_icmp_ne (tgt := 12) hx hb dX3_isMissing_5 (by decide) (fun c_5 => ?_) (fun c_5 => ?_)
  · skip
    refine lv_iconst (v := 0) hx hb dX3_isMissing_12 (by decide) ?_
    exact h_zret hx hb hlk hr hw dX3_isMissing_13 rfl (by rw [bI_f (by simp [c_5])]) rfl
  · skip
    refine lv_iconst (v := 1) hx hb dX3_isMissing_8 (by decide) ?_
    refine lv_goto (tgt := 13) hx hb dX3_isMissing_9 (by decide) ?_
    exact h_zret hx hb hlk hr hw dX3_isMissing_13 rfl (by rw [bI_t (by simp [c_5])]) rfl

set_option maxHeartbeats 4000000 in
set_option maxRecDepth 100000 in
theorem c_X3_reaches (l : Launch) (G : GG) (A : Nat → Prop) (L : List Nat) (F : FM) (h ar : Nat) (sz kd : Int32) (e0 : pt L F h (eSh ar sz kd)) (i n : Int32) : HT l yX3_reaches wsX3_reaches { frames := 0, cells := 0, slots := 0, locals := 0 } G A L [.ref h, .int i, .int n] F (some (.int (bI (reach sz i n)))) F := by
  refine HT.ofW (cc := cX3_reaches) (maxL := 3) (ret := (some .boolean)) (plainFor_of_name (by decide)) rfl (Nat.le_of_ble_eq_true rfl) ?_
  intro p e s m below meth c ls hx hb hr hml hown hts hlk hE hw hl
  have hl : lv_has ls 3 [(0, .ref h), (1, .int i), (2, .int n)] := hl
  have hown : s.vm.findClass RX3 = some m.cls := hown
  have lk_15 := hts (.fieldLink RX3 15 "FourParts$Sheet" "size" "I") (by decide +kernel)
  have hinX3 : ∀ w ∈ u_ws RX3 TX3 3, w ∈ wsX3_reaches := by decide +kernel
  refine lv_iload_n hx hb dX3_reaches_0 rfl (lv_at hl 1 rfl) ?_
  refine lv_if_lt (tgt := 30) hx hb dX3_reaches_1 (by decide) (fun c_1 => ?_) (fun c_1 => ?_)
  · skip
    refine lv_iconst (v := 0) hx hb dX3_reaches_30 (by decide) ?_
    exact h_zret hx hb hlk hr hw dX3_reaches_31 rfl (by rw [bI_f (by simp [reach, c_1])]) rfl
  · skip
    refine lv_iload_n hx hb dX3_reaches_4 rfl (lv_at hl 2 rfl) ?_
    refine lv_if_lt (tgt := 30) hx hb dX3_reaches_5 (by decide) (fun c_5 => ?_) (fun c_5 => ?_)
    · skip
      refine lv_iconst (v := 0) hx hb dX3_reaches_30 (by decide) ?_
      exact h_zret hx hb hlk hr hw dX3_reaches_31 rfl (by rw [bI_f (by simp [reach, c_1, c_5])]) rfl
    · skip
      refine lv_iload_n hx hb dX3_reaches_8 rfl (lv_at hl 1 rfl) ?_
      refine lv_aload_n hx hb dX3_reaches_9 rfl (lv_at hl 0 rfl) ?_
      refine h_get hx hb hE hw hts hinX3 hown (ci := 3) rfl 1 (by decide) lk_15 (fun _ h9 => h9) e0 rfl dX3_reaches_10 ?_
      refine lv_icmp_gt (tgt := 30) hx hb dX3_reaches_13 (by decide) (fun c_13 => ?_) (fun c_13 => ?_)
      · skip
        refine lv_iconst (v := 0) hx hb dX3_reaches_30 (by decide) ?_
        exact h_zret hx hb hlk hr hw dX3_reaches_31 rfl (by rw [bI_f (by simp [reach, c_1, c_5, c_13])]) rfl
      · skip
        refine lv_iload_n hx hb dX3_reaches_16 rfl (lv_at hl 2 rfl) ?_
        refine lv_aload_n hx hb dX3_reaches_17 rfl (lv_at hl 0 rfl) ?_
        refine h_get hx hb hE hw hts hinX3 hown (ci := 3) rfl 1 (by decide) lk_15 (fun _ h9 => h9) e0 rfl dX3_reaches_18 ?_
        refine lv_iload_n hx hb dX3_reaches_21 rfl (lv_at hl 1 rfl) ?_
        refine lv_isub hx hb dX3_reaches_22 ?_
        refine lv_icmp_gt (tgt := 30) hx hb dX3_reaches_23 (by decide) (fun c_23 => ?_) (fun c_23 => ?_)
        · skip
          refine lv_iconst (v := 0) hx hb dX3_reaches_30 (by decide) ?_
          exact h_zret hx hb hlk hr hw dX3_reaches_31 rfl (by rw [bI_f (by simp [reach, c_1, c_5, c_13, c_23])]) rfl
        · skip
          refine lv_iconst (v := 1) hx hb dX3_reaches_26 (by decide) ?_
          refine lv_goto (tgt := 31) hx hb dX3_reaches_27 (by decide) ?_
          exact h_zret hx hb hlk hr hw dX3_reaches_31 rfl (by rw [bI_t (by simp [reach, c_1, c_5, c_13, c_23])]) rfl

set_option maxHeartbeats 4000000 in
set_option maxRecDepth 100000 in
theorem c_X3_at (l : Launch) (G : GG) (A : Nat → Prop) (L : List Nat) (F : FM) (h ar : Nat) (z : Nat) (kd : Int32) (g : Nat → Int64) (e0 : pt L F h (eSh ar (nI z) kd)) (e1 : pt L F ar (eJ G 16 g)) (hz : z ≤ 16) (j : Nat) (hj : j < z) : HT l yX3_at wsX3_at { frames := 0, cells := 0, slots := 0, locals := 0 } G A L [.ref h, .int (nI j)] F (some (.long (g j))) F := by
  refine HT.ofW (cc := cX3_at) (maxL := 2) (ret := (some .long)) (plainFor_of_name (by decide)) rfl (Nat.le_of_ble_eq_true rfl) ?_
  intro p e s m below meth c ls hx hb hr hml hown hts hlk hE hw hl
  have hl : lv_has ls 2 [(0, .ref h), (1, .int (nI j))] := hl
  have hown : s.vm.findClass RX3 = some m.cls := hown
  have lk_15 := hts (.fieldLink RX3 15 "FourParts$Sheet" "size" "I") (by decide +kernel)
  have hinX3 : ∀ w ∈ u_ws RX3 TX3 3, w ∈ wsX3_at := by decide +kernel
  have lk_9 := hts (.fieldLink RX3 9 "FourParts$Sheet" "places" "[J") (by decide +kernel)
  refine lv_iload_n hx hb dX3_at_0 rfl (lv_at hl 1 rfl) ?_
  refine lv_if_lt (tgt := 21) hx hb dX3_at_1 (by decide) (fun c_1 => ?_) (fun c_1 => ?_)
  · skip
    exact absurd c_1 (nI_pos (by omega))
  · skip
    refine lv_iload_n hx hb dX3_at_4 rfl (lv_at hl 1 rfl) ?_
    refine lv_aload_n hx hb dX3_at_5 rfl (lv_at hl 0 rfl) ?_
    refine h_get hx hb hE hw hts hinX3 hown (ci := 3) rfl 1 (by decide) lk_15 (fun _ h9 => h9) e0 rfl dX3_at_6 ?_
    refine lv_icmp_ge (tgt := 21) hx hb dX3_at_9 (by decide) (fun c_9 => ?_) (fun c_9 => ?_)
    · skip
      exact absurd c_9 (nI_ge hj (by omega))
    · skip
      refine lv_aload_n hx hb dX3_at_12 rfl (lv_at hl 0 rfl) ?_
      refine h_get hx hb hE hw hts hinX3 hown (ci := 3) rfl 0 (by decide) lk_9 (fun _ h9 => h9) e0 rfl dX3_at_13 ?_
      refine lv_iload_n hx hb dX3_at_16 rfl (lv_at hl 1 rfl) ?_
      refine h_lald hx hb hE hw e1 (vp_in_nI (show j < 16 by omega) (by decide)) (v := g j) (by rw [nI_clamp (by omega)]) dX3_at_17 ?_
      refine lv_goto (tgt := 22) hx hb dX3_at_18 (by decide) ?_
      exact h_lret hx hb hlk hr hw dX3_at_22 rfl rfl

set_option maxHeartbeats 4000000 in
set_option maxRecDepth 100000 in
theorem c_X3_cut (l : Launch) (G : GG) (A : Nat → Prop) (L : List Nat) (F : FM) (h ar : Nat) (sz kd : Int32) (e0 : pt L F h (eSh ar sz kd)) (v : Int64) : HT l yX3_cut wsX3_cut { frames := 0, cells := 0, slots := 0, locals := 0 } G A L [.ref h, .long v] F (some (.long (cutL kd v))) F := by
  refine HT.ofW (cc := cX3_cut) (maxL := 3) (ret := (some .long)) (plainFor_of_name (by decide)) rfl (Nat.le_of_ble_eq_true rfl) ?_
  intro p e s m below meth c ls hx hb hr hml hown hts hlk hE hw hl
  have hl : lv_has ls 3 [(0, .ref h), (1, .long v)] := hl
  have hown : s.vm.findClass RX3 = some m.cls := hown
  have lk_19 := hts (.fieldLink RX3 19 "FourParts$Sheet" "kind" "I") (by decide +kernel)
  have hinX3 : ∀ w ∈ u_ws RX3 TX3 3, w ∈ wsX3_cut := by decide +kernel
  refine lv_aload_n hx hb dX3_cut_0 rfl (lv_at hl 0 rfl) ?_
  refine h_get hx hb hE hw hts hinX3 hown (ci := 3) rfl 2 (by decide) lk_19 (fun _ h9 => h9) e0 rfl dX3_cut_1 ?_
  by_cases k0 : kd = 0
  · subst k0
    refine lv_lookup (off := 28) (tgt := 32) hx hb dX3_cut_4 (by decide +kernel) (by decide +kernel) (by decide) ?_
    refine lv_lload_n hx hb dX3_cut_32 rfl (lv_at hl 1 rfl) ?_
    refine lv_l2i hx hb dX3_cut_33 rfl ?_
    refine lv_i2b hx hb dX3_cut_34 rfl ?_
    refine lv_i2l hx hb dX3_cut_35 rfl ?_
    exact h_lret hx hb hlk hr hw dX3_cut_36 rfl rfl
  · by_cases k1 : kd = 1
    · subst k1
      refine lv_lookup (off := 33) (tgt := 37) hx hb dX3_cut_4 (by decide +kernel) (by decide +kernel) (by decide) ?_
      refine lv_lload_n hx hb dX3_cut_37 rfl (lv_at hl 1 rfl) ?_
      refine lv_l2i hx hb dX3_cut_38 rfl ?_
      refine lv_i2l hx hb dX3_cut_39 rfl ?_
      exact h_lret hx hb hlk hr hw dX3_cut_40 rfl rfl
    · refine lv_lookup (off := 37) (tgt := 41) hx hb dX3_cut_4 (by decide +kernel) (lk2 k0 k1) (by decide) ?_
      refine lv_lload_n hx hb dX3_cut_41 rfl (lv_at hl 1 rfl) ?_
      exact h_lret hx hb hlk hr hw dX3_cut_42 (by unfold cutL; rw [if_neg k0, if_neg k1]) rfl

set_option maxHeartbeats 4000000 in
set_option maxRecDepth 100000 in
theorem c_X3_keep (l : Launch) (G : GG) (A : Nat → Prop) (L : List Nat) (F : FM) (h ar : Nat) (z : Nat) (kd : Int32) (g : Nat → Int64) (e0 : pt L F h (eSh ar (nI z) kd)) (e1 : pt L F ar (eJ G 16 g)) (hz : z ≤ 16) (j : Nat) (hj : j < z) (v : Int64) : HT l yX3_keep wsX3_keep { frames := 1, cells := 0, slots := 0, locals := 22 } G A L [.ref h, .int (nI j), .long v] F none (va_up F ar (eJ G 16 (vp_updL g j (cutL kd v)))) := by
  refine HT.ofW (cc := cX3_keep) (maxL := 4) (ret := none) (plainFor_of_name (by decide)) rfl (Nat.le_of_ble_eq_true rfl) ?_
  intro p e s m below meth c ls hx hb hr hml hown hts hlk hE hw hl
  have hl : lv_has ls 4 [(0, .ref h), (1, .int (nI j)), (2, .long v)] := hl
  have hown : s.vm.findClass RX3 = some m.cls := hown
  have lk_15 := hts (.fieldLink RX3 15 "FourParts$Sheet" "size" "I") (by decide +kernel)
  have hinX3 : ∀ w ∈ u_ws RX3 TX3 3, w ∈ wsX3_keep := by decide +kernel
  have lk_9 := hts (.fieldLink RX3 9 "FourParts$Sheet" "places" "[J") (by decide +kernel)
  refine lv_iload_n hx hb dX3_keep_0 rfl (lv_at hl 1 rfl) ?_
  refine lv_if_lt (tgt := 23) hx hb dX3_keep_1 (by decide) (fun c_1 => ?_) (fun c_1 => ?_)
  · skip
    exact absurd c_1 (nI_pos (by omega))
  · skip
    refine lv_iload_n hx hb dX3_keep_4 rfl (lv_at hl 1 rfl) ?_
    refine lv_aload_n hx hb dX3_keep_5 rfl (lv_at hl 0 rfl) ?_
    refine h_get hx hb hE hw hts hinX3 hown (ci := 3) rfl 1 (by decide) lk_15 (fun _ h9 => h9) e0 rfl dX3_keep_6 ?_
    refine lv_icmp_ge (tgt := 23) hx hb dX3_keep_9 (by decide) (fun c_9 => ?_) (fun c_9 => ?_)
    · skip
      exact absurd c_9 (nI_ge hj (by omega))
    · skip
      refine lv_aload_n hx hb dX3_keep_12 rfl (lv_at hl 0 rfl) ?_
      refine h_get hx hb hE hw hts hinX3 hown (ci := 3) rfl 0 (by decide) lk_9 (fun _ h9 => h9) e0 rfl dX3_keep_13 ?_
      refine lv_iload_n hx hb dX3_keep_16 rfl (lv_at hl 1 rfl) ?_
      refine lv_aload_n hx hb dX3_keep_17 rfl (lv_at hl 0 rfl) ?_
      refine lv_lload_n hx hb dX3_keep_18 rfl (lv_at hl 2 rfl) ?_
      refine h_callV (st1 := [.long (cutL kd v), .int (nI j), .ref ar]) [.long v] [.int (nI j), .ref ar] ⟨hx, hb, hml, hown, hts⟩ hE hw (c_X3_cut l G A L F h ar (nI z) kd e0 v) (cwV 1 hts gX3_keep_X3_cut rfl rfl rfl (by decide +kernel) ⟨Nat.le_of_ble_eq_true rfl, Nat.le_of_ble_eq_true rfl⟩) e0 rfl rfl rfl hl.1 rfl (Nat.le_of_ble_eq_true rfl) dX3_keep_19 ⟨Nat.le_of_ble_eq_true rfl, Nat.le_of_ble_eq_true rfl⟩ rfl (fun H locs hw => ?_)
      refine h_last hx hb hE hw e1 (vp_in_nI (show j < 16 by omega) (by decide)) (g := vp_updL g j (cutL kd v)) (by rw [nI_clamp (by omega)]) dX3_keep_22 (fun H locs hw => ?_)
      exact h_vret hx hb hlk hr hw dX3_keep_23 rfl rfl

set_option maxHeartbeats 4000000 in
set_option maxRecDepth 100000 in
theorem c_X3_renew (l : Launch) (G : GG) (A : Nat → Prop) (L : List Nat) (F : FM) (h ar : Nat) (sz kd : Int32) (g : Nat → Int64) (e0 : pt L F h (eSh ar sz kd)) (e1 : pt L F ar (eJ G 16 g)) (hne : h ≠ ar) (kd2 : Int32) (z2 : Nat) (hz : z2 ≤ 16) : HT l yX3_renew wsX3_renew { frames := 1, cells := 0, slots := 0, locals := 24 } G A L [.ref h, .int kd2, .int (nI z2)] F none (va_up (va_up F ar (eJ G 16 (fun _ => 0))) h (eSh ar (nI z2) kd2)) := by
  refine HT.ofW (cc := cX3_renew) (maxL := 4) (ret := none) (plainFor_of_name (by decide)) rfl (Nat.le_of_ble_eq_true rfl) ?_
  intro p e s m below meth c ls hx hb hr hml hown hts hlk hE hw hl
  have hl : lv_has ls 4 [(0, .ref h), (1, .int kd2), (2, .int (nI z2))] := hl
  have hown : s.vm.findClass RX3 = some m.cls := hown
  have lk_9 := hts (.fieldLink RX3 9 "FourParts$Sheet" "places" "[J") (by decide +kernel)
  have hinX3 : ∀ w ∈ u_ws RX3 TX3 3, w ∈ wsX3_renew := by decide +kernel
  have lk_19 := hts (.fieldLink RX3 19 "FourParts$Sheet" "kind" "I") (by decide +kernel)
  have lk_15 := hts (.fieldLink RX3 15 "FourParts$Sheet" "size" "I") (by decide +kernel)
  have loop : ∀ (n i : Nat) (g : Nat → Int64) (F3 : FM) (H : Heap) (locs : List Loc) (ls : Array Slot), n + i = 16 → F3 = va_up F ar (eJ G 16 g) → (∀ k, k < i → g k = 0) → wo G A s.heap L F3 H locs → lv_has ls 4 [(0, .ref h), (1, .int kd2), (2, .int (nI z2)), (3, .int (nI i))] → W p l e { frames := 1, cells := 0, slots := 0, locals := 24 } s m ([.ref h, .int kd2, .int (nI z2)].toArray) below meth c H locs 0 0 (MQ below (QH G A L none (va_up (va_up F ar (eJ G 16 (fun _ => 0))) h (eSh ar (nI z2) kd2))) ([.ref h, .int kd2, .int (nI z2)].toArray) s 0 0 A) (F0 m 2 ls []) := by
    intro n
    induction n with
    | zero =>
      intro i g F3 H locs ls hi hF hg hw hl
      subst hF
      have hw := wo_same hw (at_sameJ (G := G) (a := ar) (n := 16) (f := g) (g := fun _ => 0) (fun k hk => hg k (by omega)))
      clear hg
      generalize hg0 : (fun _ => 0 : Nat → Int64) = g0 at hw
      refine lv_iload_n hx hb dX3_renew_2 rfl (lv_at hl 3 rfl) ?_
      refine lv_aload_n hx hb dX3_renew_3 rfl (lv_at hl 0 rfl) ?_
      refine h_get hx hb hE hw hts hinX3 hown (ci := 3) rfl 0 (by decide) lk_9 (fun _ h9 => h9) (pt_ne e0 hne) rfl dX3_renew_4 ?_
      refine h_ilen hx hb hE hw 1 rfl (pt_up e1) (v := 16) rfl dX3_renew_7 ?_
      refine lv_icmp_ge (tgt := 24) hx hb dX3_renew_8 (by decide) (fun c_8 => ?_) (fun c_8 => ?_)
      · skip
        refine lv_aload_n hx hb dX3_renew_24 rfl (lv_at hl 0 rfl) ?_
        refine lv_iload_n hx hb dX3_renew_25 rfl (lv_at hl 1 rfl) ?_
        refine h_put hx hb hE hw hts hinX3 tyX3 tyX3_ok nmX3 hown (ci := 3) rfl 2 (by decide) lk_19 (fun _ h9 => h9) rfl (pt_ne e0 hne) (ty := .int) rfl rfl rfl (Nat.le_of_ble_eq_true rfl) (fs2 := [.ref ar, .int sz, .int kd2]) rfl dX3_renew_26 (fun H locs hw => ?_)
        refine lv_aload_n hx hb dX3_renew_29 rfl (lv_at hl 0 rfl) ?_
        refine lv_iconst (v := 0) hx hb dX3_renew_30 (by decide) ?_
        refine lv_iload_n hx hb dX3_renew_31 rfl (lv_at hl 2 rfl) ?_
        refine lv_aload_n hx hb dX3_renew_32 rfl (lv_at hl 0 rfl) ?_
        refine h_get hx hb hE hw hts hinX3 hown (ci := 3) rfl 0 (by decide) lk_9 (fun _ h9 => h9) (pt_up (pt_ne e0 hne)) rfl dX3_renew_33 ?_
        refine h_ilen hx hb hE hw 1 rfl (pt_ne (pt_up e1) (Ne.symm hne)) (v := 16) rfl dX3_renew_36 ?_
        refine va_mmin hx hb (hml.trans hl.1.symm) hown (hts (.methodLink RX3 22 Lib.Math.min.name) (by decide +kernel)) (hts (.static Lib.Math.min.name) (by decide +kernel)) (hts (.initialized "java/lang/Math") (by decide +kernel)) (hts (.code Lib.Math.min.name Lib.Math.min.code 2 (some .int)) (by decide +kernel)) (Nat.le_of_ble_eq_true rfl) (Nat.le_of_ble_eq_true rfl) (Nat.le_of_ble_eq_true rfl) (Nat.le_of_ble_eq_true rfl) dX3_renew_37 ?_
        refine va_mmax hx hb (hml.trans hl.1.symm) hown (hts (.methodLink RX3 28 Lib.Math.max.name) (by decide +kernel)) (hts (.static Lib.Math.max.name) (by decide +kernel)) (hts (.initialized "java/lang/Math") (by decide +kernel)) (hts (.code Lib.Math.max.name Lib.Math.max.code 2 (some .int)) (by decide +kernel)) (Nat.le_of_ble_eq_true rfl) (Nat.le_of_ble_eq_true rfl) (Nat.le_of_ble_eq_true rfl) (Nat.le_of_ble_eq_true rfl) dX3_renew_40 ?_
        refine W.eq (g2 := F0 m 43 ls [.int (nI z2), .ref h]) (by rw [mm16 hz]) ?_
        refine h_put hx hb hE hw hts hinX3 tyX3 tyX3_ok nmX3 hown (ci := 3) rfl 1 (by decide) lk_15 (fun _ h9 => h9) rfl (pt_up (pt_ne e0 hne)) (ty := .int) rfl rfl rfl (Nat.le_of_ble_eq_true rfl) (fs2 := [.ref ar, .int (nI z2), .int kd2]) rfl dX3_renew_43 (fun H locs hw => ?_)
        exact h_vret hx hb hlk hr hw dX3_renew_46 rfl (by rw [up_up])
      · skip
        exact absurd (show (16 : Int32) ≤ nI i from (by rw [show i = 16 by omega]; decide)) c_8
    | succ n ih =>
      intro i g F3 H locs ls hi hF hg hw hl
      subst hF
      refine lv_iload_n hx hb dX3_renew_2 rfl (lv_at hl 3 rfl) ?_
      refine lv_aload_n hx hb dX3_renew_3 rfl (lv_at hl 0 rfl) ?_
      refine h_get hx hb hE hw hts hinX3 hown (ci := 3) rfl 0 (by decide) lk_9 (fun _ h9 => h9) (pt_ne e0 hne) rfl dX3_renew_4 ?_
      refine h_ilen hx hb hE hw 1 rfl (pt_up e1) (v := 16) rfl dX3_renew_7 ?_
      refine lv_icmp_ge (tgt := 24) hx hb dX3_renew_8 (by decide) (fun c_8 => ?_) (fun c_8 => ?_)
      · skip
        exact absurd c_8 (nI_ge (a := i) (b := 16) (by omega) (by decide))
      · skip
        refine lv_aload_n hx hb dX3_renew_11 rfl (lv_at hl 0 rfl) ?_
        refine h_get hx hb hE hw hts hinX3 hown (ci := 3) rfl 0 (by decide) lk_9 (fun _ h9 => h9) (pt_ne e0 hne) rfl dX3_renew_12 ?_
        refine lv_iload_n hx hb dX3_renew_15 rfl (lv_at hl 3 rfl) ?_
        refine lv_lconst (v := 0) hx hb dX3_renew_16 (by decide) ?_
        refine h_last hx hb hE hw (pt_up e1) (vp_in_nI (show i < 16 by omega) (by decide)) (g := vp_updL g i 0) (by rw [nI_clamp (by omega)]) dX3_renew_17 (fun H locs hw => ?_)
        obtain ⟨i9, ei9⟩ : ∃ y : Int32, y = (nI i) + 1 := ⟨_, rfl⟩
        refine lv_iinc (v := i9) (lv' := [(3, .int i9), (0, .ref h), (1, .int kd2), (2, .int (nI z2))]) hx hb dX3_renew_18 hl (k := 3) rfl (by rw [ei9, show Int32.ofInt (1) = 1 from by decide]) (by decide) rfl (fun ls hl => ?_)
        refine lv_goto (tgt := 2) hx hb dX3_renew_21 (by decide) ?_
        exact ih (i + 1) _ _ H locs ls (by omega) (up_up _ _ _ _) (zfill hg) hw (lv_sub (l' := [(0, .ref h), (1, .int kd2), (2, .int (nI z2)), (3, .int (nI (i + 1)))]) hl [1, 2, 3, 0] (by rw [← nI_1, ← ei9]; rfl))
  refine lv_iconst (v := 0) hx hb dX3_renew_0 (by decide) ?_
  refine lv_istore_n (lv' := [(3, .int 0), (0, .ref h), (1, .int kd2), (2, .int (nI z2))]) hx hb dX3_renew_1 rfl hl (by decide) rfl (fun ls hl => ?_)
  exact loop 16 0 g F _ _ ls rfl (up_id e1).symm (fun k hk => absurd hk (by omega)) hw (lv_sub (l' := [(0, .ref h), (1, .int kd2), (2, .int (nI z2)), (3, .int (nI 0))]) hl [1, 2, 3, 0] rfl)

set_option maxHeartbeats 4000000 in
set_option maxRecDepth 100000 in
theorem c_X3_keepFrom (l : Launch) (G : GG) (A : Nat → Prop) (L : List Nat) (F : FM) (h ar h2 ar2 : Nat) (z z2 : Nat) (kd kd2 : Int32) (g g2 : Nat → Int64) (e0 : pt L F h (eSh ar (nI z) kd)) (e1 : pt L F ar (eJ G 16 g)) (e2 : pt L F h2 (eSh ar2 (nI z2) kd2)) (e3 : pt L F ar2 (eJ G 16 g2)) (hz : z ≤ 16) (hz2 : z2 ≤ 16) (i j n : Nat) (hi : i + n ≤ z2) (hj : j + n ≤ z) : HT l yX3_keepFrom wsX3_keepFrom { frames := 1, cells := 0, slots := 0, locals := 40 } G A L [.ref h, .int (nI j), .ref h2, .int (nI i), .int (nI n)] F none (va_up F ar (eJ G 16 (va_cpy g2 g i j n))) := by
  refine HT.ofW (cc := cX3_keepFrom) (maxL := 5) (ret := none) (plainFor_of_name (by decide)) rfl (Nat.le_of_ble_eq_true rfl) ?_
  intro p e s m below meth c ls hx hb hr hml hown hts hlk hE hw hl
  have hl : lv_has ls 5 [(0, .ref h), (1, .int (nI j)), (2, .ref h2), (3, .int (nI i)), (4, .int (nI n))] := hl
  have hown : s.vm.findClass RX3 = some m.cls := hown
  have lk_9 := hts (.fieldLink RX3 9 "FourParts$Sheet" "places" "[J") (by decide +kernel)
  have hinX3 : ∀ w ∈ u_ws RX3 TX3 3, w ∈ wsX3_keepFrom := by decide +kernel
  refine lv_aload_n hx hb dX3_keepFrom_0 rfl (lv_at hl 2 rfl) ?_
  refine lv_iload_n hx hb dX3_keepFrom_1 rfl (lv_at hl 3 rfl) ?_
  refine lv_iload hx hb dX3_keepFrom_2 (lv_at hl 4 rfl) ?_
  refine h_callV (st1 := [.int (bI (reach (nI z2) (nI i) (nI n)))]) [.int (nI i), .int (nI n)] [] ⟨hx, hb, hml, hown, hts⟩ hE hw (c_X3_reaches l G A L F h2 ar2 (nI z2) kd2 e2 (nI i) (nI n)) (cwV 2 hts gX3_keepFrom_X3_reaches rfl rfl rfl (by decide +kernel) ⟨Nat.le_of_ble_eq_true rfl, Nat.le_of_ble_eq_true rfl⟩) e2 rfl rfl rfl hl.1 rfl (Nat.le_of_ble_eq_true rfl) dX3_keepFrom_4 ⟨Nat.le_of_ble_eq_true rfl, Nat.le_of_ble_eq_true rfl⟩ rfl (fun H locs hw => ?_)
  refine lv_if_eq (tgt := 35) hx hb dX3_keepFrom_7 (by decide) (fun c_7 => ?_) (fun c_7 => ?_)
  · skip
    exact absurd ((reach_iff hz2 _ _).mpr ⟨i, n, rfl, rfl, hi⟩) (bI_eq.mp c_7)
  · skip
    have c_7 := bI_ne.mp c_7
    refine lv_aload_n hx hb dX3_keepFrom_10 rfl (lv_at hl 0 rfl) ?_
    refine lv_iload_n hx hb dX3_keepFrom_11 rfl (lv_at hl 1 rfl) ?_
    refine lv_iload hx hb dX3_keepFrom_12 (lv_at hl 4 rfl) ?_
    refine h_callV (st1 := [.int (bI (reach (nI z) (nI j) (nI n)))]) [.int (nI j), .int (nI n)] [] ⟨hx, hb, hml, hown, hts⟩ hE hw (c_X3_reaches l G A L F h ar (nI z) kd e0 (nI j) (nI n)) (cwV 2 hts gX3_keepFrom_X3_reaches rfl rfl rfl (by decide +kernel) ⟨Nat.le_of_ble_eq_true rfl, Nat.le_of_ble_eq_true rfl⟩) e0 rfl rfl rfl hl.1 rfl (Nat.le_of_ble_eq_true rfl) dX3_keepFrom_14 ⟨Nat.le_of_ble_eq_true rfl, Nat.le_of_ble_eq_true rfl⟩ rfl (fun H locs hw => ?_)
    refine lv_if_eq (tgt := 35) hx hb dX3_keepFrom_17 (by decide) (fun c_17 => ?_) (fun c_17 => ?_)
    · skip
      exact absurd ((reach_iff hz _ _).mpr ⟨j, n, rfl, rfl, hj⟩) (bI_eq.mp c_17)
    · skip
      have c_17 := bI_ne.mp c_17
      refine lv_aload_n hx hb dX3_keepFrom_20 rfl (lv_at hl 2 rfl) ?_
      refine h_get hx hb hE hw hts hinX3 hown (ci := 3) rfl 0 (by decide) lk_9 (fun _ h9 => h9) e2 rfl dX3_keepFrom_21 ?_
      refine lv_iload_n hx hb dX3_keepFrom_24 rfl (lv_at hl 3 rfl) ?_
      refine lv_aload_n hx hb dX3_keepFrom_25 rfl (lv_at hl 0 rfl) ?_
      refine h_get hx hb hE hw hts hinX3 hown (ci := 3) rfl 0 (by decide) lk_9 (fun _ h9 => h9) e0 rfl dX3_keepFrom_26 ?_
      refine lv_iload_n hx hb dX3_keepFrom_29 rfl (lv_at hl 1 rfl) ?_
      refine lv_iload hx hb dX3_keepFrom_30 (lv_at hl 4 rfl) ?_
      refine h_copyl hx hb hE hw (hml.trans hl.1.symm) hown (hts (.methodLink RX3 39 arraycopyName) (by decide +kernel)) (hts (.native arraycopyName) (by decide +kernel)) (hts (.static arraycopyName) (by decide +kernel)) (hts (.initialized "java/lang/System") (by decide +kernel)) e3 e1 (i := i) (j := j) (n := n) (by omega) (by omega) (by decide) (by decide) (Nat.le_of_ble_eq_true rfl) (by decide +kernel) dX3_keepFrom_32 (fun H locs hw => ?_)
      exact h_vret hx hb hlk hr hw dX3_keepFrom_35 rfl rfl
