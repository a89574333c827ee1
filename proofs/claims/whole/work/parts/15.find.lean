/-! how many pairs there are -/
def sC (h : Int → Nat) : Nat → Nat
  | 0 => 0
  | k + 1 => h ((k : Int) - 28) + sC h k
def tw (h : Int → Nat) : Nat → Nat
  | 0 => 0
  | k + 1 => tw h k + pwt k * h (k : Int)
def upS (h : Int → Nat) : Nat → Nat
  | 0 => 0
  | j + 1 => upS h j + h ((j : Int) + 1)
theorem sC_hi (h : Int → Nat) : ∀ j, sC h (29 + j) = sC h 29 + upS h j
  | 0 => by rw [upS, Nat.add_zero, Nat.add_zero]
  | j + 1 => by
    rw [show 29 + (j + 1) = (29 + j) + 1 by omega, sC, sC_hi h j, upS, show ((29 + j : Nat) : Int) - 28 = (j : Int) + 1 by omega]; omega
theorem sC_lo (h : Int → Nat) (he : ∀ x, h (-x) = h x) : ∀ k, k ≤ 28 → sC h k + upS h (28 - k) = upS h 28
  | 0, _ => by rw [sC, Nat.sub_zero, Nat.zero_add]
  | k + 1, hk => by
    have e1 := sC_lo h he k (by omega)
    have e2 : upS h (28 - k) = upS h (28 - (k + 1)) + h ((k : Int) - 28) := by
      rw [show 28 - k = (28 - (k + 1)) + 1 by omega, upS, ← he ((k : Int) - 28), show -((k : Int) - 28) = ((28 - (k + 1) : Nat) : Int) + 1 by omega]
    rw [sC]; omega
theorem tw_up (h : Int → Nat) : ∀ j, tw h (j + 1) = h 0 + 2 * upS h j
  | 0 => by simp [tw, upS, pwt]
  | j + 1 => by
    rw [tw, tw_up h j, upS, show pwt (j + 1) = 2 from if_neg (by omega), show ((j + 1 : Nat) : Int) = (j : Int) + 1 by omega]; omega
theorem sC_even (h : Int → Nat) (he : ∀ x, h (-x) = h x) : sC h 57 = tw h 29 := by
  have e1 := sC_hi h 28
  have e2 := sC_lo h he 28 (by omega)
  have e3 := tw_up h 28
  have e4 : sC h (28 + 1) = h 0 + sC h 28 := by rw [sC, show ((28 : Nat) : Int) - 28 = 0 by omega]
  rw [show 29 + 28 = 57 by omega] at e1
  rw [show 28 - 28 = 0 by omega, upS] at e2
  rw [show 28 + 1 = 29 by omega] at e3 e4
  omega
def eE (m c d : Int) : Nat := if c * c + d * d = m then 1 else 0
theorem len_bD (m c : Int) : ∀ k, (bD m c k).length = sC (eE m c) k
  | 0 => rfl
  | k + 1 => by
    rw [bD, sC, ← len_bD m c k]
    unfold eE
    by_cases h : c * c + ((k : Int) - 28) * ((k : Int) - 28) = m
    · rw [if_pos h, if_pos h, List.length_cons]; omega
    · rw [if_neg h, if_neg h]; omega
theorem len_bC (m : Int) : ∀ k, (bC m k).length = sC (fun c => sC (eE m c) 57) k
  | 0 => rfl
  | k + 1 => by
    rw [bC, sC, ← len_bC m k, List.length_append, List.length_map, len_bD]
theorem prow_tw (m c : Nat) : ∀ k, prow c m k = pwt c * tw (eE m c) k
  | 0 => by simp [prow, tw]
  | k + 1 => by
    rw [prow, tw, prow_tw m c k, Nat.mul_add]
    congr 1
    unfold eE
    by_cases h : c * c + k * k = m
    · rw [if_pos h, if_pos (by rw [← h]; push_cast; rfl), Nat.mul_one]
    · rw [if_neg h, if_neg (fun q => h (by exact_mod_cast q)), Nat.mul_zero, Nat.mul_zero]
theorem pall_tw (m : Nat) : ∀ k, pall m k = tw (fun c => tw (eE m c) 29) k
  | 0 => rfl
  | k + 1 => by rw [pall, tw, pall_tw m k, prow_tw]
theorem len_pairs (m : Nat) : (bC (m : Int) 57).length = pall m 29 := by
  have h1 : ∀ c : Int, sC (eE m c) 57 = tw (eE m c) 29 := fun c => sC_even _ (fun x => by unfold eE; rw [Int.neg_mul_neg])
  have hf : (fun c => sC (eE (m : Int) c) 57) = fun c => tw (eE (m : Int) c) 29 := funext h1
  rw [len_bC, pall_tw, hf]
  refine sC_even _ (fun x => ?_)
  have : eE (m : Int) (-x) = eE (m : Int) x := by funext d; unfold eE; rw [Int.neg_mul_neg]
  show tw (eE (m : Int) (-x)) 29 = tw (eE (m : Int) x) 29
  rw [this]
theorem bC_neg {m : Int} (h : m < 0) : ∀ k, bC m k = []
  | 0 => rfl
  | k + 1 => by
    have hd : ∀ (c : Int) (j : Nat), bD m c j = [] := by
      intro c j
      induction j with
      | zero => rfl
      | succ j ih =>
        rw [bD, if_neg, ih]
        have a1 := sqnn c
        have a2 := sqnn ((j : Int) - 28)
        omega
    rw [bC, hd, bC_neg h k]; rfl
theorem pw_len {m : Int} (h1 : -2147483648 ≤ m) (h2 : m ≤ 800) : pw (iI m) = nI ((bC m 57).length) := by
  unfold pw
  by_cases h : m < 0
  · rw [if_pos (show iI m < 0 from (iI_lt (b := 0) h1 (by omega) (by omega) (by omega)).mpr h), bC_neg h]; rfl
  · obtain ⟨n, rfl⟩ : ∃ n : Nat, m = (n : Int) := ⟨m.toNat, by omega⟩
    rw [← iI_nat, if_neg (nI_pos (by omega)), if_neg (show ¬ (801 : Int32) ≤ nI n from nI_ge (a := n) (b := 801) (by omega) (by decide)), nI_clamp (by omega), len_pairs]; rfl
theorem len_bC_le (m : Int) : (bC m 57).length ≤ 3249 := by
  have h1 : ∀ c : Int, ∀ k, (bD m c k).length ≤ k := by
    intro c k
    induction k with
    | zero => exact Nat.le_refl 0
    | succ k ih =>
      rw [bD]
      split
      · rw [List.length_cons]; omega
      · omega
  have h2 : ∀ k, (bC m k).length ≤ k * 57 := by
    intro k
    induction k with
    | zero => exact Nat.le_refl 0
    | succ k ih =>
      rw [bC, List.length_append, List.length_map]
      have := h1 ((k : Int) - 28) 57
      omega
  exact h2 57
set_option maxHeartbeats 4000000 in
set_option maxRecDepth 100000 in
theorem c_X0_find_1 (l : Launch) (G : GG) (A : Nat → Prop) (ad : Nat → Nat) (F : FM) (q : Nat → Q4) (T : (Nat → Int32) × (Nat → Int32) × (Nat → Nat → Int64) × Int32) (hC : CW G ad (q, T) F) (N i r : Nat) (hr39 : r < 39) (hN : N ≤ 200) (hi : i < 2147483648) (t : Int × Int × Int × Int) (hres : (fA N 57)[i]? = some t) : HT l yX0_find wsX0_find { frames := 2, cells := 0, slots := 0, locals := 55 } G A (CL ad) [.ref (ad 55), .int (nI N), .int (nI i), .ref (ad r)] F (some (.int 1)) (va_up F (ad r) (eq4 (q4i t))) := by
  refine HT.ofW (cc := cX0_find) (maxL := 9) (ret := (some .boolean)) (plainFor_of_name (by decide)) rfl (Nat.le_of_ble_eq_true rfl) ?_
  intro p e s m below meth c ls hx hb hr hml hown hts hlk hE hw hl
  have hl : lv_has ls 9 [(0, .ref (ad 55)), (1, .int (nI N)), (2, .int (nI i)), (3, .ref (ad r))] := hl
  have hown : s.vm.findClass RX0 = some m.cls := hown
  have outer : ∀ (ka j : Nat) (H : Heap) (locs : List Loc) (ls : Array Slot), ka ≤ 57 → j < 2147483648 → (fA N ka)[j]? = some t → wo G A s.heap (CL ad) F H locs → lv_has ls 9 [(0, .ref (ad 55)), (1, .int (nI N)), (3, .ref (ad r)), (4, .int (nI j)), (5, .int (iI ((ka : Int) - 29)))] → W p l e { frames := 2, cells := 0, slots := 0, locals := 55 } s m ([.ref (ad 55), .int (nI N), .int (nI i), .ref (ad r)].toArray) below meth c H locs 0 0 (MQ below (QH G A (CL ad) (some (.int 1)) (va_up F (ad r) (eq4 (q4i t)))) ([.ref (ad 55), .int (nI N), .int (nI i), .ref (ad r)].toArray) s 0 0 A) (F0 m 7 ls []) := by
    intro ka
    induction ka with
    | zero =>
      intro j H locs ls _ hj hres hw hl
      exact absurd hres (by simp [fA])
    | succ ka iha =>
      intro j H locs ls hka hj hres hw hl
      have he : ((ka : Int) - 28) % 2 = 0 ∨ ((ka : Int) - 28) % 2 = 1 := by omega
      have qa := sq28 (k := ka) (by omega)
      have inner : ∀ (kb j : Nat) (H : Heap) (locs : List Loc) (ls : Array Slot), kb ≤ 29 → (((ka : Int) - 28) % 2 = 1 → kb ≤ 28) → j < 2147483648 → (fB N ((ka : Int) - 28) kb ++ fA N ka)[j]? = some t → wo G A s.heap (CL ad) F H locs → lv_has ls 9 [(0, .ref (ad 55)), (1, .int (nI N)), (3, .ref (ad r)), (4, .int (nI j)), (5, .int (iI ((ka : Int) - 28))), (6, .int (iI (2 * (kb : Int) - 30 + ((ka : Int) - 28) % 2)))] → W p l e { frames := 2, cells := 0, slots := 0, locals := 55 } s m ([.ref (ad 55), .int (nI N), .int (nI i), .ref (ad r)].toArray) below meth c H locs 0 0 (MQ below (QH G A (CL ad) (some (.int 1)) (va_up F (ad r) (eq4 (q4i t)))) ([.ref (ad 55), .int (nI N), .int (nI i), .ref (ad r)].toArray) s 0 0 A) (F0 m 23 ls []) := by
        intro kb
        induction kb with
        | zero =>
          intro j H locs ls _ _ hj hres hw hl
          refine lv_iload hx hb dX0_find_23 (lv_at hl 5 rfl) ?_
          refine lv_bipush (v := (-28)) hx hb dX0_find_25 (by decide) ?_
          refine lv_icmp_lt (tgt := 88) hx hb dX0_find_27 (by decide) (fun c_27 => ?_) (fun c_27 => ?_)
          · skip
            obtain ⟨i9, ei9⟩ : ∃ y : Int32, y = (iI ((ka : Int) - 28)) + (-1) := ⟨_, rfl⟩
            refine lv_iinc (v := i9) (lv' := [(5, .int i9), (0, .ref (ad 55)), (1, .int (nI N)), (3, .ref (ad r)), (4, .int (nI j)), (6, .int (iI (2 * (((0 : Nat) : Int)) - 30 + ((ka : Int) - 28) % 2)))]) hx hb dX0_find_88 hl (k := 4) rfl (by rw [ei9, show Int32.ofInt (-1) = -1 from by decide]) (by decide) rfl (fun ls hl => ?_)
            refine lv_goto (tgt := 7) hx hb dX0_find_91 (by decide) ?_
            exact iha j _ _ ls (by omega) hj (by simpa [fB] using hres) hw (lv_sub (l' := [(0, .ref (ad 55)), (1, .int (nI N)), (3, .ref (ad r)), (4, .int (nI j)), (5, .int (iI ((ka : Int) - 29)))]) hl [1, 2, 3, 4, 0] (by rw [show iI ((ka : Int) - 29) = i9 from by rw [ei9, show (ka : Int) - 29 = (ka : Int) - 28 + -1 by omega, ← iI_add]; rfl]; rfl))
          · skip
            exact absurd ((iI_lt (by omega) (by omega) (by omega) (by omega)).mpr (show (2 * (((0 : Nat) : Int)) - 30 + ((ka : Int) - 28) % 2) < -28 by omega)) c_27
        | succ kb ihb =>
          intro j H locs ls hkb hk1 hj hres hw hl
          have hl : lv_has ls 9 [(0, .ref (ad 55)), (1, .int (nI N)), (3, .ref (ad r)), (4, .int (nI j)), (5, .int (iI ((ka : Int) - 28))), (6, .int (iI (2 * (kb : Int) - 28 + ((ka : Int) - 28) % 2)))] := by rw [show (2 * ((kb + 1 : Nat) : Int) - 30 + ((ka : Int) - 28) % 2) = 2 * (kb : Int) - 28 + ((ka : Int) - 28) % 2 by omega] at hl; exact hl
          have qb := sq29 (z := (2 * (kb : Int) - 28 + ((ka : Int) - 28) % 2)) (by omega) (by omega)
          rw [fB, List.append_assoc] at hres
          generalize hmm : 4 * (N : Int) - ((ka : Int) - 28) * ((ka : Int) - 28) - (2 * (kb : Int) - 28 + ((ka : Int) - 28) % 2) * (2 * (kb : Int) - 28 + ((ka : Int) - 28) % 2) = mm at hres
          have hm1 : -2147483648 ≤ mm := by omega
          have hm2 : mm ≤ 800 := by omega
          have hln := len_bC_le mm
          refine lv_iload hx hb dX0_find_23 (lv_at hl 5 rfl) ?_
          refine lv_bipush (v := (-28)) hx hb dX0_find_25 (by decide) ?_
          refine lv_icmp_lt (tgt := 88) hx hb dX0_find_27 (by decide) (fun c_27 => ?_) (fun c_27 => ?_)
          · skip
            exact absurd ((iI_lt (by omega) (by omega) (by omega) (by omega)).mp (show iI (2 * (kb : Int) - 28 + ((ka : Int) - 28) % 2) < iI (-28) from c_27)) (by omega)
          · skip
            refine lv_iconst (v := 4) hx hb dX0_find_30 (by decide) ?_
            refine lv_iload_n hx hb dX0_find_31 rfl (lv_at hl 1 rfl) ?_
            refine lv_imul hx hb dX0_find_32 ?_
            refine lv_iload hx hb dX0_find_33 (lv_at hl 4 rfl) ?_
            refine lv_iload hx hb dX0_find_35 (lv_at hl 4 rfl) ?_
            refine lv_imul hx hb dX0_find_37 ?_
            refine lv_isub hx hb dX0_find_38 ?_
            refine lv_iload hx hb dX0_find_39 (lv_at hl 5 rfl) ?_
            refine lv_iload hx hb dX0_find_41 (lv_at hl 5 rfl) ?_
            refine lv_imul hx hb dX0_find_43 ?_
            refine lv_isub hx hb dX0_find_44 ?_
            refine W.eq (g2 := F0 m 45 ls [.int (iI mm)]) (by rw [← hmm, iI_nat, show (4 : Int32) = iI 4 from rfl, iI_mul, iI_mul, iI_mul, iI_sub, iI_sub]) ?_
            refine lv_istore (lv' := [(7, .int (iI mm)), (0, .ref (ad 55)), (1, .int (nI N)), (3, .ref (ad r)), (4, .int (nI j)), (5, .int (iI ((ka : Int) - 28))), (6, .int (iI (2 * (kb : Int) - 28 + ((ka : Int) - 28) % 2)))]) hx hb dX0_find_45 hl (by decide) rfl (fun ls hl => ?_)
            refine lv_aload_n hx hb dX0_find_47 rfl (lv_at hl 1 rfl) ?_
            refine lv_iload hx hb dX0_find_48 (lv_at hl 0 rfl) ?_
            refine h_callV (st1 := [.int (pw (iI mm))]) [.int (iI mm)] [] ⟨hx, hb, hml, hown, hts⟩ hE hw (c_X0_pairsWith l G A ad F _ hC (iI mm)) (cwV 1 hts gX0_find_X0_pairsWith rfl rfl rfl (by decide +kernel) ⟨Nat.le_of_ble_eq_true rfl, Nat.le_of_ble_eq_true rfl⟩) hC.nm rfl rfl rfl hl.1 rfl (Nat.le_of_ble_eq_true rfl) dX0_find_50 ⟨Nat.le_of_ble_eq_true rfl, Nat.le_of_ble_eq_true rfl⟩ rfl (fun H locs hw => ?_)
            refine W.eq (g2 := F0 m 53 ls [.int (nI ((bC mm 57).length))]) (by rw [pw_len hm1 hm2]) ?_
            refine lv_istore (lv' := [(8, .int (nI ((bC mm 57).length))), (7, .int (iI mm)), (0, .ref (ad 55)), (1, .int (nI N)), (3, .ref (ad r)), (4, .int (nI j)), (5, .int (iI ((ka : Int) - 28))), (6, .int (iI (2 * (kb : Int) - 28 + ((ka : Int) - 28) % 2)))]) hx hb dX0_find_53 hl (by decide) rfl (fun ls hl => ?_)
            refine lv_iload hx hb dX0_find_55 (lv_at hl 5 rfl) ?_
            refine lv_iload hx hb dX0_find_57 (lv_at hl 0 rfl) ?_
            refine lv_icmp_ge (tgt := 75) hx hb dX0_find_59 (by decide) (fun c_59 => ?_) (fun c_59 => ?_)
            · skip
              have hle : (bC mm 57).length ≤ j := Nat.not_lt.mp (fun q => nI_ge q (by omega) c_59)
              refine lv_iload hx hb dX0_find_75 (lv_at hl 5 rfl) ?_
              refine lv_iload hx hb dX0_find_77 (lv_at hl 0 rfl) ?_
              refine lv_isub hx hb dX0_find_79 ?_
              refine lv_topi (fun j9 ej9 => ?_)
              refine lv_istore (lv' := [(4, .int j9), (8, .int (nI ((bC mm 57).length))), (7, .int (iI mm)), (0, .ref (ad 55)), (1, .int (nI N)), (3, .ref (ad r)), (5, .int (iI ((ka : Int) - 28))), (6, .int (iI (2 * (kb : Int) - 28 + ((ka : Int) - 28) % 2)))]) hx hb dX0_find_80 hl (by decide) rfl (fun ls hl => ?_)
              obtain ⟨i9, ei9⟩ : ∃ y : Int32, y = (iI (2 * (kb : Int) - 28 + ((ka : Int) - 28) % 2)) + (-2) := ⟨_, rfl⟩
              refine lv_iinc (v := i9) (lv' := [(6, .int i9), (4, .int j9), (8, .int (nI ((bC mm 57).length))), (7, .int (iI mm)), (0, .ref (ad 55)), (1, .int (nI N)), (3, .ref (ad r)), (5, .int (iI ((ka : Int) - 28)))]) hx hb dX0_find_82 hl (k := 7) rfl (by rw [ei9, show Int32.ofInt (-2) = -2 from by decide]) (by decide) rfl (fun ls hl => ?_)
              refine lv_goto (tgt := 23) hx hb dX0_find_85 (by decide) ?_
              have hj9 : j9 = nI (j - (bC mm 57).length) := by rw [ej9]; exact pk_sub hle
              exact ihb (j - (bC mm 57).length) _ _ ls (by omega) (by omega) (by omega) (by rw [List.getElem?_append_right (by rw [List.length_map]; exact hle), List.length_map] at hres; exact hres) hw (lv_sub (l' := [(0, .ref (ad 55)), (1, .int (nI N)), (3, .ref (ad r)), (4, .int (nI (j - (bC mm 57).length))), (5, .int (iI ((ka : Int) - 28))), (6, .int (iI (2 * (kb : Int) - 30 + ((ka : Int) - 28) % 2)))]) hl [4, 5, 6, 1, 7, 0] (by rw [← hj9, show iI (2 * (kb : Int) - 30 + ((ka : Int) - 28) % 2) = i9 from by rw [ei9, show (2 * (kb : Int) - 30 + ((ka : Int) - 28) % 2) = (2 * (kb : Int) - 28 + ((ka : Int) - 28) % 2) + -2 by omega, ← iI_add (2 * (kb : Int) - 28 + ((ka : Int) - 28) % 2) (-2)]; rfl]; rfl))
            · skip
              have hlt : j < (bC mm 57).length := Nat.not_le.mp (fun q => c_59 (nI_le q (by omega)))
              obtain ⟨⟨tc, td⟩, htcd⟩ : ∃ z, (bC mm 57)[j]? = some z := ⟨_, List.getElem?_eq_getElem hlt⟩
              rw [List.getElem?_append_left (by rw [List.length_map]; exact hlt), List.getElem?_map, htcd] at hres
              have ht := Option.some.inj hres
              refine lv_iload hx hb dX0_find_62 (lv_at hl 1 rfl) ?_
              refine lv_iload hx hb dX0_find_64 (lv_at hl 5 rfl) ?_
              refine lv_iload hx hb dX0_find_66 (lv_at hl 6 rfl) ?_
              refine lv_iload hx hb dX0_find_68 (lv_at hl 7 rfl) ?_
              refine lv_aload_n hx hb dX0_find_70 rfl (lv_at hl 4 rfl) ?_
              refine h_callS (st1 := [.int 1]) [.int (iI mm), .int (nI j), .int (iI ((ka : Int) - 28)), .int (iI (2 * (kb : Int) - 28 + ((ka : Int) - 28) % 2)), .ref (ad r)] [] ⟨hx, hb, hml, hown, hts⟩ hE hw (c_X0_findPair l G A (CL ad) F (ad r) ((q r)) (hC.q (i := r) hr39) mm ((ka : Int) - 28) (2 * (kb : Int) - 28 + ((ka : Int) - 28) % 2) tc td j hj hm1 (by omega) htcd) (va_cwS 5 hts gX0_find_X0_findPair rfl rfl rfl (by decide +kernel) ⟨Nat.le_of_ble_eq_true rfl, Nat.le_of_ble_eq_true rfl⟩) rfl hl.1 rfl (Nat.le_of_ble_eq_true rfl) dX0_find_71 ⟨Nat.le_of_ble_eq_true rfl, Nat.le_of_ble_eq_true rfl⟩ rfl (fun H locs hw => ?_)
              exact h_zret hx hb hlk hr hw dX0_find_74 rfl rfl (by rw [← ht]; rfl)
      have hl : lv_has ls 9 [(0, .ref (ad 55)), (1, .int (nI N)), (3, .ref (ad r)), (4, .int (nI j)), (5, .int (iI ((ka : Int) - 28)))] := by rw [show (((ka + 1 : Nat) : Int) - 29) = (ka : Int) - 28 by omega] at hl; exact hl
      refine lv_iload hx hb dX0_find_7 (lv_at hl 4 rfl) ?_
      refine lv_bipush (v := (-28)) hx hb dX0_find_9 (by decide) ?_
      refine lv_icmp_lt (tgt := 94) hx hb dX0_find_11 (by decide) (fun c_11 => ?_) (fun c_11 => ?_)
      · skip
        exact absurd ((iI_lt (by omega) (by omega) (by omega) (by omega)).mp (show iI ((ka : Int) - 28) < iI (-28) from c_11)) (by omega)
      · skip
        refine lv_bipush (v := 28) hx hb dX0_find_14 (by decide) ?_
        refine lv_iload hx hb dX0_find_16 (lv_at hl 4 rfl) ?_
        refine lv_iconst (v := 1) hx hb dX0_find_18 (by decide) ?_
        refine lv_iand hx hb dX0_find_19 ?_
        refine lv_isub hx hb dX0_find_20 ?_
        refine W.eq (g2 := F0 m 21 ls [.int (iI (28 - ((ka : Int) - 28) % 2))]) (by rw [iI_par ka (by omega), show (28 : Int32) = iI 28 from rfl, iI_sub]) ?_
        refine lv_istore (lv' := [(6, .int (iI (28 - ((ka : Int) - 28) % 2))), (0, .ref (ad 55)), (1, .int (nI N)), (3, .ref (ad r)), (4, .int (nI j)), (5, .int (iI ((ka : Int) - 28)))]) hx hb dX0_find_21 hl (by decide) rfl (fun ls hl => ?_)
        exact inner (29 - (((ka : Int) - 28) % 2).toNat) j _ _ ls (by omega) (by omega) hj hres hw (lv_sub (l' := [(0, .ref (ad 55)), (1, .int (nI N)), (3, .ref (ad r)), (4, .int (nI j)), (5, .int (iI ((ka : Int) - 28))), (6, .int (iI (2 * ((29 - (((ka : Int) - 28) % 2).toNat : Nat) : Int) - 30 + ((ka : Int) - 28) % 2)))]) hl [1, 2, 3, 4, 5, 0] (by rw [show (2 * ((29 - (((ka : Int) - 28) % 2).toNat : Nat) : Int) - 30 + ((ka : Int) - 28) % 2) = 28 - ((ka : Int) - 28) % 2 by omega]; rfl))
  refine lv_iload_n hx hb dX0_find_0 rfl (lv_at hl 2 rfl) ?_
  refine lv_istore (lv' := [(4, .int (nI i)), (0, .ref (ad 55)), (1, .int (nI N)), (2, .int (nI i)), (3, .ref (ad r))]) hx hb dX0_find_1 hl (by decide) rfl (fun ls hl => ?_)
  refine lv_bipush (v := 28) hx hb dX0_find_3 (by decide) ?_
  refine lv_istore (lv' := [(5, .int 28), (4, .int (nI i)), (0, .ref (ad 55)), (1, .int (nI N)), (2, .int (nI i)), (3, .ref (ad r))]) hx hb dX0_find_5 hl (by decide) rfl (fun ls hl => ?_)
  exact outer 57 i _ _ ls (by omega) hi hres hw (lv_sub (l' := [(0, .ref (ad 55)), (1, .int (nI N)), (3, .ref (ad r)), (4, .int (nI i)), (5, .int (iI (((57 : Nat) : Int) - 29)))]) hl [2, 3, 5, 1, 0] rfl)

set_option maxHeartbeats 4000000 in
set_option maxRecDepth 100000 in
theorem c_X0_find_0 (l : Launch) (G : GG) (A : Nat → Prop) (ad : Nat → Nat) (F : FM) (q : Nat → Q4) (T : (Nat → Int32) × (Nat → Int32) × (Nat → Nat → Int64) × Int32) (hC : CW G ad (q, T) F) (N i r : Nat) (hr39 : r < 39) (hN : N ≤ 200) (hi : i < 2147483648) (hres : (fA N 57).length ≤ i) : HT l yX0_find wsX0_find { frames := 2, cells := 0, slots := 0, locals := 55 } G A (CL ad) [.ref (ad 55), .int (nI N), .int (nI i), .ref (ad r)] F (some (.int 0)) F := by
  refine HT.ofW (cc := cX0_find) (maxL := 9) (ret := (some .boolean)) (plainFor_of_name (by decide)) rfl (Nat.le_of_ble_eq_true rfl) ?_
  intro p e s m below meth c ls hx hb hr hml hown hts hlk hE hw hl
  have hl : lv_has ls 9 [(0, .ref (ad 55)), (1, .int (nI N)), (2, .int (nI i)), (3, .ref (ad r))] := hl
  have hown : s.vm.findClass RX0 = some m.cls := hown
  have outer : ∀ (ka j : Nat) (H : Heap) (locs : List Loc) (ls : Array Slot), ka ≤ 57 → j < 2147483648 → (fA N ka).length ≤ j → wo G A s.heap (CL ad) F H locs → lv_has ls 9 [(0, .ref (ad 55)), (1, .int (nI N)), (3, .ref (ad r)), (4, .int (nI j)), (5, .int (iI ((ka : Int) - 29)))] → W p l e { frames := 2, cells := 0, slots := 0, locals := 55 } s m ([.ref (ad 55), .int (nI N), .int (nI i), .ref (ad r)].toArray) below meth c H locs 0 0 (MQ below (QH G A (CL ad) (some (.int 0)) F) ([.ref (ad 55), .int (nI N), .int (nI i), .ref (ad r)].toArray) s 0 0 A) (F0 m 7 ls []) := by
    intro ka
    induction ka with
    | zero =>
      intro j H locs ls _ hj hres hw hl
      refine lv_iload hx hb dX0_find_7 (lv_at hl 4 rfl) ?_
      refine lv_bipush (v := (-28)) hx hb dX0_find_9 (by decide) ?_
      refine lv_icmp_lt (tgt := 94) hx hb dX0_find_11 (by decide) (fun c_11 => ?_) (fun c_11 => ?_)
      · skip
        refine lv_iconst (v := 0) hx hb dX0_find_94 (by decide) ?_
        exact h_zret hx hb hlk hr hw dX0_find_95 rfl rfl rfl
      · skip
        exact absurd ((iI_lt (by omega) (by omega) (by omega) (by omega)).mpr (show (((0 : Nat) : Int) - 29) < -28 by omega)) c_11
    | succ ka iha =>
      intro j H locs ls hka hj hres hw hl
      have he : ((ka : Int) - 28) % 2 = 0 ∨ ((ka : Int) - 28) % 2 = 1 := by omega
      have qa := sq28 (k := ka) (by omega)
      have inner : ∀ (kb j : Nat) (H : Heap) (locs : List Loc) (ls : Array Slot), kb ≤ 29 → (((ka : Int) - 28) % 2 = 1 → kb ≤ 28) → j < 2147483648 → (fB N ((ka : Int) - 28) kb ++ fA N ka).length ≤ j → wo G A s.heap (CL ad) F H locs → lv_has ls 9 [(0, .ref (ad 55)), (1, .int (nI N)), (3, .ref (ad r)), (4, .int (nI j)), (5, .int (iI ((ka : Int) - 28))), (6, .int (iI (2 * (kb : Int) - 30 + ((ka : Int) - 28) % 2)))] → W p l e { frames := 2, cells := 0, slots := 0, locals := 55 } s m ([.ref (ad 55), .int (nI N), .int (nI i), .ref (ad r)].toArray) below meth c H locs 0 0 (MQ below (QH G A (CL ad) (some (.int 0)) F) ([.ref (ad 55), .int (nI N), .int (nI i), .ref (ad r)].toArray) s 0 0 A) (F0 m 23 ls []) := by
        intro kb
        induction kb with
        | zero =>
          intro j H locs ls _ _ hj hres hw hl
          refine lv_iload hx hb dX0_find_23 (lv_at hl 5 rfl) ?_
          refine lv_bipush (v := (-28)) hx hb dX0_find_25 (by decide) ?_
          refine lv_icmp_lt (tgt := 88) hx hb dX0_find_27 (by decide) (fun c_27 => ?_) (fun c_27 => ?_)
          · skip
            obtain ⟨i9, ei9⟩ : ∃ y : Int32, y = (iI ((ka : Int) - 28)) + (-1) := ⟨_, rfl⟩
            refine lv_iinc (v := i9) (lv' := [(5, .int i9), (0, .ref (ad 55)), (1, .int (nI N)), (3, .ref (ad r)), (4, .int (nI j)), (6, .int (iI (2 * (((0 : Nat) : Int)) - 30 + ((ka : Int) - 28) % 2)))]) hx hb dX0_find_88 hl (k := 4) rfl (by rw [ei9, show Int32.ofInt (-1) = -1 from by decide]) (by decide) rfl (fun ls hl => ?_)
            refine lv_goto (tgt := 7) hx hb dX0_find_91 (by decide) ?_
            exact iha j _ _ ls (by omega) hj (by simpa [fB] using hres) hw (lv_sub (l' := [(0, .ref (ad 55)), (1, .int (nI N)), (3, .ref (ad r)), (4, .int (nI j)), (5, .int (iI ((ka : Int) - 29)))]) hl [1, 2, 3, 4, 0] (by rw [show iI ((ka : Int) - 29) = i9 from by rw [ei9, show (ka : Int) - 29 = (ka : Int) - 28 + -1 by omega, ← iI_add]; rfl]; rfl))
          · skip
            exact absurd ((iI_lt (by omega) (by omega) (by omega) (by omega)).mpr (show (2 * (((0 : Nat) : Int)) - 30 + ((ka : Int) - 28) % 2) < -28 by omega)) c_27
        | succ kb ihb =>
          intro j H locs ls hkb hk1 hj hres hw hl
          have hl : lv_has ls 9 [(0, .ref (ad 55)), (1, .int (nI N)), (3, .ref (ad r)), (4, .int (nI j)), (5, .int (iI ((ka : Int) - 28))), (6, .int (iI (2 * (kb : Int) - 28 + ((ka : Int) - 28) % 2)))] := by rw [show (2 * ((kb + 1 : Nat) : Int) - 30 + ((ka : Int) - 28) % 2) = 2 * (kb : Int) - 28 + ((ka : Int) - 28) % 2 by omega] at hl; exact hl
          have qb := sq29 (z := (2 * (kb : Int) - 28 + ((ka : Int) - 28) % 2)) (by omega) (by omega)
          rw [fB, List.append_assoc] at hres
          generalize hmm : 4 * (N : Int) - ((ka : Int) - 28) * ((ka : Int) - 28) - (2 * (kb : Int) - 28 + ((ka : Int) - 28) % 2) * (2 * (kb : Int) - 28 + ((ka : Int) - 28) % 2) = mm at hres
          have hm1 : -2147483648 ≤ mm := by omega
          have hm2 : mm ≤ 800 := by omega
          have hln := len_bC_le mm
          refine lv_iload hx hb dX0_find_23 (lv_at hl 5 rfl) ?_
          refine lv_bipush (v := (-28)) hx hb dX0_find_25 (by decide) ?_
          refine lv_icmp_lt (tgt := 88) hx hb dX0_find_27 (by decide) (fun c_27 => ?_) (fun c_27 => ?_)
          · skip
            exact absurd ((iI_lt (by omega) (by omega) (by omega) (by omega)).mp (show iI (2 * (kb : Int) - 28 + ((ka : Int) - 28) % 2) < iI (-28) from c_27)) (by omega)
          · skip
            refine lv_iconst (v := 4) hx hb dX0_find_30 (by decide) ?_
            refine lv_iload_n hx hb dX0_find_31 rfl (lv_at hl 1 rfl) ?_
            refine lv_imul hx hb dX0_find_32 ?_
            refine lv_iload hx hb dX0_find_33 (lv_at hl 4 rfl) ?_
            refine lv_iload hx hb dX0_find_35 (lv_at hl 4 rfl) ?_
            refine lv_imul hx hb dX0_find_37 ?_
            refine lv_isub hx hb dX0_find_38 ?_
            refine lv_iload hx hb dX0_find_39 (lv_at hl 5 rfl) ?_
            refine lv_iload hx hb dX0_find_41 (lv_at hl 5 rfl) ?_
            refine lv_imul hx hb dX0_find_43 ?_
            refine lv_isub hx hb dX0_find_44 ?_
            refine W.eq (g2 := F0 m 45 ls [.int (iI mm)]) (by rw [← hmm, iI_nat, show (4 : Int32) = iI 4 from rfl, iI_mul, iI_mul, iI_mul, iI_sub, iI_sub]) ?_
            refine lv_istore (lv' := [(7, .int (iI mm)), (0, .ref (ad 55)), (1, .int (nI N)), (3, .ref (ad r)), (4, .int (nI j)), (5, .int (iI ((ka : Int) - 28))), (6, .int (iI (2 * (kb : Int) - 28 + ((ka : Int) - 28) % 2)))]) hx hb dX0_find_45 hl (by decide) rfl (fun ls hl => ?_)
            refine lv_aload_n hx hb dX0_find_47 rfl (lv_at hl 1 rfl) ?_
            refine lv_iload hx hb dX0_find_48 (lv_at hl 0 rfl) ?_
            refine h_callV (st1 := [.int (pw (iI mm))]) [.int (iI mm)] [] ⟨hx, hb, hml, hown, hts⟩ hE hw (c_X0_pairsWith l G A ad F _ hC (iI mm)) (cwV 1 hts gX0_find_X0_pairsWith rfl rfl rfl (by decide +kernel) ⟨Nat.le_of_ble_eq_true rfl, Nat.le_of_ble_eq_true rfl⟩) hC.nm rfl rfl rfl hl.1 rfl (Nat.le_of_ble_eq_true rfl) dX0_find_50 ⟨Nat.le_of_ble_eq_true rfl, Nat.le_of_ble_eq_true rfl⟩ rfl (fun H locs hw => ?_)
            refine W.eq (g2 := F0 m 53 ls [.int (nI ((bC mm 57).length))]) (by rw [pw_len hm1 hm2]) ?_
            refine lv_istore (lv' := [(8, .int (nI ((bC mm 57).length))), (7, .int (iI mm)), (0, .ref (ad 55)), (1, .int (nI N)), (3, .ref (ad r)), (4, .int (nI j)), (5, .int (iI ((ka : Int) - 28))), (6, .int (iI (2 * (kb : Int) - 28 + ((ka : Int) - 28) % 2)))]) hx hb dX0_find_53 hl (by decide) rfl (fun ls hl => ?_)
            refine lv_iload hx hb dX0_find_55 (lv_at hl 5 rfl) ?_
            refine lv_iload hx hb dX0_find_57 (lv_at hl 0 rfl) ?_
            refine lv_icmp_ge (tgt := 75) hx hb dX0_find_59 (by decide) (fun c_59 => ?_) (fun c_59 => ?_)
            · skip
              have hle : (bC mm 57).length ≤ j := Nat.not_lt.mp (fun q => nI_ge q (by omega) c_59)
              refine lv_iload hx hb dX0_find_75 (lv_at hl 5 rfl) ?_
              refine lv_iload hx hb dX0_find_77 (lv_at hl 0 rfl) ?_
              refine lv_isub hx hb dX0_find_79 ?_
              refine lv_topi (fun j9 ej9 => ?_)
              refine lv_istore (lv' := [(4, .int j9), (8, .int (nI ((bC mm 57).length))), (7, .int (iI mm)), (0, .ref (ad 55)), (1, .int (nI N)), (3, .ref (ad r)), (5, .int (iI ((ka : Int) - 28))), (6, .int (iI (2 * (kb : Int) - 28 + ((ka : Int) - 28) % 2)))]) hx hb dX0_find_80 hl (by decide) rfl (fun ls hl => ?_)
              obtain ⟨i9, ei9⟩ : ∃ y : Int32, y = (iI (2 * (kb : Int) - 28 + ((ka : Int) - 28) % 2)) + (-2) := ⟨_, rfl⟩
              refine lv_iinc (v := i9) (lv' := [(6, .int i9), (4, .int j9), (8, .int (nI ((bC mm 57).length))), (7, .int (iI mm)), (0, .ref (ad 55)), (1, .int (nI N)), (3, .ref (ad r)), (5, .int (iI ((ka : Int) - 28)))]) hx hb dX0_find_82 hl (k := 7) rfl (by rw [ei9, show Int32.ofInt (-2) = -2 from by decide]) (by decide) rfl (fun ls hl => ?_)
              refine lv_goto (tgt := 23) hx hb dX0_find_85 (by decide) ?_
              have hj9 : j9 = nI (j - (bC mm 57).length) := by rw [ej9]; exact pk_sub hle
              exact ihb (j - (bC mm 57).length) _ _ ls (by omega) (by omega) (by omega) (by rw [List.length_append, List.length_map] at hres; omega) hw (lv_sub (l' := [(0, .ref (ad 55)), (1, .int (nI N)), (3, .ref (ad r)), (4, .int (nI (j - (bC mm 57).length))), (5, .int (iI ((ka : Int) - 28))), (6, .int (iI (2 * (kb : Int) - 30 + ((ka : Int) - 28) % 2)))]) hl [4, 5, 6, 1, 7, 0] (by rw [← hj9, show iI (2 * (kb : Int) - 30 + ((ka : Int) - 28) % 2) = i9 from by rw [ei9, show (2 * (kb : Int) - 30 + ((ka : Int) - 28) % 2) = (2 * (kb : Int) - 28 + ((ka : Int) - 28) % 2) + -2 by omega, ← iI_add (2 * (kb : Int) - 28 + ((ka : Int) - 28) % 2) (-2)]; rfl]; rfl))
            · skip
              exact absurd (Nat.not_le.mp (fun q => c_59 (nI_le q (by omega)))) (by rw [List.length_append, List.length_map] at hres; omega)
      have hl : lv_has ls 9 [(0, .ref (ad 55)), (1, .int (nI N)), (3, .ref (ad r)), (4, .int (nI j)), (5, .int (iI ((ka : Int) - 28)))] := by rw [show (((ka + 1 : Nat) : Int) - 29) = (ka : Int) - 28 by omega] at hl; exact hl
      refine lv_iload hx hb dX0_find_7 (lv_at hl 4 rfl) ?_
      refine lv_bipush (v := (-28)) hx hb dX0_find_9 (by decide) ?_
      refine lv_icmp_lt (tgt := 94) hx hb dX0_find_11 (by decide) (fun c_11 => ?_) (fun c_11 => ?_)
      · skip
        exact absurd ((iI_lt (by omega) (by omega) (by omega) (by omega)).mp (show iI ((ka : Int) - 28) < iI (-28) from c_11)) (by omega)
      · skip
        refine lv_bipush (v := 28) hx hb dX0_find_14 (by decide) ?_
        refine lv_iload hx hb dX0_find_16 (lv_at hl 4 rfl) ?_
        refine lv_iconst (v := 1) hx hb dX0_find_18 (by decide) ?_
        refine lv_iand hx hb dX0_find_19 ?_
        refine lv_isub hx hb dX0_find_20 ?_
        refine W.eq (g2 := F0 m 21 ls [.int (iI (28 - ((ka : Int) - 28) % 2))]) (by rw [iI_par ka (by omega), show (28 : Int32) = iI 28 from rfl, iI_sub]) ?_
        refine lv_istore (lv' := [(6, .int (iI (28 - ((ka : Int) - 28) % 2))), (0, .ref (ad 55)), (1, .int (nI N)), (3, .ref (ad r)), (4, .int (nI j)), (5, .int (iI ((ka : Int) - 28)))]) hx hb dX0_find_21 hl (by decide) rfl (fun ls hl => ?_)
        exact inner (29 - (((ka : Int) - 28) % 2).toNat) j _ _ ls (by omega) (by omega) hj hres hw (lv_sub (l' := [(0, .ref (ad 55)), (1, .int (nI N)), (3, .ref (ad r)), (4, .int (nI j)), (5, .int (iI ((ka : Int) - 28))), (6, .int (iI (2 * ((29 - (((ka : Int) - 28) % 2).toNat : Nat) : Int) - 30 + ((ka : Int) - 28) % 2)))]) hl [1, 2, 3, 4, 5, 0] (by rw [show (2 * ((29 - (((ka : Int) - 28) % 2).toNat : Nat) : Int) - 30 + ((ka : Int) - 28) % 2) = 28 - ((ka : Int) - 28) % 2 by omega]; rfl))
  refine lv_iload_n hx hb dX0_find_0 rfl (lv_at hl 2 rfl) ?_
  refine lv_istore (lv' := [(4, .int (nI i)), (0, .ref (ad 55)), (1, .int (nI N)), (2, .int (nI i)), (3, .ref (ad r))]) hx hb dX0_find_1 hl (by decide) rfl (fun ls hl => ?_)
  refine lv_bipush (v := 28) hx hb dX0_find_3 (by decide) ?_
  refine lv_istore (lv' := [(5, .int 28), (4, .int (nI i)), (0, .ref (ad 55)), (1, .int (nI N)), (2, .int (nI i)), (3, .ref (ad r))]) hx hb dX0_find_5 hl (by decide) rfl (fun ls hl => ?_)
  exact outer 57 i _ _ ls (by omega) hi hres hw (lv_sub (l' := [(0, .ref (ad 55)), (1, .int (nI N)), (3, .ref (ad r)), (4, .int (nI i)), (5, .int (iI (((57 : Nat) : Int) - 29)))]) hl [2, 3, 5, 1, 0] rfl)
