/-! Norms: whole numbers of either sign as ints -/
abbrev iI (z : Int) : Int32 := Int32.ofInt z
theorem iI_add (a b : Int) : iI a + iI b = iI (a + b) := (Int32.ofInt_add a b).symm
theorem iI_sub (a b : Int) : iI a - iI b = iI (a - b) := (Int32.ofInt_sub a b).symm
theorem iI_mul (a b : Int) : iI a * iI b = iI (a * b) := (Int32.ofInt_mul a b).symm
theorem iI_nat (n : Nat) : nI n = iI (n : Int) := by
  apply Int32.toBitVec_inj.mp
  simp [nI, iI]
theorem iI_toInt {a : Int} (h1 : -2147483648 ≤ a) (h2 : a < 2147483648) : (iI a).toInt = a := Int32.toInt_ofInt_of_le (by simpa using h1) (by simpa using h2)
theorem iI_lt {a b : Int} (h1 : -2147483648 ≤ a) (h2 : a < 2147483648) (h3 : -2147483648 ≤ b) (h4 : b < 2147483648) : iI a < iI b ↔ a < b := by
  rw [Int32.lt_iff_toInt_lt, iI_toInt h1 h2, iI_toInt h3 h4]
theorem iI_le {a b : Int} (h1 : -2147483648 ≤ a) (h2 : a < 2147483648) (h3 : -2147483648 ≤ b) (h4 : b < 2147483648) : iI a ≤ iI b ↔ a ≤ b := by
  rw [Int32.le_iff_toInt_le, iI_toInt h1 h2, iI_toInt h3 h4]
theorem iI_eq {a b : Int} (h1 : -2147483648 ≤ a) (h2 : a < 2147483648) (h3 : -2147483648 ≤ b) (h4 : b < 2147483648) : iI a = iI b ↔ a = b := by
  rw [← Int32.toInt_inj, iI_toInt h1 h2, iI_toInt h3 h4]
theorem iI_par : ∀ k : Nat, k < 57 → (iI ((k : Int) - 28) &&& 1) = iI (((k : Int) - 28) % 2) := by decide +kernel
theorem sqnn (z : Int) : 0 ≤ z * z := by
  rcases Int.le_total 0 z with h | h
  · exact Int.mul_nonneg h h
  · exact Int.mul_nonneg_of_nonpos_of_nonpos h h
theorem sq28 {k : Nat} (h : k ≤ 57) : 0 ≤ ((k : Int) - 28) * ((k : Int) - 28) ∧ ((k : Int) - 28) * ((k : Int) - 28) ≤ 841 := by
  have h1 : -29 ≤ (k : Int) - 28 := by omega
  have h2 : (k : Int) - 28 ≤ 29 := by omega
  generalize (k : Int) - 28 = z at h1 h2
  constructor
  · exact sqnn z
  · have := Int.mul_nonneg (show 0 ≤ 29 - z by omega) (show 0 ≤ 29 + z by omega)
    have e : (29 - z) * (29 + z) = 841 - z * z := by grind
    omega
theorem sq29 {z : Int} (h1 : -29 ≤ z) (h2 : z ≤ 29) : 0 ≤ z * z ∧ z * z ≤ 841 := by
  constructor
  · exact sqnn z
  · have := Int.mul_nonneg (show 0 ≤ 29 - z by omega) (show 0 ≤ 29 + z by omega)
    have e : (29 - z) * (29 + z) = 841 - z * z := by grind
    omega
/-- the sum of the odd divisors, of those that 4 doesn't divide, the count of primitive ones: as the loops go -/
def cA (N : Nat) : Nat → Nat → Nat → Nat
  | 0, _, acc => acc
  | d + 1, m, acc => if m ≤ N then cA N d (m + 2) (if N % m = 0 then acc + m else acc) else acc
def mAll (N : Nat) : Nat := 24 * cA N 102 1 0
def cW (N : Nat) : Nat → Nat → Nat → Nat
  | 0, _, acc => acc
  | d + 1, m, acc => if m ≤ N then cW N d (m + 1) (if N % m = 0 then (if m % 4 = 0 then acc else acc + m) else acc) else acc
def mWhole (N : Nat) : Nat := 8 * cW N 202 1 0
def cP (N : Nat) : Nat → Int32
  | 0 => 0
  | k + 1 => if N % ((k + 1) * (k + 1)) = 0 then cP N k + uSg.getD (k + 1) 0 * nI (mAll (N / ((k + 1) * (k + 1)))) else cP N k
/-- the pairs c, d with c c + d d = m, the greatest first; c, d from 28 down -/
def bD (m c : Int) : Nat → List Int
  | 0 => []
  | k + 1 => if c * c + ((k : Int) - 28) * ((k : Int) - 28) = m then ((k : Int) - 28) :: bD m c k else bD m c k
def bC (m : Int) : Nat → List (Int × Int)
  | 0 => []
  | k + 1 => (bD m ((k : Int) - 28) 57).map (fun d => ((k : Int) - 28, d)) ++ bC m k
/-- the numbers with the norm N, the greatest first: by b, then by a -/
def fB (N : Nat) (a : Int) : Nat → List (Int × Int × Int × Int)
  | 0 => []
  | k + 1 => (bC (4 * N - a * a - (2 * (k : Int) - 28 + a % 2) * (2 * (k : Int) - 28 + a % 2)) 57).map (fun t => (a, 2 * (k : Int) - 28 + a % 2, t.1, t.2)) ++ fB N a k
def fA (N : Nat) : Nat → List (Int × Int × Int × Int)
  | 0 => []
  | k + 1 => fB N ((k : Int) - 28) (29 - (((k : Int) - 28) % 2).toNat) ++ fA N k
def q4i (t : Int × Int × Int × Int) : Q4 := ((iI t.1).toInt64, (iI t.2.1).toInt64, (iI t.2.2.1).toInt64, (iI t.2.2.2).toInt64)
def pw (m : Int32) : Int32 := if m < 0 then 0 else if 801 ≤ m then 0 else prs m.toNatClampNeg

theorem sq14 {k : Nat} (h : k ≤ 13) : 0 < (k + 1) * (k + 1) ∧ (k + 1) * (k + 1) ≤ 196 := ⟨Nat.mul_pos (by omega) (by omega), Nat.mul_le_mul (show k + 1 ≤ 14 by omega) (show k + 1 ≤ 14 by omega)⟩
theorem le801 {mm : Int32} (h : ¬ mm < 0) (h2 : 801 ≤ mm.toNatClampNeg) : (801 : Int32) ≤ mm := by
  obtain ⟨j, hj, rfl⟩ := nI_of h
  rw [nI_clamp hj] at h2
  exact nI_le (a := 801) h2 hj
set_option maxHeartbeats 4000000 in
set_option maxRecDepth 100000 in
theorem c_X0_countAll (l : Launch) (G : GG) (A : Nat → Prop) (L : List Nat) (F : FM) (N : Nat) (hN : N ≤ 200) : HT l yX0_countAll wsX0_countAll { frames := 0, cells := 0, slots := 0, locals := 0 } G A L [.int (nI N)] F (some (.int (nI (mAll N)))) F := by
  refine HT.ofW (cc := cX0_countAll) (maxL := 3) (ret := (some .int)) (plainFor_of_name (by decide)) rfl (Nat.le_of_ble_eq_true rfl) ?_
  intro p e s m below meth c ls hx hb hr hml hown hts hlk hE hw hl
  have hl : lv_has ls 3 [(0, .int (nI N))] := hl
  have hown : s.vm.findClass RX0 = some m.cls := hown
  have loop : ∀ (d mm acc : Nat) (H : Heap) (locs : List Loc) (ls : Array Slot), 0 < mm → mm ≤ N + 2 → N < mm + 2 * d → cA N d mm acc = cA N 102 1 0 → wo G A s.heap L F H locs → lv_has ls 3 [(0, .int (nI N)), (1, .int (nI acc)), (2, .int (nI mm))] → W p l e { frames := 0, cells := 0, slots := 0, locals := 0 } s m ([.int (nI N)].toArray) below meth c H locs 0 0 (MQ below (QH G A L (some (.int (nI (mAll N)))) F) ([.int (nI N)].toArray) s 0 0 A) (F0 m 4 ls []) := by
    intro d
    induction d with
    | zero =>
      intro mm acc H locs ls h0 h1 h2 he hw hl
      refine lv_iload_n hx hb dX0_countAll_4 rfl (lv_at hl 2 rfl) ?_
      refine lv_iload_n hx hb dX0_countAll_5 rfl (lv_at hl 0 rfl) ?_
      refine lv_icmp_gt (tgt := 25) hx hb dX0_countAll_6 (by decide) (fun c_6 => ?_) (fun c_6 => ?_)
      · skip
        refine lv_bipush (v := 24) hx hb dX0_countAll_25 (by decide) ?_
        refine lv_iload_n hx hb dX0_countAll_27 rfl (lv_at hl 1 rfl) ?_
        refine lv_imul hx hb dX0_countAll_28 ?_
        exact h_iret hx hb hlk hr hw dX0_countAll_29 (by unfold mAll; rw [← he, show (24 : Int32) = nI 24 from rfl, pk_mul]; rfl) rfl
      · skip
        exact absurd (nI_lt (show N < mm by omega) (by omega)) c_6
    | succ d ih =>
      intro mm acc H locs ls h0 h1 h2 he hw hl
      have hm0 : ¬ nI mm = 0 := nI_ne0 h0 (by omega)
      have hrem : nI N - nI N / nI mm * nI mm = nI (N % mm) := pk_rem (by omega) h0 (by omega)
      refine lv_iload_n hx hb dX0_countAll_4 rfl (lv_at hl 2 rfl) ?_
      refine lv_iload_n hx hb dX0_countAll_5 rfl (lv_at hl 0 rfl) ?_
      refine lv_icmp_gt (tgt := 25) hx hb dX0_countAll_6 (by decide) (fun c_6 => ?_) (fun c_6 => ?_)
      · skip
        have hlt : ¬ mm ≤ N := fun q => absurd c_6 (nI_nlt q (by omega))
        refine lv_bipush (v := 24) hx hb dX0_countAll_25 (by decide) ?_
        refine lv_iload_n hx hb dX0_countAll_27 rfl (lv_at hl 1 rfl) ?_
        refine lv_imul hx hb dX0_countAll_28 ?_
        exact h_iret hx hb hlk hr hw dX0_countAll_29 (by unfold mAll; rw [← he, cA, if_neg hlt, show (24 : Int32) = nI 24 from rfl, pk_mul]) rfl
      · skip
        have hle : mm ≤ N := Nat.not_lt.mp (fun q => c_6 (nI_lt q (by omega)))
        refine lv_iload_n hx hb dX0_countAll_9 rfl (lv_at hl 0 rfl) ?_
        refine lv_iload_n hx hb dX0_countAll_10 rfl (lv_at hl 2 rfl) ?_
        refine lv_irem hx hb dX0_countAll_11 hm0 ?_
        refine lv_if_ne (tgt := 19) hx hb dX0_countAll_12 (by decide) (fun c_12 => ?_) (fun c_12 => ?_)
        · skip
          have hz : ¬ N % mm = 0 := fun q => c_12 (by rw [hrem, q]; rfl)
          obtain ⟨i9, ei9⟩ : ∃ y : Int32, y = (nI mm) + 2 := ⟨_, rfl⟩
          refine lv_iinc (v := i9) (lv' := [(2, .int i9), (0, .int (nI N)), (1, .int (nI acc))]) hx hb dX0_countAll_19 hl (k := 2) rfl (by rw [ei9, show Int32.ofInt (2) = 2 from by decide]) (by decide) rfl (fun ls hl => ?_)
          refine lv_goto (tgt := 4) hx hb dX0_countAll_22 (by decide) ?_
          exact ih (mm + 2) (acc) _ _ ls (by omega) (by omega) (by omega) (by rw [← he]; conv => rhs; rw [cA, if_pos hle, if_neg hz]) hw (lv_sub (l' := [(0, .int (nI N)), (1, .int (nI (acc))), (2, .int (nI (mm + 2)))]) hl [1, 2, 0] (by rw [← nI_add mm 2, ← show i9 = nI mm + nI 2 from ei9]; rfl))
        · skip
          have hz : N % mm = 0 := (nI_eq (a := N % mm) (b := 0) (Nat.lt_of_le_of_lt (Nat.mod_le _ _) (by omega)) (by decide)).mp (by rw [← hrem]; exact c_12)
          refine lv_iload_n hx hb dX0_countAll_15 rfl (lv_at hl 1 rfl) ?_
          refine lv_iload_n hx hb dX0_countAll_16 rfl (lv_at hl 2 rfl) ?_
          refine lv_iadd hx hb dX0_countAll_17 ?_
          refine lv_istore_n (lv' := [(1, .int ((nI acc) + (nI mm))), (0, .int (nI N)), (2, .int (nI mm))]) hx hb dX0_countAll_18 rfl hl (by decide) rfl (fun ls hl => ?_)
          obtain ⟨i9, ei9⟩ : ∃ y : Int32, y = (nI mm) + 2 := ⟨_, rfl⟩
          refine lv_iinc (v := i9) (lv' := [(2, .int i9), (1, .int ((nI acc) + (nI mm))), (0, .int (nI N))]) hx hb dX0_countAll_19 hl (k := 2) rfl (by rw [ei9, show Int32.ofInt (2) = 2 from by decide]) (by decide) rfl (fun ls hl => ?_)
          refine lv_goto (tgt := 4) hx hb dX0_countAll_22 (by decide) ?_
          exact ih (mm + 2) (acc + mm) _ _ ls (by omega) (by omega) (by omega) (by rw [← he]; conv => rhs; rw [cA, if_pos hle, if_pos hz]) hw (lv_sub (l' := [(0, .int (nI N)), (1, .int (nI (acc + mm))), (2, .int (nI (mm + 2)))]) hl [2, 1, 0] (by rw [← nI_add mm 2, ← show i9 = nI mm + nI 2 from ei9, ← nI_add acc mm]; rfl))
  refine lv_iconst (v := 0) hx hb dX0_countAll_0 (by decide) ?_
  refine lv_istore_n (lv' := [(1, .int 0), (0, .int (nI N))]) hx hb dX0_countAll_1 rfl hl (by decide) rfl (fun ls hl => ?_)
  refine lv_iconst (v := 1) hx hb dX0_countAll_2 (by decide) ?_
  refine lv_istore_n (lv' := [(2, .int 1), (1, .int 0), (0, .int (nI N))]) hx hb dX0_countAll_3 rfl hl (by decide) rfl (fun ls hl => ?_)
  exact loop 102 1 0 _ _ ls (by decide) (by omega) (by omega) rfl hw (lv_sub (l' := [(0, .int (nI N)), (1, .int (nI 0)), (2, .int (nI 1))]) hl [2, 1, 0] rfl)

set_option maxHeartbeats 4000000 in
set_option maxRecDepth 100000 in
theorem c_X0_countWhole (l : Launch) (G : GG) (A : Nat → Prop) (L : List Nat) (F : FM) (N : Nat) (hN : N ≤ 200) : HT l yX0_countWhole wsX0_countWhole { frames := 0, cells := 0, slots := 0, locals := 0 } G A L [.int (nI N)] F (some (.int (nI (mWhole N)))) F := by
  refine HT.ofW (cc := cX0_countWhole) (maxL := 3) (ret := (some .int)) (plainFor_of_name (by decide)) rfl (Nat.le_of_ble_eq_true rfl) ?_
  intro p e s m below meth c ls hx hb hr hml hown hts hlk hE hw hl
  have hl : lv_has ls 3 [(0, .int (nI N))] := hl
  have hown : s.vm.findClass RX0 = some m.cls := hown
  have loop : ∀ (d mm acc : Nat) (H : Heap) (locs : List Loc) (ls : Array Slot), 0 < mm → mm ≤ N + 2 → N < mm + d → cW N d mm acc = cW N 202 1 0 → wo G A s.heap L F H locs → lv_has ls 3 [(0, .int (nI N)), (1, .int (nI acc)), (2, .int (nI mm))] → W p l e { frames := 0, cells := 0, slots := 0, locals := 0 } s m ([.int (nI N)].toArray) below meth c H locs 0 0 (MQ below (QH G A L (some (.int (nI (mWhole N)))) F) ([.int (nI N)].toArray) s 0 0 A) (F0 m 4 ls []) := by
    intro d
    induction d with
    | zero =>
      intro mm acc H locs ls h0 h1 h2 he hw hl
      refine lv_iload_n hx hb dX0_countWhole_4 rfl (lv_at hl 2 rfl) ?_
      refine lv_iload_n hx hb dX0_countWhole_5 rfl (lv_at hl 0 rfl) ?_
      refine lv_icmp_gt (tgt := 31) hx hb dX0_countWhole_6 (by decide) (fun c_6 => ?_) (fun c_6 => ?_)
      · skip
        refine lv_bipush (v := 8) hx hb dX0_countWhole_31 (by decide) ?_
        refine lv_iload_n hx hb dX0_countWhole_33 rfl (lv_at hl 1 rfl) ?_
        refine lv_imul hx hb dX0_countWhole_34 ?_
        exact h_iret hx hb hlk hr hw dX0_countWhole_35 (by unfold mWhole; rw [← he, show (8 : Int32) = nI 8 from rfl, pk_mul]; rfl) rfl
      · skip
        exact absurd (nI_lt (show N < mm by omega) (by omega)) c_6
    | succ d ih =>
      intro mm acc H locs ls h0 h1 h2 he hw hl
      have hm0 : ¬ nI mm = 0 := nI_ne0 h0 (by omega)
      have hrem : nI N - nI N / nI mm * nI mm = nI (N % mm) := pk_rem (by omega) h0 (by omega)
      have hrem4 : nI mm - nI mm / 4 * 4 = nI (mm % 4) := pk_rem (d := 4) (by omega) (by decide) (by decide)
      refine lv_iload_n hx hb dX0_countWhole_4 rfl (lv_at hl 2 rfl) ?_
      refine lv_iload_n hx hb dX0_countWhole_5 rfl (lv_at hl 0 rfl) ?_
      refine lv_icmp_gt (tgt := 31) hx hb dX0_countWhole_6 (by decide) (fun c_6 => ?_) (fun c_6 => ?_)
      · skip
        have hlt : ¬ mm ≤ N := fun q => absurd c_6 (nI_nlt q (by omega))
        refine lv_bipush (v := 8) hx hb dX0_countWhole_31 (by decide) ?_
        refine lv_iload_n hx hb dX0_countWhole_33 rfl (lv_at hl 1 rfl) ?_
        refine lv_imul hx hb dX0_countWhole_34 ?_
        exact h_iret hx hb hlk hr hw dX0_countWhole_35 (by unfold mWhole; rw [← he, cW, if_neg hlt, show (8 : Int32) = nI 8 from rfl, pk_mul]) rfl
      · skip
        have hle : mm ≤ N := Nat.not_lt.mp (fun q => c_6 (nI_lt q (by omega)))
        refine lv_iload_n hx hb dX0_countWhole_9 rfl (lv_at hl 0 rfl) ?_
        refine lv_iload_n hx hb dX0_countWhole_10 rfl (lv_at hl 2 rfl) ?_
        refine lv_irem hx hb dX0_countWhole_11 hm0 ?_
        refine lv_if_ne (tgt := 25) hx hb dX0_countWhole_12 (by decide) (fun c_12 => ?_) (fun c_12 => ?_)
        · skip
          have hz : ¬ N % mm = 0 := fun q => c_12 (by rw [hrem, q]; rfl)
          obtain ⟨i9, ei9⟩ : ∃ y : Int32, y = (nI mm) + 1 := ⟨_, rfl⟩
          refine lv_iinc (v := i9) (lv' := [(2, .int i9), (0, .int (nI N)), (1, .int (nI acc))]) hx hb dX0_countWhole_25 hl (k := 2) rfl (by rw [ei9, show Int32.ofInt (1) = 1 from by decide]) (by decide) rfl (fun ls hl => ?_)
          refine lv_goto (tgt := 4) hx hb dX0_countWhole_28 (by decide) ?_
          exact ih (mm + 1) (acc) _ _ ls (by omega) (by omega) (by omega) (by rw [← he]; conv => rhs; rw [cW, if_pos hle, if_neg hz]) hw (lv_sub (l' := [(0, .int (nI N)), (1, .int (nI (acc))), (2, .int (nI (mm + 1)))]) hl [1, 2, 0] (by rw [← nI_add mm 1, ← show i9 = nI mm + nI 1 from ei9]; rfl))
        · skip
          have hz : N % mm = 0 := (nI_eq (a := N % mm) (b := 0) (Nat.lt_of_le_of_lt (Nat.mod_le _ _) (by omega)) (by decide)).mp (by rw [← hrem]; exact c_12)
          refine lv_iload_n hx hb dX0_countWhole_15 rfl (lv_at hl 2 rfl) ?_
          refine lv_iconst (v := 4) hx hb dX0_countWhole_16 (by decide) ?_
          refine lv_irem hx hb dX0_countWhole_17 (by decide) ?_
          refine lv_if_eq (tgt := 25) hx hb dX0_countWhole_18 (by decide) (fun c_18 => ?_) (fun c_18 => ?_)
          · skip
            have hy : mm % 4 = 0 := (nI_eq (a := mm % 4) (b := 0) (by omega) (by decide)).mp (by rw [← hrem4]; exact c_18)
            obtain ⟨i9, ei9⟩ : ∃ y : Int32, y = (nI mm) + 1 := ⟨_, rfl⟩
            refine lv_iinc (v := i9) (lv' := [(2, .int i9), (0, .int (nI N)), (1, .int (nI acc))]) hx hb dX0_countWhole_25 hl (k := 2) rfl (by rw [ei9, show Int32.ofInt (1) = 1 from by decide]) (by decide) rfl (fun ls hl => ?_)
            refine lv_goto (tgt := 4) hx hb dX0_countWhole_28 (by decide) ?_
            exact ih (mm + 1) (acc) _ _ ls (by omega) (by omega) (by omega) (by rw [← he]; conv => rhs; rw [cW, if_pos hle, if_pos hz, if_pos hy]) hw (lv_sub (l' := [(0, .int (nI N)), (1, .int (nI (acc))), (2, .int (nI (mm + 1)))]) hl [1, 2, 0] (by rw [← nI_add mm 1, ← show i9 = nI mm + nI 1 from ei9]; rfl))
          · skip
            have hy : ¬ mm % 4 = 0 := fun q => c_18 (by rw [hrem4, q]; rfl)
            refine lv_iload_n hx hb dX0_countWhole_21 rfl (lv_at hl 1 rfl) ?_
            refine lv_iload_n hx hb dX0_countWhole_22 rfl (lv_at hl 2 rfl) ?_
            refine lv_iadd hx hb dX0_countWhole_23 ?_
            refine lv_istore_n (lv' := [(1, .int ((nI acc) + (nI mm))), (0, .int (nI N)), (2, .int (nI mm))]) hx hb dX0_countWhole_24 rfl hl (by decide) rfl (fun ls hl => ?_)
            obtain ⟨i9, ei9⟩ : ∃ y : Int32, y = (nI mm) + 1 := ⟨_, rfl⟩
            refine lv_iinc (v := i9) (lv' := [(2, .int i9), (1, .int ((nI acc) + (nI mm))), (0, .int (nI N))]) hx hb dX0_countWhole_25 hl (k := 2) rfl (by rw [ei9, show Int32.ofInt (1) = 1 from by decide]) (by decide) rfl (fun ls hl => ?_)
            refine lv_goto (tgt := 4) hx hb dX0_countWhole_28 (by decide) ?_
            exact ih (mm + 1) (acc + mm) _ _ ls (by omega) (by omega) (by omega) (by rw [← he]; conv => rhs; rw [cW, if_pos hle, if_pos hz, if_neg hy]) hw (lv_sub (l' := [(0, .int (nI N)), (1, .int (nI (acc + mm))), (2, .int (nI (mm + 1)))]) hl [2, 1, 0] (by rw [← nI_add mm 1, ← show i9 = nI mm + nI 1 from ei9, ← nI_add acc mm]; rfl))
  refine lv_iconst (v := 0) hx hb dX0_countWhole_0 (by decide) ?_
  refine lv_istore_n (lv' := [(1, .int 0), (0, .int (nI N))]) hx hb dX0_countWhole_1 rfl hl (by decide) rfl (fun ls hl => ?_)
  refine lv_iconst (v := 1) hx hb dX0_countWhole_2 (by decide) ?_
  refine lv_istore_n (lv' := [(2, .int 1), (1, .int 0), (0, .int (nI N))]) hx hb dX0_countWhole_3 rfl hl (by decide) rfl (fun ls hl => ?_)
  exact loop 202 1 0 _ _ ls (by decide) (by omega) (by omega) rfl hw (lv_sub (l' := [(0, .int (nI N)), (1, .int (nI 0)), (2, .int (nI 1))]) hl [2, 1, 0] rfl)

set_option maxHeartbeats 4000000 in
set_option maxRecDepth 100000 in
theorem c_X0_countPrimitive (l : Launch) (G : GG) (A : Nat → Prop) (L : List Nat) (F : FM) (N : Nat) (hN : N ≤ 200) : HT l yX0_countPrimitive wsX0_countPrimitive { frames := 1, cells := 0, slots := 0, locals := 22 } G A L [.int (nI N)] F (some (.int (cP N 14))) F := by
  refine HT.ofW (cc := cX0_countPrimitive) (maxL := 3) (ret := (some .int)) (plainFor_of_name (by decide)) rfl (Nat.le_of_ble_eq_true rfl) ?_
  intro p e s m below meth c ls hx hb hr hml hown hts hlk hE hw hl
  have hl : lv_has ls 3 [(0, .int (nI N))] := hl
  have hown : s.vm.findClass RX0 = some m.cls := hown
  obtain ⟨tS, hZS, hTS⟩ := hE.2.2.1
  have hlk15 := hts (.fieldLink RX0 15 "FourParts$Norms" "SIGNS" "[I") (by decide +kernel)
  have loop : ∀ (d k : Nat) (H : Heap) (locs : List Loc) (ls : Array Slot), d + k = 14 → wo G A s.heap L F H locs → lv_has ls 3 [(0, .int (nI N)), (1, .int (cP N k)), (2, .int (nI (k + 1)))] → W p l e { frames := 1, cells := 0, slots := 0, locals := 22 } s m ([.int (nI N)].toArray) below meth c H locs 0 0 (MQ below (QH G A L (some (.int (cP N 14))) F) ([.int (nI N)].toArray) s 0 0 A) (F0 m 4 ls []) := by
    intro d
    induction d with
    | zero =>
      intro k H locs ls hd hw hl
      refine lv_iload_n hx hb dX0_countPrimitive_4 rfl (lv_at hl 2 rfl) ?_
      refine va_gets hx hb hZS hw.2 hown hlk15 (fun _ h9 => h9) dX0_countPrimitive_5 ?_
      refine va_tlen hx hb hTS hw.2 (v := 15) rfl dX0_countPrimitive_8 ?_
      refine lv_icmp_ge (tgt := 43) hx hb dX0_countPrimitive_9 (by decide) (fun c_9 => ?_) (fun c_9 => ?_)
      · skip
        refine lv_iload_n hx hb dX0_countPrimitive_43 rfl (lv_at hl 1 rfl) ?_
        exact h_iret hx hb hlk hr hw dX0_countPrimitive_44 (by rw [show k = 14 by omega]) rfl
      · skip
        exact absurd (nI_le (a := 15) (b := k + 1) (by omega) (by omega)) c_9
    | succ d ih =>
      intro k H locs ls hd hw hl
      have hsq : 0 < (k + 1) * (k + 1) ∧ (k + 1) * (k + 1) ≤ 196 := sq14 (by omega)
      have hmm : nI (k + 1) * nI (k + 1) = nI ((k + 1) * (k + 1)) := pk_mul _ _
      have hne : ¬ nI ((k + 1) * (k + 1)) = 0 := nI_ne0 hsq.1 (by omega)
      have hrem : nI N - nI N / nI ((k + 1) * (k + 1)) * nI ((k + 1) * (k + 1)) = nI (N % ((k + 1) * (k + 1))) := pk_rem (by omega) hsq.1 (by omega)
      have hdv : nI N / nI ((k + 1) * (k + 1)) = nI (N / ((k + 1) * (k + 1))) := pk_div (by omega) hsq.1 (by omega)
      have hdl : N / ((k + 1) * (k + 1)) ≤ 200 := Nat.le_trans (Nat.div_le_self _ _) hN
      refine lv_iload_n hx hb dX0_countPrimitive_4 rfl (lv_at hl 2 rfl) ?_
      refine va_gets hx hb hZS hw.2 hown hlk15 (fun _ h9 => h9) dX0_countPrimitive_5 ?_
      refine va_tlen hx hb hTS hw.2 (v := 15) rfl dX0_countPrimitive_8 ?_
      refine lv_icmp_ge (tgt := 43) hx hb dX0_countPrimitive_9 (by decide) (fun c_9 => ?_) (fun c_9 => ?_)
      · skip
        exact absurd c_9 (nI_ge (a := k + 1) (b := 15) (by omega) (by decide))
      · skip
        refine lv_iload_n hx hb dX0_countPrimitive_12 rfl (lv_at hl 0 rfl) ?_
        refine lv_iload_n hx hb dX0_countPrimitive_13 rfl (lv_at hl 2 rfl) ?_
        refine lv_iload_n hx hb dX0_countPrimitive_14 rfl (lv_at hl 2 rfl) ?_
        refine lv_imul hx hb dX0_countPrimitive_15 ?_
        refine W.eq (g2 := F0 m 16 ls [.int (nI ((k + 1) * (k + 1))), .int (nI N)]) (by rw [hmm]) ?_
        refine lv_irem hx hb dX0_countPrimitive_16 hne ?_
        refine lv_if_ne (tgt := 37) hx hb dX0_countPrimitive_17 (by decide) (fun c_17 => ?_) (fun c_17 => ?_)
        · skip
          have hz : ¬ N % ((k + 1) * (k + 1)) = 0 := fun q => c_17 (by rw [hrem, q]; rfl)
          obtain ⟨i9, ei9⟩ : ∃ y : Int32, y = (nI (k + 1)) + 1 := ⟨_, rfl⟩
          refine lv_iinc (v := i9) (lv' := [(2, .int i9), (0, .int (nI N)), (1, .int (cP N k))]) hx hb dX0_countPrimitive_37 hl (k := 2) rfl (by rw [ei9, show Int32.ofInt (1) = 1 from by decide]) (by decide) rfl (fun ls hl => ?_)
          refine lv_goto (tgt := 4) hx hb dX0_countPrimitive_40 (by decide) ?_
          have hcp : cP N (k + 1) = cP N k := by rw [cP, if_neg hz]
          exact ih (k + 1) _ _ ls (by omega) hw (lv_sub (l' := [(0, .int (nI N)), (1, .int (cP N (k + 1))), (2, .int (nI (k + 1 + 1)))]) hl [1, 2, 0] (by rw [hcp, ← nI_1 (k + 1), ← ei9]; rfl))
        · skip
          have hz : N % ((k + 1) * (k + 1)) = 0 := (nI_eq (a := N % ((k + 1) * (k + 1))) (b := 0) (Nat.lt_of_le_of_lt (Nat.mod_le _ _) (by omega)) (by decide)).mp (by rw [← hrem]; exact c_17)
          refine lv_iload_n hx hb dX0_countPrimitive_20 rfl (lv_at hl 1 rfl) ?_
          refine va_gets hx hb hZS hw.2 hown hlk15 (fun _ h9 => h9) dX0_countPrimitive_21 ?_
          refine lv_iload_n hx hb dX0_countPrimitive_24 rfl (lv_at hl 2 rfl) ?_
          refine va_ti hx hb hTS hw.2 (vp_in_nI (show k + 1 < 15 by omega) (by decide)) (v := .int (uSg.getD (k + 1) 0)) (by rw [nI_clamp (by omega)]; rfl) dX0_countPrimitive_25 ?_
          refine lv_iload_n hx hb dX0_countPrimitive_26 rfl (lv_at hl 0 rfl) ?_
          refine lv_iload_n hx hb dX0_countPrimitive_27 rfl (lv_at hl 2 rfl) ?_
          refine lv_iload_n hx hb dX0_countPrimitive_28 rfl (lv_at hl 2 rfl) ?_
          refine lv_imul hx hb dX0_countPrimitive_29 ?_
          refine W.eq (g2 := F0 m 30 ls [.int (nI ((k + 1) * (k + 1))), .int (nI N), .int (uSg.getD (k + 1) 0), .int (cP N k)]) (by rw [hmm]) ?_
          refine lv_idiv hx hb dX0_countPrimitive_30 hne ?_
          refine W.eq (g2 := F0 m 31 ls [.int (nI (N / ((k + 1) * (k + 1)))), .int (uSg.getD (k + 1) 0), .int (cP N k)]) (by rw [hdv]) ?_
          refine h_callS (st1 := [.int (nI (mAll (N / ((k + 1) * (k + 1))))), .int (uSg.getD (k + 1) 0), .int (cP N k)]) [.int (nI (N / ((k + 1) * (k + 1))))] [.int (uSg.getD (k + 1) 0), .int (cP N k)] ⟨hx, hb, hml, hown, hts⟩ hE hw (c_X0_countAll l G A L F (N / ((k + 1) * (k + 1))) hdl) (va_cwS 1 hts gX0_countPrimitive_X0_countAll rfl rfl rfl (by decide +kernel) ⟨Nat.le_of_ble_eq_true rfl, Nat.le_of_ble_eq_true rfl⟩) rfl hl.1 rfl (Nat.le_of_ble_eq_true rfl) dX0_countPrimitive_31 ⟨Nat.le_of_ble_eq_true rfl, Nat.le_of_ble_eq_true rfl⟩ rfl (fun H locs hw => ?_)
          refine lv_imul hx hb dX0_countPrimitive_34 ?_
          refine lv_iadd hx hb dX0_countPrimitive_35 ?_
          refine lv_istore_n (lv' := [(1, .int ((cP N k) + ((uSg.getD (k + 1) 0) * (nI (mAll (N / ((k + 1) * (k + 1)))))))), (0, .int (nI N)), (2, .int (nI (k + 1)))]) hx hb dX0_countPrimitive_36 rfl hl (by decide) rfl (fun ls hl => ?_)
          obtain ⟨i9, ei9⟩ : ∃ y : Int32, y = (nI (k + 1)) + 1 := ⟨_, rfl⟩
          refine lv_iinc (v := i9) (lv' := [(2, .int i9), (1, .int ((cP N k) + ((uSg.getD (k + 1) 0) * (nI (mAll (N / ((k + 1) * (k + 1)))))))), (0, .int (nI N))]) hx hb dX0_countPrimitive_37 hl (k := 2) rfl (by rw [ei9, show Int32.ofInt (1) = 1 from by decide]) (by decide) rfl (fun ls hl => ?_)
          refine lv_goto (tgt := 4) hx hb dX0_countPrimitive_40 (by decide) ?_
          have hcp : cP N (k + 1) = (cP N k) + ((uSg.getD (k + 1) 0) * (nI (mAll (N / ((k + 1) * (k + 1)))))) := by rw [cP, if_pos hz]
          exact ih (k + 1) _ _ ls (by omega) hw (lv_sub (l' := [(0, .int (nI N)), (1, .int (cP N (k + 1))), (2, .int (nI (k + 1 + 1)))]) hl [2, 1, 0] (by rw [hcp, ← nI_1 (k + 1), ← ei9]; rfl))
  refine lv_iconst (v := 0) hx hb dX0_countPrimitive_0 (by decide) ?_
  refine lv_istore_n (lv' := [(1, .int 0), (0, .int (nI N))]) hx hb dX0_countPrimitive_1 rfl hl (by decide) rfl (fun ls hl => ?_)
  refine lv_iconst (v := 1) hx hb dX0_countPrimitive_2 (by decide) ?_
  refine lv_istore_n (lv' := [(2, .int 1), (1, .int 0), (0, .int (nI N))]) hx hb dX0_countPrimitive_3 rfl hl (by decide) rfl (fun ls hl => ?_)
  exact loop 14 0 _ _ ls rfl hw (lv_sub (l' := [(0, .int (nI N)), (1, .int (cP N 0)), (2, .int (nI (0 + 1)))]) hl [2, 1, 0] rfl)

set_option maxHeartbeats 4000000 in
set_option maxRecDepth 100000 in
theorem c_X0_pairsWith (l : Launch) (G : GG) (A : Nat → Prop) (ad : Nat → Nat) (F : FM) (S : CS) (hC : CW G ad S F) (mm : Int32) : HT l yX0_pairsWith wsX0_pairsWith { frames := 0, cells := 0, slots := 0, locals := 0 } G A (CL ad) [.ref (ad 55), .int mm] F (some (.int (pw mm))) F := by
  refine HT.ofW (cc := cX0_pairsWith) (maxL := 2) (ret := (some .int)) (plainFor_of_name (by decide)) rfl (Nat.le_of_ble_eq_true rfl) ?_
  intro p e s m below meth c ls hx hb hr hml hown hts hlk hE hw hl
  have hl : lv_has ls 2 [(0, .ref (ad 55)), (1, .int mm)] := hl
  have hown : s.vm.findClass RX0 = some m.cls := hown
  have lk_9 := hts (.fieldLink RX0 9 "FourParts$Norms" "pairs" "[I") (by decide +kernel)
  have hinX0 : ∀ w ∈ u_ws RX0 TX0 1, w ∈ wsX0_pairsWith := by decide +kernel
  refine lv_iload_n hx hb dX0_pairsWith_0 rfl (lv_at hl 1 rfl) ?_
  refine lv_if_lt (tgt := 22) hx hb dX0_pairsWith_1 (by decide) (fun c_1 => ?_) (fun c_1 => ?_)
  · skip
    refine lv_iconst (v := 0) hx hb dX0_pairsWith_22 (by decide) ?_
    exact h_iret hx hb hlk hr hw dX0_pairsWith_23 (by unfold pw; rw [if_pos c_1]) rfl
  · skip
    refine lv_iload_n hx hb dX0_pairsWith_4 rfl (lv_at hl 1 rfl) ?_
    refine lv_aload_n hx hb dX0_pairsWith_5 rfl (lv_at hl 0 rfl) ?_
    refine h_get hx hb hE hw hts hinX0 hown (ci := 0) rfl 0 (by decide) lk_9 (fun _ h9 => h9) hC.nm rfl dX0_pairsWith_6 ?_
    refine h_ilen hx hb hE hw 0 rfl hC.pr (v := 801) rfl dX0_pairsWith_9 ?_
    refine lv_icmp_ge (tgt := 22) hx hb dX0_pairsWith_10 (by decide) (fun c_10 => ?_) (fun c_10 => ?_)
    · skip
      refine lv_iconst (v := 0) hx hb dX0_pairsWith_22 (by decide) ?_
      exact h_iret hx hb hlk hr hw dX0_pairsWith_23 (by unfold pw; rw [if_neg c_1, if_pos c_10]) rfl
    · skip
      have hin : vp_in mm 801 := fun z => z.elim c_1 (fun w => c_10 (le801 c_1 w))
      refine lv_aload_n hx hb dX0_pairsWith_13 rfl (lv_at hl 0 rfl) ?_
      refine h_get hx hb hE hw hts hinX0 hown (ci := 0) rfl 0 (by decide) lk_9 (fun _ h9 => h9) hC.nm rfl dX0_pairsWith_14 ?_
      refine lv_iload_n hx hb dX0_pairsWith_17 rfl (lv_at hl 1 rfl) ?_
      refine h_iald hx hb hE hw hC.pr hin (v := prs mm.toNatClampNeg) rfl dX0_pairsWith_18 ?_
      refine lv_goto (tgt := 23) hx hb dX0_pairsWith_19 (by decide) ?_
      exact h_iret hx hb hlk hr hw dX0_pairsWith_23 (by unfold pw; rw [if_neg c_1, if_neg c_10]) rfl

set_option maxHeartbeats 4000000 in
set_option maxRecDepth 100000 in
theorem c_X0_findPair (l : Launch) (G : GG) (A : Nat → Prop) (L : List Nat) (F : FM) (h0 : Nat) (x : Q4) (e0 : pt L F h0 (eq4 x)) (mm ta tb tc td : Int) (i : Nat) (hi : i < 2147483648) (hm1 : -2147483648 ≤ mm) (hm2 : mm < 2147483648) (hres : (bC mm 57)[i]? = some (tc, td)) : HT l yX0_findPair wsX0_findPair { frames := 1, cells := 0, slots := 0, locals := 28 } G A L [.int (iI mm), .int (nI i), .int (iI ta), .int (iI tb), .ref h0] F (some (.int 1)) (va_up F h0 (eq4 ((iI ta).toInt64, (iI tb).toInt64, (iI tc).toInt64, (iI td).toInt64))) := by
  refine HT.ofW (cc := cX0_findPair) (maxL := 8) (ret := (some .boolean)) (plainFor_of_name (by decide)) rfl (Nat.le_of_ble_eq_true rfl) ?_
  intro p e s m below meth c ls hx hb hr hml hown hts hlk hE hw hl
  have hl : lv_has ls 8 [(0, .int (iI mm)), (1, .int (nI i)), (2, .int (iI ta)), (3, .int (iI tb)), (4, .ref h0)] := hl
  have hown : s.vm.findClass RX0 = some m.cls := hown
  have outer : ∀ (kc j : Nat) (H : Heap) (locs : List Loc) (ls : Array Slot), kc ≤ 57 → j < 2147483648 → (bC mm kc)[j]? = some (tc, td) → wo G A s.heap L F H locs → lv_has ls 8 [(0, .int (iI mm)), (2, .int (iI ta)), (3, .int (iI tb)), (4, .ref h0), (5, .int (nI j)), (6, .int (iI ((kc : Int) - 29)))] → W p l e { frames := 1, cells := 0, slots := 0, locals := 28 } s m ([.int (iI mm), .int (nI i), .int (iI ta), .int (iI tb), .ref h0].toArray) below meth c H locs 0 0 (MQ below (QH G A L (some (.int 1)) (va_up F h0 (eq4 ((iI ta).toInt64, (iI tb).toInt64, (iI tc).toInt64, (iI td).toInt64)))) ([.int (iI mm), .int (nI i), .int (iI ta), .int (iI tb), .ref h0].toArray) s 0 0 A) (F0 m 7 ls []) := by
    intro kc
    induction kc with
    | zero =>
      intro j H locs ls _ _ hb0
      exact absurd hb0 (by simp [bC])
    | succ kc ihc =>
      intro j H locs ls hkc hj hres hw hl
      have inner : ∀ (kd j : Nat) (H : Heap) (locs : List Loc) (ls : Array Slot), kd ≤ 57 → j < 2147483648 → ((bD mm ((kc : Int) - 28) kd).map (fun d => ((kc : Int) - 28, d)) ++ bC mm kc)[j]? = some (tc, td) → wo G A s.heap L F H locs → lv_has ls 8 [(0, .int (iI mm)), (2, .int (iI ta)), (3, .int (iI tb)), (4, .ref h0), (5, .int (nI j)), (6, .int (iI ((kc : Int) - 28))), (7, .int (iI ((kd : Int) - 29)))] → W p l e { frames := 1, cells := 0, slots := 0, locals := 28 } s m ([.int (iI mm), .int (nI i), .int (iI ta), .int (iI tb), .ref h0].toArray) below meth c H locs 0 0 (MQ below (QH G A L (some (.int 1)) (va_up F h0 (eq4 ((iI ta).toInt64, (iI tb).toInt64, (iI tc).toInt64, (iI td).toInt64)))) ([.int (iI mm), .int (nI i), .int (iI ta), .int (iI tb), .ref h0].toArray) s 0 0 A) (F0 m 18 ls []) := by
        intro kd
        induction kd with
        | zero =>
          intro j H locs ls hkd hj hres hw hl
          refine lv_iload hx hb dX0_findPair_18 (lv_at hl 6 rfl) ?_
          refine lv_bipush (v := (-28)) hx hb dX0_findPair_20 (by decide) ?_
          refine lv_icmp_lt (tgt := 71) hx hb dX0_findPair_22 (by decide) (fun c_22 => ?_) (fun c_22 => ?_)
          · skip
            obtain ⟨i9, ei9⟩ : ∃ y : Int32, y = (iI ((kc : Int) - 28)) + (-1) := ⟨_, rfl⟩
            refine lv_iinc (v := i9) (lv' := [(6, .int i9), (0, .int (iI mm)), (2, .int (iI ta)), (3, .int (iI tb)), (4, .ref h0), (5, .int (nI j)), (7, .int (iI (((0 : Nat) : Int) - 29)))]) hx hb dX0_findPair_71 hl (k := 5) rfl (by rw [ei9, show Int32.ofInt (-1) = -1 from by decide]) (by decide) rfl (fun ls hl => ?_)
            refine lv_goto (tgt := 7) hx hb dX0_findPair_74 (by decide) ?_
            exact ihc j _ _ ls (by omega) hj (by simpa [bD] using hres) hw (lv_sub (l' := [(0, .int (iI mm)), (2, .int (iI ta)), (3, .int (iI tb)), (4, .ref h0), (5, .int (nI j)), (6, .int (iI ((kc : Int) - 29)))]) hl [1, 2, 3, 4, 5, 0] (by rw [show (kc : Int) - 29 = (kc : Int) - 28 + -1 by omega, ← iI_add, ← show i9 = iI ((kc : Int) - 28) + iI (-1) from ei9]; rfl))
          · skip
            exact absurd ((iI_lt (by omega) (by omega) (by omega) (by omega)).mpr (show (((0 : Nat) : Int) - 29) < -28 by omega)) c_22
        | succ kd ihd =>
          intro j H locs ls hkd hj hres hw hl
          have hl : lv_has ls 8 [(0, .int (iI mm)), (2, .int (iI ta)), (3, .int (iI tb)), (4, .ref h0), (5, .int (nI j)), (6, .int (iI ((kc : Int) - 28))), (7, .int (iI ((kd : Int) - 28)))] := by rw [show (((kd + 1 : Nat) : Int) - 29) = (kd : Int) - 28 by omega] at hl; exact hl
          have q1 := sq28 (k := kc) (by omega)
          have q2 := sq28 (k := kd) (by omega)
          refine lv_iload hx hb dX0_findPair_18 (lv_at hl 6 rfl) ?_
          refine lv_bipush (v := (-28)) hx hb dX0_findPair_20 (by decide) ?_
          refine lv_icmp_lt (tgt := 71) hx hb dX0_findPair_22 (by decide) (fun c_22 => ?_) (fun c_22 => ?_)
          · skip
            exact absurd ((iI_lt (by omega) (by omega) (by omega) (by omega)).mp (show iI ((kd : Int) - 28) < iI (-28) from c_22)) (by omega)
          · skip
            refine lv_iload hx hb dX0_findPair_25 (lv_at hl 5 rfl) ?_
            refine lv_iload hx hb dX0_findPair_27 (lv_at hl 5 rfl) ?_
            refine lv_imul hx hb dX0_findPair_29 ?_
            refine lv_iload hx hb dX0_findPair_30 (lv_at hl 6 rfl) ?_
            refine lv_iload hx hb dX0_findPair_32 (lv_at hl 6 rfl) ?_
            refine lv_imul hx hb dX0_findPair_34 ?_
            refine lv_iadd hx hb dX0_findPair_35 ?_
            refine W.eq (g2 := F0 m 36 ls [.int (iI (((kc : Int) - 28) * ((kc : Int) - 28) + ((kd : Int) - 28) * ((kd : Int) - 28)))]) (by rw [iI_mul, iI_mul, iI_add]) ?_
            refine lv_iload_n hx hb dX0_findPair_36 rfl (lv_at hl 0 rfl) ?_
            refine lv_icmp_ne (tgt := 65) hx hb dX0_findPair_37 (by decide) (fun c_37 => ?_) (fun c_37 => ?_)
            · skip
              have hz : ¬ ((kc : Int) - 28) * ((kc : Int) - 28) + ((kd : Int) - 28) * ((kd : Int) - 28) = mm := fun q => c_37 (by rw [q])
              obtain ⟨i9, ei9⟩ : ∃ y : Int32, y = (iI ((kd : Int) - 28)) + (-1) := ⟨_, rfl⟩
              refine lv_iinc (v := i9) (lv' := [(7, .int i9), (0, .int (iI mm)), (2, .int (iI ta)), (3, .int (iI tb)), (4, .ref h0), (5, .int (nI j)), (6, .int (iI ((kc : Int) - 28)))]) hx hb dX0_findPair_65 hl (k := 6) rfl (by rw [ei9, show Int32.ofInt (-1) = -1 from by decide]) (by decide) rfl (fun ls hl => ?_)
              refine lv_goto (tgt := 18) hx hb dX0_findPair_68 (by decide) ?_
              exact ihd j _ _ ls (by omega) hj (by rw [bD, if_neg hz] at hres; exact hres) hw (lv_sub (l' := [(0, .int (iI mm)), (2, .int (iI ta)), (3, .int (iI tb)), (4, .ref h0), (5, .int (nI j)), (6, .int (iI ((kc : Int) - 28))), (7, .int (iI ((kd : Int) - 29)))]) hl [1, 2, 3, 4, 5, 6, 0] (by rw [show (kd : Int) - 29 = (kd : Int) - 28 + -1 by omega, ← iI_add, ← show i9 = iI ((kd : Int) - 28) + iI (-1) from ei9]; rfl))
            · skip
              have hz : ((kc : Int) - 28) * ((kc : Int) - 28) + ((kd : Int) - 28) * ((kd : Int) - 28) = mm := (iI_eq (by omega) (by omega) (by omega) (by omega)).mp c_37
              rw [bD, if_pos hz] at hres
              refine lv_iload hx hb dX0_findPair_40 (lv_at hl 4 rfl) ?_
              refine lv_if_ne (tgt := 62) hx hb dX0_findPair_42 (by decide) (fun c_42 => ?_) (fun c_42 => ?_)
              · skip
                have hj0 : j ≠ 0 := fun q => c_42 (by rw [q]; rfl)
                obtain ⟨j2, rfl⟩ : ∃ j2, j = j2 + 1 := ⟨j - 1, by omega⟩
                obtain ⟨j9, ej9⟩ : ∃ y : Int32, y = (nI (j2 + 1)) + (-1) := ⟨_, rfl⟩
                refine lv_iinc (v := j9) (lv' := [(5, .int j9), (0, .int (iI mm)), (2, .int (iI ta)), (3, .int (iI tb)), (4, .ref h0), (6, .int (iI ((kc : Int) - 28))), (7, .int (iI ((kd : Int) - 28)))]) hx hb dX0_findPair_62 hl (k := 4) rfl (by rw [ej9, show Int32.ofInt (-1) = -1 from by decide]) (by decide) rfl (fun ls hl => ?_)
                obtain ⟨i9, ei9⟩ : ∃ y : Int32, y = (iI ((kd : Int) - 28)) + (-1) := ⟨_, rfl⟩
                refine lv_iinc (v := i9) (lv' := [(7, .int i9), (5, .int j9), (0, .int (iI mm)), (2, .int (iI ta)), (3, .int (iI tb)), (4, .ref h0), (6, .int (iI ((kc : Int) - 28)))]) hx hb dX0_findPair_65 hl (k := 6) rfl (by rw [ei9, show Int32.ofInt (-1) = -1 from by decide]) (by decide) rfl (fun ls hl => ?_)
                refine lv_goto (tgt := 18) hx hb dX0_findPair_68 (by decide) ?_
                have hj9 : j9 = nI j2 := by rw [ej9]; exact pk_m1 j2
                exact ihd j2 _ _ ls (by omega) (by omega) (by simpa using hres) hw (lv_sub (l' := [(0, .int (iI mm)), (2, .int (iI ta)), (3, .int (iI tb)), (4, .ref h0), (5, .int (nI j2)), (6, .int (iI ((kc : Int) - 28))), (7, .int (iI ((kd : Int) - 29)))]) hl [2, 3, 4, 5, 1, 6, 0] (by rw [show (kd : Int) - 29 = (kd : Int) - 28 + -1 by omega, ← iI_add, ← show i9 = iI ((kd : Int) - 28) + iI (-1) from ei9]; rw [← hj9]; rfl))
              · skip
                have hj0 : j = 0 := (nI_eq (a := j) (b := 0) (by omega) (by decide)).mp c_42
                subst hj0
                have ht : ((kc : Int) - 28, (kd : Int) - 28) = (tc, td) := by simpa using hres
                have ht1 : (kc : Int) - 28 = tc := congrArg Prod.fst ht
                have ht2 : (kd : Int) - 28 = td := congrArg Prod.snd ht
                refine lv_aload hx hb dX0_findPair_45 (lv_at hl 3 rfl) ?_
                refine lv_iload_n hx hb dX0_findPair_47 rfl (lv_at hl 1 rfl) ?_
                refine lv_i2l hx hb dX0_findPair_48 rfl ?_
                refine lv_iload_n hx hb dX0_findPair_49 rfl (lv_at hl 2 rfl) ?_
                refine lv_i2l hx hb dX0_findPair_50 rfl ?_
                refine lv_iload hx hb dX0_findPair_51 (lv_at hl 5 rfl) ?_
                refine lv_i2l hx hb dX0_findPair_53 rfl ?_
                refine lv_iload hx hb dX0_findPair_54 (lv_at hl 6 rfl) ?_
                refine lv_i2l hx hb dX0_findPair_56 rfl ?_
                refine h_callV (st1 := []) [.long ((iI ta).toInt64), .long ((iI tb).toInt64), .long ((iI ((kc : Int) - 28)).toInt64), .long ((iI ((kd : Int) - 28)).toInt64)] [] ⟨hx, hb, hml, hown, hts⟩ hE hw (c_X1_become l G A L F h0 x e0 ((iI ta).toInt64) ((iI tb).toInt64) ((iI ((kc : Int) - 28)).toInt64) ((iI ((kd : Int) - 28)).toInt64)) (cwV 4 hts gX0_findPair_X1_become rfl rfl rfl (by decide +kernel) ⟨Nat.le_of_ble_eq_true rfl, Nat.le_of_ble_eq_true rfl⟩) e0 rfl rfl rfl hl.1 rfl (Nat.le_of_ble_eq_true rfl) dX0_findPair_57 ⟨Nat.le_of_ble_eq_true rfl, Nat.le_of_ble_eq_true rfl⟩ rfl (fun H locs hw => ?_)
                refine lv_iconst (v := 1) hx hb dX0_findPair_60 (by decide) ?_
                exact h_zret hx hb hlk hr hw dX0_findPair_61 rfl rfl (by rw [ht1, ht2])
      have hl : lv_has ls 8 [(0, .int (iI mm)), (2, .int (iI ta)), (3, .int (iI tb)), (4, .ref h0), (5, .int (nI j)), (6, .int (iI ((kc : Int) - 28)))] := by rw [show (((kc + 1 : Nat) : Int) - 29) = (kc : Int) - 28 by omega] at hl; exact hl
      refine lv_iload hx hb dX0_findPair_7 (lv_at hl 5 rfl) ?_
      refine lv_bipush (v := (-28)) hx hb dX0_findPair_9 (by decide) ?_
      refine lv_icmp_lt (tgt := 77) hx hb dX0_findPair_11 (by decide) (fun c_11 => ?_) (fun c_11 => ?_)
      · skip
        exact absurd ((iI_lt (by omega) (by omega) (by omega) (by omega)).mp (show iI ((kc : Int) - 28) < iI (-28) from c_11)) (by omega)
      · skip
        refine lv_bipush (v := 28) hx hb dX0_findPair_14 (by decide) ?_
        refine lv_istore (lv' := [(7, .int 28), (0, .int (iI mm)), (2, .int (iI ta)), (3, .int (iI tb)), (4, .ref h0), (5, .int (nI j)), (6, .int (iI ((kc : Int) - 28)))]) hx hb dX0_findPair_16 hl (by decide) rfl (fun ls hl => ?_)
        exact inner 57 j _ _ ls (by omega) hj hres hw (lv_sub (l' := [(0, .int (iI mm)), (2, .int (iI ta)), (3, .int (iI tb)), (4, .ref h0), (5, .int (nI j)), (6, .int (iI ((kc : Int) - 28))), (7, .int (iI (((57 : Nat) : Int) - 29)))]) hl [1, 2, 3, 4, 5, 6, 0] rfl)
  refine lv_iload_n hx hb dX0_findPair_0 rfl (lv_at hl 1 rfl) ?_
  refine lv_istore (lv' := [(5, .int (nI i)), (0, .int (iI mm)), (1, .int (nI i)), (2, .int (iI ta)), (3, .int (iI tb)), (4, .ref h0)]) hx hb dX0_findPair_1 hl (by decide) rfl (fun ls hl => ?_)
  refine lv_bipush (v := 28) hx hb dX0_findPair_3 (by decide) ?_
  refine lv_istore (lv' := [(6, .int 28), (5, .int (nI i)), (0, .int (iI mm)), (1, .int (nI i)), (2, .int (iI ta)), (3, .int (iI tb)), (4, .ref h0)]) hx hb dX0_findPair_5 hl (by decide) rfl (fun ls hl => ?_)
  exact outer 57 i _ _ ls (by omega) hi hres hw (lv_sub (l' := [(0, .int (iI mm)), (2, .int (iI ta)), (3, .int (iI tb)), (4, .ref h0), (5, .int (nI i)), (6, .int (iI (((57 : Nat) : Int) - 29)))]) hl [2, 4, 5, 6, 1, 0] rfl)
