/-! Numbers of four parts, as the machine reckons them -/
abbrev Q4 : Type := Int64 × Int64 × Int64 × Int64
abbrev eq4 (x : Q4) : va_E := .inr (1, [.long x.1, .long x.2.1, .long x.2.2.1, .long x.2.2.2])
def qadd (x y : Q4) : Q4 := (x.1 + y.1, x.2.1 + y.2.1, x.2.2.1 + y.2.2.1, x.2.2.2 + y.2.2.2)
def qsub (x y : Q4) : Q4 := (x.1 - y.1, x.2.1 - y.2.1, x.2.2.1 - y.2.2.1, x.2.2.2 - y.2.2.2)
def qmir (x : Q4) : Q4 := (x.1, -x.2.1, -x.2.2.1, -x.2.2.2)
def qmul (x y : Q4) : Q4 :=
  ((x.1 * y.1 - x.2.1 * y.2.1 - x.2.2.1 * y.2.2.1 - x.2.2.2 * y.2.2.2) / 2,
   (x.1 * y.2.1 + x.2.1 * y.1 + x.2.2.1 * y.2.2.2 - x.2.2.2 * y.2.2.1) / 2,
   (x.1 * y.2.2.1 - x.2.1 * y.2.2.2 + x.2.2.1 * y.1 + x.2.2.2 * y.2.1) / 2,
   (x.1 * y.2.2.2 + x.2.1 * y.2.2.1 - x.2.2.1 * y.2.1 + x.2.2.2 * y.1) / 2)
def qon (side : Int32) (x y : Q4) : Q4 := if side = 0 then qmul x y else qmul y x
def qnorm (x : Q4) : Int64 := (x.1 * x.1 + x.2.1 * x.2.1 + x.2.2.1 * x.2.2.1 + x.2.2.2 * x.2.2.2) / 4
/-- 1 where it holds, else 0 -/
noncomputable def bI (p : Prop) : Int32 := @ite Int32 p (Classical.propDecidable p) 1 0
theorem bI_t {p : Prop} (h : p) : bI p = 1 := if_pos h
theorem bI_f {p : Prop} (h : ¬ p) : bI p = 0 := if_neg h
theorem bI_ne {p : Prop} : (¬ bI p = 0) ↔ p := by
  by_cases h : p
  · rw [bI_t h]; exact ⟨fun _ => h, fun _ => by decide⟩
  · rw [bI_f h]; exact ⟨fun q => absurd rfl q, fun q => absurd q h⟩
theorem bI_eq {p : Prop} : (bI p = 0) ↔ ¬ p := by
  by_cases h : p
  · rw [bI_t h]; exact ⟨fun q => absurd q (by decide), fun q => absurd h q⟩
  · rw [bI_f h]; exact ⟨fun _ => h, fun _ => rfl⟩
theorem bI_z (p : Prop) : narrow .boolean (.int (bI p)) = .int (bI p) := by
  by_cases h : p
  · rw [bI_t h]; rfl
  · rw [bI_f h]; rfl
def qzero (x : Q4) : Prop := x.1 = 0 ∧ x.2.1 = 0 ∧ x.2.2.1 = 0 ∧ x.2.2.2 = 0
def hiP (v : Int64) : Prop := v < -20000 ∨ ¬ v ≤ 20000
def qhigh (x : Q4) : Prop := hiP x.1 ∨ hiP x.2.1 ∨ hiP x.2.2.1 ∨ hiP x.2.2.2
def qgr (x y : Q4) : Prop := (¬ x.1 = y.1 ∧ ¬ x.1 ≤ y.1) ∨ (x.1 = y.1 ∧ ((¬ x.2.1 = y.2.1 ∧ ¬ x.2.1 ≤ y.2.1) ∨ (x.2.1 = y.2.1 ∧ ((¬ x.2.2.1 = y.2.2.1 ∧ ¬ x.2.2.1 ≤ y.2.2.1) ∨ (x.2.2.1 = y.2.2.1 ∧ ¬ x.2.2.2 ≤ y.2.2.2)))))
def qone (x : Q4) : Prop := (((x.1 ^^^ x.2.1) ||| (x.1 ^^^ x.2.2.1)) ||| (x.1 ^^^ x.2.2.2)) &&& 1 = 0
def uq4 (u : Nat) : Q4 := ((uPt.getD (4 * u) 0).toInt64, (uPt.getD (4 * u + 1) 0).toInt64, (uPt.getD (4 * u + 2) 0).toInt64, (uPt.getD (4 * u + 3) 0).toInt64)
/-- Math.floorDiv -/
def flo (x y : Int64) : Int64 := if (x ^^^ y) < 0 then (if x / y * y = x then x / y else x / y - 1) else x / y
def nwh (p n : Int64) : Int64 := if 0 < n then 2 * flo (p + n) (2 * n) else 0
def nha (p n : Int64) : Int64 := if 0 < n then 2 * flo p (2 * n) + 1 else 0
def qnw (x : Q4) (n : Int64) : Q4 := (nwh x.1 n, nwh x.2.1 n, nwh x.2.2.1 n, nwh x.2.2.2 n)
def qnh (x : Q4) (n : Int64) : Q4 := (nha x.1 n, nha x.2.1 n, nha x.2.2.1 n, nha x.2.2.2 n)
def qoff (q x : Q4) (n : Int64) : Int64 := (x.1 - n * q.1) * (x.1 - n * q.1) + (x.2.1 - n * q.2.1) * (x.2.1 - n * q.2.1) + (x.2.2.1 - n * q.2.2.1) * (x.2.2.1 - n * q.2.2.1) + (x.2.2.2 - n * q.2.2.2) * (x.2.2.2 - n * q.2.2.2)
def abL (x : Int64) : Int64 := if 0 < x then x else -x
/-- Euclid's loop, at most n steps -/
def gcL : Nat → Int64 → Int64 → Int64
  | 0, x, _ => x
  | n + 1, x, y => if y = 0 then x else gcL n y (x - x / y * y)
def gcd2 (x y : Int64) : Int64 := gcL 100 (abL x) (abL y)
def qpr (x : Q4) : Prop := if gcd2 (gcd2 x.1 x.2.1) (gcd2 x.2.2.1 x.2.2.2) = 2 then (((x.1 &&& x.2.1) &&& x.2.2.1) &&& x.2.2.2) &&& 2 = 0 else gcd2 (gcd2 x.1 x.2.1) (gcd2 x.2.2.1 x.2.2.2) = 1
def qtn (x : Q4) (k : Int32) : Int64 :=
  if k = 0 then (x.1 * x.1 + x.2.1 * x.2.1 - x.2.2.1 * x.2.2.1 - x.2.2.2 * x.2.2.2) / 4
  else if k = 1 then (x.2.1 * x.2.2.1 - x.1 * x.2.2.2) / 2
  else if k = 2 then (x.2.1 * x.2.2.2 + x.1 * x.2.2.1) / 2
  else if k = 3 then (x.2.1 * x.2.2.1 + x.1 * x.2.2.2) / 2
  else if k = 4 then (x.1 * x.1 - x.2.1 * x.2.1 + x.2.2.1 * x.2.2.1 - x.2.2.2 * x.2.2.2) / 4
  else if k = 5 then (x.2.2.1 * x.2.2.2 - x.1 * x.2.1) / 2
  else if k = 6 then (x.2.1 * x.2.2.2 - x.1 * x.2.2.1) / 2
  else if k = 7 then (x.2.2.1 * x.2.2.2 + x.1 * x.2.1) / 2
  else if k = 8 then (x.1 * x.1 - x.2.1 * x.2.1 - x.2.2.1 * x.2.2.1 + x.2.2.2 * x.2.2.2) / 4
  else 0
set_option maxHeartbeats 4000000 in
set_option maxRecDepth 100000 in
theorem c_X1_become (l : Launch) (G : GG) (A : Nat → Prop) (L : List Nat) (F : FM) (h0 : Nat) (x : Q4) (e0 : pt L F h0 (eq4 x)) (t1 t2 t3 t4 : Int64) : HT l yX1_become wsX1_become { frames := 0, cells := 0, slots := 0, locals := 0 } G A L [.ref h0, .long t1, .long t2, .long t3, .long t4] F none (va_up F h0 (eq4 (t1, t2, t3, t4))) := by
  refine HT.ofW (cc := cX1_become) (maxL := 9) (ret := none) (plainFor_of_name (by decide)) rfl (Nat.le_of_ble_eq_true rfl) ?_
  intro p e s m below meth c ls hx hb hr hml hown hts hlk hE hw hl
  have hl : lv_has ls 9 [(0, .ref h0), (1, .long t1), (3, .long t2), (5, .long t3), (7, .long t4)] := hl
  have hown : s.vm.findClass RX1 = some m.cls := hown
  have lk_9 := hts (.fieldLink RX1 9 "FourParts$Quad" "a" "J") (by decide +kernel)
  have hinX1 : ∀ w ∈ u_ws RX1 TX1 4, w ∈ wsX1_become := by decide +kernel
  have lk_15 := hts (.fieldLink RX1 15 "FourParts$Quad" "b" "J") (by decide +kernel)
  have lk_18 := hts (.fieldLink RX1 18 "FourParts$Quad" "c" "J") (by decide +kernel)
  have lk_21 := hts (.fieldLink RX1 21 "FourParts$Quad" "d" "J") (by decide +kernel)
  refine lv_aload_n hx hb dX1_become_0 rfl (lv_at hl 0 rfl) ?_
  refine lv_lload_n hx hb dX1_become_1 rfl (lv_at hl 1 rfl) ?_
  refine h_put hx hb hE hw hts hinX1 tyX1 tyX1_ok nmX1 hown (ci := 1) rfl 0 (by decide) lk_9 (fun _ h9 => h9) rfl e0 (ty := .long) rfl rfl rfl (Nat.le_of_ble_eq_true rfl) (fs2 := [.long t1, .long x.2.1, .long x.2.2.1, .long x.2.2.2]) rfl dX1_become_2 (fun H locs hw => ?_)
  refine lv_aload_n hx hb dX1_become_5 rfl (lv_at hl 0 rfl) ?_
  refine lv_lload_n hx hb dX1_become_6 rfl (lv_at hl 2 rfl) ?_
  refine h_put hx hb hE hw hts hinX1 tyX1 tyX1_ok nmX1 hown (ci := 1) rfl 1 (by decide) lk_15 (fun _ h9 => h9) rfl (pt_up e0) (ty := .long) rfl rfl rfl (Nat.le_of_ble_eq_true rfl) (fs2 := [.long t1, .long t2, .long x.2.2.1, .long x.2.2.2]) rfl dX1_become_7 (fun H locs hw => ?_)
  refine lv_aload_n hx hb dX1_become_10 rfl (lv_at hl 0 rfl) ?_
  refine lv_lload hx hb dX1_become_11 (lv_at hl 3 rfl) ?_
  refine h_put hx hb hE hw hts hinX1 tyX1 tyX1_ok nmX1 hown (ci := 1) rfl 2 (by decide) lk_18 (fun _ h9 => h9) rfl (pt_up (pt_up e0)) (ty := .long) rfl rfl rfl (Nat.le_of_ble_eq_true rfl) (fs2 := [.long t1, .long t2, .long t3, .long x.2.2.2]) rfl dX1_become_13 (fun H locs hw => ?_)
  refine lv_aload_n hx hb dX1_become_16 rfl (lv_at hl 0 rfl) ?_
  refine lv_lload hx hb dX1_become_17 (lv_at hl 4 rfl) ?_
  refine h_put hx hb hE hw hts hinX1 tyX1 tyX1_ok nmX1 hown (ci := 1) rfl 3 (by decide) lk_21 (fun _ h9 => h9) rfl (pt_up (pt_up (pt_up e0))) (ty := .long) rfl rfl rfl (Nat.le_of_ble_eq_true rfl) (fs2 := [.long t1, .long t2, .long t3, .long t4]) rfl dX1_become_19 (fun H locs hw => ?_)
  exact h_vret hx hb hlk hr hw dX1_become_22 rfl (by simp only [up_up])

set_option maxHeartbeats 4000000 in
set_option maxRecDepth 100000 in
theorem c_X1_norm (l : Launch) (G : GG) (A : Nat → Prop) (L : List Nat) (F : FM) (h0 : Nat) (x : Q4) (e0 : pt L F h0 (eq4 x)) : HT l yX1_norm wsX1_norm { frames := 0, cells := 0, slots := 0, locals := 0 } G A L [.ref h0] F (some (.long (qnorm x))) F := by
  refine HT.ofW (cc := cX1_norm) (maxL := 1) (ret := (some .long)) (plainFor_of_name (by decide)) rfl (Nat.le_of_ble_eq_true rfl) ?_
  intro p e s m below meth c ls hx hb hr hml hown hts hlk hE hw hl
  have hl : lv_has ls 1 [(0, .ref h0)] := hl
  have hown : s.vm.findClass RX1 = some m.cls := hown
  have lk_9 := hts (.fieldLink RX1 9 "FourParts$Quad" "a" "J") (by decide +kernel)
  have hinX1 : ∀ w ∈ u_ws RX1 TX1 4, w ∈ wsX1_norm := by decide +kernel
  have lk_15 := hts (.fieldLink RX1 15 "FourParts$Quad" "b" "J") (by decide +kernel)
  have lk_18 := hts (.fieldLink RX1 18 "FourParts$Quad" "c" "J") (by decide +kernel)
  have lk_21 := hts (.fieldLink RX1 21 "FourParts$Quad" "d" "J") (by decide +kernel)
  have cl_54 := hts (.constantLong RX1 54 (4)) (by decide +kernel)
  refine lv_aload_n hx hb dX1_norm_0 rfl (lv_at hl 0 rfl) ?_
  refine h_get hx hb hE hw hts hinX1 hown (ci := 1) rfl 0 (by decide) lk_9 (fun _ h9 => h9) e0 rfl dX1_norm_1 ?_
  refine lv_aload_n hx hb dX1_norm_4 rfl (lv_at hl 0 rfl) ?_
  refine h_get hx hb hE hw hts hinX1 hown (ci := 1) rfl 0 (by decide) lk_9 (fun _ h9 => h9) e0 rfl dX1_norm_5 ?_
  refine lv_lmul hx hb dX1_norm_8 ?_
  refine lv_aload_n hx hb dX1_norm_9 rfl (lv_at hl 0 rfl) ?_
  refine h_get hx hb hE hw hts hinX1 hown (ci := 1) rfl 1 (by decide) lk_15 (fun _ h9 => h9) e0 rfl dX1_norm_10 ?_
  refine lv_aload_n hx hb dX1_norm_13 rfl (lv_at hl 0 rfl) ?_
  refine h_get hx hb hE hw hts hinX1 hown (ci := 1) rfl 1 (by decide) lk_15 (fun _ h9 => h9) e0 rfl dX1_norm_14 ?_
  refine lv_lmul hx hb dX1_norm_17 ?_
  refine lv_ladd hx hb dX1_norm_18 ?_
  refine lv_aload_n hx hb dX1_norm_19 rfl (lv_at hl 0 rfl) ?_
  refine h_get hx hb hE hw hts hinX1 hown (ci := 1) rfl 2 (by decide) lk_18 (fun _ h9 => h9) e0 rfl dX1_norm_20 ?_
  refine lv_aload_n hx hb dX1_norm_23 rfl (lv_at hl 0 rfl) ?_
  refine h_get hx hb hE hw hts hinX1 hown (ci := 1) rfl 2 (by decide) lk_18 (fun _ h9 => h9) e0 rfl dX1_norm_24 ?_
  refine lv_lmul hx hb dX1_norm_27 ?_
  refine lv_ladd hx hb dX1_norm_28 ?_
  refine lv_aload_n hx hb dX1_norm_29 rfl (lv_at hl 0 rfl) ?_
  refine h_get hx hb hE hw hts hinX1 hown (ci := 1) rfl 3 (by decide) lk_21 (fun _ h9 => h9) e0 rfl dX1_norm_30 ?_
  refine lv_aload_n hx hb dX1_norm_33 rfl (lv_at hl 0 rfl) ?_
  refine h_get hx hb hE hw hts hinX1 hown (ci := 1) rfl 3 (by decide) lk_21 (fun _ h9 => h9) e0 rfl dX1_norm_34 ?_
  refine lv_lmul hx hb dX1_norm_37 ?_
  refine lv_ladd hx hb dX1_norm_38 ?_
  refine lv_ldc2 hx hb (v := (4)) hown cl_54 dX1_norm_39 ?_
  refine lv_ldiv hx hb dX1_norm_42 (by decide) ?_
  exact h_lret hx hb hlk hr hw dX1_norm_43 rfl rfl

set_option maxHeartbeats 4000000 in
set_option maxRecDepth 100000 in
theorem c_X1_isZero (l : Launch) (G : GG) (A : Nat → Prop) (L : List Nat) (F : FM) (h0 : Nat) (x : Q4) (e0 : pt L F h0 (eq4 x)) : HT l yX1_isZero wsX1_isZero { frames := 0, cells := 0, slots := 0, locals := 0 } G A L [.ref h0] F (some (.int (bI (qzero x)))) F := by
  refine HT.ofW (cc := cX1_isZero) (maxL := 1) (ret := (some .boolean)) (plainFor_of_name (by decide)) rfl (Nat.le_of_ble_eq_true rfl) ?_
  intro p e s m below meth c ls hx hb hr hml hown hts hlk hE hw hl
  have hl : lv_has ls 1 [(0, .ref h0)] := hl
  have hown : s.vm.findClass RX1 = some m.cls := hown
  have lk_9 := hts (.fieldLink RX1 9 "FourParts$Quad" "a" "J") (by decide +kernel)
  have hinX1 : ∀ w ∈ u_ws RX1 TX1 4, w ∈ wsX1_isZero := by decide +kernel
  have lk_15 := hts (.fieldLink RX1 15 "FourParts$Quad" "b" "J") (by decide +kernel)
  have lk_18 := hts (.fieldLink RX1 18 "FourParts$Quad" "c" "J") (by decide +kernel)
  have lk_21 := hts (.fieldLink RX1 21 "FourParts$Quad" "d" "J") (by decide +kernel)
  refine lv_aload_n hx hb dX1_isZero_0 rfl (lv_at hl 0 rfl) ?_
  refine h_get hx hb hE hw hts hinX1 hown (ci := 1) rfl 0 (by decide) lk_9 (fun _ h9 => h9) e0 rfl dX1_isZero_1 ?_
  refine lv_lconst (v := 0) hx hb dX1_isZero_4 (by decide) ?_
  refine h_lc_ne (x := x.1) (y := 0) (tgt := 40) hx hb dX1_isZero_5 dX1_isZero_6 (by decide) (fun c_5 => ?_) (fun c_5 => ?_)
  · skip
    refine lv_iconst (v := 0) hx hb dX1_isZero_40 (by decide) ?_
    exact h_zret hx hb hlk hr hw dX1_isZero_41 rfl (by rw [bI_f (by simp [qzero, c_5])]) rfl
  · skip
    refine lv_aload_n hx hb dX1_isZero_9 rfl (lv_at hl 0 rfl) ?_
    refine h_get hx hb hE hw hts hinX1 hown (ci := 1) rfl 1 (by decide) lk_15 (fun _ h9 => h9) e0 rfl dX1_isZero_10 ?_
    refine lv_lconst (v := 0) hx hb dX1_isZero_13 (by decide) ?_
    refine h_lc_ne (x := x.2.1) (y := 0) (tgt := 40) hx hb dX1_isZero_14 dX1_isZero_15 (by decide) (fun c_14 => ?_) (fun c_14 => ?_)
    · skip
      refine lv_iconst (v := 0) hx hb dX1_isZero_40 (by decide) ?_
      exact h_zret hx hb hlk hr hw dX1_isZero_41 rfl (by rw [bI_f (by simp [qzero, c_5, c_14])]) rfl
    · skip
      refine lv_aload_n hx hb dX1_isZero_18 rfl (lv_at hl 0 rfl) ?_
      refine h_get hx hb hE hw hts hinX1 hown (ci := 1) rfl 2 (by decide) lk_18 (fun _ h9 => h9) e0 rfl dX1_isZero_19 ?_
      refine lv_lconst (v := 0) hx hb dX1_isZero_22 (by decide) ?_
      refine h_lc_ne (x := x.2.2.1) (y := 0) (tgt := 40) hx hb dX1_isZero_23 dX1_isZero_24 (by decide) (fun c_23 => ?_) (fun c_23 => ?_)
      · skip
        refine lv_iconst (v := 0) hx hb dX1_isZero_40 (by decide) ?_
        exact h_zret hx hb hlk hr hw dX1_isZero_41 rfl (by rw [bI_f (by simp [qzero, c_5, c_14, c_23])]) rfl
      · skip
        refine lv_aload_n hx hb dX1_isZero_27 rfl (lv_at hl 0 rfl) ?_
        refine h_get hx hb hE hw hts hinX1 hown (ci := 1) rfl 3 (by decide) lk_21 (fun _ h9 => h9) e0 rfl dX1_isZero_28 ?_
        refine lv_lconst (v := 0) hx hb dX1_isZero_31 (by decide) ?_
        refine h_lc_ne (x := x.2.2.2) (y := 0) (tgt := 40) hx hb dX1_isZero_32 dX1_isZero_33 (by decide) (fun c_32 => ?_) (fun c_32 => ?_)
        · skip
          refine lv_iconst (v := 0) hx hb dX1_isZero_40 (by decide) ?_
          exact h_zret hx hb hlk hr hw dX1_isZero_41 rfl (by rw [bI_f (by simp [qzero, c_5, c_14, c_23, c_32])]) rfl
        · skip
          refine lv_iconst (v := 1) hx hb dX1_isZero_36 (by decide) ?_
          refine lv_goto (tgt := 41) hx hb dX1_isZero_37 (by decide) ?_
          exact h_zret hx hb hlk hr hw dX1_isZero_41 rfl (by rw [bI_t (by simp [qzero, c_5, c_14, c_23, c_32])]) rfl

set_option maxHeartbeats 4000000 in
set_option maxRecDepth 100000 in
theorem c_X1_isAllEvenOrAllOdd (l : Launch) (G : GG) (A : Nat → Prop) (L : List Nat) (F : FM) (h0 : Nat) (x : Q4) (e0 : pt L F h0 (eq4 x)) : HT l yX1_isAllEvenOrAllOdd wsX1_isAllEvenOrAllOdd { frames := 0, cells := 0, slots := 0, locals := 0 } G A L [.ref h0] F (some (.int (bI (qone x)))) F := by
  refine HT.ofW (cc := cX1_isAllEvenOrAllOdd) (maxL := 1) (ret := (some .boolean)) (plainFor_of_name (by decide)) rfl (Nat.le_of_ble_eq_true rfl) ?_
  intro p e s m below meth c ls hx hb hr hml hown hts hlk hE hw hl
  have hl : lv_has ls 1 [(0, .ref h0)] := hl
  have hown : s.vm.findClass RX1 = some m.cls := hown
  have lk_9 := hts (.fieldLink RX1 9 "FourParts$Quad" "a" "J") (by decide +kernel)
  have hinX1 : ∀ w ∈ u_ws RX1 TX1 4, w ∈ wsX1_isAllEvenOrAllOdd := by decide +kernel
  have lk_15 := hts (.fieldLink RX1 15 "FourParts$Quad" "b" "J") (by decide +kernel)
  have lk_18 := hts (.fieldLink RX1 18 "FourParts$Quad" "c" "J") (by decide +kernel)
  have lk_21 := hts (.fieldLink RX1 21 "FourParts$Quad" "d" "J") (by decide +kernel)
  refine lv_aload_n hx hb dX1_isAllEvenOrAllOdd_0 rfl (lv_at hl 0 rfl) ?_
  refine h_get hx hb hE hw hts hinX1 hown (ci := 1) rfl 0 (by decide) lk_9 (fun _ h9 => h9) e0 rfl dX1_isAllEvenOrAllOdd_1 ?_
  refine lv_aload_n hx hb dX1_isAllEvenOrAllOdd_4 rfl (lv_at hl 0 rfl) ?_
  refine h_get hx hb hE hw hts hinX1 hown (ci := 1) rfl 1 (by decide) lk_15 (fun _ h9 => h9) e0 rfl dX1_isAllEvenOrAllOdd_5 ?_
  refine lv_lxor hx hb dX1_isAllEvenOrAllOdd_8 ?_
  refine lv_aload_n hx hb dX1_isAllEvenOrAllOdd_9 rfl (lv_at hl 0 rfl) ?_
  refine h_get hx hb hE hw hts hinX1 hown (ci := 1) rfl 0 (by decide) lk_9 (fun _ h9 => h9) e0 rfl dX1_isAllEvenOrAllOdd_10 ?_
  refine lv_aload_n hx hb dX1_isAllEvenOrAllOdd_13 rfl (lv_at hl 0 rfl) ?_
  refine h_get hx hb hE hw hts hinX1 hown (ci := 1) rfl 2 (by decide) lk_18 (fun _ h9 => h9) e0 rfl dX1_isAllEvenOrAllOdd_14 ?_
  refine lv_lxor hx hb dX1_isAllEvenOrAllOdd_17 ?_
  refine lv_lor hx hb dX1_isAllEvenOrAllOdd_18 ?_
  refine lv_aload_n hx hb dX1_isAllEvenOrAllOdd_19 rfl (lv_at hl 0 rfl) ?_
  refine h_get hx hb hE hw hts hinX1 hown (ci := 1) rfl 0 (by decide) lk_9 (fun _ h9 => h9) e0 rfl dX1_isAllEvenOrAllOdd_20 ?_
  refine lv_aload_n hx hb dX1_isAllEvenOrAllOdd_23 rfl (lv_at hl 0 rfl) ?_
  refine h_get hx hb hE hw hts hinX1 hown (ci := 1) rfl 3 (by decide) lk_21 (fun _ h9 => h9) e0 rfl dX1_isAllEvenOrAllOdd_24 ?_
  refine lv_lxor hx hb dX1_isAllEvenOrAllOdd_27 ?_
  refine lv_lor hx hb dX1_isAllEvenOrAllOdd_28 ?_
  refine lv_lconst (v := 1) hx hb dX1_isAllEvenOrAllOdd_29 (by decide) ?_
  refine lv_land hx hb dX1_isAllEvenOrAllOdd_30 ?_
  refine lv_lconst (v := 0) hx hb dX1_isAllEvenOrAllOdd_31 (by decide) ?_
  refine h_lc_ne (x := (((x.1 ^^^ x.2.1) ||| (x.1 ^^^ x.2.2.1)) ||| (x.1 ^^^ x.2.2.2)) &&& 1) (y := 0) (tgt := 40) hx hb dX1_isAllEvenOrAllOdd_32 dX1_isAllEvenOrAllOdd_33 (by decide) (fun c_32 => ?_) (fun c_32 => ?_)
  · skip
    refine lv_iconst (v := 0) hx hb dX1_isAllEvenOrAllOdd_40 (by decide) ?_
    exact h_zret hx hb hlk hr hw dX1_isAllEvenOrAllOdd_41 rfl (by rw [bI_f (by simp [qone, c_32])]) rfl
  · skip
    refine lv_iconst (v := 1) hx hb dX1_isAllEvenOrAllOdd_36 (by decide) ?_
    refine lv_goto (tgt := 41) hx hb dX1_isAllEvenOrAllOdd_37 (by decide) ?_
    exact h_zret hx hb hlk hr hw dX1_isAllEvenOrAllOdd_41 rfl (by rw [bI_t (by simp [qone, c_32])]) rfl

set_option maxHeartbeats 4000000 in
set_option maxRecDepth 100000 in
theorem c_X1_becomeLike (l : Launch) (G : GG) (A : Nat → Prop) (L : List Nat) (F : FM) (h0 : Nat) (x : Q4) (e0 : pt L F h0 (eq4 x)) (h1 : Nat) (y : Q4) (e1 : pt L F h1 (eq4 y)) : HT l yX1_becomeLike wsX1_becomeLike { frames := 1, cells := 0, slots := 0, locals := 28 } G A L [.ref h0, .ref h1] F none (va_up F h0 (eq4 y)) := by
  refine HT.ofW (cc := cX1_becomeLike) (maxL := 2) (ret := none) (plainFor_of_name (by decide)) rfl (Nat.le_of_ble_eq_true rfl) ?_
  intro p e s m below meth c ls hx hb hr hml hown hts hlk hE hw hl
  have hl : lv_has ls 2 [(0, .ref h0), (1, .ref h1)] := hl
  have hown : s.vm.findClass RX1 = some m.cls := hown
  have lk_9 := hts (.fieldLink RX1 9 "FourParts$Quad" "a" "J") (by decide +kernel)
  have hinX1 : ∀ w ∈ u_ws RX1 TX1 4, w ∈ wsX1_becomeLike := by decide +kernel
  have lk_15 := hts (.fieldLink RX1 15 "FourParts$Quad" "b" "J") (by decide +kernel)
  have lk_18 := hts (.fieldLink RX1 18 "FourParts$Quad" "c" "J") (by decide +kernel)
  have lk_21 := hts (.fieldLink RX1 21 "FourParts$Quad" "d" "J") (by decide +kernel)
  refine lv_aload_n hx hb dX1_becomeLike_0 rfl (lv_at hl 0 rfl) ?_
  refine lv_aload_n hx hb dX1_becomeLike_1 rfl (lv_at hl 1 rfl) ?_
  refine h_get hx hb hE hw hts hinX1 hown (ci := 1) rfl 0 (by decide) lk_9 (fun _ h9 => h9) e1 rfl dX1_becomeLike_2 ?_
  refine lv_aload_n hx hb dX1_becomeLike_5 rfl (lv_at hl 1 rfl) ?_
  refine h_get hx hb hE hw hts hinX1 hown (ci := 1) rfl 1 (by decide) lk_15 (fun _ h9 => h9) e1 rfl dX1_becomeLike_6 ?_
  refine lv_aload_n hx hb dX1_becomeLike_9 rfl (lv_at hl 1 rfl) ?_
  refine h_get hx hb hE hw hts hinX1 hown (ci := 1) rfl 2 (by decide) lk_18 (fun _ h9 => h9) e1 rfl dX1_becomeLike_10 ?_
  refine lv_aload_n hx hb dX1_becomeLike_13 rfl (lv_at hl 1 rfl) ?_
  refine h_get hx hb hE hw hts hinX1 hown (ci := 1) rfl 3 (by decide) lk_21 (fun _ h9 => h9) e1 rfl dX1_becomeLike_14 ?_
  refine h_callV (st1 := []) [.long y.1, .long y.2.1, .long y.2.2.1, .long y.2.2.2] [] ⟨hx, hb, hml, hown, hts⟩ hE hw (c_X1_become l G A L F h0 x e0 y.1 y.2.1 y.2.2.1 y.2.2.2) (cwV 4 hts gX1_becomeLike_X1_become rfl rfl rfl (by decide +kernel) ⟨Nat.le_of_ble_eq_true rfl, Nat.le_of_ble_eq_true rfl⟩) e0 rfl rfl rfl hl.1 rfl (Nat.le_of_ble_eq_true rfl) dX1_becomeLike_17 ⟨Nat.le_of_ble_eq_true rfl, Nat.le_of_ble_eq_true rfl⟩ rfl (fun H locs hw => ?_)
  exact h_vret hx hb hlk hr hw dX1_becomeLike_20 rfl rfl

set_option maxHeartbeats 4000000 in
set_option maxRecDepth 100000 in
theorem c_X1_becomeSum (l : Launch) (G : GG) (A : Nat → Prop) (L : List Nat) (F : FM) (h0 : Nat) (x : Q4) (e0 : pt L F h0 (eq4 x)) (h1 h2 : Nat) (y z : Q4) (e1 : pt L F h1 (eq4 y)) (e2 : pt L F h2 (eq4 z)) : HT l yX1_becomeSum wsX1_becomeSum { frames := 1, cells := 0, slots := 0, locals := 28 } G A L [.ref h0, .ref h1, .ref h2] F none (va_up F h0 (eq4 (qadd y z))) := by
  refine HT.ofW (cc := cX1_becomeSum) (maxL := 3) (ret := none) (plainFor_of_name (by decide)) rfl (Nat.le_of_ble_eq_true rfl) ?_
  intro p e s m below meth c ls hx hb hr hml hown hts hlk hE hw hl
  have hl : lv_has ls 3 [(0, .ref h0), (1, .ref h1), (2, .ref h2)] := hl
  have hown : s.vm.findClass RX1 = some m.cls := hown
  have lk_9 := hts (.fieldLink RX1 9 "FourParts$Quad" "a" "J") (by decide +kernel)
  have hinX1 : ∀ w ∈ u_ws RX1 TX1 4, w ∈ wsX1_becomeSum := by decide +kernel
  have lk_15 := hts (.fieldLink RX1 15 "FourParts$Quad" "b" "J") (by decide +kernel)
  have lk_18 := hts (.fieldLink RX1 18 "FourParts$Quad" "c" "J") (by decide +kernel)
  have lk_21 := hts (.fieldLink RX1 21 "FourParts$Quad" "d" "J") (by decide +kernel)
  refine lv_aload_n hx hb dX1_becomeSum_0 rfl (lv_at hl 0 rfl) ?_
  refine lv_aload_n hx hb dX1_becomeSum_1 rfl (lv_at hl 1 rfl) ?_
  refine h_get hx hb hE hw hts hinX1 hown (ci := 1) rfl 0 (by decide) lk_9 (fun _ h9 => h9) e1 rfl dX1_becomeSum_2 ?_
  refine lv_aload_n hx hb dX1_becomeSum_5 rfl (lv_at hl 2 rfl) ?_
  refine h_get hx hb hE hw hts hinX1 hown (ci := 1) rfl 0 (by decide) lk_9 (fun _ h9 => h9) e2 rfl dX1_becomeSum_6 ?_
  refine lv_ladd hx hb dX1_becomeSum_9 ?_
  refine lv_aload_n hx hb dX1_becomeSum_10 rfl (lv_at hl 1 rfl) ?_
  refine h_get hx hb hE hw hts hinX1 hown (ci := 1) rfl 1 (by decide) lk_15 (fun _ h9 => h9) e1 rfl dX1_becomeSum_11 ?_
  refine lv_aload_n hx hb dX1_becomeSum_14 rfl (lv_at hl 2 rfl) ?_
  refine h_get hx hb hE hw hts hinX1 hown (ci := 1) rfl 1 (by decide) lk_15 (fun _ h9 => h9) e2 rfl dX1_becomeSum_15 ?_
  refine lv_ladd hx hb dX1_becomeSum_18 ?_
  refine lv_aload_n hx hb dX1_becomeSum_19 rfl (lv_at hl 1 rfl) ?_
  refine h_get hx hb hE hw hts hinX1 hown (ci := 1) rfl 2 (by decide) lk_18 (fun _ h9 => h9) e1 rfl dX1_becomeSum_20 ?_
  refine lv_aload_n hx hb dX1_becomeSum_23 rfl (lv_at hl 2 rfl) ?_
  refine h_get hx hb hE hw hts hinX1 hown (ci := 1) rfl 2 (by decide) lk_18 (fun _ h9 => h9) e2 rfl dX1_becomeSum_24 ?_
  refine lv_ladd hx hb dX1_becomeSum_27 ?_
  refine lv_aload_n hx hb dX1_becomeSum_28 rfl (lv_at hl 1 rfl) ?_
  refine h_get hx hb hE hw hts hinX1 hown (ci := 1) rfl 3 (by decide) lk_21 (fun _ h9 => h9) e1 rfl dX1_becomeSum_29 ?_
  refine lv_aload_n hx hb dX1_becomeSum_32 rfl (lv_at hl 2 rfl) ?_
  refine h_get hx hb hE hw hts hinX1 hown (ci := 1) rfl 3 (by decide) lk_21 (fun _ h9 => h9) e2 rfl dX1_becomeSum_33 ?_
  refine lv_ladd hx hb dX1_becomeSum_36 ?_
  refine h_callV (st1 := []) [.long (y.1 + z.1), .long (y.2.1 + z.2.1), .long (y.2.2.1 + z.2.2.1), .long (y.2.2.2 + z.2.2.2)] [] ⟨hx, hb, hml, hown, hts⟩ hE hw (c_X1_become l G A L F h0 x e0 (y.1 + z.1) (y.2.1 + z.2.1) (y.2.2.1 + z.2.2.1) (y.2.2.2 + z.2.2.2)) (cwV 4 hts gX1_becomeSum_X1_become rfl rfl rfl (by decide +kernel) ⟨Nat.le_of_ble_eq_true rfl, Nat.le_of_ble_eq_true rfl⟩) e0 rfl rfl rfl hl.1 rfl (Nat.le_of_ble_eq_true rfl) dX1_becomeSum_37 ⟨Nat.le_of_ble_eq_true rfl, Nat.le_of_ble_eq_true rfl⟩ rfl (fun H locs hw => ?_)
  exact h_vret hx hb hlk hr hw dX1_becomeSum_40 rfl rfl

set_option maxHeartbeats 4000000 in
set_option maxRecDepth 100000 in
theorem c_X1_becomeDifference (l : Launch) (G : GG) (A : Nat → Prop) (L : List Nat) (F : FM) (h0 : Nat) (x : Q4) (e0 : pt L F h0 (eq4 x)) (h1 h2 : Nat) (y z : Q4) (e1 : pt L F h1 (eq4 y)) (e2 : pt L F h2 (eq4 z)) : HT l yX1_becomeDifference wsX1_becomeDifference { frames := 1, cells := 0, slots := 0, locals := 28 } G A L [.ref h0, .ref h1, .ref h2] F none (va_up F h0 (eq4 (qsub y z))) := by
  refine HT.ofW (cc := cX1_becomeDifference) (maxL := 3) (ret := none) (plainFor_of_name (by decide)) rfl (Nat.le_of_ble_eq_true rfl) ?_
  intro p e s m below meth c ls hx hb hr hml hown hts hlk hE hw hl
  have hl : lv_has ls 3 [(0, .ref h0), (1, .ref h1), (2, .ref h2)] := hl
  have hown : s.vm.findClass RX1 = some m.cls := hown
  have lk_9 := hts (.fieldLink RX1 9 "FourParts$Quad" "a" "J") (by decide +kernel)
  have hinX1 : ∀ w ∈ u_ws RX1 TX1 4, w ∈ wsX1_becomeDifference := by decide +kernel
  have lk_15 := hts (.fieldLink RX1 15 "FourParts$Quad" "b" "J") (by decide +kernel)
  have lk_18 := hts (.fieldLink RX1 18 "FourParts$Quad" "c" "J") (by decide +kernel)
  have lk_21 := hts (.fieldLink RX1 21 "FourParts$Quad" "d" "J") (by decide +kernel)
  refine lv_aload_n hx hb dX1_becomeDifference_0 rfl (lv_at hl 0 rfl) ?_
  refine lv_aload_n hx hb dX1_becomeDifference_1 rfl (lv_at hl 1 rfl) ?_
  refine h_get hx hb hE hw hts hinX1 hown (ci := 1) rfl 0 (by decide) lk_9 (fun _ h9 => h9) e1 rfl dX1_becomeDifference_2 ?_
  refine lv_aload_n hx hb dX1_becomeDifference_5 rfl (lv_at hl 2 rfl) ?_
  refine h_get hx hb hE hw hts hinX1 hown (ci := 1) rfl 0 (by decide) lk_9 (fun _ h9 => h9) e2 rfl dX1_becomeDifference_6 ?_
  refine lv_lsub hx hb dX1_becomeDifference_9 ?_
  refine lv_aload_n hx hb dX1_becomeDifference_10 rfl (lv_at hl 1 rfl) ?_
  refine h_get hx hb hE hw hts hinX1 hown (ci := 1) rfl 1 (by decide) lk_15 (fun _ h9 => h9) e1 rfl dX1_becomeDifference_11 ?_
  refine lv_aload_n hx hb dX1_becomeDifference_14 rfl (lv_at hl 2 rfl) ?_
  refine h_get hx hb hE hw hts hinX1 hown (ci := 1) rfl 1 (by decide) lk_15 (fun _ h9 => h9) e2 rfl dX1_becomeDifference_15 ?_
  refine lv_lsub hx hb dX1_becomeDifference_18 ?_
  refine lv_aload_n hx hb dX1_becomeDifference_19 rfl (lv_at hl 1 rfl) ?_
  refine h_get hx hb hE hw hts hinX1 hown (ci := 1) rfl 2 (by decide) lk_18 (fun _ h9 => h9) e1 rfl dX1_becomeDifference_20 ?_
  refine lv_aload_n hx hb dX1_becomeDifference_23 rfl (lv_at hl 2 rfl) ?_
  refine h_get hx hb hE hw hts hinX1 hown (ci := 1) rfl 2 (by decide) lk_18 (fun _ h9 => h9) e2 rfl dX1_becomeDifference_24 ?_
  refine lv_lsub hx hb dX1_becomeDifference_27 ?_
  refine lv_aload_n hx hb dX1_becomeDifference_28 rfl (lv_at hl 1 rfl) ?_
  refine h_get hx hb hE hw hts hinX1 hown (ci := 1) rfl 3 (by decide) lk_21 (fun _ h9 => h9) e1 rfl dX1_becomeDifference_29 ?_
  refine lv_aload_n hx hb dX1_becomeDifference_32 rfl (lv_at hl 2 rfl) ?_
  refine h_get hx hb hE hw hts hinX1 hown (ci := 1) rfl 3 (by decide) lk_21 (fun _ h9 => h9) e2 rfl dX1_becomeDifference_33 ?_
  refine lv_lsub hx hb dX1_becomeDifference_36 ?_
  refine h_callV (st1 := []) [.long (y.1 - z.1), .long (y.2.1 - z.2.1), .long (y.2.2.1 - z.2.2.1), .long (y.2.2.2 - z.2.2.2)] [] ⟨hx, hb, hml, hown, hts⟩ hE hw (c_X1_become l G A L F h0 x e0 (y.1 - z.1) (y.2.1 - z.2.1) (y.2.2.1 - z.2.2.1) (y.2.2.2 - z.2.2.2)) (cwV 4 hts gX1_becomeDifference_X1_become rfl rfl rfl (by decide +kernel) ⟨Nat.le_of_ble_eq_true rfl, Nat.le_of_ble_eq_true rfl⟩) e0 rfl rfl rfl hl.1 rfl (Nat.le_of_ble_eq_true rfl) dX1_becomeDifference_37 ⟨Nat.le_of_ble_eq_true rfl, Nat.le_of_ble_eq_true rfl⟩ rfl (fun H locs hw => ?_)
  exact h_vret hx hb hlk hr hw dX1_becomeDifference_40 rfl rfl

set_option maxHeartbeats 4000000 in
set_option maxRecDepth 100000 in
theorem c_X1_becomeMirror (l : Launch) (G : GG) (A : Nat → Prop) (L : List Nat) (F : FM) (h0 : Nat) (x : Q4) (e0 : pt L F h0 (eq4 x)) (h1 : Nat) (y : Q4) (e1 : pt L F h1 (eq4 y)) : HT l yX1_becomeMirror wsX1_becomeMirror { frames := 1, cells := 0, slots := 0, locals := 28 } G A L [.ref h0, .ref h1] F none (va_up F h0 (eq4 (qmir y))) := by
  refine HT.ofW (cc := cX1_becomeMirror) (maxL := 2) (ret := none) (plainFor_of_name (by decide)) rfl (Nat.le_of_ble_eq_true rfl) ?_
  intro p e s m below meth c ls hx hb hr hml hown hts hlk hE hw hl
  have hl : lv_has ls 2 [(0, .ref h0), (1, .ref h1)] := hl
  have hown : s.vm.findClass RX1 = some m.cls := hown
  have lk_9 := hts (.fieldLink RX1 9 "FourParts$Quad" "a" "J") (by decide +kernel)
  have hinX1 : ∀ w ∈ u_ws RX1 TX1 4, w ∈ wsX1_becomeMirror := by decide +kernel
  have lk_15 := hts (.fieldLink RX1 15 "FourParts$Quad" "b" "J") (by decide +kernel)
  have lk_18 := hts (.fieldLink RX1 18 "FourParts$Quad" "c" "J") (by decide +kernel)
  have lk_21 := hts (.fieldLink RX1 21 "FourParts$Quad" "d" "J") (by decide +kernel)
  refine lv_aload_n hx hb dX1_becomeMirror_0 rfl (lv_at hl 0 rfl) ?_
  refine lv_aload_n hx hb dX1_becomeMirror_1 rfl (lv_at hl 1 rfl) ?_
  refine h_get hx hb hE hw hts hinX1 hown (ci := 1) rfl 0 (by decide) lk_9 (fun _ h9 => h9) e1 rfl dX1_becomeMirror_2 ?_
  refine lv_aload_n hx hb dX1_becomeMirror_5 rfl (lv_at hl 1 rfl) ?_
  refine h_get hx hb hE hw hts hinX1 hown (ci := 1) rfl 1 (by decide) lk_15 (fun _ h9 => h9) e1 rfl dX1_becomeMirror_6 ?_
  refine lv_lneg hx hb dX1_becomeMirror_9 ?_
  refine lv_aload_n hx hb dX1_becomeMirror_10 rfl (lv_at hl 1 rfl) ?_
  refine h_get hx hb hE hw hts hinX1 hown (ci := 1) rfl 2 (by decide) lk_18 (fun _ h9 => h9) e1 rfl dX1_becomeMirror_11 ?_
  refine lv_lneg hx hb dX1_becomeMirror_14 ?_
  refine lv_aload_n hx hb dX1_becomeMirror_15 rfl (lv_at hl 1 rfl) ?_
  refine h_get hx hb hE hw hts hinX1 hown (ci := 1) rfl 3 (by decide) lk_21 (fun _ h9 => h9) e1 rfl dX1_becomeMirror_16 ?_
  refine lv_lneg hx hb dX1_becomeMirror_19 ?_
  refine h_callV (st1 := []) [.long y.1, .long (-y.2.1), .long (-y.2.2.1), .long (-y.2.2.2)] [] ⟨hx, hb, hml, hown, hts⟩ hE hw (c_X1_become l G A L F h0 x e0 y.1 (-y.2.1) (-y.2.2.1) (-y.2.2.2)) (cwV 4 hts gX1_becomeMirror_X1_become rfl rfl rfl (by decide +kernel) ⟨Nat.le_of_ble_eq_true rfl, Nat.le_of_ble_eq_true rfl⟩) e0 rfl rfl rfl hl.1 rfl (Nat.le_of_ble_eq_true rfl) dX1_becomeMirror_20 ⟨Nat.le_of_ble_eq_true rfl, Nat.le_of_ble_eq_true rfl⟩ rfl (fun H locs hw => ?_)
  exact h_vret hx hb hlk hr hw dX1_becomeMirror_23 rfl rfl

set_option maxHeartbeats 4000000 in
set_option maxRecDepth 100000 in
theorem c_X1_becomeProduct (l : Launch) (G : GG) (A : Nat → Prop) (L : List Nat) (F : FM) (h0 : Nat) (x : Q4) (e0 : pt L F h0 (eq4 x)) (h1 h2 : Nat) (y z : Q4) (e1 : pt L F h1 (eq4 y)) (e2 : pt L F h2 (eq4 z)) : HT l yX1_becomeProduct wsX1_becomeProduct { frames := 1, cells := 0, slots := 0, locals := 28 } G A L [.ref h0, .ref h1, .ref h2] F none (va_up F h0 (eq4 (qmul y z))) := by
  refine HT.ofW (cc := cX1_becomeProduct) (maxL := 3) (ret := none) (plainFor_of_name (by decide)) rfl (Nat.le_of_ble_eq_true rfl) ?_
  intro p e s m below meth c ls hx hb hr hml hown hts hlk hE hw hl
  have hl : lv_has ls 3 [(0, .ref h0), (1, .ref h1), (2, .ref h2)] := hl
  have hown : s.vm.findClass RX1 = some m.cls := hown
  have lk_9 := hts (.fieldLink RX1 9 "FourParts$Quad" "a" "J") (by decide +kernel)
  have hinX1 : ∀ w ∈ u_ws RX1 TX1 4, w ∈ wsX1_becomeProduct := by decide +kernel
  have lk_15 := hts (.fieldLink RX1 15 "FourParts$Quad" "b" "J") (by decide +kernel)
  have lk_18 := hts (.fieldLink RX1 18 "FourParts$Quad" "c" "J") (by decide +kernel)
  have lk_21 := hts (.fieldLink RX1 21 "FourParts$Quad" "d" "J") (by decide +kernel)
  have cl_28 := hts (.constantLong RX1 28 (2)) (by decide +kernel)
  refine lv_aload_n hx hb dX1_becomeProduct_0 rfl (lv_at hl 0 rfl) ?_
  refine lv_aload_n hx hb dX1_becomeProduct_1 rfl (lv_at hl 1 rfl) ?_
  refine h_get hx hb hE hw hts hinX1 hown (ci := 1) rfl 0 (by decide) lk_9 (fun _ h9 => h9) e1 rfl dX1_becomeProduct_2 ?_
  refine lv_aload_n hx hb dX1_becomeProduct_5 rfl (lv_at hl 2 rfl) ?_
  refine h_get hx hb hE hw hts hinX1 hown (ci := 1) rfl 0 (by decide) lk_9 (fun _ h9 => h9) e2 rfl dX1_becomeProduct_6 ?_
  refine lv_lmul hx hb dX1_becomeProduct_9 ?_
  refine lv_aload_n hx hb dX1_becomeProduct_10 rfl (lv_at hl 1 rfl) ?_
  refine h_get hx hb hE hw hts hinX1 hown (ci := 1) rfl 1 (by decide) lk_15 (fun _ h9 => h9) e1 rfl dX1_becomeProduct_11 ?_
  refine lv_aload_n hx hb dX1_becomeProduct_14 rfl (lv_at hl 2 rfl) ?_
  refine h_get hx hb hE hw hts hinX1 hown (ci := 1) rfl 1 (by decide) lk_15 (fun _ h9 => h9) e2 rfl dX1_becomeProduct_15 ?_
  refine lv_lmul hx hb dX1_becomeProduct_18 ?_
  refine lv_lsub hx hb dX1_becomeProduct_19 ?_
  refine lv_aload_n hx hb dX1_becomeProduct_20 rfl (lv_at hl 1 rfl) ?_
  refine h_get hx hb hE hw hts hinX1 hown (ci := 1) rfl 2 (by decide) lk_18 (fun _ h9 => h9) e1 rfl dX1_becomeProduct_21 ?_
  refine lv_aload_n hx hb dX1_becomeProduct_24 rfl (lv_at hl 2 rfl) ?_
  refine h_get hx hb hE hw hts hinX1 hown (ci := 1) rfl 2 (by decide) lk_18 (fun _ h9 => h9) e2 rfl dX1_becomeProduct_25 ?_
  refine lv_lmul hx hb dX1_becomeProduct_28 ?_
  refine lv_lsub hx hb dX1_becomeProduct_29 ?_
  refine lv_aload_n hx hb dX1_becomeProduct_30 rfl (lv_at hl 1 rfl) ?_
  refine h_get hx hb hE hw hts hinX1 hown (ci := 1) rfl 3 (by decide) lk_21 (fun _ h9 => h9) e1 rfl dX1_becomeProduct_31 ?_
  refine lv_aload_n hx hb dX1_becomeProduct_34 rfl (lv_at hl 2 rfl) ?_
  refine h_get hx hb hE hw hts hinX1 hown (ci := 1) rfl 3 (by decide) lk_21 (fun _ h9 => h9) e2 rfl dX1_becomeProduct_35 ?_
  refine lv_lmul hx hb dX1_becomeProduct_38 ?_
  refine lv_lsub hx hb dX1_becomeProduct_39 ?_
  refine lv_ldc2 hx hb (v := (2)) hown cl_28 dX1_becomeProduct_40 ?_
  refine lv_ldiv hx hb dX1_becomeProduct_43 (by decide) ?_
  refine lv_aload_n hx hb dX1_becomeProduct_44 rfl (lv_at hl 1 rfl) ?_
  refine h_get hx hb hE hw hts hinX1 hown (ci := 1) rfl 0 (by decide) lk_9 (fun _ h9 => h9) e1 rfl dX1_becomeProduct_45 ?_
  refine lv_aload_n hx hb dX1_becomeProduct_48 rfl (lv_at hl 2 rfl) ?_
  refine h_get hx hb hE hw hts hinX1 hown (ci := 1) rfl 1 (by decide) lk_15 (fun _ h9 => h9) e2 rfl dX1_becomeProduct_49 ?_
  refine lv_lmul hx hb dX1_becomeProduct_52 ?_
  refine lv_aload_n hx hb dX1_becomeProduct_53 rfl (lv_at hl 1 rfl) ?_
  refine h_get hx hb hE hw hts hinX1 hown (ci := 1) rfl 1 (by decide) lk_15 (fun _ h9 => h9) e1 rfl dX1_becomeProduct_54 ?_
  refine lv_aload_n hx hb dX1_becomeProduct_57 rfl (lv_at hl 2 rfl) ?_
  refine h_get hx hb hE hw hts hinX1 hown (ci := 1) rfl 0 (by decide) lk_9 (fun _ h9 => h9) e2 rfl dX1_becomeProduct_58 ?_
  refine lv_lmul hx hb dX1_becomeProduct_61 ?_
  refine lv_ladd hx hb dX1_becomeProduct_62 ?_
  refine lv_aload_n hx hb dX1_becomeProduct_63 rfl (lv_at hl 1 rfl) ?_
  refine h_get hx hb hE hw hts hinX1 hown (ci := 1) rfl 2 (by decide) lk_18 (fun _ h9 => h9) e1 rfl dX1_becomeProduct_64 ?_
  refine lv_aload_n hx hb dX1_becomeProduct_67 rfl (lv_at hl 2 rfl) ?_
  refine h_get hx hb hE hw hts hinX1 hown (ci := 1) rfl 3 (by decide) lk_21 (fun _ h9 => h9) e2 rfl dX1_becomeProduct_68 ?_
  refine lv_lmul hx hb dX1_becomeProduct_71 ?_
  refine lv_ladd hx hb dX1_becomeProduct_72 ?_
  refine lv_aload_n hx hb dX1_becomeProduct_73 rfl (lv_at hl 1 rfl) ?_
  refine h_get hx hb hE hw hts hinX1 hown (ci := 1) rfl 3 (by decide) lk_21 (fun _ h9 => h9) e1 rfl dX1_becomeProduct_74 ?_
  refine lv_aload_n hx hb dX1_becomeProduct_77 rfl (lv_at hl 2 rfl) ?_
  refine h_get hx hb hE hw hts hinX1 hown (ci := 1) rfl 2 (by decide) lk_18 (fun _ h9 => h9) e2 rfl dX1_becomeProduct_78 ?_
  refine lv_lmul hx hb dX1_becomeProduct_81 ?_
  refine lv_lsub hx hb dX1_becomeProduct_82 ?_
  refine lv_ldc2 hx hb (v := (2)) hown cl_28 dX1_becomeProduct_83 ?_
  refine lv_ldiv hx hb dX1_becomeProduct_86 (by decide) ?_
  refine lv_aload_n hx hb dX1_becomeProduct_87 rfl (lv_at hl 1 rfl) ?_
  refine h_get hx hb hE hw hts hinX1 hown (ci := 1) rfl 0 (by decide) lk_9 (fun _ h9 => h9) e1 rfl dX1_becomeProduct_88 ?_
  refine lv_aload_n hx hb dX1_becomeProduct_91 rfl (lv_at hl 2 rfl) ?_
  refine h_get hx hb hE hw hts hinX1 hown (ci := 1) rfl 2 (by decide) lk_18 (fun _ h9 => h9) e2 rfl dX1_becomeProduct_92 ?_
  refine lv_lmul hx hb dX1_becomeProduct_95 ?_
  refine lv_aload_n hx hb dX1_becomeProduct_96 rfl (lv_at hl 1 rfl) ?_
  refine h_get hx hb hE hw hts hinX1 hown (ci := 1) rfl 1 (by decide) lk_15 (fun _ h9 => h9) e1 rfl dX1_becomeProduct_97 ?_
  refine lv_aload_n hx hb dX1_becomeProduct_100 rfl (lv_at hl 2 rfl) ?_
  refine h_get hx hb hE hw hts hinX1 hown (ci := 1) rfl 3 (by decide) lk_21 (fun _ h9 => h9) e2 rfl dX1_becomeProduct_101 ?_
  refine lv_lmul hx hb dX1_becomeProduct_104 ?_
  refine lv_lsub hx hb dX1_becomeProduct_105 ?_
  refine lv_aload_n hx hb dX1_becomeProduct_106 rfl (lv_at hl 1 rfl) ?_
  refine h_get hx hb hE hw hts hinX1 hown (ci := 1) rfl 2 (by decide) lk_18 (fun _ h9 => h9) e1 rfl dX1_becomeProduct_107 ?_
  refine lv_aload_n hx hb dX1_becomeProduct_110 rfl (lv_at hl 2 rfl) ?_
  refine h_get hx hb hE hw hts hinX1 hown (ci := 1) rfl 0 (by decide) lk_9 (fun _ h9 => h9) e2 rfl dX1_becomeProduct_111 ?_
  refine lv_lmul hx hb dX1_becomeProduct_114 ?_
  refine lv_ladd hx hb dX1_becomeProduct_115 ?_
  refine lv_aload_n hx hb dX1_becomeProduct_116 rfl (lv_at hl 1 rfl) ?_
  refine h_get hx hb hE hw hts hinX1 hown (ci := 1) rfl 3 (by decide) lk_21 (fun _ h9 => h9) e1 rfl dX1_becomeProduct_117 ?_
  refine lv_aload_n hx hb dX1_becomeProduct_120 rfl (lv_at hl 2 rfl) ?_
  refine h_get hx hb hE hw hts hinX1 hown (ci := 1) rfl 1 (by decide) lk_15 (fun _ h9 => h9) e2 rfl dX1_becomeProduct_121 ?_
  refine lv_lmul hx hb dX1_becomeProduct_124 ?_
  refine lv_ladd hx hb dX1_becomeProduct_125 ?_
  refine lv_ldc2 hx hb (v := (2)) hown cl_28 dX1_becomeProduct_126 ?_
  refine lv_ldiv hx hb dX1_becomeProduct_129 (by decide) ?_
  refine lv_aload_n hx hb dX1_becomeProduct_130 rfl (lv_at hl 1 rfl) ?_
  refine h_get hx hb hE hw hts hinX1 hown (ci := 1) rfl 0 (by decide) lk_9 (fun _ h9 => h9) e1 rfl dX1_becomeProduct_131 ?_
  refine lv_aload_n hx hb dX1_becomeProduct_134 rfl (lv_at hl 2 rfl) ?_
  refine h_get hx hb hE hw hts hinX1 hown (ci := 1) rfl 3 (by decide) lk_21 (fun _ h9 => h9) e2 rfl dX1_becomeProduct_135 ?_
  refine lv_lmul hx hb dX1_becomeProduct_138 ?_
  refine lv_aload_n hx hb dX1_becomeProduct_139 rfl (lv_at hl 1 rfl) ?_
  refine h_get hx hb hE hw hts hinX1 hown (ci := 1) rfl 1 (by decide) lk_15 (fun _ h9 => h9) e1 rfl dX1_becomeProduct_140 ?_
  refine lv_aload_n hx hb dX1_becomeProduct_143 rfl (lv_at hl 2 rfl) ?_
  refine h_get hx hb hE hw hts hinX1 hown (ci := 1) rfl 2 (by decide) lk_18 (fun _ h9 => h9) e2 rfl dX1_becomeProduct_144 ?_
  refine lv_lmul hx hb dX1_becomeProduct_147 ?_
  refine lv_ladd hx hb dX1_becomeProduct_148 ?_
  refine lv_aload_n hx hb dX1_becomeProduct_149 rfl (lv_at hl 1 rfl) ?_
  refine h_get hx hb hE hw hts hinX1 hown (ci := 1) rfl 2 (by decide) lk_18 (fun _ h9 => h9) e1 rfl dX1_becomeProduct_150 ?_
  refine lv_aload_n hx hb dX1_becomeProduct_153 rfl (lv_at hl 2 rfl) ?_
  refine h_get hx hb hE hw hts hinX1 hown (ci := 1) rfl 1 (by decide) lk_15 (fun _ h9 => h9) e2 rfl dX1_becomeProduct_154 ?_
  refine lv_lmul hx hb dX1_becomeProduct_157 ?_
  refine lv_lsub hx hb dX1_becomeProduct_158 ?_
  refine lv_aload_n hx hb dX1_becomeProduct_159 rfl (lv_at hl 1 rfl) ?_
  refine h_get hx hb hE hw hts hinX1 hown (ci := 1) rfl 3 (by decide) lk_21 (fun _ h9 => h9) e1 rfl dX1_becomeProduct_160 ?_
  refine lv_aload_n hx hb dX1_becomeProduct_163 rfl (lv_at hl 2 rfl) ?_
  refine h_get hx hb hE hw hts hinX1 hown (ci := 1) rfl 0 (by decide) lk_9 (fun _ h9 => h9) e2 rfl dX1_becomeProduct_164 ?_
  refine lv_lmul hx hb dX1_becomeProduct_167 ?_
  refine lv_ladd hx hb dX1_becomeProduct_168 ?_
  refine lv_ldc2 hx hb (v := (2)) hown cl_28 dX1_becomeProduct_169 ?_
  refine lv_ldiv hx hb dX1_becomeProduct_172 (by decide) ?_
  refine h_callV (st1 := []) [.long (((((y.1 * z.1) - (y.2.1 * z.2.1)) - (y.2.2.1 * z.2.2.1)) - (y.2.2.2 * z.2.2.2)) / (2)), .long (((((y.1 * z.2.1) + (y.2.1 * z.1)) + (y.2.2.1 * z.2.2.2)) - (y.2.2.2 * z.2.2.1)) / (2)), .long (((((y.1 * z.2.2.1) - (y.2.1 * z.2.2.2)) + (y.2.2.1 * z.1)) + (y.2.2.2 * z.2.1)) / (2)), .long (((((y.1 * z.2.2.2) + (y.2.1 * z.2.2.1)) - (y.2.2.1 * z.2.1)) + (y.2.2.2 * z.1)) / (2))] [] ⟨hx, hb, hml, hown, hts⟩ hE hw (c_X1_become l G A L F h0 x e0 (((((y.1 * z.1) - (y.2.1 * z.2.1)) - (y.2.2.1 * z.2.2.1)) - (y.2.2.2 * z.2.2.2)) / (2)) (((((y.1 * z.2.1) + (y.2.1 * z.1)) + (y.2.2.1 * z.2.2.2)) - (y.2.2.2 * z.2.2.1)) / (2)) (((((y.1 * z.2.2.1) - (y.2.1 * z.2.2.2)) + (y.2.2.1 * z.1)) + (y.2.2.2 * z.2.1)) / (2)) (((((y.1 * z.2.2.2) + (y.2.1 * z.2.2.1)) - (y.2.2.1 * z.2.1)) + (y.2.2.2 * z.1)) / (2))) (cwV 4 hts gX1_becomeProduct_X1_become rfl rfl rfl (by decide +kernel) ⟨Nat.le_of_ble_eq_true rfl, Nat.le_of_ble_eq_true rfl⟩) e0 rfl rfl rfl hl.1 rfl (Nat.le_of_ble_eq_true rfl) dX1_becomeProduct_173 ⟨Nat.le_of_ble_eq_true rfl, Nat.le_of_ble_eq_true rfl⟩ rfl (fun H locs hw => ?_)
  exact h_vret hx hb hlk hr hw dX1_becomeProduct_176 rfl rfl

set_option maxHeartbeats 4000000 in
set_option maxRecDepth 100000 in
theorem c_X1_becomeProductOn (l : Launch) (G : GG) (A : Nat → Prop) (L : List Nat) (F : FM) (h0 : Nat) (x : Q4) (e0 : pt L F h0 (eq4 x)) (sd : Int32) (h1 h2 : Nat) (y z : Q4) (e1 : pt L F h1 (eq4 y)) (e2 : pt L F h2 (eq4 z)) : HT l yX1_becomeProductOn wsX1_becomeProductOn { frames := 2, cells := 0, slots := 0, locals := 50 } G A L [.ref h0, .int sd, .ref h1, .ref h2] F none (va_up F h0 (eq4 (qon sd y z))) := by
  refine HT.ofW (cc := cX1_becomeProductOn) (maxL := 4) (ret := none) (plainFor_of_name (by decide)) rfl (Nat.le_of_ble_eq_true rfl) ?_
  intro p e s m below meth c ls hx hb hr hml hown hts hlk hE hw hl
  have hl : lv_has ls 4 [(0, .ref h0), (1, .int sd), (2, .ref h1), (3, .ref h2)] := hl
  have hown : s.vm.findClass RX1 = some m.cls := hown
  refine lv_iload_n hx hb dX1_becomeProductOn_0 rfl (lv_at hl 1 rfl) ?_
  refine lv_if_ne (tgt := 13) hx hb dX1_becomeProductOn_1 (by decide) (fun c_1 => ?_) (fun c_1 => ?_)
  · skip
    refine lv_aload_n hx hb dX1_becomeProductOn_13 rfl (lv_at hl 0 rfl) ?_
    refine lv_aload_n hx hb dX1_becomeProductOn_14 rfl (lv_at hl 3 rfl) ?_
    refine lv_aload_n hx hb dX1_becomeProductOn_15 rfl (lv_at hl 2 rfl) ?_
    refine h_callV (st1 := []) [.ref h2, .ref h1] [] ⟨hx, hb, hml, hown, hts⟩ hE hw (c_X1_becomeProduct l G A L F h0 x e0  h2 h1 z y e2 e1) (cwV 2 hts gX1_becomeProductOn_X1_becomeProduct rfl rfl rfl (by decide +kernel) ⟨Nat.le_of_ble_eq_true rfl, Nat.le_of_ble_eq_true rfl⟩) e0 rfl rfl rfl hl.1 rfl (Nat.le_of_ble_eq_true rfl) dX1_becomeProductOn_16 ⟨Nat.le_of_ble_eq_true rfl, Nat.le_of_ble_eq_true rfl⟩ rfl (fun H locs hw => ?_)
    exact h_vret hx hb hlk hr hw dX1_becomeProductOn_19 rfl (by unfold qon; rw [if_neg c_1])
  · skip
    refine lv_aload_n hx hb dX1_becomeProductOn_4 rfl (lv_at hl 0 rfl) ?_
    refine lv_aload_n hx hb dX1_becomeProductOn_5 rfl (lv_at hl 2 rfl) ?_
    refine lv_aload_n hx hb dX1_becomeProductOn_6 rfl (lv_at hl 3 rfl) ?_
    refine h_callV (st1 := []) [.ref h1, .ref h2] [] ⟨hx, hb, hml, hown, hts⟩ hE hw (c_X1_becomeProduct l G A L F h0 x e0  h1 h2 y z e1 e2) (cwV 2 hts gX1_becomeProductOn_X1_becomeProduct rfl rfl rfl (by decide +kernel) ⟨Nat.le_of_ble_eq_true rfl, Nat.le_of_ble_eq_true rfl⟩) e0 rfl rfl rfl hl.1 rfl (Nat.le_of_ble_eq_true rfl) dX1_becomeProductOn_7 ⟨Nat.le_of_ble_eq_true rfl, Nat.le_of_ble_eq_true rfl⟩ rfl (fun H locs hw => ?_)
    refine lv_goto (tgt := 19) hx hb dX1_becomeProductOn_10 (by decide) ?_
    exact h_vret hx hb hlk hr hw dX1_becomeProductOn_19 rfl (by unfold qon; rw [if_pos c_1])

set_option maxHeartbeats 4000000 in
set_option maxRecDepth 100000 in
theorem c_X1_square (l : Launch) (G : GG) (A : Nat → Prop) (L : List Nat) (F : FM) (v : Int64) : HT l yX1_square wsX1_square { frames := 0, cells := 0, slots := 0, locals := 0 } G A L [.long v] F (some (.long (v * v))) F := by
  refine HT.ofW (cc := cX1_square) (maxL := 2) (ret := (some .long)) (plainFor_of_name (by decide)) rfl (Nat.le_of_ble_eq_true rfl) ?_
  intro p e s m below meth c ls hx hb hr hml hown hts hlk hE hw hl
  have hl : lv_has ls 2 [(0, .long v)] := hl
  have hown : s.vm.findClass RX1 = some m.cls := hown
  refine lv_lload_n hx hb dX1_square_0 rfl (lv_at hl 0 rfl) ?_
  refine lv_lload_n hx hb dX1_square_1 rfl (lv_at hl 0 rfl) ?_
  refine lv_lmul hx hb dX1_square_2 ?_
  exact h_lret hx hb hlk hr hw dX1_square_3 rfl rfl

set_option maxHeartbeats 4000000 in
set_option maxRecDepth 100000 in
theorem c_X1_isHighPart (l : Launch) (G : GG) (A : Nat → Prop) (L : List Nat) (F : FM) (v : Int64) : HT l yX1_isHighPart wsX1_isHighPart { frames := 0, cells := 0, slots := 0, locals := 0 } G A L [.long v] F (some (.int (bI (hiP v)))) F := by
  refine HT.ofW (cc := cX1_isHighPart) (maxL := 2) (ret := (some .boolean)) (plainFor_of_name (by decide)) rfl (Nat.le_of_ble_eq_true rfl) ?_
  intro p e s m below meth c ls hx hb hr hml hown hts hlk hE hw hl
  have hl : lv_has ls 2 [(0, .long v)] := hl
  have hown : s.vm.findClass RX1 = some m.cls := hown
  have cl_60 := hts (.constantLong RX1 60 (-20000)) (by decide +kernel)
  have cl_62 := hts (.constantLong RX1 62 (20000)) (by decide +kernel)
  refine lv_lload_n hx hb dX1_isHighPart_0 rfl (lv_at hl 0 rfl) ?_
  refine lv_ldc2 hx hb (v := (-20000)) hown cl_60 dX1_isHighPart_1 ?_
  refine h_lc_lt (x := v) (y := (-20000)) (tgt := 16) hx hb dX1_isHighPart_4 dX1_isHighPart_5 (by decide) (fun c_4 => ?_) (fun c_4 => ?_)
  · skip
    refine lv_iconst (v := 1) hx hb dX1_isHighPart_16 (by decide) ?_
    refine lv_goto (tgt := 21) hx hb dX1_isHighPart_17 (by decide) ?_
    exact h_zret hx hb hlk hr hw dX1_isHighPart_21 rfl (by rw [bI_t (by simp [hiP, c_4])]) rfl
  · skip
    refine lv_lload_n hx hb dX1_isHighPart_8 rfl (lv_at hl 0 rfl) ?_
    refine lv_ldc2 hx hb (v := (20000)) hown cl_62 dX1_isHighPart_9 ?_
    refine h_lc_le (x := v) (y := (20000)) (tgt := 20) hx hb dX1_isHighPart_12 dX1_isHighPart_13 (by decide) (fun c_12 => ?_) (fun c_12 => ?_)
    · skip
      refine lv_iconst (v := 0) hx hb dX1_isHighPart_20 (by decide) ?_
      exact h_zret hx hb hlk hr hw dX1_isHighPart_21 rfl (by rw [bI_f (by simp [hiP, c_4, c_12])]) rfl
    · skip
      refine lv_iconst (v := 1) hx hb dX1_isHighPart_16 (by decide) ?_
      refine lv_goto (tgt := 21) hx hb dX1_isHighPart_17 (by decide) ?_
      exact h_zret hx hb hlk hr hw dX1_isHighPart_21 rfl (by rw [bI_t (by simp [hiP, c_4, c_12])]) rfl

set_option maxHeartbeats 4000000 in
set_option maxRecDepth 100000 in
theorem c_X1_isHigh (l : Launch) (G : GG) (A : Nat → Prop) (L : List Nat) (F : FM) (h0 : Nat) (x : Q4) (e0 : pt L F h0 (eq4 x)) : HT l yX1_isHigh wsX1_isHigh { frames := 1, cells := 0, slots := 0, locals := 21 } G A L [.ref h0] F (some (.int (bI (qhigh x)))) F := by
  refine HT.ofW (cc := cX1_isHigh) (maxL := 1) (ret := (some .boolean)) (plainFor_of_name (by decide)) rfl (Nat.le_of_ble_eq_true rfl) ?_
  intro p e s m below meth c ls hx hb hr hml hown hts hlk hE hw hl
  have hl : lv_has ls 1 [(0, .ref h0)] := hl
  have hown : s.vm.findClass RX1 = some m.cls := hown
  have lk_9 := hts (.fieldLink RX1 9 "FourParts$Quad" "a" "J") (by decide +kernel)
  have hinX1 : ∀ w ∈ u_ws RX1 TX1 4, w ∈ wsX1_isHigh := by decide +kernel
  have lk_15 := hts (.fieldLink RX1 15 "FourParts$Quad" "b" "J") (by decide +kernel)
  have lk_18 := hts (.fieldLink RX1 18 "FourParts$Quad" "c" "J") (by decide +kernel)
  have lk_21 := hts (.fieldLink RX1 21 "FourParts$Quad" "d" "J") (by decide +kernel)
  refine lv_aload_n hx hb dX1_isHigh_0 rfl (lv_at hl 0 rfl) ?_
  refine h_get hx hb hE hw hts hinX1 hown (ci := 1) rfl 0 (by decide) lk_9 (fun _ h9 => h9) e0 rfl dX1_isHigh_1 ?_
  refine h_callS (st1 := [.int (bI (hiP x.1))]) [.long x.1] [] ⟨hx, hb, hml, hown, hts⟩ hE hw (c_X1_isHighPart l G A L F x.1) (va_cwS 1 hts gX1_isHigh_X1_isHighPart rfl rfl rfl (by decide +kernel) ⟨Nat.le_of_ble_eq_true rfl, Nat.le_of_ble_eq_true rfl⟩) rfl hl.1 rfl (Nat.le_of_ble_eq_true rfl) dX1_isHigh_4 ⟨Nat.le_of_ble_eq_true rfl, Nat.le_of_ble_eq_true rfl⟩ rfl (fun H locs hw => ?_)
  refine lv_if_ne (tgt := 40) hx hb dX1_isHigh_7 (by decide) (fun c_7 => ?_) (fun c_7 => ?_)
  · skip
    have c_7 := bI_ne.mp c_7
    refine lv_iconst (v := 1) hx hb dX1_isHigh_40 (by decide) ?_
    refine lv_goto (tgt := 45) hx hb dX1_isHigh_41 (by decide) ?_
    exact h_zret hx hb hlk hr hw dX1_isHigh_45 rfl (by rw [bI_t (by simp [qhigh, c_7])]) rfl
  · skip
    have c_7 := bI_eq.mp c_7
    refine lv_aload_n hx hb dX1_isHigh_10 rfl (lv_at hl 0 rfl) ?_
    refine h_get hx hb hE hw hts hinX1 hown (ci := 1) rfl 1 (by decide) lk_15 (fun _ h9 => h9) e0 rfl dX1_isHigh_11 ?_
    refine h_callS (st1 := [.int (bI (hiP x.2.1))]) [.long x.2.1] [] ⟨hx, hb, hml, hown, hts⟩ hE hw (c_X1_isHighPart l G A L F x.2.1) (va_cwS 1 hts gX1_isHigh_X1_isHighPart rfl rfl rfl (by decide +kernel) ⟨Nat.le_of_ble_eq_true rfl, Nat.le_of_ble_eq_true rfl⟩) rfl hl.1 rfl (Nat.le_of_ble_eq_true rfl) dX1_isHigh_14 ⟨Nat.le_of_ble_eq_true rfl, Nat.le_of_ble_eq_true rfl⟩ rfl (fun H locs hw => ?_)
    refine lv_if_ne (tgt := 40) hx hb dX1_isHigh_17 (by decide) (fun c_17 => ?_) (fun c_17 => ?_)
    · skip
      have c_17 := bI_ne.mp c_17
      refine lv_iconst (v := 1) hx hb dX1_isHigh_40 (by decide) ?_
      refine lv_goto (tgt := 45) hx hb dX1_isHigh_41 (by decide) ?_
      exact h_zret hx hb hlk hr hw dX1_isHigh_45 rfl (by rw [bI_t (by simp [qhigh, c_7, c_17])]) rfl
    · skip
      have c_17 := bI_eq.mp c_17
      refine lv_aload_n hx hb dX1_isHigh_20 rfl (lv_at hl 0 rfl) ?_
      refine h_get hx hb hE hw hts hinX1 hown (ci := 1) rfl 2 (by decide) lk_18 (fun _ h9 => h9) e0 rfl dX1_isHigh_21 ?_
      refine h_callS (st1 := [.int (bI (hiP x.2.2.1))]) [.long x.2.2.1] [] ⟨hx, hb, hml, hown, hts⟩ hE hw (c_X1_isHighPart l G A L F x.2.2.1) (va_cwS 1 hts gX1_isHigh_X1_isHighPart rfl rfl rfl (by decide +kernel) ⟨Nat.le_of_ble_eq_true rfl, Nat.le_of_ble_eq_true rfl⟩) rfl hl.1 rfl (Nat.le_of_ble_eq_true rfl) dX1_isHigh_24 ⟨Nat.le_of_ble_eq_true rfl, Nat.le_of_ble_eq_true rfl⟩ rfl (fun H locs hw => ?_)
      refine lv_if_ne (tgt := 40) hx hb dX1_isHigh_27 (by decide) (fun c_27 => ?_) (fun c_27 => ?_)
      · skip
        have c_27 := bI_ne.mp c_27
        refine lv_iconst (v := 1) hx hb dX1_isHigh_40 (by decide) ?_
        refine lv_goto (tgt := 45) hx hb dX1_isHigh_41 (by decide) ?_
        exact h_zret hx hb hlk hr hw dX1_isHigh_45 rfl (by rw [bI_t (by simp [qhigh, c_7, c_17, c_27])]) rfl
      · skip
        have c_27 := bI_eq.mp c_27
        refine lv_aload_n hx hb dX1_isHigh_30 rfl (lv_at hl 0 rfl) ?_
        refine h_get hx hb hE hw hts hinX1 hown (ci := 1) rfl 3 (by decide) lk_21 (fun _ h9 => h9) e0 rfl dX1_isHigh_31 ?_
        refine h_callS (st1 := [.int (bI (hiP x.2.2.2))]) [.long x.2.2.2] [] ⟨hx, hb, hml, hown, hts⟩ hE hw (c_X1_isHighPart l G A L F x.2.2.2) (va_cwS 1 hts gX1_isHigh_X1_isHighPart rfl rfl rfl (by decide +kernel) ⟨Nat.le_of_ble_eq_true rfl, Nat.le_of_ble_eq_true rfl⟩) rfl hl.1 rfl (Nat.le_of_ble_eq_true rfl) dX1_isHigh_34 ⟨Nat.le_of_ble_eq_true rfl, Nat.le_of_ble_eq_true rfl⟩ rfl (fun H locs hw => ?_)
        refine lv_if_eq (tgt := 44) hx hb dX1_isHigh_37 (by decide) (fun c_37 => ?_) (fun c_37 => ?_)
        · skip
          have c_37 := bI_eq.mp c_37
          refine lv_iconst (v := 0) hx hb dX1_isHigh_44 (by decide) ?_
          exact h_zret hx hb hlk hr hw dX1_isHigh_45 rfl (by rw [bI_f (by simp [qhigh, c_7, c_17, c_27, c_37])]) rfl
        · skip
          have c_37 := bI_ne.mp c_37
          refine lv_iconst (v := 1) hx hb dX1_isHigh_40 (by decide) ?_
          refine lv_goto (tgt := 45) hx hb dX1_isHigh_41 (by decide) ?_
          exact h_zret hx hb hlk hr hw dX1_isHigh_45 rfl (by rw [bI_t (by simp [qhigh, c_7, c_17, c_27, c_37])]) rfl

set_option maxHeartbeats 4000000 in
set_option maxRecDepth 100000 in
theorem c_X1_isSame (l : Launch) (G : GG) (A : Nat → Prop) (L : List Nat) (F : FM) (h0 h1 : Nat) (x y : Q4) (e0 : pt L F h0 (eq4 x)) (e1 : pt L F h1 (eq4 y)) : HT l yX1_isSame wsX1_isSame { frames := 0, cells := 0, slots := 0, locals := 0 } G A L [.ref h0, .ref h1] F (some (.int (bI (x = y)))) F := by
  refine HT.ofW (cc := cX1_isSame) (maxL := 2) (ret := (some .boolean)) (plainFor_of_name (by decide)) rfl (Nat.le_of_ble_eq_true rfl) ?_
  intro p e s m below meth c ls hx hb hr hml hown hts hlk hE hw hl
  have hl : lv_has ls 2 [(0, .ref h0), (1, .ref h1)] := hl
  have hown : s.vm.findClass RX1 = some m.cls := hown
  have lk_9 := hts (.fieldLink RX1 9 "FourParts$Quad" "a" "J") (by decide +kernel)
  have hinX1 : ∀ w ∈ u_ws RX1 TX1 4, w ∈ wsX1_isSame := by decide +kernel
  have lk_15 := hts (.fieldLink RX1 15 "FourParts$Quad" "b" "J") (by decide +kernel)
  have lk_18 := hts (.fieldLink RX1 18 "FourParts$Quad" "c" "J") (by decide +kernel)
  have lk_21 := hts (.fieldLink RX1 21 "FourParts$Quad" "d" "J") (by decide +kernel)
  refine lv_aload_n hx hb dX1_isSame_0 rfl (lv_at hl 0 rfl) ?_
  refine h_get hx hb hE hw hts hinX1 hown (ci := 1) rfl 0 (by decide) lk_9 (fun _ h9 => h9) e0 rfl dX1_isSame_1 ?_
  refine lv_aload_n hx hb dX1_isSame_4 rfl (lv_at hl 1 rfl) ?_
  refine h_get hx hb hE hw hts hinX1 hown (ci := 1) rfl 0 (by decide) lk_9 (fun _ h9 => h9) e1 rfl dX1_isSame_5 ?_
  refine h_lc_ne (x := x.1) (y := y.1) (tgt := 52) hx hb dX1_isSame_8 dX1_isSame_9 (by decide) (fun c_8 => ?_) (fun c_8 => ?_)
  · skip
    refine lv_iconst (v := 0) hx hb dX1_isSame_52 (by decide) ?_
    exact h_zret hx hb hlk hr hw dX1_isSame_53 rfl (by rw [bI_f]; intro q; exact c_8 (by rw [q])) rfl
  · skip
    refine lv_aload_n hx hb dX1_isSame_12 rfl (lv_at hl 0 rfl) ?_
    refine h_get hx hb hE hw hts hinX1 hown (ci := 1) rfl 1 (by decide) lk_15 (fun _ h9 => h9) e0 rfl dX1_isSame_13 ?_
    refine lv_aload_n hx hb dX1_isSame_16 rfl (lv_at hl 1 rfl) ?_
    refine h_get hx hb hE hw hts hinX1 hown (ci := 1) rfl 1 (by decide) lk_15 (fun _ h9 => h9) e1 rfl dX1_isSame_17 ?_
    refine h_lc_ne (x := x.2.1) (y := y.2.1) (tgt := 52) hx hb dX1_isSame_20 dX1_isSame_21 (by decide) (fun c_20 => ?_) (fun c_20 => ?_)
    · skip
      refine lv_iconst (v := 0) hx hb dX1_isSame_52 (by decide) ?_
      exact h_zret hx hb hlk hr hw dX1_isSame_53 rfl (by rw [bI_f]; intro q; exact c_20 (by rw [q])) rfl
    · skip
      refine lv_aload_n hx hb dX1_isSame_24 rfl (lv_at hl 0 rfl) ?_
      refine h_get hx hb hE hw hts hinX1 hown (ci := 1) rfl 2 (by decide) lk_18 (fun _ h9 => h9) e0 rfl dX1_isSame_25 ?_
      refine lv_aload_n hx hb dX1_isSame_28 rfl (lv_at hl 1 rfl) ?_
      refine h_get hx hb hE hw hts hinX1 hown (ci := 1) rfl 2 (by decide) lk_18 (fun _ h9 => h9) e1 rfl dX1_isSame_29 ?_
      refine h_lc_ne (x := x.2.2.1) (y := y.2.2.1) (tgt := 52) hx hb dX1_isSame_32 dX1_isSame_33 (by decide) (fun c_32 => ?_) (fun c_32 => ?_)
      · skip
        refine lv_iconst (v := 0) hx hb dX1_isSame_52 (by decide) ?_
        exact h_zret hx hb hlk hr hw dX1_isSame_53 rfl (by rw [bI_f]; intro q; exact c_32 (by rw [q])) rfl
      · skip
        refine lv_aload_n hx hb dX1_isSame_36 rfl (lv_at hl 0 rfl) ?_
        refine h_get hx hb hE hw hts hinX1 hown (ci := 1) rfl 3 (by decide) lk_21 (fun _ h9 => h9) e0 rfl dX1_isSame_37 ?_
        refine lv_aload_n hx hb dX1_isSame_40 rfl (lv_at hl 1 rfl) ?_
        refine h_get hx hb hE hw hts hinX1 hown (ci := 1) rfl 3 (by decide) lk_21 (fun _ h9 => h9) e1 rfl dX1_isSame_41 ?_
        refine h_lc_ne (x := x.2.2.2) (y := y.2.2.2) (tgt := 52) hx hb dX1_isSame_44 dX1_isSame_45 (by decide) (fun c_44 => ?_) (fun c_44 => ?_)
        · skip
          refine lv_iconst (v := 0) hx hb dX1_isSame_52 (by decide) ?_
          exact h_zret hx hb hlk hr hw dX1_isSame_53 rfl (by rw [bI_f]; intro q; exact c_44 (by rw [q])) rfl
        · skip
          refine lv_iconst (v := 1) hx hb dX1_isSame_48 (by decide) ?_
          refine lv_goto (tgt := 53) hx hb dX1_isSame_49 (by decide) ?_
          exact h_zret hx hb hlk hr hw dX1_isSame_53 rfl (by rw [bI_t]; exact Prod.ext c_8 (Prod.ext c_20 (Prod.ext c_32 c_44))) rfl

set_option maxHeartbeats 4000000 in
set_option maxRecDepth 100000 in
theorem c_X1_isGreaterThan (l : Launch) (G : GG) (A : Nat → Prop) (L : List Nat) (F : FM) (h0 h1 : Nat) (x y : Q4) (e0 : pt L F h0 (eq4 x)) (e1 : pt L F h1 (eq4 y)) : HT l yX1_isGreaterThan wsX1_isGreaterThan { frames := 0, cells := 0, slots := 0, locals := 0 } G A L [.ref h0, .ref h1] F (some (.int (bI (qgr x y)))) F := by
  refine HT.ofW (cc := cX1_isGreaterThan) (maxL := 2) (ret := (some .boolean)) (plainFor_of_name (by decide)) rfl (Nat.le_of_ble_eq_true rfl) ?_
  intro p e s m below meth c ls hx hb hr hml hown hts hlk hE hw hl
  have hl : lv_has ls 2 [(0, .ref h0), (1, .ref h1)] := hl
  have hown : s.vm.findClass RX1 = some m.cls := hown
  have lk_9 := hts (.fieldLink RX1 9 "FourParts$Quad" "a" "J") (by decide +kernel)
  have hinX1 : ∀ w ∈ u_ws RX1 TX1 4, w ∈ wsX1_isGreaterThan := by decide +kernel
  have lk_15 := hts (.fieldLink RX1 15 "FourParts$Quad" "b" "J") (by decide +kernel)
  have lk_18 := hts (.fieldLink RX1 18 "FourParts$Quad" "c" "J") (by decide +kernel)
  have lk_21 := hts (.fieldLink RX1 21 "FourParts$Quad" "d" "J") (by decide +kernel)
  refine lv_aload_n hx hb dX1_isGreaterThan_0 rfl (lv_at hl 0 rfl) ?_
  refine h_get hx hb hE hw hts hinX1 hown (ci := 1) rfl 0 (by decide) lk_9 (fun _ h9 => h9) e0 rfl dX1_isGreaterThan_1 ?_
  refine lv_aload_n hx hb dX1_isGreaterThan_4 rfl (lv_at hl 1 rfl) ?_
  refine h_get hx hb hE hw hts hinX1 hown (ci := 1) rfl 0 (by decide) lk_9 (fun _ h9 => h9) e1 rfl dX1_isGreaterThan_5 ?_
  refine h_lc_eq (x := x.1) (y := y.1) (tgt := 30) hx hb dX1_isGreaterThan_8 dX1_isGreaterThan_9 (by decide) (fun c_8 => ?_) (fun c_8 => ?_)
  · skip
    refine lv_aload_n hx hb dX1_isGreaterThan_30 rfl (lv_at hl 0 rfl) ?_
    refine h_get hx hb hE hw hts hinX1 hown (ci := 1) rfl 1 (by decide) lk_15 (fun _ h9 => h9) e0 rfl dX1_isGreaterThan_31 ?_
    refine lv_aload_n hx hb dX1_isGreaterThan_34 rfl (lv_at hl 1 rfl) ?_
    refine h_get hx hb hE hw hts hinX1 hown (ci := 1) rfl 1 (by decide) lk_15 (fun _ h9 => h9) e1 rfl dX1_isGreaterThan_35 ?_
    refine h_lc_eq (x := x.2.1) (y := y.2.1) (tgt := 60) hx hb dX1_isGreaterThan_38 dX1_isGreaterThan_39 (by decide) (fun c_38 => ?_) (fun c_38 => ?_)
    · skip
      refine lv_aload_n hx hb dX1_isGreaterThan_60 rfl (lv_at hl 0 rfl) ?_
      refine h_get hx hb hE hw hts hinX1 hown (ci := 1) rfl 2 (by decide) lk_18 (fun _ h9 => h9) e0 rfl dX1_isGreaterThan_61 ?_
      refine lv_aload_n hx hb dX1_isGreaterThan_64 rfl (lv_at hl 1 rfl) ?_
      refine h_get hx hb hE hw hts hinX1 hown (ci := 1) rfl 2 (by decide) lk_18 (fun _ h9 => h9) e1 rfl dX1_isGreaterThan_65 ?_
      refine h_lc_eq (x := x.2.2.1) (y := y.2.2.1) (tgt := 90) hx hb dX1_isGreaterThan_68 dX1_isGreaterThan_69 (by decide) (fun c_68 => ?_) (fun c_68 => ?_)
      · skip
        refine lv_aload_n hx hb dX1_isGreaterThan_90 rfl (lv_at hl 0 rfl) ?_
        refine h_get hx hb hE hw hts hinX1 hown (ci := 1) rfl 3 (by decide) lk_21 (fun _ h9 => h9) e0 rfl dX1_isGreaterThan_91 ?_
        refine lv_aload_n hx hb dX1_isGreaterThan_94 rfl (lv_at hl 1 rfl) ?_
        refine h_get hx hb hE hw hts hinX1 hown (ci := 1) rfl 3 (by decide) lk_21 (fun _ h9 => h9) e1 rfl dX1_isGreaterThan_95 ?_
        refine h_lc_le (x := x.2.2.2) (y := y.2.2.2) (tgt := 106) hx hb dX1_isGreaterThan_98 dX1_isGreaterThan_99 (by decide) (fun c_98 => ?_) (fun c_98 => ?_)
        · skip
          refine lv_iconst (v := 0) hx hb dX1_isGreaterThan_106 (by decide) ?_
          exact h_zret hx hb hlk hr hw dX1_isGreaterThan_107 rfl (by rw [bI_f (by simp [qgr, c_8, c_38, c_68, c_98])]) rfl
        · skip
          refine lv_iconst (v := 1) hx hb dX1_isGreaterThan_102 (by decide) ?_
          refine lv_goto (tgt := 107) hx hb dX1_isGreaterThan_103 (by decide) ?_
          exact h_zret hx hb hlk hr hw dX1_isGreaterThan_107 rfl (by rw [bI_t (by simp [qgr, c_8, c_38, c_68, c_98])]) rfl
      · skip
        refine lv_aload_n hx hb dX1_isGreaterThan_72 rfl (lv_at hl 0 rfl) ?_
        refine h_get hx hb hE hw hts hinX1 hown (ci := 1) rfl 2 (by decide) lk_18 (fun _ h9 => h9) e0 rfl dX1_isGreaterThan_73 ?_
        refine lv_aload_n hx hb dX1_isGreaterThan_76 rfl (lv_at hl 1 rfl) ?_
        refine h_get hx hb hE hw hts hinX1 hown (ci := 1) rfl 2 (by decide) lk_18 (fun _ h9 => h9) e1 rfl dX1_isGreaterThan_77 ?_
        refine h_lc_le (x := x.2.2.1) (y := y.2.2.1) (tgt := 88) hx hb dX1_isGreaterThan_80 dX1_isGreaterThan_81 (by decide) (fun c_80 => ?_) (fun c_80 => ?_)
        · skip
          refine lv_iconst (v := 0) hx hb dX1_isGreaterThan_88 (by decide) ?_
          exact h_zret hx hb hlk hr hw dX1_isGreaterThan_89 rfl (by rw [bI_f (by simp [qgr, c_8, c_38, c_68, c_80])]) rfl
        · skip
          refine lv_iconst (v := 1) hx hb dX1_isGreaterThan_84 (by decide) ?_
          refine lv_goto (tgt := 89) hx hb dX1_isGreaterThan_85 (by decide) ?_
          exact h_zret hx hb hlk hr hw dX1_isGreaterThan_89 rfl (by rw [bI_t (by simp [qgr, c_8, c_38, c_68, c_80])]) rfl
    · skip
      refine lv_aload_n hx hb dX1_isGreaterThan_42 rfl (lv_at hl 0 rfl) ?_
      refine h_get hx hb hE hw hts hinX1 hown (ci := 1) rfl 1 (by decide) lk_15 (fun _ h9 => h9) e0 rfl dX1_isGreaterThan_43 ?_
      refine lv_aload_n hx hb dX1_isGreaterThan_46 rfl (lv_at hl 1 rfl) ?_
      refine h_get hx hb hE hw hts hinX1 hown (ci := 1) rfl 1 (by decide) lk_15 (fun _ h9 => h9) e1 rfl dX1_isGreaterThan_47 ?_
      refine h_lc_le (x := x.2.1) (y := y.2.1) (tgt := 58) hx hb dX1_isGreaterThan_50 dX1_isGreaterThan_51 (by decide) (fun c_50 => ?_) (fun c_50 => ?_)
      · skip
        refine lv_iconst (v := 0) hx hb dX1_isGreaterThan_58 (by decide) ?_
        exact h_zret hx hb hlk hr hw dX1_isGreaterThan_59 rfl (by rw [bI_f (by simp [qgr, c_8, c_38, c_50])]) rfl
      · skip
        refine lv_iconst (v := 1) hx hb dX1_isGreaterThan_54 (by decide) ?_
        refine lv_goto (tgt := 59) hx hb dX1_isGreaterThan_55 (by decide) ?_
        exact h_zret hx hb hlk hr hw dX1_isGreaterThan_59 rfl (by rw [bI_t (by simp [qgr, c_8, c_38, c_50])]) rfl
  · skip
    refine lv_aload_n hx hb dX1_isGreaterThan_12 rfl (lv_at hl 0 rfl) ?_
    refine h_get hx hb hE hw hts hinX1 hown (ci := 1) rfl 0 (by decide) lk_9 (fun _ h9 => h9) e0 rfl dX1_isGreaterThan_13 ?_
    refine lv_aload_n hx hb dX1_isGreaterThan_16 rfl (lv_at hl 1 rfl) ?_
    refine h_get hx hb hE hw hts hinX1 hown (ci := 1) rfl 0 (by decide) lk_9 (fun _ h9 => h9) e1 rfl dX1_isGreaterThan_17 ?_
    refine h_lc_le (x := x.1) (y := y.1) (tgt := 28) hx hb dX1_isGreaterThan_20 dX1_isGreaterThan_21 (by decide) (fun c_20 => ?_) (fun c_20 => ?_)
    · skip
      refine lv_iconst (v := 0) hx hb dX1_isGreaterThan_28 (by decide) ?_
      exact h_zret hx hb hlk hr hw dX1_isGreaterThan_29 rfl (by rw [bI_f (by simp [qgr, c_8, c_20])]) rfl
    · skip
      refine lv_iconst (v := 1) hx hb dX1_isGreaterThan_24 (by decide) ?_
      refine lv_goto (tgt := 29) hx hb dX1_isGreaterThan_25 (by decide) ?_
      exact h_zret hx hb hlk hr hw dX1_isGreaterThan_29 rfl (by rw [bI_t (by simp [qgr, c_8, c_20])]) rfl
