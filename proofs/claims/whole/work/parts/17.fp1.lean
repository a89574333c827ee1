/-! What each call answers and does: the state that it speaks of (registers 0 to 15 and factors 16 to 27; the sheets' kinds, sizes, places; how many factors) -/
abbrev SS : Type := (Nat → Q4) × (Nat → Int32) × (Nat → Nat) × (Nat → Nat → Int64) × Nat
def CR (G : GG) (ad : Nat → Nat) (S : SS) (F : FM) : Prop := ∃ q2 : Nat → Q4, CW G ad (q2, S.2.1, fun k => nI (S.2.2.1 k), S.2.2.2.1, nI S.2.2.2.2) F ∧ ∀ k, k < 28 → q2 k = S.1 k
noncomputable def cif {α : Type} (p : Prop) (a b : α) : α := @ite α p (Classical.propDecidable p) a b
theorem cif_t {α : Type} {p : Prop} {a b : α} (h : p) : cif p a b = a := if_pos h
theorem cif_f {α : Type} {p : Prop} {a b : α} (h : ¬ p) : cif p a b = b := if_neg h
def ix (n : Nat) (r : Int32) : Option Nat := if r < 0 then none else if nI n ≤ r then none else some r.toNatClampNeg
theorem ix_in {n j : Nat} (h : j < n) (hn : n < 2 ^ 31) : ix n (nI j) = some j := by
  unfold ix
  rw [if_neg (nI_pos (by omega)), if_neg (nI_ge h hn), nI_clamp (by omega)]
theorem ix_none {n : Nat} {r : Int32} (h : r < 0 ∨ nI n ≤ r) : ix n r = none := by
  unfold ix
  by_cases h1 : r < 0
  · rw [if_pos h1]
  · rw [if_neg h1, if_pos (h.resolve_left h1)]
theorem ix_cases (n : Nat) (hn : n < 2 ^ 31) (r : Int32) : (r < 0 ∨ nI n ≤ r) ∨ ∃ j : Nat, j < n ∧ r = nI j := by
  rcases pk_ix r hn with h | h | h
  · exact Or.inl (Or.inl h)
  · exact Or.inl (Or.inr h)
  · exact Or.inr h
theorem qscr {q r : Nat → Q4} {i : Nat} {v : Q4} (h : ∀ k, k < 28 → q k = r k) (hi : 28 ≤ i) : ∀ k, k < 28 → upq q i v k = r k := fun k hk => (upq_n q v (by omega)).trans (h k hk)
theorem qup {q r : Nat → Q4} {i : Nat} {v : Q4} (h : ∀ k, k < 28 → q k = r k) : ∀ k, k < 28 → upq q i v k = upq r i v k := fun k hk => by
  by_cases e : k = i
  · subst e; rw [upq_s, upq_s]
  · rw [upq_n _ _ e, upq_n _ _ e]; exact h k hk
theorem upq_nI (z : Nat → Nat) (j n : Nat) : upq (fun k => nI (z k)) j (nI n) = fun k => nI (upq z j n k) := by
  funext k
  by_cases e : k = j
  · subst e; rw [upq_s, upq_s]
  · rw [upq_n _ _ e, upq_n _ _ e]
/-- i and n as places of a row of z: a, b with a + b ≤ z -/
def rch (z : Nat) (i n : Int32) : Option (Nat × Nat) := if i < 0 then none else if n < 0 then none else if i.toNatClampNeg + n.toNatClampNeg ≤ z then some (i.toNatClampNeg, n.toNatClampNeg) else none
theorem rch_in {z a b : Nat} (h : a + b ≤ z) (hz : z ≤ 16) : rch z (nI a) (nI b) = some (a, b) := by
  unfold rch
  rw [if_neg (nI_pos (by omega)), if_neg (nI_pos (by omega)), nI_clamp (by omega), nI_clamp (by omega), if_pos h]
theorem rch_out {z : Nat} {i n : Int32} (hz : z ≤ 16) (h : ¬ reach (nI z) i n) : rch z i n = none := by
  unfold rch
  by_cases h1 : i < 0
  · rw [if_pos h1]
  · by_cases h2 : n < 0
    · rw [if_neg h1, if_pos h2]
    · rw [if_neg h1, if_neg h2, if_neg]
      intro h3
      obtain ⟨a, ha, rfl⟩ := nI_of h1
      obtain ⟨b, hb, rfl⟩ := nI_of h2
      rw [nI_clamp ha, nI_clamp hb] at h3
      exact h ((reach_iff hz _ _).mpr ⟨a, b, rfl, rfl, h3⟩)
noncomputable def rfo (kd sz i n : Int32) : Int32 := cif (kd = -1) (-11) (cif (reach sz i n) 0 (-12))
def sPl (S : SS) (j : Nat) (g : Nat → Int64) : SS := (S.1, S.2.1, S.2.2.1, upq S.2.2.2.1 j g, S.2.2.2.2)
def sRg (S : SS) (j : Nat) (v : Q4) : SS := (upq S.1 j v, S.2)
def sSh (S : SS) (j : Nat) (k : Int32) (n : Nat) : SS := (S.1, upq S.2.1 j k, upq S.2.2.1 j n, upq S.2.2.2.1 j (fun _ => 0), S.2.2.2.2)
noncomputable def sp_sheet (S : SS) (r k n : Int32) : Int32 × SS := match ix 6 r with
  | none => (-1, S)
  | some j => cif (k < -1) (-1, S) (cif (k ≤ 2) (cif (k = -1) (0, sSh S j (-1) 0) (cif (n ≤ 16) (cif (0 ≤ n) (0, sSh S j k n.toNatClampNeg) (-13, S)) (-1, S))) (-1, S))
noncomputable def sp_put (S : SS) (r i : Int32) (v : Int64) : Int32 × SS := match ix 6 r with
  | none => (-1, S)
  | some j => cif (S.2.1 j = -1) (-11, S) (match rch (S.2.2.1 j) i 1 with
    | none => (-12, S)
    | some t => (0, sPl S j (vp_updL (S.2.2.2.1 j) t.1 (cutL (S.2.1 j) v))))
noncomputable def sp_copy (S : SS) (r i t j n : Int32) : Int32 × SS := match ix 6 r with
  | none => (-1, S)
  | some a => match ix 6 t with
    | none => (-1, S)
    | some b => cif (S.2.1 a = -1) (-11, S) (cif (S.2.1 b = -1) (-11, S) (cif (S.2.1 a = S.2.1 b) (match rch (S.2.2.1 a) i n with
      | none => (-12, S)
      | some x => match rch (S.2.2.1 b) j n with
        | none => (-12, S)
        | some y => (0, sPl S b (va_cpy (S.2.2.2.1 a) (S.2.2.2.1 b) x.1 y.1 x.2))) (-14, S)))
def rd4 (g : Nat → Int64) (i : Nat) : Q4 := (g i, g (i + 1), g (i + 2), g (i + 3))
noncomputable def sp_read (S : SS) (s r i : Int32) : Int32 × SS := match ix 16 s with
  | none => (-1, S)
  | some a => match ix 6 r with
    | none => (-1, S)
    | some b => cif (S.2.1 b = -1) (-11, S) (match rch (S.2.2.1 b) i 4 with
      | none => (-12, S)
      | some t => cif (qone (rd4 (S.2.2.2.1 b) t.1)) (cif (qhigh (rd4 (S.2.2.2.1 b) t.1)) (-16, S) (0, sRg S a (rd4 (S.2.2.2.1 b) t.1))) (-15, S))
def wr4 (g : Nat → Int64) (kd : Int32) (i : Nat) (x : Q4) : Nat → Int64 := vp_updL (vp_updL (vp_updL (vp_updL g i (cutL kd x.1)) (i + 1) (cutL kd x.2.1)) (i + 2) (cutL kd x.2.2.1)) (i + 3) (cutL kd x.2.2.2)
noncomputable def sp_write (S : SS) (s r i : Int32) : Int32 × SS := match ix 16 s with
  | none => (-1, S)
  | some a => match ix 6 r with
    | none => (-1, S)
    | some b => cif (S.2.1 b = -1) (-11, S) (match rch (S.2.2.1 b) i 4 with
      | none => (-12, S)
      | some t => (0, sPl S b (wr4 (S.2.2.2.1 b) (S.2.1 b) t.1 (S.1 a))))
noncomputable def hld (S : SS) (a : Nat) (x : Q4) : Int32 × SS := cif (qhigh x) (-3, S) (0, sRg S a x)
noncomputable def hldN (S : SS) (a : Nat) (x : Q4) : Int32 × SS := cif (qhigh x) (-3, S) ((qnorm x).toInt32, sRg S a x)
noncomputable def sp_set (S : SS) (s a b c d : Int32) : Int32 × SS := match ix 16 s with
  | none => (-1, S)
  | some j => cif (qone (a.toInt64, b.toInt64, c.toInt64, d.toInt64)) (hld S j (a.toInt64, b.toInt64, c.toInt64, d.toInt64)) (-2, S)
def fuN (x : Q4) : Nat → Nat → Int32
  | 0, _ => -4
  | d + 1, u => if uq4 u = x then nI u else fuN x d (u + 1)
noncomputable def sp_part (S : SS) (s w : Int32) : Int32 × SS := match ix 16 s with
  | none => (-1000000000, S)
  | some j => (if w = 0 then (S.1 j).1.toInt32 else if w = 1 then (S.1 j).2.1.toInt32 else if w = 2 then (S.1 j).2.2.1.toInt32 else if w = 3 then (S.1 j).2.2.2.toInt32 else if w = 4 then (qnorm (S.1 j)).toInt32 else if w = 5 then bI (qpr (S.1 j)) else if w = 6 then fuN (S.1 j) 24 0 else -1000000000, S)
noncomputable def sp_work (S : SS) (s h t u : Int32) : Int32 × SS := match ix 16 s with
  | none => (-1, S)
  | some a => match ix 16 t with
    | none => (-1, S)
    | some b => cif (h = 3) (hld S a (qmir (S.1 b))) (match ix 16 u with
      | none => (-1, S)
      | some c => cif (h = 0) (hld S a (qadd (S.1 b) (S.1 c))) (cif (h = 1) (hld S a (qsub (S.1 b) (S.1 c))) (cif (h = 2) (hld S a (qmul (S.1 b) (S.1 c))) (-1, S))))
noncomputable def sp_unit (S : SS) (s t u sd : Int32) : Int32 × SS := match ix 16 s with
  | none => (-1, S)
  | some a => match ix 16 t with
    | none => (-1, S)
    | some b => match ix 24 u with
      | none => (-1, S)
      | some c => cif (sd = 0 ∨ sd = 1) (hld S a (qon sd (S.1 b) (uq4 c))) (-1, S)
set_option maxHeartbeats 4000000 in
set_option maxRecDepth 100000 in
theorem c_X5_register_in (l : Launch) (G : GG) (A : Nat → Prop) (ad : Nat → Nat) (F : FM) (S : CS) (hC : CW G ad S F) (j : Nat) (hj : j < 16) : HT l yX5_register wsX5_register { frames := 0, cells := 0, slots := 0, locals := 0 } G A (CL ad) [.ref (ad 51), .int (nI j)] F (some (.ref (ad j))) F := by
  refine HT.ofW (cc := cX5_register) (maxL := 2) (ret := (some (.object "FourParts$Quad"))) (plainFor_of_name (by decide)) rfl (Nat.le_of_ble_eq_true rfl) ?_
  intro p e s m below meth c ls hx hb hr hml hown hts hlk hE hw hl
  have hl : lv_has ls 2 [(0, .ref (ad 51)), (1, .int (nI j))] := hl
  have hown : s.vm.findClass RX5 = some m.cls := hown
  have lk_11 := hts (.fieldLink RX5 11 "FourParts" "registers" "[LFourParts$Quad;") (by decide +kernel)
  have hinX5 : ∀ w ∈ u_ws RX5 TX5 6, w ∈ wsX5_register := by decide +kernel
  refine lv_iload_n hx hb dX5_register_0 rfl (lv_at hl 1 rfl) ?_
  refine lv_if_lt (tgt := 22) hx hb dX5_register_1 (by decide) (fun c_1 => ?_) (fun c_1 => ?_)
  · skip
    exact absurd c_1 (nI_pos (by omega))
  · skip
    refine lv_iload_n hx hb dX5_register_4 rfl (lv_at hl 1 rfl) ?_
    refine lv_aload_n hx hb dX5_register_5 rfl (lv_at hl 0 rfl) ?_
    refine h_get hx hb hE hw hts hinX5 hown (ci := 5) rfl 0 (by decide) lk_11 (fun _ h9 => h9) hC.fp rfl dX5_register_6 ?_
    refine h_ilen hx hb hE hw 2 rfl hC.rg (v := 16) rfl dX5_register_9 ?_
    refine lv_icmp_ge (tgt := 22) hx hb dX5_register_10 (by decide) (fun c_10 => ?_) (fun c_10 => ?_)
    · skip
      exact absurd c_10 (nI_ge (a := j) (b := 16) hj (by decide))
    · skip
      refine lv_aload_n hx hb dX5_register_13 rfl (lv_at hl 0 rfl) ?_
      refine h_get hx hb hE hw hts hinX5 hown (ci := 5) rfl 0 (by decide) lk_11 (fun _ h9 => h9) hC.fp rfl dX5_register_14 ?_
      refine lv_iload_n hx hb dX5_register_17 rfl (lv_at hl 1 rfl) ?_
      refine h_qald hx hb hE hw hC.rg (vp_in_nI hj (by decide)) (v := ad j) (by rw [nI_clamp (by omega)]) dX5_register_18 ?_
      refine lv_goto (tgt := 23) hx hb dX5_register_19 (by decide) ?_
      exact h_aret hx hb hlk hr hw dX5_register_23 (Or.inr ⟨_, rfl⟩) rfl rfl

set_option maxHeartbeats 4000000 in
set_option maxRecDepth 100000 in
theorem c_X5_register_out (l : Launch) (G : GG) (A : Nat → Prop) (ad : Nat → Nat) (F : FM) (S : CS) (hC : CW G ad S F) (vi : Int32) (hi : vi < 0 ∨ nI 16 ≤ vi) : HT l yX5_register wsX5_register { frames := 0, cells := 0, slots := 0, locals := 0 } G A (CL ad) [.ref (ad 51), .int vi] F (some .null) F := by
  refine HT.ofW (cc := cX5_register) (maxL := 2) (ret := (some (.object "FourParts$Quad"))) (plainFor_of_name (by decide)) rfl (Nat.le_of_ble_eq_true rfl) ?_
  intro p e s m below meth c ls hx hb hr hml hown hts hlk hE hw hl
  have hl : lv_has ls 2 [(0, .ref (ad 51)), (1, .int vi)] := hl
  have hown : s.vm.findClass RX5 = some m.cls := hown
  have lk_11 := hts (.fieldLink RX5 11 "FourParts" "registers" "[LFourParts$Quad;") (by decide +kernel)
  have hinX5 : ∀ w ∈ u_ws RX5 TX5 6, w ∈ wsX5_register := by decide +kernel
  refine lv_iload_n hx hb dX5_register_0 rfl (lv_at hl 1 rfl) ?_
  refine lv_if_lt (tgt := 22) hx hb dX5_register_1 (by decide) (fun c_1 => ?_) (fun c_1 => ?_)
  · skip
    refine lv_null hx hb dX5_register_22 ?_
    exact h_aret hx hb hlk hr hw dX5_register_23 (Or.inl rfl) rfl rfl
  · skip
    refine lv_iload_n hx hb dX5_register_4 rfl (lv_at hl 1 rfl) ?_
    refine lv_aload_n hx hb dX5_register_5 rfl (lv_at hl 0 rfl) ?_
    refine h_get hx hb hE hw hts hinX5 hown (ci := 5) rfl 0 (by decide) lk_11 (fun _ h9 => h9) hC.fp rfl dX5_register_6 ?_
    refine h_ilen hx hb hE hw 2 rfl hC.rg (v := 16) rfl dX5_register_9 ?_
    refine lv_icmp_ge (tgt := 22) hx hb dX5_register_10 (by decide) (fun c_10 => ?_) (fun c_10 => ?_)
    · skip
      refine lv_null hx hb dX5_register_22 ?_
      exact h_aret hx hb hlk hr hw dX5_register_23 (Or.inl rfl) rfl rfl
    · skip
      exact absurd hi (fun w => w.elim (fun w => c_1 w) (fun w => c_10 w))

set_option maxHeartbeats 4000000 in
set_option maxRecDepth 100000 in
theorem c_X5_sheetAt_in (l : Launch) (G : GG) (A : Nat → Prop) (ad : Nat → Nat) (F : FM) (S : CS) (hC : CW G ad S F) (j : Nat) (hj : j < 6) : HT l yX5_sheetAt wsX5_sheetAt { frames := 0, cells := 0, slots := 0, locals := 0 } G A (CL ad) [.ref (ad 51), .int (nI j)] F (some (.ref (ad (39 + j)))) F := by
  refine HT.ofW (cc := cX5_sheetAt) (maxL := 2) (ret := (some (.object "FourParts$Sheet"))) (plainFor_of_name (by decide)) rfl (Nat.le_of_ble_eq_true rfl) ?_
  intro p e s m below meth c ls hx hb hr hml hown hts hlk hE hw hl
  have hl : lv_has ls 2 [(0, .ref (ad 51)), (1, .int (nI j))] := hl
  have hown : s.vm.findClass RX5 = some m.cls := hown
  have lk_17 := hts (.fieldLink RX5 17 "FourParts" "sheets" "[LFourParts$Sheet;") (by decide +kernel)
  have hinX5 : ∀ w ∈ u_ws RX5 TX5 6, w ∈ wsX5_sheetAt := by decide +kernel
  refine lv_iload_n hx hb dX5_sheetAt_0 rfl (lv_at hl 1 rfl) ?_
  refine lv_if_lt (tgt := 22) hx hb dX5_sheetAt_1 (by decide) (fun c_1 => ?_) (fun c_1 => ?_)
  · skip
    exact absurd c_1 (nI_pos (by omega))
  · skip
    refine lv_iload_n hx hb dX5_sheetAt_4 rfl (lv_at hl 1 rfl) ?_
    refine lv_aload_n hx hb dX5_sheetAt_5 rfl (lv_at hl 0 rfl) ?_
    refine h_get hx hb hE hw hts hinX5 hown (ci := 5) rfl 1 (by decide) lk_17 (fun _ h9 => h9) hC.fp rfl dX5_sheetAt_6 ?_
    refine h_ilen hx hb hE hw 3 rfl hC.ss (v := 6) rfl dX5_sheetAt_9 ?_
    refine lv_icmp_ge (tgt := 22) hx hb dX5_sheetAt_10 (by decide) (fun c_10 => ?_) (fun c_10 => ?_)
    · skip
      exact absurd c_10 (nI_ge (a := j) (b := 6) hj (by decide))
    · skip
      refine lv_aload_n hx hb dX5_sheetAt_13 rfl (lv_at hl 0 rfl) ?_
      refine h_get hx hb hE hw hts hinX5 hown (ci := 5) rfl 1 (by decide) lk_17 (fun _ h9 => h9) hC.fp rfl dX5_sheetAt_14 ?_
      refine lv_iload_n hx hb dX5_sheetAt_17 rfl (lv_at hl 1 rfl) ?_
      refine h_sald hx hb hE hw hC.ss (vp_in_nI hj (by decide)) (v := ad (39 + j)) (by rw [nI_clamp (by omega)]) dX5_sheetAt_18 ?_
      refine lv_goto (tgt := 23) hx hb dX5_sheetAt_19 (by decide) ?_
      exact h_aret hx hb hlk hr hw dX5_sheetAt_23 (Or.inr ⟨_, rfl⟩) rfl rfl

set_option maxHeartbeats 4000000 in
set_option maxRecDepth 100000 in
theorem c_X5_sheetAt_out (l : Launch) (G : GG) (A : Nat → Prop) (ad : Nat → Nat) (F : FM) (S : CS) (hC : CW G ad S F) (vi : Int32) (hi : vi < 0 ∨ nI 6 ≤ vi) : HT l yX5_sheetAt wsX5_sheetAt { frames := 0, cells := 0, slots := 0, locals := 0 } G A (CL ad) [.ref (ad 51), .int vi] F (some .null) F := by
  refine HT.ofW (cc := cX5_sheetAt) (maxL := 2) (ret := (some (.object "FourParts$Sheet"))) (plainFor_of_name (by decide)) rfl (Nat.le_of_ble_eq_true rfl) ?_
  intro p e s m below meth c ls hx hb hr hml hown hts hlk hE hw hl
  have hl : lv_has ls 2 [(0, .ref (ad 51)), (1, .int vi)] := hl
  have hown : s.vm.findClass RX5 = some m.cls := hown
  have lk_17 := hts (.fieldLink RX5 17 "FourParts" "sheets" "[LFourParts$Sheet;") (by decide +kernel)
  have hinX5 : ∀ w ∈ u_ws RX5 TX5 6, w ∈ wsX5_sheetAt := by decide +kernel
  refine lv_iload_n hx hb dX5_sheetAt_0 rfl (lv_at hl 1 rfl) ?_
  refine lv_if_lt (tgt := 22) hx hb dX5_sheetAt_1 (by decide) (fun c_1 => ?_) (fun c_1 => ?_)
  · skip
    refine lv_null hx hb dX5_sheetAt_22 ?_
    exact h_aret hx hb hlk hr hw dX5_sheetAt_23 (Or.inl rfl) rfl rfl
  · skip
    refine lv_iload_n hx hb dX5_sheetAt_4 rfl (lv_at hl 1 rfl) ?_
    refine lv_aload_n hx hb dX5_sheetAt_5 rfl (lv_at hl 0 rfl) ?_
    refine h_get hx hb hE hw hts hinX5 hown (ci := 5) rfl 1 (by decide) lk_17 (fun _ h9 => h9) hC.fp rfl dX5_sheetAt_6 ?_
    refine h_ilen hx hb hE hw 3 rfl hC.ss (v := 6) rfl dX5_sheetAt_9 ?_
    refine lv_icmp_ge (tgt := 22) hx hb dX5_sheetAt_10 (by decide) (fun c_10 => ?_) (fun c_10 => ?_)
    · skip
      refine lv_null hx hb dX5_sheetAt_22 ?_
      exact h_aret hx hb hlk hr hw dX5_sheetAt_23 (Or.inl rfl) rfl rfl
    · skip
      exact absurd hi (fun w => w.elim (fun w => c_1 w) (fun w => c_10 w))

set_option maxHeartbeats 4000000 in
set_option maxRecDepth 100000 in
theorem c_X5_refusalOf (l : Launch) (G : GG) (A : Nat → Prop) (L : List Nat) (F : FM) (h ar : Nat) (sz kd : Int32) (e0 : pt L F h (eSh ar sz kd)) (vi vn : Int32) : HT l yX5_refusalOf wsX5_refusalOf { frames := 1, cells := 0, slots := 0, locals := 22 } G A L [.ref h, .int vi, .int vn] F (some (.int (rfo kd sz vi vn))) F := by
  refine HT.ofW (cc := cX5_refusalOf) (maxL := 3) (ret := (some .int)) (plainFor_of_name (by decide)) rfl (Nat.le_of_ble_eq_true rfl) ?_
  intro p e s m below meth c ls hx hb hr hml hown hts hlk hE hw hl
  have hl : lv_has ls 3 [(0, .ref h), (1, .int vi), (2, .int vn)] := hl
  have hown : s.vm.findClass RX5 = some m.cls := hown
  refine lv_aload_n hx hb dX5_refusalOf_0 rfl (lv_at hl 0 rfl) ?_
  refine h_callV (st1 := [.int (bI (kd = -1))]) [] [] ⟨hx, hb, hml, hown, hts⟩ hE hw (c_X3_isMissing l G A L F h ar sz kd e0) (cwV 0 hts gX5_refusalOf_X3_isMissing rfl rfl rfl (by decide +kernel) ⟨Nat.le_of_ble_eq_true rfl, Nat.le_of_ble_eq_true rfl⟩) e0 rfl rfl rfl hl.1 rfl (Nat.le_of_ble_eq_true rfl) dX5_refusalOf_1 ⟨Nat.le_of_ble_eq_true rfl, Nat.le_of_ble_eq_true rfl⟩ rfl (fun H locs hw => ?_)
  refine lv_if_eq (tgt := 10) hx hb dX5_refusalOf_4 (by decide) (fun c_4 => ?_) (fun c_4 => ?_)
  · skip
    have c_4 := bI_eq.mp c_4
    refine lv_aload_n hx hb dX5_refusalOf_10 rfl (lv_at hl 0 rfl) ?_
    refine lv_iload_n hx hb dX5_refusalOf_11 rfl (lv_at hl 1 rfl) ?_
    refine lv_iload_n hx hb dX5_refusalOf_12 rfl (lv_at hl 2 rfl) ?_
    refine h_callV (st1 := [.int (bI (reach sz vi vn))]) [.int vi, .int vn] [] ⟨hx, hb, hml, hown, hts⟩ hE hw (c_X3_reaches l G A L F h ar sz kd e0 vi vn) (cwV 2 hts gX5_refusalOf_X3_reaches rfl rfl rfl (by decide +kernel) ⟨Nat.le_of_ble_eq_true rfl, Nat.le_of_ble_eq_true rfl⟩) e0 rfl rfl rfl hl.1 rfl (Nat.le_of_ble_eq_true rfl) dX5_refusalOf_13 ⟨Nat.le_of_ble_eq_true rfl, Nat.le_of_ble_eq_true rfl⟩ rfl (fun H locs hw => ?_)
    refine lv_if_eq (tgt := 23) hx hb dX5_refusalOf_16 (by decide) (fun c_16 => ?_) (fun c_16 => ?_)
    · skip
      have c_16 := bI_eq.mp c_16
      refine lv_bipush (v := (-12)) hx hb dX5_refusalOf_23 (by decide) ?_
      exact h_iret hx hb hlk hr hw dX5_refusalOf_25 (by simp only [rfo, cif_f c_4, cif_f c_16]) rfl
    · skip
      have c_16 := bI_ne.mp c_16
      refine lv_iconst (v := 0) hx hb dX5_refusalOf_19 (by decide) ?_
      refine lv_goto (tgt := 25) hx hb dX5_refusalOf_20 (by decide) ?_
      exact h_iret hx hb hlk hr hw dX5_refusalOf_25 (by simp only [rfo, cif_f c_4, cif_t c_16]) rfl
  · skip
    have c_4 := bI_ne.mp c_4
    refine lv_bipush (v := (-11)) hx hb dX5_refusalOf_7 (by decide) ?_
    exact h_iret hx hb hlk hr hw dX5_refusalOf_9 (by simp only [rfo, cif_t c_4]) rfl

set_option maxHeartbeats 4000000 in
set_option maxRecDepth 100000 in
theorem c_X5_hold_hi (l : Launch) (G : GG) (A : Nat → Prop) (L : List Nat) (F : FM) (h0 h1 : Nat) (x y : Q4) (e0 : pt L F h0 (eq4 x)) (e1 : pt L F h1 (eq4 y)) (hh : qhigh y) : HT l yX5_hold wsX5_hold { frames := 2, cells := 0, slots := 0, locals := 41 } G A L [.ref h0, .ref h1] F (some (.int (-3))) F := by
  refine HT.ofW (cc := cX5_hold) (maxL := 2) (ret := (some .int)) (plainFor_of_name (by decide)) rfl (Nat.le_of_ble_eq_true rfl) ?_
  intro p e s m below meth c ls hx hb hr hml hown hts hlk hE hw hl
  have hl : lv_has ls 2 [(0, .ref h0), (1, .ref h1)] := hl
  have hown : s.vm.findClass RX5 = some m.cls := hown
  refine lv_aload_n hx hb dX5_hold_0 rfl (lv_at hl 1 rfl) ?_
  refine h_callV (st1 := [.int (bI (qhigh y))]) [] [] ⟨hx, hb, hml, hown, hts⟩ hE hw (c_X1_isHigh l G A L F h1 y e1) (cwV 0 hts gX5_hold_X1_isHigh rfl rfl rfl (by decide +kernel) ⟨Nat.le_of_ble_eq_true rfl, Nat.le_of_ble_eq_true rfl⟩) e1 rfl rfl rfl hl.1 rfl (Nat.le_of_ble_eq_true rfl) dX5_hold_1 ⟨Nat.le_of_ble_eq_true rfl, Nat.le_of_ble_eq_true rfl⟩ rfl (fun H locs hw => ?_)
  refine lv_if_eq (tgt := 10) hx hb dX5_hold_4 (by decide) (fun c_4 => ?_) (fun c_4 => ?_)
  · skip
    exact absurd hh (bI_eq.mp c_4)
  · skip
    have c_4 := bI_ne.mp c_4
    refine lv_bipush (v := (-3)) hx hb dX5_hold_7 (by decide) ?_
    exact h_iret hx hb hlk hr hw dX5_hold_9 rfl rfl

set_option maxHeartbeats 4000000 in
set_option maxRecDepth 100000 in
theorem c_X5_hold_lo (l : Launch) (G : GG) (A : Nat → Prop) (L : List Nat) (F : FM) (h0 h1 : Nat) (x y : Q4) (e0 : pt L F h0 (eq4 x)) (e1 : pt L F h1 (eq4 y)) (hh : ¬ qhigh y) : HT l yX5_hold wsX5_hold { frames := 2, cells := 0, slots := 0, locals := 49 } G A L [.ref h0, .ref h1] F (some (.int 0)) (va_up F h0 (eq4 y)) := by
  refine HT.ofW (cc := cX5_hold) (maxL := 2) (ret := (some .int)) (plainFor_of_name (by decide)) rfl (Nat.le_of_ble_eq_true rfl) ?_
  intro p e s m below meth c ls hx hb hr hml hown hts hlk hE hw hl
  have hl : lv_has ls 2 [(0, .ref h0), (1, .ref h1)] := hl
  have hown : s.vm.findClass RX5 = some m.cls := hown
  refine lv_aload_n hx hb dX5_hold_0 rfl (lv_at hl 1 rfl) ?_
  refine h_callV (st1 := [.int (bI (qhigh y))]) [] [] ⟨hx, hb, hml, hown, hts⟩ hE hw (c_X1_isHigh l G A L F h1 y e1) (cwV 0 hts gX5_hold_X1_isHigh rfl rfl rfl (by decide +kernel) ⟨Nat.le_of_ble_eq_true rfl, Nat.le_of_ble_eq_true rfl⟩) e1 rfl rfl rfl hl.1 rfl (Nat.le_of_ble_eq_true rfl) dX5_hold_1 ⟨Nat.le_of_ble_eq_true rfl, Nat.le_of_ble_eq_true rfl⟩ rfl (fun H locs hw => ?_)
  refine lv_if_eq (tgt := 10) hx hb dX5_hold_4 (by decide) (fun c_4 => ?_) (fun c_4 => ?_)
  · skip
    have c_4 := bI_eq.mp c_4
    refine lv_aload_n hx hb dX5_hold_10 rfl (lv_at hl 0 rfl) ?_
    refine lv_aload_n hx hb dX5_hold_11 rfl (lv_at hl 1 rfl) ?_
    refine h_callV (st1 := []) [.ref h1] [] ⟨hx, hb, hml, hown, hts⟩ hE hw (c_X1_becomeLike l G A L F h0 x e0  h1 y e1) (cwV 1 hts gX5_hold_X1_becomeLike rfl rfl rfl (by decide +kernel) ⟨Nat.le_of_ble_eq_true rfl, Nat.le_of_ble_eq_true rfl⟩) e0 rfl rfl rfl hl.1 rfl (Nat.le_of_ble_eq_true rfl) dX5_hold_12 ⟨Nat.le_of_ble_eq_true rfl, Nat.le_of_ble_eq_true rfl⟩ rfl (fun H locs hw => ?_)
    refine lv_iconst (v := 0) hx hb dX5_hold_15 (by decide) ?_
    exact h_iret hx hb hlk hr hw dX5_hold_16 rfl rfl
  · skip
    exact absurd (bI_ne.mp c_4) hh

set_option maxHeartbeats 4000000 in
set_option maxRecDepth 100000 in
theorem c_X5_holdForNorm_hi (l : Launch) (G : GG) (A : Nat → Prop) (L : List Nat) (F : FM) (h0 h1 : Nat) (x y : Q4) (e0 : pt L F h0 (eq4 x)) (e1 : pt L F h1 (eq4 y)) (hh : qhigh y) : HT l yX5_holdForNorm wsX5_holdForNorm { frames := 3, cells := 0, slots := 0, locals := 70 } G A L [.ref h0, .ref h1] F (some (.int (-3))) F := by
  refine HT.ofW (cc := cX5_holdForNorm) (maxL := 3) (ret := (some .int)) (plainFor_of_name (by decide)) rfl (Nat.le_of_ble_eq_true rfl) ?_
  intro p e s m below meth c ls hx hb hr hml hown hts hlk hE hw hl
  have hl : lv_has ls 3 [(0, .ref h0), (1, .ref h1)] := hl
  have hown : s.vm.findClass RX5 = some m.cls := hown
  refine lv_aload_n hx hb dX5_holdForNorm_0 rfl (lv_at hl 0 rfl) ?_
  refine lv_aload_n hx hb dX5_holdForNorm_1 rfl (lv_at hl 1 rfl) ?_
  refine h_callS (st1 := [.int (-3)]) [.ref h0, .ref h1] [] ⟨hx, hb, hml, hown, hts⟩ hE hw (c_X5_hold_hi l G A L F h0 h1 x y e0 e1 hh) (va_cwS 2 hts gX5_holdForNorm_X5_hold rfl rfl rfl (by decide +kernel) ⟨Nat.le_of_ble_eq_true rfl, Nat.le_of_ble_eq_true rfl⟩) rfl hl.1 rfl (Nat.le_of_ble_eq_true rfl) dX5_holdForNorm_2 ⟨Nat.le_of_ble_eq_true rfl, Nat.le_of_ble_eq_true rfl⟩ rfl (fun H locs hw => ?_)
  refine lv_istore_n (lv' := [(2, .int (-3)), (0, .ref h0), (1, .ref h1)]) hx hb dX5_holdForNorm_5 rfl hl (by decide) rfl (fun ls hl => ?_)
  refine lv_iload_n hx hb dX5_holdForNorm_6 rfl (lv_at hl 0 rfl) ?_
  refine lv_if_eq (tgt := 14) hx hb dX5_holdForNorm_7 (by decide) (fun c_7 => ?_) (fun c_7 => ?_)
  · skip
    exact absurd c_7 (by decide)
  · skip
    refine lv_iload_n hx hb dX5_holdForNorm_10 rfl (lv_at hl 0 rfl) ?_
    refine lv_goto (tgt := 19) hx hb dX5_holdForNorm_11 (by decide) ?_
    exact h_iret hx hb hlk hr hw dX5_holdForNorm_19 rfl rfl

set_option maxHeartbeats 4000000 in
set_option maxRecDepth 100000 in
theorem c_X5_holdForNorm_lo (l : Launch) (G : GG) (A : Nat → Prop) (L : List Nat) (F : FM) (h0 h1 : Nat) (x y : Q4) (e0 : pt L F h0 (eq4 x)) (e1 : pt L F h1 (eq4 y)) (hh : ¬ qhigh y) : HT l yX5_holdForNorm wsX5_holdForNorm { frames := 3, cells := 0, slots := 0, locals := 70 } G A L [.ref h0, .ref h1] F (some (.int ((qnorm y).toInt32))) (va_up F h0 (eq4 y)) := by
  refine HT.ofW (cc := cX5_holdForNorm) (maxL := 3) (ret := (some .int)) (plainFor_of_name (by decide)) rfl (Nat.le_of_ble_eq_true rfl) ?_
  intro p e s m below meth c ls hx hb hr hml hown hts hlk hE hw hl
  have hl : lv_has ls 3 [(0, .ref h0), (1, .ref h1)] := hl
  have hown : s.vm.findClass RX5 = some m.cls := hown
  refine lv_aload_n hx hb dX5_holdForNorm_0 rfl (lv_at hl 0 rfl) ?_
  refine lv_aload_n hx hb dX5_holdForNorm_1 rfl (lv_at hl 1 rfl) ?_
  refine h_callS (st1 := [.int 0]) [.ref h0, .ref h1] [] ⟨hx, hb, hml, hown, hts⟩ hE hw (c_X5_hold_lo l G A L F h0 h1 x y e0 e1 hh) (va_cwS 2 hts gX5_holdForNorm_X5_hold rfl rfl rfl (by decide +kernel) ⟨Nat.le_of_ble_eq_true rfl, Nat.le_of_ble_eq_true rfl⟩) rfl hl.1 rfl (Nat.le_of_ble_eq_true rfl) dX5_holdForNorm_2 ⟨Nat.le_of_ble_eq_true rfl, Nat.le_of_ble_eq_true rfl⟩ rfl (fun H locs hw => ?_)
  refine lv_istore_n (lv' := [(2, .int 0), (0, .ref h0), (1, .ref h1)]) hx hb dX5_holdForNorm_5 rfl hl (by decide) rfl (fun ls hl => ?_)
  refine lv_iload_n hx hb dX5_holdForNorm_6 rfl (lv_at hl 0 rfl) ?_
  refine lv_if_eq (tgt := 14) hx hb dX5_holdForNorm_7 (by decide) (fun c_7 => ?_) (fun c_7 => ?_)
  · skip
    refine lv_aload_n hx hb dX5_holdForNorm_14 rfl (lv_at hl 1 rfl) ?_
    refine h_callV (st1 := [.long (qnorm y)]) [] [] ⟨hx, hb, hml, hown, hts⟩ hE hw (c_X1_norm l G A L (va_up F h0 (eq4 y)) h0 y (pt_up e0)) (cwV 0 hts gX5_holdForNorm_X1_norm rfl rfl rfl (by decide +kernel) ⟨Nat.le_of_ble_eq_true rfl, Nat.le_of_ble_eq_true rfl⟩) (pt_up e0) rfl rfl rfl hl.1 rfl (Nat.le_of_ble_eq_true rfl) dX5_holdForNorm_15 ⟨Nat.le_of_ble_eq_true rfl, Nat.le_of_ble_eq_true rfl⟩ rfl (fun H locs hw => ?_)
    refine lv_l2i hx hb dX5_holdForNorm_18 rfl ?_
    exact h_iret hx hb hlk hr hw dX5_holdForNorm_19 rfl rfl
  · skip
    exact absurd rfl c_7

set_option maxHeartbeats 4000000 in
set_option maxRecDepth 100000 in
theorem c_X5_isSide (l : Launch) (G : GG) (A : Nat → Prop) (L : List Nat) (F : FM) (vi : Int32) : HT l yX5_isSide wsX5_isSide { frames := 0, cells := 0, slots := 0, locals := 0 } G A L [.int vi] F (some (.int (bI (vi = 0 ∨ vi = 1)))) F := by
  refine HT.ofW (cc := cX5_isSide) (maxL := 1) (ret := (some .boolean)) (plainFor_of_name (by decide)) rfl (Nat.le_of_ble_eq_true rfl) ?_
  intro p e s m below meth c ls hx hb hr hml hown hts hlk hE hw hl
  have hl : lv_has ls 1 [(0, .int vi)] := hl
  have hown : s.vm.findClass RX5 = some m.cls := hown
  refine lv_iload_n hx hb dX5_isSide_0 rfl (lv_at hl 0 rfl) ?_
  refine lv_if_eq (tgt := 9) hx hb dX5_isSide_1 (by decide) (fun c_1 => ?_) (fun c_1 => ?_)
  · skip
    refine lv_iconst (v := 1) hx hb dX5_isSide_9 (by decide) ?_
    refine lv_goto (tgt := 14) hx hb dX5_isSide_10 (by decide) ?_
    exact h_zret hx hb hlk hr hw dX5_isSide_14 rfl (by rw [bI_t (Or.inl c_1)]) rfl
  · skip
    refine lv_iload_n hx hb dX5_isSide_4 rfl (lv_at hl 0 rfl) ?_
    refine lv_iconst (v := 1) hx hb dX5_isSide_5 (by decide) ?_
    refine lv_icmp_ne (tgt := 13) hx hb dX5_isSide_6 (by decide) (fun c_6 => ?_) (fun c_6 => ?_)
    · skip
      refine lv_iconst (v := 0) hx hb dX5_isSide_13 (by decide) ?_
      exact h_zret hx hb hlk hr hw dX5_isSide_14 rfl (by rw [bI_f (fun w => w.elim c_1 c_6)]) rfl
    · skip
      refine lv_iconst (v := 1) hx hb dX5_isSide_9 (by decide) ?_
      refine lv_goto (tgt := 14) hx hb dX5_isSide_10 (by decide) ?_
      exact h_zret hx hb hlk hr hw dX5_isSide_14 rfl (by rw [bI_t (Or.inr c_6)]) rfl

set_option maxHeartbeats 4000000 in
set_option maxRecDepth 100000 in
theorem c_X5_isListedNorm (l : Launch) (G : GG) (A : Nat → Prop) (L : List Nat) (F : FM) (vi : Int32) : HT l yX5_isListedNorm wsX5_isListedNorm { frames := 0, cells := 0, slots := 0, locals := 0 } G A L [.int vi] F (some (.int (bI (¬ vi < 1 ∧ ¬ 200 < vi)))) F := by
  refine HT.ofW (cc := cX5_isListedNorm) (maxL := 1) (ret := (some .boolean)) (plainFor_of_name (by decide)) rfl (Nat.le_of_ble_eq_true rfl) ?_
  intro p e s m below meth c ls hx hb hr hml hown hts hlk hE hw hl
  have hl : lv_has ls 1 [(0, .int vi)] := hl
  have hown : s.vm.findClass RX5 = some m.cls := hown
  refine lv_iload_n hx hb dX5_isListedNorm_0 rfl (lv_at hl 0 rfl) ?_
  refine lv_iconst (v := 1) hx hb dX5_isListedNorm_1 (by decide) ?_
  refine lv_icmp_lt (tgt := 16) hx hb dX5_isListedNorm_2 (by decide) (fun c_2 => ?_) (fun c_2 => ?_)
  · skip
    refine lv_iconst (v := 0) hx hb dX5_isListedNorm_16 (by decide) ?_
    exact h_zret hx hb hlk hr hw dX5_isListedNorm_17 rfl (by rw [bI_f (fun w => w.1 c_2)]) rfl
  · skip
    refine lv_iload_n hx hb dX5_isListedNorm_5 rfl (lv_at hl 0 rfl) ?_
    refine lv_sipush (v := 200) hx hb dX5_isListedNorm_6 (by decide) ?_
    refine lv_icmp_gt (tgt := 16) hx hb dX5_isListedNorm_9 (by decide) (fun c_9 => ?_) (fun c_9 => ?_)
    · skip
      refine lv_iconst (v := 0) hx hb dX5_isListedNorm_16 (by decide) ?_
      exact h_zret hx hb hlk hr hw dX5_isListedNorm_17 rfl (by rw [bI_f (fun w => w.2 c_9)]) rfl
    · skip
      refine lv_iconst (v := 1) hx hb dX5_isListedNorm_12 (by decide) ?_
      refine lv_goto (tgt := 17) hx hb dX5_isListedNorm_13 (by decide) ?_
      exact h_zret hx hb hlk hr hw dX5_isListedNorm_17 rfl (by rw [bI_t ⟨c_2, c_9⟩]) rfl

set_option maxHeartbeats 4000000 in
set_option maxRecDepth 100000 in
theorem c_X5_isRow (l : Launch) (G : GG) (A : Nat → Prop) (L : List Nat) (F : FM) (vi : Int32) : HT l yX5_isRow wsX5_isRow { frames := 0, cells := 0, slots := 0, locals := 0 } G A L [.int vi] F (some (.int (bI (¬ vi < 0 ∧ ¬ 2 < vi)))) F := by
  refine HT.ofW (cc := cX5_isRow) (maxL := 1) (ret := (some .boolean)) (plainFor_of_name (by decide)) rfl (Nat.le_of_ble_eq_true rfl) ?_
  intro p e s m below meth c ls hx hb hr hml hown hts hlk hE hw hl
  have hl : lv_has ls 1 [(0, .int vi)] := hl
  have hown : s.vm.findClass RX5 = some m.cls := hown
  refine lv_iload_n hx hb dX5_isRow_0 rfl (lv_at hl 0 rfl) ?_
  refine lv_if_lt (tgt := 13) hx hb dX5_isRow_1 (by decide) (fun c_1 => ?_) (fun c_1 => ?_)
  · skip
    refine lv_iconst (v := 0) hx hb dX5_isRow_13 (by decide) ?_
    exact h_zret hx hb hlk hr hw dX5_isRow_14 rfl (by rw [bI_f (fun w => w.1 c_1)]) rfl
  · skip
    refine lv_iload_n hx hb dX5_isRow_4 rfl (lv_at hl 0 rfl) ?_
    refine lv_iconst (v := 2) hx hb dX5_isRow_5 (by decide) ?_
    refine lv_icmp_gt (tgt := 13) hx hb dX5_isRow_6 (by decide) (fun c_6 => ?_) (fun c_6 => ?_)
    · skip
      refine lv_iconst (v := 0) hx hb dX5_isRow_13 (by decide) ?_
      exact h_zret hx hb hlk hr hw dX5_isRow_14 rfl (by rw [bI_f (fun w => w.2 c_6)]) rfl
    · skip
      refine lv_iconst (v := 1) hx hb dX5_isRow_9 (by decide) ?_
      refine lv_goto (tgt := 14) hx hb dX5_isRow_10 (by decide) ?_
      exact h_zret hx hb hlk hr hw dX5_isRow_14 rfl (by rw [bI_t ⟨c_1, c_6⟩]) rfl

set_option maxHeartbeats 4000000 in
set_option maxRecDepth 100000 in
theorem c_X5_isPoint (l : Launch) (G : GG) (A : Nat → Prop) (L : List Nat) (F : FM) (vi : Int32) : HT l yX5_isPoint wsX5_isPoint { frames := 0, cells := 0, slots := 0, locals := 0 } G A L [.int vi] F (some (.int (bI (¬ vi < -100 ∧ ¬ 100 < vi)))) F := by
  refine HT.ofW (cc := cX5_isPoint) (maxL := 1) (ret := (some .boolean)) (plainFor_of_name (by decide)) rfl (Nat.le_of_ble_eq_true rfl) ?_
  intro p e s m below meth c ls hx hb hr hml hown hts hlk hE hw hl
  have hl : lv_has ls 1 [(0, .int vi)] := hl
  have hown : s.vm.findClass RX5 = some m.cls := hown
  refine lv_iload_n hx hb dX5_isPoint_0 rfl (lv_at hl 0 rfl) ?_
  refine lv_bipush (v := (-100)) hx hb dX5_isPoint_1 (by decide) ?_
  refine lv_icmp_lt (tgt := 16) hx hb dX5_isPoint_3 (by decide) (fun c_3 => ?_) (fun c_3 => ?_)
  · skip
    refine lv_iconst (v := 0) hx hb dX5_isPoint_16 (by decide) ?_
    exact h_zret hx hb hlk hr hw dX5_isPoint_17 rfl (by rw [bI_f (fun w => w.1 c_3)]) rfl
  · skip
    refine lv_iload_n hx hb dX5_isPoint_6 rfl (lv_at hl 0 rfl) ?_
    refine lv_bipush (v := 100) hx hb dX5_isPoint_7 (by decide) ?_
    refine lv_icmp_gt (tgt := 16) hx hb dX5_isPoint_9 (by decide) (fun c_9 => ?_) (fun c_9 => ?_)
    · skip
      refine lv_iconst (v := 0) hx hb dX5_isPoint_16 (by decide) ?_
      exact h_zret hx hb hlk hr hw dX5_isPoint_17 rfl (by rw [bI_f (fun w => w.2 c_9)]) rfl
    · skip
      refine lv_iconst (v := 1) hx hb dX5_isPoint_12 (by decide) ?_
      refine lv_goto (tgt := 17) hx hb dX5_isPoint_13 (by decide) ?_
      exact h_zret hx hb hlk hr hw dX5_isPoint_17 rfl (by rw [bI_t ⟨c_3, c_9⟩]) rfl

set_option maxHeartbeats 4000000 in
set_option maxRecDepth 100000 in
theorem c_X5_unitNumber (l : Launch) (G : GG) (A : Nat → Prop) (ad : Nat → Nat) (F : FM) (q : Nat → Q4) (T : (Nat → Int32) × (Nat → Int32) × (Nat → Nat → Int64) × Int32) (hC : CW G ad (q, T) F) (j : Nat) (x : Q4) (hj28 : j < 28) (hxj : q j = x) : PT l yX5_unitNumber wsX5_unitNumber { frames := 2, cells := 0, slots := 0, locals := 49 } G A (CL ad) [.ref (ad 51), .ref (ad j)] F (some (.int (fuN x 24 0))) (fun F2 => ∃ q2 : Nat → Q4, CW G ad (q2, T) F2 ∧ ∀ k, k ≠ 28 → q2 k = q k) := by
  refine PT.ofW (cc := cX5_unitNumber) (maxL := 3) (ret := (some .int)) (plainFor_of_name (by decide)) rfl (Nat.le_of_ble_eq_true rfl) ?_
  intro p e s m below meth c ls hx hb hr hml hown hts hlk hE hw hl
  have hl : lv_has ls 3 [(0, .ref (ad 51)), (1, .ref (ad j))] := hl
  have hown : s.vm.findClass RX5 = some m.cls := hown
  have lk_43 := hts (.fieldLink RX5 43 "FourParts" "result" "LFourParts$Quad;") (by decide +kernel)
  have hinX5 : ∀ w ∈ u_ws RX5 TX5 6, w ∈ wsX5_unitNumber := by decide +kernel
  have loop : ∀ (d u : Nat) (F : FM) (q2 : Nat → Q4) (H : Heap) (locs : List Loc) (ls : Array Slot), d + u = 24 → CW G ad (q2, T) F → (∀ k, k ≠ 28 → q2 k = q k) → fuN x d u = fuN x 24 0 → wo G A s.heap (CL ad) F H locs → lv_has ls 3 [(0, .ref (ad 51)), (1, .ref (ad j)), (2, .int (nI u))] → W p l e { frames := 2, cells := 0, slots := 0, locals := 49 } s m ([.ref (ad 51), .ref (ad j)].toArray) below meth c H locs 0 0 (MQ below (QP G A (CL ad) (some (.int (fuN x 24 0))) (fun F2 => ∃ q2 : Nat → Q4, CW G ad (q2, T) F2 ∧ ∀ k, k ≠ 28 → q2 k = q k)) ([.ref (ad 51), .ref (ad j)].toArray) s 0 0 A) (F0 m 2 ls []) := by
    intro d
    induction d with
    | zero =>
      intro u F q2 H locs ls hu hC2 hk hf hw hl
      refine lv_iload_n hx hb dX5_unitNumber_2 rfl (lv_at hl 2 rfl) ?_
      refine lv_bipush (v := 24) hx hb dX5_unitNumber_3 (by decide) ?_
      refine lv_icmp_ge (tgt := 35) hx hb dX5_unitNumber_5 (by decide) (fun c_5 => ?_) (fun c_5 => ?_)
      · skip
        refine lv_bipush (v := (-4)) hx hb dX5_unitNumber_35 (by decide) ?_
        exact h_iretP hx hb hlk hr hw dX5_unitNumber_37 (by rw [← hf]; rfl) ⟨q2, hC2, hk⟩
      · skip
        exact absurd (nI_le (a := 24) (b := u) (by omega) (by omega)) c_5
    | succ d ih =>
      intro u F q2 H locs ls hu hC2 hk hf hw hl
      refine lv_iload_n hx hb dX5_unitNumber_2 rfl (lv_at hl 2 rfl) ?_
      refine lv_bipush (v := 24) hx hb dX5_unitNumber_3 (by decide) ?_
      refine lv_icmp_ge (tgt := 35) hx hb dX5_unitNumber_5 (by decide) (fun c_5 => ?_) (fun c_5 => ?_)
      · skip
        exact absurd c_5 (nI_ge (a := u) (b := 24) (by omega) (by decide))
      · skip
        refine lv_aload_n hx hb dX5_unitNumber_8 rfl (lv_at hl 0 rfl) ?_
        refine h_get hx hb hE hw hts hinX5 hown (ci := 5) rfl 5 (by decide) lk_43 (fun _ h9 => h9) hC2.fp rfl dX5_unitNumber_9 ?_
        refine lv_iload_n hx hb dX5_unitNumber_12 rfl (lv_at hl 2 rfl) ?_
        refine h_callV (st1 := []) [.int (nI u)] [] ⟨hx, hb, hml, hown, hts⟩ hE hw (c_X1_becomeUnit l G A (CL ad) F (ad 28) (q2 28) (hC2.q (i := 28) (by decide)) u (by omega)) (cwV 1 hts gX5_unitNumber_X1_becomeUnit rfl rfl rfl (by decide +kernel) ⟨Nat.le_of_ble_eq_true rfl, Nat.le_of_ble_eq_true rfl⟩) (hC2.q (i := 28) (by decide)) rfl rfl rfl hl.1 rfl (Nat.le_of_ble_eq_true rfl) dX5_unitNumber_13 ⟨Nat.le_of_ble_eq_true rfl, Nat.le_of_ble_eq_true rfl⟩ rfl (fun H locs hw => ?_)
        refine lv_aload_n hx hb dX5_unitNumber_16 rfl (lv_at hl 0 rfl) ?_
        refine h_get hx hb hE hw hts hinX5 hown (ci := 5) rfl 5 (by decide) lk_43 (fun _ h9 => h9) (pt_ne hC2.fp (hC.ne (i := 51) (j := 28) (by decide) (by decide) (by decide))) rfl dX5_unitNumber_17 ?_
        refine lv_aload_n hx hb dX5_unitNumber_20 rfl (lv_at hl 1 rfl) ?_
        refine h_callV (st1 := [.int (bI ((uq4 u) = x))]) [.ref (ad j)] [] ⟨hx, hb, hml, hown, hts⟩ hE hw (c_X1_isSame l G A (CL ad) (va_up F (ad 28) (eq4 (uq4 u))) (ad 28) (ad j) (uq4 u) x (pt_up (hC2.q (i := 28) (by decide))) (pt_ne (pt_eq (hC2.q (i := j) (Nat.lt_of_lt_of_le hj28 (by decide))) (by rw [show ((q2, T) : CS).1 j = x from (hk j (by omega)).trans hxj])) (hC.ne (i := j) (j := 28) (by omega) (by decide) (by omega)))) (cwV 1 hts gX5_unitNumber_X1_isSame rfl rfl rfl (by decide +kernel) ⟨Nat.le_of_ble_eq_true rfl, Nat.le_of_ble_eq_true rfl⟩) (pt_up (hC2.q (i := 28) (by decide))) rfl rfl rfl hl.1 rfl (Nat.le_of_ble_eq_true rfl) dX5_unitNumber_21 ⟨Nat.le_of_ble_eq_true rfl, Nat.le_of_ble_eq_true rfl⟩ rfl (fun H locs hw => ?_)
        refine lv_if_eq (tgt := 29) hx hb dX5_unitNumber_24 (by decide) (fun c_24 => ?_) (fun c_24 => ?_)
        · skip
          have c_24 := bI_eq.mp c_24
          obtain ⟨i9, ei9⟩ : ∃ y : Int32, y = (nI u) + 1 := ⟨_, rfl⟩
          refine lv_iinc (v := i9) (lv' := [(2, .int i9), (0, .ref (ad 51)), (1, .ref (ad j))]) hx hb dX5_unitNumber_29 hl (k := 2) rfl (by rw [ei9, show Int32.ofInt (1) = 1 from by decide]) (by decide) rfl (fun ls hl => ?_)
          refine lv_goto (tgt := 2) hx hb dX5_unitNumber_32 (by decide) ?_
          exact ih (u + 1) _ _ H locs ls (by omega) (CW.setq hC2 (i := 28) (by decide) (uq4 u)) (fun k hk28 => (upq_n _ _ hk28).trans (hk k hk28)) (by rw [← hf]; conv => rhs; rw [fuN, if_neg c_24]) hw (lv_sub (l' := [(0, .ref (ad 51)), (1, .ref (ad j)), (2, .int (nI (u + 1)))]) hl [1, 2, 0] (by rw [← nI_1, ← ei9]; rfl))
        · skip
          have c_24 := bI_ne.mp c_24
          refine lv_iload_n hx hb dX5_unitNumber_27 rfl (lv_at hl 2 rfl) ?_
          exact h_iretP hx hb hlk hr hw dX5_unitNumber_28 (by rw [← hf, fuN, if_pos c_24]) ⟨_, (CW.setq hC2 (i := 28) (by decide) (uq4 u)), fun k hk28 => (upq_n _ _ hk28).trans (hk k hk28)⟩
  refine lv_iconst (v := 0) hx hb dX5_unitNumber_0 (by decide) ?_
  refine lv_istore_n (lv' := [(2, .int 0), (0, .ref (ad 51)), (1, .ref (ad j))]) hx hb dX5_unitNumber_1 rfl hl (by decide) rfl (fun ls hl => ?_)
  exact loop 24 0 _ _ _ _ ls rfl hC (fun k _ => rfl) rfl hw (lv_sub (l' := [(0, .ref (ad 51)), (1, .ref (ad j)), (2, .int (nI 0))]) hl [1, 2, 0] rfl)
