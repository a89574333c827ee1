/-! The reference's units, as its constructor finds them -/
def uD (a b c : Int) : Nat → List Int32
  | 0 => []
  | k + 1 => (if a * a + b * b + c * c + ((k : Int) - 2) * ((k : Int) - 2) = 4 ∧ b % 2 = a % 2 ∧ c % 2 = a % 2 ∧ ((k : Int) - 2) % 2 = a % 2 then [iI a, iI b, iI c, iI ((k : Int) - 2)] else []) ++ uD a b c k
def uC (a b : Int) : Nat → List Int32
  | 0 => []
  | k + 1 => uD a b ((k : Int) - 2) 5 ++ uC a b k
def uB (a : Int) : Nat → List Int32
  | 0 => []
  | k + 1 => uC a ((k : Int) - 2) 5 ++ uB a k
def uA : Nat → List Int32
  | 0 => []
  | k + 1 => uB ((k : Int) - 2) 5 ++ uA k
theorem uA_ok : uA 5 = uPt := by decide +kernel
theorem u_as {us a b c : List Int32} (h : us ++ ((a ++ b) ++ c) = uPt) : us ++ (a ++ (b ++ c)) = uPt := by rw [← h, List.append_assoc]
theorem u_tk {us t r : List Int32} (h : us ++ (t ++ r) = uPt) : (us ++ t) ++ r = uPt := by rw [← h, List.append_assoc]
theorem u_len {us r : List Int32} {a b c d : Int32} (h : us ++ ([a, b, c, d] ++ r) = uPt) : us.length + 4 ≤ 96 := by
  have := congrArg List.length h
  rw [List.length_append, List.length_append] at this
  have e : uPt.length = 96 := by decide
  rw [e] at this
  simp at this
  omega
theorem gd4 (us : List Int32) (a b c d : Int32) : upd (upd (upd (upd (fun k => us.getD k 0) us.length a) (us.length + 1) b) (us.length + 2) c) (us.length + 3) d = fun k => (us ++ [a, b, c, d]).getD k 0 := by
  funext j
  by_cases h3 : j = us.length + 3
  · subst h3; rw [pk_us]; simp [List.getD_eq_getElem?_getD]
  rw [pk_un h3]
  by_cases h2 : j = us.length + 2
  · subst h2; rw [pk_us]; simp [List.getD_eq_getElem?_getD]
  rw [pk_un h2]
  by_cases h1 : j = us.length + 1
  · subst h1; rw [pk_us]; simp [List.getD_eq_getElem?_getD]
  rw [pk_un h1]
  by_cases h0 : j = us.length
  · subst h0; rw [pk_us]; simp [List.getD_eq_getElem?_getD]
  rw [pk_un h0]
  show us.getD j 0 = (us ++ [a, b, c, d]).getD j 0
  rw [List.getD_eq_getElem?_getD, List.getD_eq_getElem?_getD]
  by_cases h : j < us.length
  · rw [List.getElem?_append_left h]
  · rw [List.getElem?_eq_none (by omega), List.getElem?_eq_none (by simp; omega)]
theorem one_u {a b c d : Int} (ha : -28 ≤ a ∧ a ≤ 28) (hb : -28 ≤ b ∧ b ≤ 28) (hc : -28 ≤ c ∧ c ≤ 28) (hd : -28 ≤ d ∧ d ≤ 28) : oneM (iI a).toInt64 (iI b).toInt64 (iI c).toInt64 (iI d).toInt64 ↔ (b % 2 = a % 2 ∧ c % 2 = a % 2 ∧ d % 2 = a % 2) := by
  rw [oneM_z, iI_l ha, iI_l hb, iI_l hc, iI_l hd]; exact Iff.rfl
theorem sq3 {a : Int} (h : -3 ≤ a ∧ a ≤ 3) : 0 ≤ a * a ∧ a * a ≤ 841 := sq29 (by omega) (by omega)
theorem q4f0 : q4f (0, 0, 0, 0) = fun _ => 0 := by
  funext k
  unfold q4f
  by_cases h0 : k = 0
  · rw [if_pos h0]
  · rw [if_neg h0]
    by_cases h1 : k = 1
    · rw [if_pos h1]
    · rw [if_neg h1]
      by_cases h2 : k = 2
      · rw [if_pos h2]
      · rw [if_neg h2]
def M0 : MS := (fun _ => -1, fun _ => 0, fun _ => 0, fun _ => 0, fun _ => 0, fun _ => 0, fun _ => (0, 0, 0, 0), 0)
set_option maxHeartbeats 40000000 in
set_option maxRecDepth 100000 in
theorem x6_units {p : Program} (l : Launch) {e : Env} {s : State} {m : MethodId} {below : List Frame} {meth : Method} {c : Code} {H : Heap} {locs : List Loc} {ls : Array Slot} (G : GG) (A : Nat → Prop) (o a1 a2 a3 a4 a5 a6 a7 a8 a9 a10 a11 a12 a13 a14 a15 a16 : Nat) (FB9 FMM : FM) (f1 : Nat → Int32) (hx : p.tables.exec = Jvm.exec) (hb : c.code = cX6_init) (hr : meth.sig.returnType = none) (hml : c.maxLocals = 6) (hown : s.vm.findClass RX6 = some m.cls) (hts : ∀ w ∈ wsX6_init, w.before [Value.ref o].toArray s = true) (hlk : meth.locks = false) (hE : en G A s) (d_o : pt [o, a1, a2, a3, a4, a5, a6, a7, a8, a9, a10, a11, a12, a13, a14, a15, a16] FB9 o (.inr (6, [.ref a1, .ref a2, .ref a3, .ref a4, .ref a5, .int 0, .ref a6, .ref a7, .ref a8, .ref a9, .ref a10, .ref a11, .ref a12, .ref a13, .ref a14, .ref a15, .ref a16, .int 0]))) (d_a1 : pt [o, a1, a2, a3, a4, a5, a6, a7, a8, a9, a10, a11, a12, a13, a14, a15, a16] FB9 a1 (eI G 6 (fun _ => 0))) (d_a2 : pt [o, a1, a2, a3, a4, a5, a6, a7, a8, a9, a10, a11, a12, a13, a14, a15, a16] FB9 a2 (eI G 6 (fun _ => 0))) (d_a3 : pt [o, a1, a2, a3, a4, a5, a6, a7, a8, a9, a10, a11, a12, a13, a14, a15, a16] FB9 a3 (eJ G 96 (fun _ => 0))) (d_a4 : pt [o, a1, a2, a3, a4, a5, a6, a7, a8, a9, a10, a11, a12, a13, a14, a15, a16] FB9 a4 (eI G 64 (fun _ => 0))) (d_a5 : pt [o, a1, a2, a3, a4, a5, a6, a7, a8, a9, a10, a11, a12, a13, a14, a15, a16] FB9 a5 (eI G 96 (fun _ => 0))) (d_a6 : pt [o, a1, a2, a3, a4, a5, a6, a7, a8, a9, a10, a11, a12, a13, a14, a15, a16] FB9 a6 (eJ G 48 (fun _ => 0))) (d_a7 : pt [o, a1, a2, a3, a4, a5, a6, a7, a8, a9, a10, a11, a12, a13, a14, a15, a16] FB9 a7 (eJ G 16 (fun _ => 0))) (d_a8 : pt [o, a1, a2, a3, a4, a5, a6, a7, a8, a9, a10, a11, a12, a13, a14, a15, a16] FB9 a8 (eJ G 4 (fun _ => 0))) (d_a9 : pt [o, a1, a2, a3, a4, a5, a6, a7, a8, a9, a10, a11, a12, a13, a14, a15, a16] FB9 a9 (eJ G 4 (fun _ => 0))) (d_a10 : pt [o, a1, a2, a3, a4, a5, a6, a7, a8, a9, a10, a11, a12, a13, a14, a15, a16] FB9 a10 (eJ G 4 (fun _ => 0))) (d_a11 : pt [o, a1, a2, a3, a4, a5, a6, a7, a8, a9, a10, a11, a12, a13, a14, a15, a16] FB9 a11 (eJ G 4 (fun _ => 0))) (d_a12 : pt [o, a1, a2, a3, a4, a5, a6, a7, a8, a9, a10, a11, a12, a13, a14, a15, a16] FB9 a12 (eJ G 4 (fun _ => 0))) (d_a13 : pt [o, a1, a2, a3, a4, a5, a6, a7, a8, a9, a10, a11, a12, a13, a14, a15, a16] FB9 a13 (eJ G 4 (fun _ => 0))) (d_a14 : pt [o, a1, a2, a3, a4, a5, a6, a7, a8, a9, a10, a11, a12, a13, a14, a15, a16] FB9 a14 (eJ G 4 (fun _ => 0))) (d_a15 : pt [o, a1, a2, a3, a4, a5, a6, a7, a8, a9, a10, a11, a12, a13, a14, a15, a16] FB9 a15 (eJ G 4 (fun _ => 0))) (d_a16 : pt [o, a1, a2, a3, a4, a5, a6, a7, a8, a9, a10, a11, a12, a13, a14, a15, a16] FB9 a16 (eJ G 4 (fun _ => 0))) (ne_a2_a1 : a2 ≠ a1) (hk1 : ∀ a, a ≠ a1 → FMM a = FB9 a) (hf1 : FMM a1 = eI G 6 f1) (hf6 : ∀ j, j < 6 → f1 j = -1) (hw : wo G A s.heap [o, a1, a2, a3, a4, a5, a6, a7, a8, a9, a10, a11, a12, a13, a14, a15, a16] FMM H locs) (hl : lv_has ls 6 [(0, .ref o), (1, .int 0)]) : W p l e { frames := 1, cells := 16, slots := 368, locals := 29 } s m ([Value.ref o].toArray) below meth c H locs 16 368 (MQ below (QN G A (fun L2 F2 => ∃ ma : Nat → Nat, ma 0 = o ∧ L2 = ML ma ∧ MW G ma M0 F2)) ([Value.ref o].toArray) s 16 368 A) (F0 m 146 ls []) := by
  have n_oa1 : o ≠ a1 := pt_ap d_o d_a1 (fun h9 => absurd (show (6 : Nat) = 1061 from congrArg tg h9) (by decide))
  have n_oa5 : o ≠ a5 := pt_ap d_o d_a5 (fun h9 => absurd (show (6 : Nat) = 1961 from congrArg tg h9) (by decide))
  have n_a1a5 : a1 ≠ a5 := pt_ap d_a1 d_a5 (fun h9 => absurd (show (1061 : Nat) = 1961 from congrArg tg h9) (by decide))
  have lk_23 := hts (.fieldLink RX6 23 "FourPartsModel" "units" "[I") (by decide +kernel)
  have hinX6 : ∀ w ∈ u_ws RX6 TX6 18, w ∈ wsX6_init := by decide +kernel
  have lpA : ∀ (ka : Nat) (us : List Int32) (F1 : FM) (H : Heap) (locs : List Loc) (ls : Array Slot), ka ≤ 5 → us ++ uA ka = uPt → wo G A s.heap [o, a1, a2, a3, a4, a5, a6, a7, a8, a9, a10, a11, a12, a13, a14, a15, a16] F1 H locs → F1 a5 = eI G 96 (fun k => us.getD k 0) → (∀ a, a ≠ a5 → F1 a = FMM a) → lv_has ls 6 [(0, .ref o), (1, .int (nI us.length)), (2, .int (iI ((ka : Int) - 3)))] → W p l e { frames := 1, cells := 16, slots := 368, locals := 29 } s m ([Value.ref o].toArray) below meth c H locs 16 368 (MQ below (QN G A (fun L2 F2 => ∃ ma : Nat → Nat, ma 0 = o ∧ L2 = ML ma ∧ MW G ma M0 F2)) ([Value.ref o].toArray) s 16 368 A) (F0 m 148 ls []) := by
    intro ka
    induction ka with
    | zero =>
      intro us F1 H locs ls hkk hus hw h5 hk hl
      have f_o : pt [o, a1, a2, a3, a4, a5, a6, a7, a8, a9, a10, a11, a12, a13, a14, a15, a16] F1 o (.inr (6, [.ref a1, .ref a2, .ref a3, .ref a4, .ref a5, .int 0, .ref a6, .ref a7, .ref a8, .ref a9, .ref a10, .ref a11, .ref a12, .ref a13, .ref a14, .ref a15, .ref a16, .int 0])) := ⟨d_o.1, (hk o n_oa5).trans ((hk1 o n_oa1).trans d_o.2)⟩
      have f_a5 : pt [o, a1, a2, a3, a4, a5, a6, a7, a8, a9, a10, a11, a12, a13, a14, a15, a16] F1 a5 (eI G 96 (fun k => us.getD k 0)) := ⟨d_a5.1, h5⟩
      refine lv_iload_n hx hb dX6_init_148 rfl (lv_at hl 2 rfl) ?_
      refine lv_bipush (v := (-2)) hx hb dX6_init_149 (by decide) ?_
      refine lv_icmp_lt (tgt := 284) hx hb dX6_init_151 (by decide) (fun c_151 => ?_) (fun c_151 => ?_)
      · skip
        have hus : us = uPt := by rw [← hus]; exact (List.append_nil us).symm
        have hw : wo G A s.heap [o, a1, a2, a3, a4, a5, a6, a7, a8, a9, a10, a11, a12, a13, a14, a15, a16] F1 H locs := hw
        obtain ⟨ma, hma⟩ : ∃ ma : Nat → Nat, ma = fun i => [o, a1, a2, a3, a4, a5, a6, a7, a8, a9, a10, a11, a12, a13, a14, a15, a16].getD i 0 := ⟨_, rfl⟩
        have hml2 : ML ma = [o, a1, a2, a3, a4, a5, a6, a7, a8, a9, a10, a11, a12, a13, a14, a15, a16] := by rw [hma]; rfl
        have hwc : wd G A (ML ma) F1 H := by rw [hml2]; exact hw.1
        have hndc := wd_nd hwc
        have v_a1 : F1 a1 = eI G 6 f1 := (hk a1 n_a1a5).trans hf1
        have v_a5 : F1 a5 = eI G 96 uni := by rw [h5, hus]; rfl
        have v_o : F1 o = .inr (6, [.ref a1, .ref a2, .ref a3, .ref a4, .ref a5, .int 0, .ref a6, .ref a7, .ref a8, .ref a9, .ref a10, .ref a11, .ref a12, .ref a13, .ref a14, .ref a15, .ref a16, .int 0]) := (hk o n_oa5).trans ((hk1 o n_oa1).trans d_o.2)
        have v_a2 : F1 a2 = eI G 6 (fun _ => 0) := (hk a2 (pt_ap d_a2 d_a5 (fun h9 => absurd (show (1061 : Nat) = 1961 from congrArg tg h9) (by decide)))).trans ((hk1 a2 ne_a2_a1).trans d_a2.2)
        have v_a3 : F1 a3 = eJ G 96 (fun _ => 0) := (hk a3 (pt_ap d_a3 d_a5 (fun h9 => absurd (show (1962 : Nat) = 1961 from congrArg tg h9) (by decide)))).trans ((hk1 a3 (pt_ap d_a3 d_a1 (fun h9 => absurd (show (1962 : Nat) = 1061 from congrArg tg h9) (by decide)))).trans d_a3.2)
        have v_a4 : F1 a4 = eI G 64 (fun _ => 0) := (hk a4 (pt_ap d_a4 d_a5 (fun h9 => absurd (show (1641 : Nat) = 1961 from congrArg tg h9) (by decide)))).trans ((hk1 a4 (pt_ap d_a4 d_a1 (fun h9 => absurd (show (1641 : Nat) = 1061 from congrArg tg h9) (by decide)))).trans d_a4.2)
        have v_a6 : F1 a6 = eJ G 48 (fun _ => 0) := (hk a6 (pt_ap d_a6 d_a5 (fun h9 => absurd (show (1482 : Nat) = 1961 from congrArg tg h9) (by decide)))).trans ((hk1 a6 (pt_ap d_a6 d_a1 (fun h9 => absurd (show (1482 : Nat) = 1061 from congrArg tg h9) (by decide)))).trans d_a6.2)
        have v_a7 : F1 a7 = eJ G 16 (fun _ => 0) := (hk a7 (pt_ap d_a7 d_a5 (fun h9 => absurd (show (1162 : Nat) = 1961 from congrArg tg h9) (by decide)))).trans ((hk1 a7 (pt_ap d_a7 d_a1 (fun h9 => absurd (show (1162 : Nat) = 1061 from congrArg tg h9) (by decide)))).trans d_a7.2)
        have v_a8 : F1 a8 = eJ G 4 (fun _ => 0) := (hk a8 (pt_ap d_a8 d_a5 (fun h9 => absurd (show (1042 : Nat) = 1961 from congrArg tg h9) (by decide)))).trans ((hk1 a8 (pt_ap d_a8 d_a1 (fun h9 => absurd (show (1042 : Nat) = 1061 from congrArg tg h9) (by decide)))).trans d_a8.2)
        have v_a9 : F1 a9 = eJ G 4 (fun _ => 0) := (hk a9 (pt_ap d_a9 d_a5 (fun h9 => absurd (show (1042 : Nat) = 1961 from congrArg tg h9) (by decide)))).trans ((hk1 a9 (pt_ap d_a9 d_a1 (fun h9 => absurd (show (1042 : Nat) = 1061 from congrArg tg h9) (by decide)))).trans d_a9.2)
        have v_a10 : F1 a10 = eJ G 4 (fun _ => 0) := (hk a10 (pt_ap d_a10 d_a5 (fun h9 => absurd (show (1042 : Nat) = 1961 from congrArg tg h9) (by decide)))).trans ((hk1 a10 (pt_ap d_a10 d_a1 (fun h9 => absurd (show (1042 : Nat) = 1061 from congrArg tg h9) (by decide)))).trans d_a10.2)
        have v_a11 : F1 a11 = eJ G 4 (fun _ => 0) := (hk a11 (pt_ap d_a11 d_a5 (fun h9 => absurd (show (1042 : Nat) = 1961 from congrArg tg h9) (by decide)))).trans ((hk1 a11 (pt_ap d_a11 d_a1 (fun h9 => absurd (show (1042 : Nat) = 1061 from congrArg tg h9) (by decide)))).trans d_a11.2)
        have v_a12 : F1 a12 = eJ G 4 (fun _ => 0) := (hk a12 (pt_ap d_a12 d_a5 (fun h9 => absurd (show (1042 : Nat) = 1961 from congrArg tg h9) (by decide)))).trans ((hk1 a12 (pt_ap d_a12 d_a1 (fun h9 => absurd (show (1042 : Nat) = 1061 from congrArg tg h9) (by decide)))).trans d_a12.2)
        have v_a13 : F1 a13 = eJ G 4 (fun _ => 0) := (hk a13 (pt_ap d_a13 d_a5 (fun h9 => absurd (show (1042 : Nat) = 1961 from congrArg tg h9) (by decide)))).trans ((hk1 a13 (pt_ap d_a13 d_a1 (fun h9 => absurd (show (1042 : Nat) = 1061 from congrArg tg h9) (by decide)))).trans d_a13.2)
        have v_a14 : F1 a14 = eJ G 4 (fun _ => 0) := (hk a14 (pt_ap d_a14 d_a5 (fun h9 => absurd (show (1042 : Nat) = 1961 from congrArg tg h9) (by decide)))).trans ((hk1 a14 (pt_ap d_a14 d_a1 (fun h9 => absurd (show (1042 : Nat) = 1061 from congrArg tg h9) (by decide)))).trans d_a14.2)
        have v_a15 : F1 a15 = eJ G 4 (fun _ => 0) := (hk a15 (pt_ap d_a15 d_a5 (fun h9 => absurd (show (1042 : Nat) = 1961 from congrArg tg h9) (by decide)))).trans ((hk1 a15 (pt_ap d_a15 d_a1 (fun h9 => absurd (show (1042 : Nat) = 1061 from congrArg tg h9) (by decide)))).trans d_a15.2)
        have v_a16 : F1 a16 = eJ G 4 (fun _ => 0) := (hk a16 (pt_ap d_a16 d_a5 (fun h9 => absurd (show (1042 : Nat) = 1961 from congrArg tg h9) (by decide)))).trans ((hk1 a16 (pt_ap d_a16 d_a1 (fun h9 => absurd (show (1042 : Nat) = 1061 from congrArg tg h9) (by decide)))).trans d_a16.2)
        have hwd := wd_re (a := a1) (e2 := eI G 6 (fun _ => -1)) hwc v_a1 (at_sameI (n := 6) hf6)
        obtain ⟨K0, hK0⟩ : ∃ Fx : FM, Fx = va_up F1 a1 (eI G 6 (fun _ => -1)) := ⟨_, rfl⟩
        rw [← hK0] at hwd
        have u_o := (show K0 o = F1 o from by rw [hK0]; exact va_up_ne _ _ n_oa1).trans v_o
        have u_a1 : K0 a1 = eI G 6 (fun _ => -1) := by rw [hK0]; exact va_up_self _ _ _
        have u_a2 := (show K0 a2 = F1 a2 from by rw [hK0]; exact va_up_ne _ _ ne_a2_a1).trans v_a2
        have u_a3 := (show K0 a3 = F1 a3 from by rw [hK0]; exact va_up_ne _ _ (pt_ap d_a3 d_a1 (fun h9 => absurd (show (1962 : Nat) = 1061 from congrArg tg h9) (by decide)))).trans v_a3
        have u_a4 := (show K0 a4 = F1 a4 from by rw [hK0]; exact va_up_ne _ _ (pt_ap d_a4 d_a1 (fun h9 => absurd (show (1641 : Nat) = 1061 from congrArg tg h9) (by decide)))).trans v_a4
        have u_a5 := (show K0 a5 = F1 a5 from by rw [hK0]; exact va_up_ne _ _ (Ne.symm n_a1a5)).trans v_a5
        have u_a6 := (show K0 a6 = F1 a6 from by rw [hK0]; exact va_up_ne _ _ (pt_ap d_a6 d_a1 (fun h9 => absurd (show (1482 : Nat) = 1061 from congrArg tg h9) (by decide)))).trans v_a6
        have u_a7 := (show K0 a7 = F1 a7 from by rw [hK0]; exact va_up_ne _ _ (pt_ap d_a7 d_a1 (fun h9 => absurd (show (1162 : Nat) = 1061 from congrArg tg h9) (by decide)))).trans v_a7
        have u_a8 := (show K0 a8 = F1 a8 from by rw [hK0]; exact va_up_ne _ _ (pt_ap d_a8 d_a1 (fun h9 => absurd (show (1042 : Nat) = 1061 from congrArg tg h9) (by decide)))).trans v_a8
        have u_a9 := (show K0 a9 = F1 a9 from by rw [hK0]; exact va_up_ne _ _ (pt_ap d_a9 d_a1 (fun h9 => absurd (show (1042 : Nat) = 1061 from congrArg tg h9) (by decide)))).trans v_a9
        have u_a10 := (show K0 a10 = F1 a10 from by rw [hK0]; exact va_up_ne _ _ (pt_ap d_a10 d_a1 (fun h9 => absurd (show (1042 : Nat) = 1061 from congrArg tg h9) (by decide)))).trans v_a10
        have u_a11 := (show K0 a11 = F1 a11 from by rw [hK0]; exact va_up_ne _ _ (pt_ap d_a11 d_a1 (fun h9 => absurd (show (1042 : Nat) = 1061 from congrArg tg h9) (by decide)))).trans v_a11
        have u_a12 := (show K0 a12 = F1 a12 from by rw [hK0]; exact va_up_ne _ _ (pt_ap d_a12 d_a1 (fun h9 => absurd (show (1042 : Nat) = 1061 from congrArg tg h9) (by decide)))).trans v_a12
        have u_a13 := (show K0 a13 = F1 a13 from by rw [hK0]; exact va_up_ne _ _ (pt_ap d_a13 d_a1 (fun h9 => absurd (show (1042 : Nat) = 1061 from congrArg tg h9) (by decide)))).trans v_a13
        have u_a14 := (show K0 a14 = F1 a14 from by rw [hK0]; exact va_up_ne _ _ (pt_ap d_a14 d_a1 (fun h9 => absurd (show (1042 : Nat) = 1061 from congrArg tg h9) (by decide)))).trans v_a14
        have u_a15 := (show K0 a15 = F1 a15 from by rw [hK0]; exact va_up_ne _ _ (pt_ap d_a15 d_a1 (fun h9 => absurd (show (1042 : Nat) = 1061 from congrArg tg h9) (by decide)))).trans v_a15
        have u_a16 := (show K0 a16 = F1 a16 from by rw [hK0]; exact va_up_ne _ _ (pt_ap d_a16 d_a1 (fun h9 => absurd (show (1042 : Nat) = 1061 from congrArg tg h9) (by decide)))).trans v_a16
        have x_a8 : K0 a8 = eJ4 G (0, 0, 0, 0) := by rw [u_a8]; show eJ G 4 (fun _ => 0) = eJ G 4 (q4f (0, 0, 0, 0)); rw [q4f0]
        have x_a9 : K0 a9 = eJ4 G (0, 0, 0, 0) := by rw [u_a9]; show eJ G 4 (fun _ => 0) = eJ G 4 (q4f (0, 0, 0, 0)); rw [q4f0]
        have x_a10 : K0 a10 = eJ4 G (0, 0, 0, 0) := by rw [u_a10]; show eJ G 4 (fun _ => 0) = eJ G 4 (q4f (0, 0, 0, 0)); rw [q4f0]
        have x_a11 : K0 a11 = eJ4 G (0, 0, 0, 0) := by rw [u_a11]; show eJ G 4 (fun _ => 0) = eJ G 4 (q4f (0, 0, 0, 0)); rw [q4f0]
        have x_a12 : K0 a12 = eJ4 G (0, 0, 0, 0) := by rw [u_a12]; show eJ G 4 (fun _ => 0) = eJ G 4 (q4f (0, 0, 0, 0)); rw [q4f0]
        have x_a13 : K0 a13 = eJ4 G (0, 0, 0, 0) := by rw [u_a13]; show eJ G 4 (fun _ => 0) = eJ G 4 (q4f (0, 0, 0, 0)); rw [q4f0]
        have x_a14 : K0 a14 = eJ4 G (0, 0, 0, 0) := by rw [u_a14]; show eJ G 4 (fun _ => 0) = eJ G 4 (q4f (0, 0, 0, 0)); rw [q4f0]
        have x_a15 : K0 a15 = eJ4 G (0, 0, 0, 0) := by rw [u_a15]; show eJ G 4 (fun _ => 0) = eJ G 4 (q4f (0, 0, 0, 0)); rw [q4f0]
        have x_a16 : K0 a16 = eJ4 G (0, 0, 0, 0) := by rw [u_a16]; show eJ G 4 (fun _ => 0) = eJ G 4 (q4f (0, 0, 0, 0)); rw [q4f0]
        have hMW : MW G ma M0 K0 := by
          refine ⟨fun i j hi hj hij => ?_, fun i hi => ?_⟩
          · have e1 : (ML ma)[i]? = some (ma i) := by simp [hi]
            have e2 : (ML ma)[j]? = some (ma j) := by simp [hj]
            have hlen : (ML ma).length = 17 := by simp
            have hpw := List.pairwise_iff_getElem.mp (List.nodup_iff_pairwise_ne.mp hndc)
            have g1 : (ML ma)[i]'(by rw [hlen]; exact hi) = ma i := (List.getElem?_eq_some_iff.mp e1).2
            have g2 : (ML ma)[j]'(by rw [hlen]; exact hj) = ma j := (List.getElem?_eq_some_iff.mp e2).2
            rcases Nat.lt_trichotomy i j with w | w | w
            · exact absurd (g1.trans (hij.trans g2.symm)) (hpw i j (by rw [hlen]; exact hi) (by rw [hlen]; exact hj) w)
            · exact w
            · exact absurd (g2.trans (hij.symm.trans g1.symm)) (hpw j i (by rw [hlen]; exact hj) (by rw [hlen]; exact hi) w)
          · subst hma
            rcases (show i = 0 ∨ i = 1 ∨ i = 2 ∨ i = 3 ∨ i = 4 ∨ i = 5 ∨ i = 6 ∨ i = 7 ∨ i = 8 ∨ i = 9 ∨ i = 10 ∨ i = 11 ∨ i = 12 ∨ i = 13 ∨ i = 14 ∨ i = 15 ∨ i = 16 by omega) with rfl | rfl | rfl | rfl | rfl | rfl | rfl | rfl | rfl | rfl | rfl | rfl | rfl | rfl | rfl | rfl | rfl
            · exact u_o
            · exact u_a1
            · exact u_a2
            · exact u_a3
            · exact u_a4
            · exact u_a5
            · exact u_a6
            · exact u_a7
            · exact x_a8
            · exact x_a9
            · exact x_a10
            · exact x_a11
            · exact x_a12
            · exact x_a13
            · exact x_a14
            · exact x_a15
            · exact x_a16
        exact h_vretN hx hb hlk hr (⟨hwd, hw.2⟩ : wo G A s.heap (ML ma) K0 H locs) dX6_init_284 ⟨ma, by rw [hma]; rfl, rfl, hMW⟩ (by decide) (by decide)
      · skip
        exact absurd ((iI_lt (by omega) (by omega) (by omega) (by omega)).mpr (show (((0 : Nat) : Int) - 3) < -2 by omega)) c_151
    | succ ka iha =>
      intro us F1 H locs ls hkk hus hw h5 hk hl
      obtain ⟨ya, hya⟩ : ∃ ya : Int, ya = (ka : Int) - 2 := ⟨_, rfl⟩
      have hus : us ++ (uB ya 5 ++ uA ka) = uPt := by rw [hya]; exact hus
      have hl : lv_has ls 6 [(0, .ref o), (1, .int (nI us.length)), (2, .int (iI ya))] := by rw [show (((ka + 1 : Nat) : Int) - 3) = ya by omega] at hl; exact hl
      have qa := sq3 (a := ya) (by omega)
      have lpB : ∀ (kb : Nat) (us : List Int32) (F1 : FM) (H : Heap) (locs : List Loc) (ls : Array Slot), kb ≤ 5 → us ++ (uB ya kb ++ uA ka) = uPt → wo G A s.heap [o, a1, a2, a3, a4, a5, a6, a7, a8, a9, a10, a11, a12, a13, a14, a15, a16] F1 H locs → F1 a5 = eI G 96 (fun k => us.getD k 0) → (∀ a, a ≠ a5 → F1 a = FMM a) → lv_has ls 6 [(0, .ref o), (1, .int (nI us.length)), (2, .int (iI ya)), (3, .int (iI ((kb : Int) - 3)))] → W p l e { frames := 1, cells := 16, slots := 368, locals := 29 } s m ([Value.ref o].toArray) below meth c H locs 16 368 (MQ below (QN G A (fun L2 F2 => ∃ ma : Nat → Nat, ma 0 = o ∧ L2 = ML ma ∧ MW G ma M0 F2)) ([Value.ref o].toArray) s 16 368 A) (F0 m 156 ls []) := by
        intro kb
        induction kb with
        | zero =>
          intro us F1 H locs ls hkk hus hw h5 hk hl
          have f_o : pt [o, a1, a2, a3, a4, a5, a6, a7, a8, a9, a10, a11, a12, a13, a14, a15, a16] F1 o (.inr (6, [.ref a1, .ref a2, .ref a3, .ref a4, .ref a5, .int 0, .ref a6, .ref a7, .ref a8, .ref a9, .ref a10, .ref a11, .ref a12, .ref a13, .ref a14, .ref a15, .ref a16, .int 0])) := ⟨d_o.1, (hk o n_oa5).trans ((hk1 o n_oa1).trans d_o.2)⟩
          have f_a5 : pt [o, a1, a2, a3, a4, a5, a6, a7, a8, a9, a10, a11, a12, a13, a14, a15, a16] F1 a5 (eI G 96 (fun k => us.getD k 0)) := ⟨d_a5.1, h5⟩
          refine lv_iload_n hx hb dX6_init_156 rfl (lv_at hl 3 rfl) ?_
          refine lv_bipush (v := (-2)) hx hb dX6_init_157 (by decide) ?_
          refine lv_icmp_lt (tgt := 278) hx hb dX6_init_159 (by decide) (fun c_159 => ?_) (fun c_159 => ?_)
          · skip
            obtain ⟨i9, ei9⟩ : ∃ y : Int32, y = (iI ya) + (-1) := ⟨_, rfl⟩
            refine lv_iinc (v := i9) (lv' := [(2, .int i9), (0, .ref o), (1, .int (nI us.length)), (3, .int (iI (((0 : Nat) : Int) - 3)))]) hx hb dX6_init_278 hl (k := 2) rfl (by rw [ei9, show Int32.ofInt (-1) = -1 from by decide]) (by decide) rfl (fun ls hl => ?_)
            refine lv_goto (tgt := 148) hx hb dX6_init_281 (by decide) ?_
            exact iha us _ _ _ ls (by omega) hus hw h5 hk (lv_sub (l' := [(0, .ref o), (1, .int (nI us.length)), (2, .int (iI ((ka : Int) - 3)))]) hl [1, 2, 0] (by rw [show iI ((ka : Int) - 3) = i9 from by rw [ei9, show ((ka : Int) - 3) = ya + -1 by omega, ← iI_add]; rfl]; rfl))
          · skip
            exact absurd ((iI_lt (by omega) (by omega) (by omega) (by omega)).mpr (show (((0 : Nat) : Int) - 3) < -2 by omega)) c_159
        | succ kb ihb =>
          intro us F1 H locs ls hkk hus hw h5 hk hl
          obtain ⟨yb, hyb⟩ : ∃ yb : Int, yb = (kb : Int) - 2 := ⟨_, rfl⟩
          have hus : us ++ (uC ya yb 5 ++ (uB ya kb ++ uA ka)) = uPt := by rw [hyb]; exact u_as hus
          have hl : lv_has ls 6 [(0, .ref o), (1, .int (nI us.length)), (2, .int (iI ya)), (3, .int (iI yb))] := by rw [show (((kb + 1 : Nat) : Int) - 3) = yb by omega] at hl; exact hl
          have qb := sq3 (a := yb) (by omega)
          have lpC : ∀ (kc : Nat) (us : List Int32) (F1 : FM) (H : Heap) (locs : List Loc) (ls : Array Slot), kc ≤ 5 → us ++ (uC ya yb kc ++ (uB ya kb ++ uA ka)) = uPt → wo G A s.heap [o, a1, a2, a3, a4, a5, a6, a7, a8, a9, a10, a11, a12, a13, a14, a15, a16] F1 H locs → F1 a5 = eI G 96 (fun k => us.getD k 0) → (∀ a, a ≠ a5 → F1 a = FMM a) → lv_has ls 6 [(0, .ref o), (1, .int (nI us.length)), (2, .int (iI ya)), (3, .int (iI yb)), (4, .int (iI ((kc : Int) - 3)))] → W p l e { frames := 1, cells := 16, slots := 368, locals := 29 } s m ([Value.ref o].toArray) below meth c H locs 16 368 (MQ below (QN G A (fun L2 F2 => ∃ ma : Nat → Nat, ma 0 = o ∧ L2 = ML ma ∧ MW G ma M0 F2)) ([Value.ref o].toArray) s 16 368 A) (F0 m 165 ls []) := by
            intro kc
            induction kc with
            | zero =>
              intro us F1 H locs ls hkk hus hw h5 hk hl
              have f_o : pt [o, a1, a2, a3, a4, a5, a6, a7, a8, a9, a10, a11, a12, a13, a14, a15, a16] F1 o (.inr (6, [.ref a1, .ref a2, .ref a3, .ref a4, .ref a5, .int 0, .ref a6, .ref a7, .ref a8, .ref a9, .ref a10, .ref a11, .ref a12, .ref a13, .ref a14, .ref a15, .ref a16, .int 0])) := ⟨d_o.1, (hk o n_oa5).trans ((hk1 o n_oa1).trans d_o.2)⟩
              have f_a5 : pt [o, a1, a2, a3, a4, a5, a6, a7, a8, a9, a10, a11, a12, a13, a14, a15, a16] F1 a5 (eI G 96 (fun k => us.getD k 0)) := ⟨d_a5.1, h5⟩
              refine lv_iload hx hb dX6_init_165 (lv_at hl 4 rfl) ?_
              refine lv_bipush (v := (-2)) hx hb dX6_init_167 (by decide) ?_
              refine lv_icmp_lt (tgt := 272) hx hb dX6_init_169 (by decide) (fun c_169 => ?_) (fun c_169 => ?_)
              · skip
                obtain ⟨i9, ei9⟩ : ∃ y : Int32, y = (iI yb) + (-1) := ⟨_, rfl⟩
                refine lv_iinc (v := i9) (lv' := [(3, .int i9), (0, .ref o), (1, .int (nI us.length)), (2, .int (iI ya)), (4, .int (iI (((0 : Nat) : Int) - 3)))]) hx hb dX6_init_272 hl (k := 3) rfl (by rw [ei9, show Int32.ofInt (-1) = -1 from by decide]) (by decide) rfl (fun ls hl => ?_)
                refine lv_goto (tgt := 156) hx hb dX6_init_275 (by decide) ?_
                exact ihb us _ _ _ ls (by omega) hus hw h5 hk (lv_sub (l' := [(0, .ref o), (1, .int (nI us.length)), (2, .int (iI ya)), (3, .int (iI ((kb : Int) - 3)))]) hl [1, 2, 3, 0] (by rw [show iI ((kb : Int) - 3) = i9 from by rw [ei9, show ((kb : Int) - 3) = yb + -1 by omega, ← iI_add]; rfl]; rfl))
              · skip
                exact absurd ((iI_lt (by omega) (by omega) (by omega) (by omega)).mpr (show (((0 : Nat) : Int) - 3) < -2 by omega)) c_169
            | succ kc ihc =>
              intro us F1 H locs ls hkk hus hw h5 hk hl
              obtain ⟨yc, hyc⟩ : ∃ yc : Int, yc = (kc : Int) - 2 := ⟨_, rfl⟩
              have hus : us ++ (uD ya yb yc 5 ++ (uC ya yb kc ++ (uB ya kb ++ uA ka))) = uPt := by rw [hyc]; exact u_as hus
              have hl : lv_has ls 6 [(0, .ref o), (1, .int (nI us.length)), (2, .int (iI ya)), (3, .int (iI yb)), (4, .int (iI yc))] := by rw [show (((kc + 1 : Nat) : Int) - 3) = yc by omega] at hl; exact hl
              have qc := sq3 (a := yc) (by omega)
              have lpD : ∀ (kd : Nat) (us : List Int32) (F1 : FM) (H : Heap) (locs : List Loc) (ls : Array Slot), kd ≤ 5 → us ++ (uD ya yb yc kd ++ (uC ya yb kc ++ (uB ya kb ++ uA ka))) = uPt → wo G A s.heap [o, a1, a2, a3, a4, a5, a6, a7, a8, a9, a10, a11, a12, a13, a14, a15, a16] F1 H locs → F1 a5 = eI G 96 (fun k => us.getD k 0) → (∀ a, a ≠ a5 → F1 a = FMM a) → lv_has ls 6 [(0, .ref o), (1, .int (nI us.length)), (2, .int (iI ya)), (3, .int (iI yb)), (4, .int (iI yc)), (5, .int (iI ((kd : Int) - 3)))] → W p l e { frames := 1, cells := 16, slots := 368, locals := 29 } s m ([Value.ref o].toArray) below meth c H locs 16 368 (MQ below (QN G A (fun L2 F2 => ∃ ma : Nat → Nat, ma 0 = o ∧ L2 = ML ma ∧ MW G ma M0 F2)) ([Value.ref o].toArray) s 16 368 A) (F0 m 175 ls []) := by
                intro kd
                induction kd with
                | zero =>
                  intro us F1 H locs ls hkk hus hw h5 hk hl
                  have f_o : pt [o, a1, a2, a3, a4, a5, a6, a7, a8, a9, a10, a11, a12, a13, a14, a15, a16] F1 o (.inr (6, [.ref a1, .ref a2, .ref a3, .ref a4, .ref a5, .int 0, .ref a6, .ref a7, .ref a8, .ref a9, .ref a10, .ref a11, .ref a12, .ref a13, .ref a14, .ref a15, .ref a16, .int 0])) := ⟨d_o.1, (hk o n_oa5).trans ((hk1 o n_oa1).trans d_o.2)⟩
                  have f_a5 : pt [o, a1, a2, a3, a4, a5, a6, a7, a8, a9, a10, a11, a12, a13, a14, a15, a16] F1 a5 (eI G 96 (fun k => us.getD k 0)) := ⟨d_a5.1, h5⟩
                  refine lv_iload hx hb dX6_init_175 (lv_at hl 5 rfl) ?_
                  refine lv_bipush (v := (-2)) hx hb dX6_init_177 (by decide) ?_
                  refine lv_icmp_lt (tgt := 266) hx hb dX6_init_179 (by decide) (fun c_179 => ?_) (fun c_179 => ?_)
                  · skip
                    obtain ⟨i9, ei9⟩ : ∃ y : Int32, y = (iI yc) + (-1) := ⟨_, rfl⟩
                    refine lv_iinc (v := i9) (lv' := [(4, .int i9), (0, .ref o), (1, .int (nI us.length)), (2, .int (iI ya)), (3, .int (iI yb)), (5, .int (iI (((0 : Nat) : Int) - 3)))]) hx hb dX6_init_266 hl (k := 4) rfl (by rw [ei9, show Int32.ofInt (-1) = -1 from by decide]) (by decide) rfl (fun ls hl => ?_)
                    refine lv_goto (tgt := 165) hx hb dX6_init_269 (by decide) ?_
                    exact ihc us _ _ _ ls (by omega) hus hw h5 hk (lv_sub (l' := [(0, .ref o), (1, .int (nI us.length)), (2, .int (iI ya)), (3, .int (iI yb)), (4, .int (iI ((kc : Int) - 3)))]) hl [1, 2, 3, 4, 0] (by rw [show iI ((kc : Int) - 3) = i9 from by rw [ei9, show ((kc : Int) - 3) = yc + -1 by omega, ← iI_add]; rfl]; rfl))
                  · skip
                    exact absurd ((iI_lt (by omega) (by omega) (by omega) (by omega)).mpr (show (((0 : Nat) : Int) - 3) < -2 by omega)) c_179
                | succ kd ihd =>
                  intro us F1 H locs ls hkk hus hw h5 hk hl
                  obtain ⟨yd, hyd⟩ : ∃ yd : Int, yd = (kd : Int) - 2 := ⟨_, rfl⟩
                  have hus : us ++ ((if ya * ya + yb * yb + yc * yc + yd * yd = 4 ∧ yb % 2 = ya % 2 ∧ yc % 2 = ya % 2 ∧ yd % 2 = ya % 2 then [iI ya, iI yb, iI yc, iI yd] else []) ++ (uD ya yb yc kd ++ (uC ya yb kc ++ (uB ya kb ++ uA ka)))) = uPt := by rw [hyd]; exact u_as hus
                  have hl : lv_has ls 6 [(0, .ref o), (1, .int (nI us.length)), (2, .int (iI ya)), (3, .int (iI yb)), (4, .int (iI yc)), (5, .int (iI yd))] := by rw [show (((kd + 1 : Nat) : Int) - 3) = yd by omega] at hl; exact hl
                  have qd := sq3 (a := yd) (by omega)
                  have h1u := one_u (a := ya) (b := yb) (c := yc) (d := yd) (by omega) (by omega) (by omega) (by omega)
                  have f_o : pt [o, a1, a2, a3, a4, a5, a6, a7, a8, a9, a10, a11, a12, a13, a14, a15, a16] F1 o (.inr (6, [.ref a1, .ref a2, .ref a3, .ref a4, .ref a5, .int 0, .ref a6, .ref a7, .ref a8, .ref a9, .ref a10, .ref a11, .ref a12, .ref a13, .ref a14, .ref a15, .ref a16, .int 0])) := ⟨d_o.1, (hk o n_oa5).trans ((hk1 o n_oa1).trans d_o.2)⟩
                  have f_a5 : pt [o, a1, a2, a3, a4, a5, a6, a7, a8, a9, a10, a11, a12, a13, a14, a15, a16] F1 a5 (eI G 96 (fun k => us.getD k 0)) := ⟨d_a5.1, h5⟩
                  refine lv_iload hx hb dX6_init_175 (lv_at hl 5 rfl) ?_
                  refine lv_bipush (v := (-2)) hx hb dX6_init_177 (by decide) ?_
                  refine lv_icmp_lt (tgt := 266) hx hb dX6_init_179 (by decide) (fun c_179 => ?_) (fun c_179 => ?_)
                  · skip
                    exact absurd ((iI_lt (b := -2) (by omega) (by omega) (by omega) (by omega)).mp c_179) (show ¬ yd < -2 by omega)
                  · skip
                    refine lv_iload_n hx hb dX6_init_182 rfl (lv_at hl 2 rfl) ?_
                    refine lv_iload_n hx hb dX6_init_183 rfl (lv_at hl 2 rfl) ?_
                    refine lv_imul hx hb dX6_init_184 ?_
                    refine lv_iload_n hx hb dX6_init_185 rfl (lv_at hl 3 rfl) ?_
                    refine lv_iload_n hx hb dX6_init_186 rfl (lv_at hl 3 rfl) ?_
                    refine lv_imul hx hb dX6_init_187 ?_
                    refine lv_iadd hx hb dX6_init_188 ?_
                    refine lv_iload hx hb dX6_init_189 (lv_at hl 4 rfl) ?_
                    refine lv_iload hx hb dX6_init_191 (lv_at hl 4 rfl) ?_
                    refine lv_imul hx hb dX6_init_193 ?_
                    refine lv_iadd hx hb dX6_init_194 ?_
                    refine lv_iload hx hb dX6_init_195 (lv_at hl 5 rfl) ?_
                    refine lv_iload hx hb dX6_init_197 (lv_at hl 5 rfl) ?_
                    refine lv_imul hx hb dX6_init_199 ?_
                    refine lv_iadd hx hb dX6_init_200 ?_
                    refine lv_iconst (v := 4) hx hb dX6_init_201 (by decide) ?_
                    refine W.eq (g2 := F0 m 202 ls [.int (iI 4), .int (iI (ya * ya + yb * yb + yc * yc + yd * yd))]) (by rw [iI_mul, iI_mul, iI_mul, iI_mul, iI_add, iI_add, iI_add]; rfl) ?_
                    refine lv_icmp_ne (tgt := 260) hx hb dX6_init_202 (by decide) (fun c_202 => ?_) (fun c_202 => ?_)
                    · skip
                      have hno : ¬ (ya * ya + yb * yb + yc * yc + yd * yd = 4 ∧ yb % 2 = ya % 2 ∧ yc % 2 = ya % 2 ∧ yd % 2 = ya % 2) := fun q => c_202 (by rw [q.1])
                      obtain ⟨i9, ei9⟩ : ∃ y : Int32, y = (iI yd) + (-1) := ⟨_, rfl⟩
                      refine lv_iinc (v := i9) (lv' := [(5, .int i9), (0, .ref o), (1, .int (nI us.length)), (2, .int (iI ya)), (3, .int (iI yb)), (4, .int (iI yc))]) hx hb dX6_init_260 hl (k := 5) rfl (by rw [ei9, show Int32.ofInt (-1) = -1 from by decide]) (by decide) rfl (fun ls hl => ?_)
                      refine lv_goto (tgt := 175) hx hb dX6_init_263 (by decide) ?_
                      exact ihd us _ _ _ ls (by omega) (by rw [if_neg hno] at hus; exact hus) hw h5 hk (lv_sub (l' := [(0, .ref o), (1, .int (nI us.length)), (2, .int (iI ya)), (3, .int (iI yb)), (4, .int (iI yc)), (5, .int (iI ((kd : Int) - 3)))]) hl [1, 2, 3, 4, 5, 0] (by rw [show iI ((kd : Int) - 3) = i9 from by rw [ei9, show ((kd : Int) - 3) = yd + -1 by omega, ← iI_add]; rfl]; rfl))
                    · skip
                      have hsm : ya * ya + yb * yb + yc * yc + yd * yd = 4 := (iI_eq (by omega) (by omega) (by omega) (by omega)).mp c_202
                      refine lv_iload_n hx hb dX6_init_205 rfl (lv_at hl 2 rfl) ?_
                      refine lv_i2l hx hb dX6_init_206 rfl ?_
                      refine lv_iload_n hx hb dX6_init_207 rfl (lv_at hl 3 rfl) ?_
                      refine lv_i2l hx hb dX6_init_208 rfl ?_
                      refine lv_iload hx hb dX6_init_209 (lv_at hl 4 rfl) ?_
                      refine lv_i2l hx hb dX6_init_211 rfl ?_
                      refine lv_iload hx hb dX6_init_212 (lv_at hl 5 rfl) ?_
                      refine lv_i2l hx hb dX6_init_214 rfl ?_
                      refine h_callS (st1 := [.int (bI (oneM ((iI ya).toInt64) ((iI yb).toInt64) ((iI yc).toInt64) ((iI yd).toInt64)))]) [.long ((iI ya).toInt64), .long ((iI yb).toInt64), .long ((iI yc).toInt64), .long ((iI yd).toInt64)] [] ⟨hx, hb, hml, hown, hts⟩ hE hw (c_X6_isOne l G A ([o, a1, a2, a3, a4, a5, a6, a7, a8, a9, a10, a11, a12, a13, a14, a15, a16]) F1 ((iI ya).toInt64) ((iI yb).toInt64) ((iI yc).toInt64) ((iI yd).toInt64)) (va_cwS 4 hts gX6_init_X6_isOne rfl rfl rfl (by decide +kernel) ⟨Nat.le_of_ble_eq_true rfl, Nat.le_of_ble_eq_true rfl⟩) rfl hl.1 rfl (Nat.le_of_ble_eq_true rfl) dX6_init_215 ⟨Nat.le_of_ble_eq_true rfl, Nat.le_of_ble_eq_true rfl⟩ rfl (fun H locs hw => ?_)
                      refine lv_if_eq (tgt := 260) hx hb dX6_init_218 (by decide) (fun c_218 => ?_) (fun c_218 => ?_)
                      · skip
                        have c_218 := bI_eq.mp c_218
                        have hno : ¬ (ya * ya + yb * yb + yc * yc + yd * yd = 4 ∧ yb % 2 = ya % 2 ∧ yc % 2 = ya % 2 ∧ yd % 2 = ya % 2) := fun q => c_218 (h1u.mpr q.2)
                        obtain ⟨i9, ei9⟩ : ∃ y : Int32, y = (iI yd) + (-1) := ⟨_, rfl⟩
                        refine lv_iinc (v := i9) (lv' := [(5, .int i9), (0, .ref o), (1, .int (nI us.length)), (2, .int (iI ya)), (3, .int (iI yb)), (4, .int (iI yc))]) hx hb dX6_init_260 hl (k := 5) rfl (by rw [ei9, show Int32.ofInt (-1) = -1 from by decide]) (by decide) rfl (fun ls hl => ?_)
                        refine lv_goto (tgt := 175) hx hb dX6_init_263 (by decide) ?_
                        exact ihd us _ _ _ ls (by omega) (by rw [if_neg hno] at hus; exact hus) hw h5 hk (lv_sub (l' := [(0, .ref o), (1, .int (nI us.length)), (2, .int (iI ya)), (3, .int (iI yb)), (4, .int (iI yc)), (5, .int (iI ((kd : Int) - 3)))]) hl [1, 2, 3, 4, 5, 0] (by rw [show iI ((kd : Int) - 3) = i9 from by rw [ei9, show ((kd : Int) - 3) = yd + -1 by omega, ← iI_add]; rfl]; rfl))
                      · skip
                        have c_218 := bI_ne.mp c_218
                        rw [if_pos (show ya * ya + yb * yb + yc * yc + yd * yd = 4 ∧ yb % 2 = ya % 2 ∧ yc % 2 = ya % 2 ∧ yd % 2 = ya % 2 from ⟨hsm, h1u.mp c_218⟩)] at hus
                        have hlen := u_len hus
                        refine lv_aload_n hx hb dX6_init_221 rfl (lv_at hl 0 rfl) ?_
                        refine h_get hx hb hE hw hts hinX6 hown (ci := 6) rfl 4 (by decide) lk_23 (fun _ h9 => h9) f_o rfl dX6_init_222 ?_
                        refine lv_iload_n hx hb dX6_init_225 rfl (lv_at hl 1 rfl) ?_
                        refine lv_iload_n hx hb dX6_init_226 rfl (lv_at hl 2 rfl) ?_
                        refine h_iast hx hb hE hw f_a5 (vp_in_nI (n := us.length) (N := 96) (by omega) (by decide)) (g := upd (fun k => us.getD k 0) us.length (iI ya)) (by rw [nI_clamp (by omega)]) dX6_init_227 (fun H locs hw => ?_)
                        obtain ⟨FF101, hFF101⟩ : ∃ Fx : FM, Fx = va_up F1 a5 (eI G 96 (upd (fun k => us.getD k 0) us.length (iI ya))) := ⟨_, rfl⟩
                        rw [← hFF101] at hw
                        have f_o : pt [o, a1, a2, a3, a4, a5, a6, a7, a8, a9, a10, a11, a12, a13, a14, a15, a16] FF101 o (.inr (6, [.ref a1, .ref a2, .ref a3, .ref a4, .ref a5, .int 0, .ref a6, .ref a7, .ref a8, .ref a9, .ref a10, .ref a11, .ref a12, .ref a13, .ref a14, .ref a15, .ref a16, .int 0])) := by rw [hFF101]; exact (pt_ne f_o (pt_ap f_o f_a5 (fun h9 => absurd (show (6 : Nat) = 1961 from congrArg tg h9) (by decide))))
                        have f_a5 : pt [o, a1, a2, a3, a4, a5, a6, a7, a8, a9, a10, a11, a12, a13, a14, a15, a16] FF101 a5 (eI G 96 (upd (fun k => us.getD k 0) us.length (iI ya))) := by rw [hFF101]; exact (pt_up f_a5)
                        refine lv_aload_n hx hb dX6_init_228 rfl (lv_at hl 0 rfl) ?_
                        refine h_get hx hb hE hw hts hinX6 hown (ci := 6) rfl 4 (by decide) lk_23 (fun _ h9 => h9) f_o rfl dX6_init_229 ?_
                        refine lv_iload_n hx hb dX6_init_232 rfl (lv_at hl 1 rfl) ?_
                        refine lv_iconst (v := 1) hx hb dX6_init_233 (by decide) ?_
                        refine h_iaddN hx hb us.length 1 dX6_init_234 ?_
                        refine lv_iload_n hx hb dX6_init_235 rfl (lv_at hl 3 rfl) ?_
                        refine h_iast hx hb hE hw f_a5 (vp_in_nI (n := (us.length + 1)) (N := 96) (by omega) (by decide)) (g := upd (upd (fun k => us.getD k 0) us.length (iI ya)) (us.length + 1) (iI yb)) (by rw [nI_clamp (by omega)]) dX6_init_236 (fun H locs hw => ?_)
                        obtain ⟨FF102, hFF102⟩ : ∃ Fx : FM, Fx = va_up FF101 a5 (eI G 96 (upd (upd (fun k => us.getD k 0) us.length (iI ya)) (us.length + 1) (iI yb))) := ⟨_, rfl⟩
                        rw [← hFF102] at hw
                        have f_o : pt [o, a1, a2, a3, a4, a5, a6, a7, a8, a9, a10, a11, a12, a13, a14, a15, a16] FF102 o (.inr (6, [.ref a1, .ref a2, .ref a3, .ref a4, .ref a5, .int 0, .ref a6, .ref a7, .ref a8, .ref a9, .ref a10, .ref a11, .ref a12, .ref a13, .ref a14, .ref a15, .ref a16, .int 0])) := by rw [hFF102]; exact (pt_ne f_o (pt_ap f_o f_a5 (fun h9 => absurd (show (6 : Nat) = 1961 from congrArg tg h9) (by decide))))
                        have f_a5 : pt [o, a1, a2, a3, a4, a5, a6, a7, a8, a9, a10, a11, a12, a13, a14, a15, a16] FF102 a5 (eI G 96 (upd (upd (fun k => us.getD k 0) us.length (iI ya)) (us.length + 1) (iI yb))) := by rw [hFF102]; exact (pt_up f_a5)
                        refine lv_aload_n hx hb dX6_init_237 rfl (lv_at hl 0 rfl) ?_
                        refine h_get hx hb hE hw hts hinX6 hown (ci := 6) rfl 4 (by decide) lk_23 (fun _ h9 => h9) f_o rfl dX6_init_238 ?_
                        refine lv_iload_n hx hb dX6_init_241 rfl (lv_at hl 1 rfl) ?_
                        refine lv_iconst (v := 2) hx hb dX6_init_242 (by decide) ?_
                        refine h_iaddN hx hb us.length 2 dX6_init_243 ?_
                        refine lv_iload hx hb dX6_init_244 (lv_at hl 4 rfl) ?_
                        refine h_iast hx hb hE hw f_a5 (vp_in_nI (n := (us.length + 2)) (N := 96) (by omega) (by decide)) (g := upd (upd (upd (fun k => us.getD k 0) us.length (iI ya)) (us.length + 1) (iI yb)) (us.length + 2) (iI yc)) (by rw [nI_clamp (by omega)]) dX6_init_246 (fun H locs hw => ?_)
                        obtain ⟨FF103, hFF103⟩ : ∃ Fx : FM, Fx = va_up FF102 a5 (eI G 96 (upd (upd (upd (fun k => us.getD k 0) us.length (iI ya)) (us.length + 1) (iI yb)) (us.length + 2) (iI yc))) := ⟨_, rfl⟩
                        rw [← hFF103] at hw
                        have f_o : pt [o, a1, a2, a3, a4, a5, a6, a7, a8, a9, a10, a11, a12, a13, a14, a15, a16] FF103 o (.inr (6, [.ref a1, .ref a2, .ref a3, .ref a4, .ref a5, .int 0, .ref a6, .ref a7, .ref a8, .ref a9, .ref a10, .ref a11, .ref a12, .ref a13, .ref a14, .ref a15, .ref a16, .int 0])) := by rw [hFF103]; exact (pt_ne f_o (pt_ap f_o f_a5 (fun h9 => absurd (show (6 : Nat) = 1961 from congrArg tg h9) (by decide))))
                        have f_a5 : pt [o, a1, a2, a3, a4, a5, a6, a7, a8, a9, a10, a11, a12, a13, a14, a15, a16] FF103 a5 (eI G 96 (upd (upd (upd (fun k => us.getD k 0) us.length (iI ya)) (us.length + 1) (iI yb)) (us.length + 2) (iI yc))) := by rw [hFF103]; exact (pt_up f_a5)
                        refine lv_aload_n hx hb dX6_init_247 rfl (lv_at hl 0 rfl) ?_
                        refine h_get hx hb hE hw hts hinX6 hown (ci := 6) rfl 4 (by decide) lk_23 (fun _ h9 => h9) f_o rfl dX6_init_248 ?_
                        refine lv_iload_n hx hb dX6_init_251 rfl (lv_at hl 1 rfl) ?_
                        refine lv_iconst (v := 3) hx hb dX6_init_252 (by decide) ?_
                        refine h_iaddN hx hb us.length 3 dX6_init_253 ?_
                        refine lv_iload hx hb dX6_init_254 (lv_at hl 5 rfl) ?_
                        refine h_iast hx hb hE hw f_a5 (vp_in_nI (n := (us.length + 3)) (N := 96) (by omega) (by decide)) (g := upd (upd (upd (upd (fun k => us.getD k 0) us.length (iI ya)) (us.length + 1) (iI yb)) (us.length + 2) (iI yc)) (us.length + 3) (iI yd)) (by rw [nI_clamp (by omega)]) dX6_init_256 (fun H locs hw => ?_)
                        obtain ⟨FF104, hFF104⟩ : ∃ Fx : FM, Fx = va_up FF103 a5 (eI G 96 (upd (upd (upd (upd (fun k => us.getD k 0) us.length (iI ya)) (us.length + 1) (iI yb)) (us.length + 2) (iI yc)) (us.length + 3) (iI yd))) := ⟨_, rfl⟩
                        rw [← hFF104] at hw
                        have f_o : pt [o, a1, a2, a3, a4, a5, a6, a7, a8, a9, a10, a11, a12, a13, a14, a15, a16] FF104 o (.inr (6, [.ref a1, .ref a2, .ref a3, .ref a4, .ref a5, .int 0, .ref a6, .ref a7, .ref a8, .ref a9, .ref a10, .ref a11, .ref a12, .ref a13, .ref a14, .ref a15, .ref a16, .int 0])) := by rw [hFF104]; exact (pt_ne f_o (pt_ap f_o f_a5 (fun h9 => absurd (show (6 : Nat) = 1961 from congrArg tg h9) (by decide))))
                        have f_a5 : pt [o, a1, a2, a3, a4, a5, a6, a7, a8, a9, a10, a11, a12, a13, a14, a15, a16] FF104 a5 (eI G 96 (upd (upd (upd (upd (fun k => us.getD k 0) us.length (iI ya)) (us.length + 1) (iI yb)) (us.length + 2) (iI yc)) (us.length + 3) (iI yd))) := by rw [hFF104]; exact (pt_up f_a5)
                        obtain ⟨j9, ej9⟩ : ∃ y : Int32, y = (nI us.length) + 4 := ⟨_, rfl⟩
                        refine lv_iinc (v := j9) (lv' := [(1, .int j9), (0, .ref o), (2, .int (iI ya)), (3, .int (iI yb)), (4, .int (iI yc)), (5, .int (iI yd))]) hx hb dX6_init_257 hl (k := 1) rfl (by rw [ej9, show Int32.ofInt (4) = 4 from by decide]) (by decide) rfl (fun ls hl => ?_)
                        obtain ⟨i9, ei9⟩ : ∃ y : Int32, y = (iI yd) + (-1) := ⟨_, rfl⟩
                        refine lv_iinc (v := i9) (lv' := [(5, .int i9), (1, .int j9), (0, .ref o), (2, .int (iI ya)), (3, .int (iI yb)), (4, .int (iI yc))]) hx hb dX6_init_260 hl (k := 5) rfl (by rw [ei9, show Int32.ofInt (-1) = -1 from by decide]) (by decide) rfl (fun ls hl => ?_)
                        refine lv_goto (tgt := 175) hx hb dX6_init_263 (by decide) ?_
                        have hl4 : (us ++ [iI ya, iI yb, iI yc, iI yd]).length = us.length + 4 := by simp
                        exact ihd (us ++ [iI ya, iI yb, iI yc, iI yd]) _ _ _ ls (by omega) (u_tk hus) hw (by rw [f_a5.2]; exact congrArg (eI G 96) (gd4 us (iI ya) (iI yb) (iI yc) (iI yd))) (fun a h => by rw [hFF104, va_up_ne _ _ h, hFF103, va_up_ne _ _ h, hFF102, va_up_ne _ _ h, hFF101, va_up_ne _ _ h]; exact hk a h) (lv_sub (l' := [(0, .ref o), (1, .int (nI (us ++ [iI ya, iI yb, iI yc, iI yd]).length)), (2, .int (iI ya)), (3, .int (iI yb)), (4, .int (iI yc)), (5, .int (iI ((kd : Int) - 3)))]) hl [2, 1, 3, 4, 5, 0] (by rw [show iI ((kd : Int) - 3) = i9 from by rw [ei9, show ((kd : Int) - 3) = yd + -1 by omega, ← iI_add]; rfl, show nI (us ++ [iI ya, iI yb, iI yc, iI yd]).length = j9 from by rw [ej9, hl4]; exact (nI_add us.length 4).symm]; rfl))
              have f_o : pt [o, a1, a2, a3, a4, a5, a6, a7, a8, a9, a10, a11, a12, a13, a14, a15, a16] F1 o (.inr (6, [.ref a1, .ref a2, .ref a3, .ref a4, .ref a5, .int 0, .ref a6, .ref a7, .ref a8, .ref a9, .ref a10, .ref a11, .ref a12, .ref a13, .ref a14, .ref a15, .ref a16, .int 0])) := ⟨d_o.1, (hk o n_oa5).trans ((hk1 o n_oa1).trans d_o.2)⟩
              have f_a5 : pt [o, a1, a2, a3, a4, a5, a6, a7, a8, a9, a10, a11, a12, a13, a14, a15, a16] F1 a5 (eI G 96 (fun k => us.getD k 0)) := ⟨d_a5.1, h5⟩
              refine lv_iload hx hb dX6_init_165 (lv_at hl 4 rfl) ?_
              refine lv_bipush (v := (-2)) hx hb dX6_init_167 (by decide) ?_
              refine lv_icmp_lt (tgt := 272) hx hb dX6_init_169 (by decide) (fun c_169 => ?_) (fun c_169 => ?_)
              · skip
                exact absurd ((iI_lt (b := -2) (by omega) (by omega) (by omega) (by omega)).mp c_169) (show ¬ yc < -2 by omega)
              · skip
                refine lv_iconst (v := 2) hx hb dX6_init_172 (by decide) ?_
                refine lv_istore (lv' := [(5, .int 2), (0, .ref o), (1, .int (nI us.length)), (2, .int (iI ya)), (3, .int (iI yb)), (4, .int (iI yc))]) hx hb dX6_init_173 hl (by decide) rfl (fun ls hl => ?_)
                exact lpD 5 us _ _ _ ls (Nat.le_refl 5) hus hw h5 hk (lv_sub (l' := [(0, .ref o), (1, .int (nI us.length)), (2, .int (iI ya)), (3, .int (iI yb)), (4, .int (iI yc)), (5, .int (iI (((5 : Nat) : Int) - 3)))]) hl [1, 2, 3, 4, 5, 0] rfl)
          have f_o : pt [o, a1, a2, a3, a4, a5, a6, a7, a8, a9, a10, a11, a12, a13, a14, a15, a16] F1 o (.inr (6, [.ref a1, .ref a2, .ref a3, .ref a4, .ref a5, .int 0, .ref a6, .ref a7, .ref a8, .ref a9, .ref a10, .ref a11, .ref a12, .ref a13, .ref a14, .ref a15, .ref a16, .int 0])) := ⟨d_o.1, (hk o n_oa5).trans ((hk1 o n_oa1).trans d_o.2)⟩
          have f_a5 : pt [o, a1, a2, a3, a4, a5, a6, a7, a8, a9, a10, a11, a12, a13, a14, a15, a16] F1 a5 (eI G 96 (fun k => us.getD k 0)) := ⟨d_a5.1, h5⟩
          refine lv_iload_n hx hb dX6_init_156 rfl (lv_at hl 3 rfl) ?_
          refine lv_bipush (v := (-2)) hx hb dX6_init_157 (by decide) ?_
          refine lv_icmp_lt (tgt := 278) hx hb dX6_init_159 (by decide) (fun c_159 => ?_) (fun c_159 => ?_)
          · skip
            exact absurd ((iI_lt (b := -2) (by omega) (by omega) (by omega) (by omega)).mp c_159) (show ¬ yb < -2 by omega)
          · skip
            refine lv_iconst (v := 2) hx hb dX6_init_162 (by decide) ?_
            refine lv_istore (lv' := [(4, .int 2), (0, .ref o), (1, .int (nI us.length)), (2, .int (iI ya)), (3, .int (iI yb))]) hx hb dX6_init_163 hl (by decide) rfl (fun ls hl => ?_)
            exact lpC 5 us _ _ _ ls (Nat.le_refl 5) hus hw h5 hk (lv_sub (l' := [(0, .ref o), (1, .int (nI us.length)), (2, .int (iI ya)), (3, .int (iI yb)), (4, .int (iI (((5 : Nat) : Int) - 3)))]) hl [1, 2, 3, 4, 0] rfl)
      have f_o : pt [o, a1, a2, a3, a4, a5, a6, a7, a8, a9, a10, a11, a12, a13, a14, a15, a16] F1 o (.inr (6, [.ref a1, .ref a2, .ref a3, .ref a4, .ref a5, .int 0, .ref a6, .ref a7, .ref a8, .ref a9, .ref a10, .ref a11, .ref a12, .ref a13, .ref a14, .ref a15, .ref a16, .int 0])) := ⟨d_o.1, (hk o n_oa5).trans ((hk1 o n_oa1).trans d_o.2)⟩
      have f_a5 : pt [o, a1, a2, a3, a4, a5, a6, a7, a8, a9, a10, a11, a12, a13, a14, a15, a16] F1 a5 (eI G 96 (fun k => us.getD k 0)) := ⟨d_a5.1, h5⟩
      refine lv_iload_n hx hb dX6_init_148 rfl (lv_at hl 2 rfl) ?_
      refine lv_bipush (v := (-2)) hx hb dX6_init_149 (by decide) ?_
      refine lv_icmp_lt (tgt := 284) hx hb dX6_init_151 (by decide) (fun c_151 => ?_) (fun c_151 => ?_)
      · skip
        exact absurd ((iI_lt (b := -2) (by omega) (by omega) (by omega) (by omega)).mp c_151) (show ¬ ya < -2 by omega)
      · skip
        refine lv_iconst (v := 2) hx hb dX6_init_154 (by decide) ?_
        refine lv_istore_n (lv' := [(3, .int 2), (0, .ref o), (1, .int (nI us.length)), (2, .int (iI ya))]) hx hb dX6_init_155 rfl hl (by decide) rfl (fun ls hl => ?_)
        exact lpB 5 us _ _ _ ls (Nat.le_refl 5) hus hw h5 hk (lv_sub (l' := [(0, .ref o), (1, .int (nI us.length)), (2, .int (iI ya)), (3, .int (iI (((5 : Nat) : Int) - 3)))]) hl [1, 2, 3, 0] rfl)
  refine lv_iconst (v := 2) hx hb dX6_init_146 (by decide) ?_
  refine lv_istore_n (lv' := [(2, .int 2), (0, .ref o), (1, .int 0)]) hx hb dX6_init_147 rfl hl (by decide) rfl (fun ls hl => ?_)
  exact lpA 5 [] _ _ _ ls (Nat.le_refl 5) uA_ok hw ((hk1 a5 (Ne.symm n_a1a5)).trans d_a5.2) (fun a _ => rfl) (lv_sub (l' := [(0, .ref o), (1, .int (nI ([] : List Int32).length)), (2, .int (iI (((5 : Nat) : Int) - 3)))]) hl [1, 2, 0] rfl)

set_option maxHeartbeats 8000000 in
set_option maxRecDepth 100000 in
theorem c_X6_init (l : Launch) (G : GG) (A : Nat → Prop) (F : FM) (o : Nat) (e0 : pt [o] F o (.inr (6, [.null, .null, .null, .null, .null, .int 0, .null, .null, .null, .null, .null, .null, .null, .null, .null, .null, .null, .int 0]))) : NT l yX6_init wsX6_init { frames := 1, cells := 16, slots := 368, locals := 29 } G A [o] o F (fun L2 F2 => ∃ ma : Nat → Nat, ma 0 = o ∧ L2 = ML ma ∧ MW G ma M0 F2) 16 368 := by
  refine NT.ofW (cc := cX6_init) (maxL := 6) (plainFor_of_name (by decide)) rfl rfl (by decide) ?_
  intro p e s m below meth c ls hx hb hr hml hown hts hlk hin hC hw hl
  have hown : s.vm.findClass RX6 = some m.cls := hown
  have hE := hC.1
  have hA := hC.2.2.2
  have lk_7 := hts (.fieldLink RX6 7 "FourPartsModel" "kind" "[I") (by decide +kernel)
  have hinX6 : ∀ w ∈ u_ws RX6 TX6 18, w ∈ wsX6_init := by decide +kernel
  have lk_13 := hts (.fieldLink RX6 13 "FourPartsModel" "size" "[I") (by decide +kernel)
  have lk_16 := hts (.fieldLink RX6 16 "FourPartsModel" "sheets" "[J") (by decide +kernel)
  have lk_20 := hts (.fieldLink RX6 20 "FourPartsModel" "registers" "[I") (by decide +kernel)
  have lk_23 := hts (.fieldLink RX6 23 "FourPartsModel" "units" "[I") (by decide +kernel)
  have lk_26 := hts (.fieldLink RX6 26 "FourPartsModel" "factor" "[J") (by decide +kernel)
  have lk_29 := hts (.fieldLink RX6 29 "FourPartsModel" "middle" "[J") (by decide +kernel)
  have lk_32 := hts (.fieldLink RX6 32 "FourPartsModel" "x" "[J") (by decide +kernel)
  have lk_35 := hts (.fieldLink RX6 35 "FourPartsModel" "y" "[J") (by decide +kernel)
  have lk_38 := hts (.fieldLink RX6 38 "FourPartsModel" "z" "[J") (by decide +kernel)
  have lk_41 := hts (.fieldLink RX6 41 "FourPartsModel" "rest" "[J") (by decide +kernel)
  have lk_44 := hts (.fieldLink RX6 44 "FourPartsModel" "best" "[J") (by decide +kernel)
  have lk_47 := hts (.fieldLink RX6 47 "FourPartsModel" "quotient" "[J") (by decide +kernel)
  have lk_50 := hts (.fieldLink RX6 50 "FourPartsModel" "w" "[J") (by decide +kernel)
  have lk_53 := hts (.fieldLink RX6 53 "FourPartsModel" "turnedOver" "[J") (by decide +kernel)
  have lk_56 := hts (.fieldLink RX6 56 "FourPartsModel" "left" "[J") (by decide +kernel)
  refine lv_aload_n hx hb dX6_init_0 rfl (lv_at hl 0 rfl) ?_
  refine W.objInit hx hb hown (hts (.methodLink RX6 1 objectInit) (by decide +kernel)) (hts (.instanceMethod objectInit) (by decide +kernel)) (hts (.code objectInit ⟨#[0xb1]⟩ 1 none) (by decide +kernel)) rfl (by rw [hml]; exact hl.1) rfl dX6_init_1 (Nat.le_of_ble_eq_true rfl) (Nat.le_of_ble_eq_true rfl) ?_
  refine W.eq (g2 := F0 m 4 ls []) rfl ?_
  refine lv_aload_n hx hb dX6_init_4 rfl (lv_at hl 0 rfl) ?_
  refine lv_bipush (v := 6) hx hb dX6_init_5 (by decide) ?_
  refine h_newI hx hb hE.1 hw hA (hts (.arrayClass .int) (by decide +kernel)) 6 rfl (by decide) (by first | decide | (show _ ≤ 16; omega)) (by first | decide | (show _ ≤ 368; omega)) dX6_init_7 (fun a1 H ha1 hw => ?_)
  obtain ⟨FF1, hFF1⟩ : ∃ Fx : FM, Fx = va_up F a1 (eI G 6 (fun _ => 0)) := ⟨_, rfl⟩
  rw [← hFF1] at hw
  have f_o : pt ([o] ++ [a1]) FF1 o (.inr (6, [.null, .null, .null, .null, .null, .int 0, .null, .null, .null, .null, .null, .null, .null, .null, .null, .null, .null, .int 0])) := by rw [hFF1]; exact (pt_push e0 ha1)
  have f_a1 : pt ([o] ++ [a1]) FF1 a1 (eI G 6 (fun _ => 0)) := by rw [hFF1]; exact pt_new
  refine h_putF hx hb hE.1 hw hts hinX6 tyX6 tyX6_ok nmX6 hown (ci := 6) rfl 0 (by decide) lk_7 (fun _ h9 => h9) rfl hin rfl f_o (ty := .array .int) (by decide +kernel) rfl rfl (Nat.le_of_ble_eq_true rfl) (fs2 := [.ref a1, .null, .null, .null, .null, .int 0, .null, .null, .null, .null, .null, .null, .null, .null, .null, .null, .null, .int 0]) rfl dX6_init_9 (fun H locs hw => ?_)
  obtain ⟨FF2, hFF2⟩ : ∃ Fx : FM, Fx = va_up FF1 o (.inr (6, [.ref a1, .null, .null, .null, .null, .int 0, .null, .null, .null, .null, .null, .null, .null, .null, .null, .null, .null, .int 0])) := ⟨_, rfl⟩
  rw [← hFF2] at hw
  have f_a1 : pt ([o] ++ [a1]) FF2 a1 (eI G 6 (fun _ => 0)) := by rw [hFF2]; exact (pt_ne f_a1 (pt_ap f_a1 f_o (fun h9 => absurd (show (1061 : Nat) = 6 from congrArg tg h9) (by decide))))
  have f_o : pt ([o] ++ [a1]) FF2 o (.inr (6, [.ref a1, .null, .null, .null, .null, .int 0, .null, .null, .null, .null, .null, .null, .null, .null, .null, .null, .null, .int 0])) := by rw [hFF2]; exact (pt_up f_o)
  refine lv_aload_n hx hb dX6_init_12 rfl (lv_at hl 0 rfl) ?_
  refine lv_bipush (v := 6) hx hb dX6_init_13 (by decide) ?_
  refine h_newI hx hb hE.1 hw hA (hts (.arrayClass .int) (by decide +kernel)) 6 rfl (by decide) (by first | decide | (show _ ≤ 16; omega)) (by first | decide | (show _ ≤ 368; omega)) dX6_init_15 (fun a2 H ha2 hw => ?_)
  have ne_a2_a1 : a2 ≠ a1 := Ne.symm (nem f_a1.1 ha2)
  obtain ⟨FF3, hFF3⟩ : ∃ Fx : FM, Fx = va_up FF2 a2 (eI G 6 (fun _ => 0)) := ⟨_, rfl⟩
  rw [← hFF3] at hw
  have f_a1 : pt (([o] ++ [a1]) ++ [a2]) FF3 a1 (eI G 6 (fun _ => 0)) := by rw [hFF3]; exact (pt_push f_a1 ha2)
  have f_o : pt (([o] ++ [a1]) ++ [a2]) FF3 o (.inr (6, [.ref a1, .null, .null, .null, .null, .int 0, .null, .null, .null, .null, .null, .null, .null, .null, .null, .null, .null, .int 0])) := by rw [hFF3]; exact (pt_push f_o ha2)
  have f_a2 : pt (([o] ++ [a1]) ++ [a2]) FF3 a2 (eI G 6 (fun _ => 0)) := by rw [hFF3]; exact pt_new
  refine h_putF hx hb hE.1 hw hts hinX6 tyX6 tyX6_ok nmX6 hown (ci := 6) rfl 1 (by decide) lk_13 (fun _ h9 => h9) rfl hin rfl f_o (ty := .array .int) (by decide +kernel) rfl rfl (Nat.le_of_ble_eq_true rfl) (fs2 := [.ref a1, .ref a2, .null, .null, .null, .int 0, .null, .null, .null, .null, .null, .null, .null, .null, .null, .null, .null, .int 0]) rfl dX6_init_17 (fun H locs hw => ?_)
  obtain ⟨FF4, hFF4⟩ : ∃ Fx : FM, Fx = va_up FF3 o (.inr (6, [.ref a1, .ref a2, .null, .null, .null, .int 0, .null, .null, .null, .null, .null, .null, .null, .null, .null, .null, .null, .int 0])) := ⟨_, rfl⟩
  rw [← hFF4] at hw
  have f_a1 : pt (([o] ++ [a1]) ++ [a2]) FF4 a1 (eI G 6 (fun _ => 0)) := by rw [hFF4]; exact (pt_ne f_a1 (pt_ap f_a1 f_o (fun h9 => absurd (show (1061 : Nat) = 6 from congrArg tg h9) (by decide))))
  have f_a2 : pt (([o] ++ [a1]) ++ [a2]) FF4 a2 (eI G 6 (fun _ => 0)) := by rw [hFF4]; exact (pt_ne f_a2 (pt_ap f_a2 f_o (fun h9 => absurd (show (1061 : Nat) = 6 from congrArg tg h9) (by decide))))
  have f_o : pt (([o] ++ [a1]) ++ [a2]) FF4 o (.inr (6, [.ref a1, .ref a2, .null, .null, .null, .int 0, .null, .null, .null, .null, .null, .null, .null, .null, .null, .null, .null, .int 0])) := by rw [hFF4]; exact (pt_up f_o)
  refine lv_aload_n hx hb dX6_init_20 rfl (lv_at hl 0 rfl) ?_
  refine lv_bipush (v := 96) hx hb dX6_init_21 (by decide) ?_
  refine h_newJ hx hb hE.1 hw hA (hts (.arrayClass .long) (by decide +kernel)) 96 rfl (by decide) (by first | decide | (show _ ≤ 16; omega)) (by first | decide | (show _ ≤ 368; omega)) dX6_init_23 (fun a3 H ha3 hw => ?_)
  obtain ⟨FF5, hFF5⟩ : ∃ Fx : FM, Fx = va_up FF4 a3 (eJ G 96 (fun _ => 0)) := ⟨_, rfl⟩
  rw [← hFF5] at hw
  have f_a1 : pt ((([o] ++ [a1]) ++ [a2]) ++ [a3]) FF5 a1 (eI G 6 (fun _ => 0)) := by rw [hFF5]; exact (pt_push f_a1 ha3)
  have f_a2 : pt ((([o] ++ [a1]) ++ [a2]) ++ [a3]) FF5 a2 (eI G 6 (fun _ => 0)) := by rw [hFF5]; exact (pt_push f_a2 ha3)
  have f_o : pt ((([o] ++ [a1]) ++ [a2]) ++ [a3]) FF5 o (.inr (6, [.ref a1, .ref a2, .null, .null, .null, .int 0, .null, .null, .null, .null, .null, .null, .null, .null, .null, .null, .null, .int 0])) := by rw [hFF5]; exact (pt_push f_o ha3)
  have f_a3 : pt ((([o] ++ [a1]) ++ [a2]) ++ [a3]) FF5 a3 (eJ G 96 (fun _ => 0)) := by rw [hFF5]; exact pt_new
  refine h_putF hx hb hE.1 hw hts hinX6 tyX6 tyX6_ok nmX6 hown (ci := 6) rfl 2 (by decide) lk_16 (fun _ h9 => h9) rfl hin rfl f_o (ty := .array .long) (by decide +kernel) rfl rfl (Nat.le_of_ble_eq_true rfl) (fs2 := [.ref a1, .ref a2, .ref a3, .null, .null, .int 0, .null, .null, .null, .null, .null, .null, .null, .null, .null, .null, .null, .int 0]) rfl dX6_init_25 (fun H locs hw => ?_)
  obtain ⟨FF6, hFF6⟩ : ∃ Fx : FM, Fx = va_up FF5 o (.inr (6, [.ref a1, .ref a2, .ref a3, .null, .null, .int 0, .null, .null, .null, .null, .null, .null, .null, .null, .null, .null, .null, .int 0])) := ⟨_, rfl⟩
  rw [← hFF6] at hw
  have f_a1 : pt ((([o] ++ [a1]) ++ [a2]) ++ [a3]) FF6 a1 (eI G 6 (fun _ => 0)) := by rw [hFF6]; exact (pt_ne f_a1 (pt_ap f_a1 f_o (fun h9 => absurd (show (1061 : Nat) = 6 from congrArg tg h9) (by decide))))
  have f_a2 : pt ((([o] ++ [a1]) ++ [a2]) ++ [a3]) FF6 a2 (eI G 6 (fun _ => 0)) := by rw [hFF6]; exact (pt_ne f_a2 (pt_ap f_a2 f_o (fun h9 => absurd (show (1061 : Nat) = 6 from congrArg tg h9) (by decide))))
  have f_a3 : pt ((([o] ++ [a1]) ++ [a2]) ++ [a3]) FF6 a3 (eJ G 96 (fun _ => 0)) := by rw [hFF6]; exact (pt_ne f_a3 (pt_ap f_a3 f_o (fun h9 => absurd (show (1962 : Nat) = 6 from congrArg tg h9) (by decide))))
  have f_o : pt ((([o] ++ [a1]) ++ [a2]) ++ [a3]) FF6 o (.inr (6, [.ref a1, .ref a2, .ref a3, .null, .null, .int 0, .null, .null, .null, .null, .null, .null, .null, .null, .null, .null, .null, .int 0])) := by rw [hFF6]; exact (pt_up f_o)
  refine lv_aload_n hx hb dX6_init_28 rfl (lv_at hl 0 rfl) ?_
  refine lv_bipush (v := 64) hx hb dX6_init_29 (by decide) ?_
  refine h_newI hx hb hE.1 hw hA (hts (.arrayClass .int) (by decide +kernel)) 64 rfl (by decide) (by first | decide | (show _ ≤ 16; omega)) (by first | decide | (show _ ≤ 368; omega)) dX6_init_31 (fun a4 H ha4 hw => ?_)
  obtain ⟨FF7, hFF7⟩ : ∃ Fx : FM, Fx = va_up FF6 a4 (eI G 64 (fun _ => 0)) := ⟨_, rfl⟩
  rw [← hFF7] at hw
  have f_a1 : pt (((([o] ++ [a1]) ++ [a2]) ++ [a3]) ++ [a4]) FF7 a1 (eI G 6 (fun _ => 0)) := by rw [hFF7]; exact (pt_push f_a1 ha4)
  have f_a2 : pt (((([o] ++ [a1]) ++ [a2]) ++ [a3]) ++ [a4]) FF7 a2 (eI G 6 (fun _ => 0)) := by rw [hFF7]; exact (pt_push f_a2 ha4)
  have f_a3 : pt (((([o] ++ [a1]) ++ [a2]) ++ [a3]) ++ [a4]) FF7 a3 (eJ G 96 (fun _ => 0)) := by rw [hFF7]; exact (pt_push f_a3 ha4)
  have f_o : pt (((([o] ++ [a1]) ++ [a2]) ++ [a3]) ++ [a4]) FF7 o (.inr (6, [.ref a1, .ref a2, .ref a3, .null, .null, .int 0, .null, .null, .null, .null, .null, .null, .null, .null, .null, .null, .null, .int 0])) := by rw [hFF7]; exact (pt_push f_o ha4)
  have f_a4 : pt (((([o] ++ [a1]) ++ [a2]) ++ [a3]) ++ [a4]) FF7 a4 (eI G 64 (fun _ => 0)) := by rw [hFF7]; exact pt_new
  refine h_putF hx hb hE.1 hw hts hinX6 tyX6 tyX6_ok nmX6 hown (ci := 6) rfl 3 (by decide) lk_20 (fun _ h9 => h9) rfl hin rfl f_o (ty := .array .int) (by decide +kernel) rfl rfl (Nat.le_of_ble_eq_true rfl) (fs2 := [.ref a1, .ref a2, .ref a3, .ref a4, .null, .int 0, .null, .null, .null, .null, .null, .null, .null, .null, .null, .null, .null, .int 0]) rfl dX6_init_33 (fun H locs hw => ?_)
  obtain ⟨FF8, hFF8⟩ : ∃ Fx : FM, Fx = va_up FF7 o (.inr (6, [.ref a1, .ref a2, .ref a3, .ref a4, .null, .int 0, .null, .null, .null, .null, .null, .null, .null, .null, .null, .null, .null, .int 0])) := ⟨_, rfl⟩
  rw [← hFF8] at hw
  have f_a1 : pt (((([o] ++ [a1]) ++ [a2]) ++ [a3]) ++ [a4]) FF8 a1 (eI G 6 (fun _ => 0)) := by rw [hFF8]; exact (pt_ne f_a1 (pt_ap f_a1 f_o (fun h9 => absurd (show (1061 : Nat) = 6 from congrArg tg h9) (by decide))))
  have f_a2 : pt (((([o] ++ [a1]) ++ [a2]) ++ [a3]) ++ [a4]) FF8 a2 (eI G 6 (fun _ => 0)) := by rw [hFF8]; exact (pt_ne f_a2 (pt_ap f_a2 f_o (fun h9 => absurd (show (1061 : Nat) = 6 from congrArg tg h9) (by decide))))
  have f_a3 : pt (((([o] ++ [a1]) ++ [a2]) ++ [a3]) ++ [a4]) FF8 a3 (eJ G 96 (fun _ => 0)) := by rw [hFF8]; exact (pt_ne f_a3 (pt_ap f_a3 f_o (fun h9 => absurd (show (1962 : Nat) = 6 from congrArg tg h9) (by decide))))
  have f_a4 : pt (((([o] ++ [a1]) ++ [a2]) ++ [a3]) ++ [a4]) FF8 a4 (eI G 64 (fun _ => 0)) := by rw [hFF8]; exact (pt_ne f_a4 (pt_ap f_a4 f_o (fun h9 => absurd (show (1641 : Nat) = 6 from congrArg tg h9) (by decide))))
  have f_o : pt (((([o] ++ [a1]) ++ [a2]) ++ [a3]) ++ [a4]) FF8 o (.inr (6, [.ref a1, .ref a2, .ref a3, .ref a4, .null, .int 0, .null, .null, .null, .null, .null, .null, .null, .null, .null, .null, .null, .int 0])) := by rw [hFF8]; exact (pt_up f_o)
  refine lv_aload_n hx hb dX6_init_36 rfl (lv_at hl 0 rfl) ?_
  refine lv_bipush (v := 96) hx hb dX6_init_37 (by decide) ?_
  refine h_newI hx hb hE.1 hw hA (hts (.arrayClass .int) (by decide +kernel)) 96 rfl (by decide) (by first | decide | (show _ ≤ 16; omega)) (by first | decide | (show _ ≤ 368; omega)) dX6_init_39 (fun a5 H ha5 hw => ?_)
  obtain ⟨FF9, hFF9⟩ : ∃ Fx : FM, Fx = va_up FF8 a5 (eI G 96 (fun _ => 0)) := ⟨_, rfl⟩
  rw [← hFF9] at hw
  have f_a1 : pt ((((([o] ++ [a1]) ++ [a2]) ++ [a3]) ++ [a4]) ++ [a5]) FF9 a1 (eI G 6 (fun _ => 0)) := by rw [hFF9]; exact (pt_push f_a1 ha5)
  have f_a2 : pt ((((([o] ++ [a1]) ++ [a2]) ++ [a3]) ++ [a4]) ++ [a5]) FF9 a2 (eI G 6 (fun _ => 0)) := by rw [hFF9]; exact (pt_push f_a2 ha5)
  have f_a3 : pt ((((([o] ++ [a1]) ++ [a2]) ++ [a3]) ++ [a4]) ++ [a5]) FF9 a3 (eJ G 96 (fun _ => 0)) := by rw [hFF9]; exact (pt_push f_a3 ha5)
  have f_a4 : pt ((((([o] ++ [a1]) ++ [a2]) ++ [a3]) ++ [a4]) ++ [a5]) FF9 a4 (eI G 64 (fun _ => 0)) := by rw [hFF9]; exact (pt_push f_a4 ha5)
  have f_o : pt ((((([o] ++ [a1]) ++ [a2]) ++ [a3]) ++ [a4]) ++ [a5]) FF9 o (.inr (6, [.ref a1, .ref a2, .ref a3, .ref a4, .null, .int 0, .null, .null, .null, .null, .null, .null, .null, .null, .null, .null, .null, .int 0])) := by rw [hFF9]; exact (pt_push f_o ha5)
  have f_a5 : pt ((((([o] ++ [a1]) ++ [a2]) ++ [a3]) ++ [a4]) ++ [a5]) FF9 a5 (eI G 96 (fun _ => 0)) := by rw [hFF9]; exact pt_new
  refine h_putF hx hb hE.1 hw hts hinX6 tyX6 tyX6_ok nmX6 hown (ci := 6) rfl 4 (by decide) lk_23 (fun _ h9 => h9) rfl hin rfl f_o (ty := .array .int) (by decide +kernel) rfl rfl (Nat.le_of_ble_eq_true rfl) (fs2 := [.ref a1, .ref a2, .ref a3, .ref a4, .ref a5, .int 0, .null, .null, .null, .null, .null, .null, .null, .null, .null, .null, .null, .int 0]) rfl dX6_init_41 (fun H locs hw => ?_)
  obtain ⟨FF10, hFF10⟩ : ∃ Fx : FM, Fx = va_up FF9 o (.inr (6, [.ref a1, .ref a2, .ref a3, .ref a4, .ref a5, .int 0, .null, .null, .null, .null, .null, .null, .null, .null, .null, .null, .null, .int 0])) := ⟨_, rfl⟩
  rw [← hFF10] at hw
  have f_a1 : pt ((((([o] ++ [a1]) ++ [a2]) ++ [a3]) ++ [a4]) ++ [a5]) FF10 a1 (eI G 6 (fun _ => 0)) := by rw [hFF10]; exact (pt_ne f_a1 (pt_ap f_a1 f_o (fun h9 => absurd (show (1061 : Nat) = 6 from congrArg tg h9) (by decide))))
  have f_a2 : pt ((((([o] ++ [a1]) ++ [a2]) ++ [a3]) ++ [a4]) ++ [a5]) FF10 a2 (eI G 6 (fun _ => 0)) := by rw [hFF10]; exact (pt_ne f_a2 (pt_ap f_a2 f_o (fun h9 => absurd (show (1061 : Nat) = 6 from congrArg tg h9) (by decide))))
  have f_a3 : pt ((((([o] ++ [a1]) ++ [a2]) ++ [a3]) ++ [a4]) ++ [a5]) FF10 a3 (eJ G 96 (fun _ => 0)) := by rw [hFF10]; exact (pt_ne f_a3 (pt_ap f_a3 f_o (fun h9 => absurd (show (1962 : Nat) = 6 from congrArg tg h9) (by decide))))
  have f_a4 : pt ((((([o] ++ [a1]) ++ [a2]) ++ [a3]) ++ [a4]) ++ [a5]) FF10 a4 (eI G 64 (fun _ => 0)) := by rw [hFF10]; exact (pt_ne f_a4 (pt_ap f_a4 f_o (fun h9 => absurd (show (1641 : Nat) = 6 from congrArg tg h9) (by decide))))
  have f_a5 : pt ((((([o] ++ [a1]) ++ [a2]) ++ [a3]) ++ [a4]) ++ [a5]) FF10 a5 (eI G 96 (fun _ => 0)) := by rw [hFF10]; exact (pt_ne f_a5 (pt_ap f_a5 f_o (fun h9 => absurd (show (1961 : Nat) = 6 from congrArg tg h9) (by decide))))
  have f_o : pt ((((([o] ++ [a1]) ++ [a2]) ++ [a3]) ++ [a4]) ++ [a5]) FF10 o (.inr (6, [.ref a1, .ref a2, .ref a3, .ref a4, .ref a5, .int 0, .null, .null, .null, .null, .null, .null, .null, .null, .null, .null, .null, .int 0])) := by rw [hFF10]; exact (pt_up f_o)
  refine lv_aload_n hx hb dX6_init_44 rfl (lv_at hl 0 rfl) ?_
  refine lv_bipush (v := 48) hx hb dX6_init_45 (by decide) ?_
  refine h_newJ hx hb hE.1 hw hA (hts (.arrayClass .long) (by decide +kernel)) 48 rfl (by decide) (by first | decide | (show _ ≤ 16; omega)) (by first | decide | (show _ ≤ 368; omega)) dX6_init_47 (fun a6 H ha6 hw => ?_)
  obtain ⟨FF11, hFF11⟩ : ∃ Fx : FM, Fx = va_up FF10 a6 (eJ G 48 (fun _ => 0)) := ⟨_, rfl⟩
  rw [← hFF11] at hw
  have f_a1 : pt (((((([o] ++ [a1]) ++ [a2]) ++ [a3]) ++ [a4]) ++ [a5]) ++ [a6]) FF11 a1 (eI G 6 (fun _ => 0)) := by rw [hFF11]; exact (pt_push f_a1 ha6)
  have f_a2 : pt (((((([o] ++ [a1]) ++ [a2]) ++ [a3]) ++ [a4]) ++ [a5]) ++ [a6]) FF11 a2 (eI G 6 (fun _ => 0)) := by rw [hFF11]; exact (pt_push f_a2 ha6)
  have f_a3 : pt (((((([o] ++ [a1]) ++ [a2]) ++ [a3]) ++ [a4]) ++ [a5]) ++ [a6]) FF11 a3 (eJ G 96 (fun _ => 0)) := by rw [hFF11]; exact (pt_push f_a3 ha6)
  have f_a4 : pt (((((([o] ++ [a1]) ++ [a2]) ++ [a3]) ++ [a4]) ++ [a5]) ++ [a6]) FF11 a4 (eI G 64 (fun _ => 0)) := by rw [hFF11]; exact (pt_push f_a4 ha6)
  have f_a5 : pt (((((([o] ++ [a1]) ++ [a2]) ++ [a3]) ++ [a4]) ++ [a5]) ++ [a6]) FF11 a5 (eI G 96 (fun _ => 0)) := by rw [hFF11]; exact (pt_push f_a5 ha6)
  have f_o : pt (((((([o] ++ [a1]) ++ [a2]) ++ [a3]) ++ [a4]) ++ [a5]) ++ [a6]) FF11 o (.inr (6, [.ref a1, .ref a2, .ref a3, .ref a4, .ref a5, .int 0, .null, .null, .null, .null, .null, .null, .null, .null, .null, .null, .null, .int 0])) := by rw [hFF11]; exact (pt_push f_o ha6)
  have f_a6 : pt (((((([o] ++ [a1]) ++ [a2]) ++ [a3]) ++ [a4]) ++ [a5]) ++ [a6]) FF11 a6 (eJ G 48 (fun _ => 0)) := by rw [hFF11]; exact pt_new
  refine h_putF hx hb hE.1 hw hts hinX6 tyX6 tyX6_ok nmX6 hown (ci := 6) rfl 6 (by decide) lk_26 (fun _ h9 => h9) rfl hin rfl f_o (ty := .array .long) (by decide +kernel) rfl rfl (Nat.le_of_ble_eq_true rfl) (fs2 := [.ref a1, .ref a2, .ref a3, .ref a4, .ref a5, .int 0, .ref a6, .null, .null, .null, .null, .null, .null, .null, .null, .null, .null, .int 0]) rfl dX6_init_49 (fun H locs hw => ?_)
  obtain ⟨FF12, hFF12⟩ : ∃ Fx : FM, Fx = va_up FF11 o (.inr (6, [.ref a1, .ref a2, .ref a3, .ref a4, .ref a5, .int 0, .ref a6, .null, .null, .null, .null, .null, .null, .null, .null, .null, .null, .int 0])) := ⟨_, rfl⟩
  rw [← hFF12] at hw
  have f_a1 : pt (((((([o] ++ [a1]) ++ [a2]) ++ [a3]) ++ [a4]) ++ [a5]) ++ [a6]) FF12 a1 (eI G 6 (fun _ => 0)) := by rw [hFF12]; exact (pt_ne f_a1 (pt_ap f_a1 f_o (fun h9 => absurd (show (1061 : Nat) = 6 from congrArg tg h9) (by decide))))
  have f_a2 : pt (((((([o] ++ [a1]) ++ [a2]) ++ [a3]) ++ [a4]) ++ [a5]) ++ [a6]) FF12 a2 (eI G 6 (fun _ => 0)) := by rw [hFF12]; exact (pt_ne f_a2 (pt_ap f_a2 f_o (fun h9 => absurd (show (1061 : Nat) = 6 from congrArg tg h9) (by decide))))
  have f_a3 : pt (((((([o] ++ [a1]) ++ [a2]) ++ [a3]) ++ [a4]) ++ [a5]) ++ [a6]) FF12 a3 (eJ G 96 (fun _ => 0)) := by rw [hFF12]; exact (pt_ne f_a3 (pt_ap f_a3 f_o (fun h9 => absurd (show (1962 : Nat) = 6 from congrArg tg h9) (by decide))))
  have f_a4 : pt (((((([o] ++ [a1]) ++ [a2]) ++ [a3]) ++ [a4]) ++ [a5]) ++ [a6]) FF12 a4 (eI G 64 (fun _ => 0)) := by rw [hFF12]; exact (pt_ne f_a4 (pt_ap f_a4 f_o (fun h9 => absurd (show (1641 : Nat) = 6 from congrArg tg h9) (by decide))))
  have f_a5 : pt (((((([o] ++ [a1]) ++ [a2]) ++ [a3]) ++ [a4]) ++ [a5]) ++ [a6]) FF12 a5 (eI G 96 (fun _ => 0)) := by rw [hFF12]; exact (pt_ne f_a5 (pt_ap f_a5 f_o (fun h9 => absurd (show (1961 : Nat) = 6 from congrArg tg h9) (by decide))))
  have f_a6 : pt (((((([o] ++ [a1]) ++ [a2]) ++ [a3]) ++ [a4]) ++ [a5]) ++ [a6]) FF12 a6 (eJ G 48 (fun _ => 0)) := by rw [hFF12]; exact (pt_ne f_a6 (pt_ap f_a6 f_o (fun h9 => absurd (show (1482 : Nat) = 6 from congrArg tg h9) (by decide))))
  have f_o : pt (((((([o] ++ [a1]) ++ [a2]) ++ [a3]) ++ [a4]) ++ [a5]) ++ [a6]) FF12 o (.inr (6, [.ref a1, .ref a2, .ref a3, .ref a4, .ref a5, .int 0, .ref a6, .null, .null, .null, .null, .null, .null, .null, .null, .null, .null, .int 0])) := by rw [hFF12]; exact (pt_up f_o)
  refine lv_aload_n hx hb dX6_init_52 rfl (lv_at hl 0 rfl) ?_
  refine lv_bipush (v := 16) hx hb dX6_init_53 (by decide) ?_
  refine h_newJ hx hb hE.1 hw hA (hts (.arrayClass .long) (by decide +kernel)) 16 rfl (by decide) (by first | decide | (show _ ≤ 16; omega)) (by first | decide | (show _ ≤ 368; omega)) dX6_init_55 (fun a7 H ha7 hw => ?_)
  obtain ⟨FF13, hFF13⟩ : ∃ Fx : FM, Fx = va_up FF12 a7 (eJ G 16 (fun _ => 0)) := ⟨_, rfl⟩
  rw [← hFF13] at hw
  have f_a1 : pt ((((((([o] ++ [a1]) ++ [a2]) ++ [a3]) ++ [a4]) ++ [a5]) ++ [a6]) ++ [a7]) FF13 a1 (eI G 6 (fun _ => 0)) := by rw [hFF13]; exact (pt_push f_a1 ha7)
  have f_a2 : pt ((((((([o] ++ [a1]) ++ [a2]) ++ [a3]) ++ [a4]) ++ [a5]) ++ [a6]) ++ [a7]) FF13 a2 (eI G 6 (fun _ => 0)) := by rw [hFF13]; exact (pt_push f_a2 ha7)
  have f_a3 : pt ((((((([o] ++ [a1]) ++ [a2]) ++ [a3]) ++ [a4]) ++ [a5]) ++ [a6]) ++ [a7]) FF13 a3 (eJ G 96 (fun _ => 0)) := by rw [hFF13]; exact (pt_push f_a3 ha7)
  have f_a4 : pt ((((((([o] ++ [a1]) ++ [a2]) ++ [a3]) ++ [a4]) ++ [a5]) ++ [a6]) ++ [a7]) FF13 a4 (eI G 64 (fun _ => 0)) := by rw [hFF13]; exact (pt_push f_a4 ha7)
  have f_a5 : pt ((((((([o] ++ [a1]) ++ [a2]) ++ [a3]) ++ [a4]) ++ [a5]) ++ [a6]) ++ [a7]) FF13 a5 (eI G 96 (fun _ => 0)) := by rw [hFF13]; exact (pt_push f_a5 ha7)
  have f_a6 : pt ((((((([o] ++ [a1]) ++ [a2]) ++ [a3]) ++ [a4]) ++ [a5]) ++ [a6]) ++ [a7]) FF13 a6 (eJ G 48 (fun _ => 0)) := by rw [hFF13]; exact (pt_push f_a6 ha7)
  have f_o : pt ((((((([o] ++ [a1]) ++ [a2]) ++ [a3]) ++ [a4]) ++ [a5]) ++ [a6]) ++ [a7]) FF13 o (.inr (6, [.ref a1, .ref a2, .ref a3, .ref a4, .ref a5, .int 0, .ref a6, .null, .null, .null, .null, .null, .null, .null, .null, .null, .null, .int 0])) := by rw [hFF13]; exact (pt_push f_o ha7)
  have f_a7 : pt ((((((([o] ++ [a1]) ++ [a2]) ++ [a3]) ++ [a4]) ++ [a5]) ++ [a6]) ++ [a7]) FF13 a7 (eJ G 16 (fun _ => 0)) := by rw [hFF13]; exact pt_new
  refine h_putF hx hb hE.1 hw hts hinX6 tyX6 tyX6_ok nmX6 hown (ci := 6) rfl 7 (by decide) lk_29 (fun _ h9 => h9) rfl hin rfl f_o (ty := .array .long) (by decide +kernel) rfl rfl (Nat.le_of_ble_eq_true rfl) (fs2 := [.ref a1, .ref a2, .ref a3, .ref a4, .ref a5, .int 0, .ref a6, .ref a7, .null, .null, .null, .null, .null, .null, .null, .null, .null, .int 0]) rfl dX6_init_57 (fun H locs hw => ?_)
  obtain ⟨FF14, hFF14⟩ : ∃ Fx : FM, Fx = va_up FF13 o (.inr (6, [.ref a1, .ref a2, .ref a3, .ref a4, .ref a5, .int 0, .ref a6, .ref a7, .null, .null, .null, .null, .null, .null, .null, .null, .null, .int 0])) := ⟨_, rfl⟩
  rw [← hFF14] at hw
  have f_a1 : pt ((((((([o] ++ [a1]) ++ [a2]) ++ [a3]) ++ [a4]) ++ [a5]) ++ [a6]) ++ [a7]) FF14 a1 (eI G 6 (fun _ => 0)) := by rw [hFF14]; exact (pt_ne f_a1 (pt_ap f_a1 f_o (fun h9 => absurd (show (1061 : Nat) = 6 from congrArg tg h9) (by decide))))
  have f_a2 : pt ((((((([o] ++ [a1]) ++ [a2]) ++ [a3]) ++ [a4]) ++ [a5]) ++ [a6]) ++ [a7]) FF14 a2 (eI G 6 (fun _ => 0)) := by rw [hFF14]; exact (pt_ne f_a2 (pt_ap f_a2 f_o (fun h9 => absurd (show (1061 : Nat) = 6 from congrArg tg h9) (by decide))))
  have f_a3 : pt ((((((([o] ++ [a1]) ++ [a2]) ++ [a3]) ++ [a4]) ++ [a5]) ++ [a6]) ++ [a7]) FF14 a3 (eJ G 96 (fun _ => 0)) := by rw [hFF14]; exact (pt_ne f_a3 (pt_ap f_a3 f_o (fun h9 => absurd (show (1962 : Nat) = 6 from congrArg tg h9) (by decide))))
  have f_a4 : pt ((((((([o] ++ [a1]) ++ [a2]) ++ [a3]) ++ [a4]) ++ [a5]) ++ [a6]) ++ [a7]) FF14 a4 (eI G 64 (fun _ => 0)) := by rw [hFF14]; exact (pt_ne f_a4 (pt_ap f_a4 f_o (fun h9 => absurd (show (1641 : Nat) = 6 from congrArg tg h9) (by decide))))
  have f_a5 : pt ((((((([o] ++ [a1]) ++ [a2]) ++ [a3]) ++ [a4]) ++ [a5]) ++ [a6]) ++ [a7]) FF14 a5 (eI G 96 (fun _ => 0)) := by rw [hFF14]; exact (pt_ne f_a5 (pt_ap f_a5 f_o (fun h9 => absurd (show (1961 : Nat) = 6 from congrArg tg h9) (by decide))))
  have f_a6 : pt ((((((([o] ++ [a1]) ++ [a2]) ++ [a3]) ++ [a4]) ++ [a5]) ++ [a6]) ++ [a7]) FF14 a6 (eJ G 48 (fun _ => 0)) := by rw [hFF14]; exact (pt_ne f_a6 (pt_ap f_a6 f_o (fun h9 => absurd (show (1482 : Nat) = 6 from congrArg tg h9) (by decide))))
  have f_a7 : pt ((((((([o] ++ [a1]) ++ [a2]) ++ [a3]) ++ [a4]) ++ [a5]) ++ [a6]) ++ [a7]) FF14 a7 (eJ G 16 (fun _ => 0)) := by rw [hFF14]; exact (pt_ne f_a7 (pt_ap f_a7 f_o (fun h9 => absurd (show (1162 : Nat) = 6 from congrArg tg h9) (by decide))))
  have f_o : pt ((((((([o] ++ [a1]) ++ [a2]) ++ [a3]) ++ [a4]) ++ [a5]) ++ [a6]) ++ [a7]) FF14 o (.inr (6, [.ref a1, .ref a2, .ref a3, .ref a4, .ref a5, .int 0, .ref a6, .ref a7, .null, .null, .null, .null, .null, .null, .null, .null, .null, .int 0])) := by rw [hFF14]; exact (pt_up f_o)
  refine lv_aload_n hx hb dX6_init_60 rfl (lv_at hl 0 rfl) ?_
  refine lv_iconst (v := 4) hx hb dX6_init_61 (by decide) ?_
  refine h_newJ hx hb hE.1 hw hA (hts (.arrayClass .long) (by decide +kernel)) 4 rfl (by decide) (by first | decide | (show _ ≤ 16; omega)) (by first | decide | (show _ ≤ 368; omega)) dX6_init_62 (fun a8 H ha8 hw => ?_)
  obtain ⟨FF15, hFF15⟩ : ∃ Fx : FM, Fx = va_up FF14 a8 (eJ G 4 (fun _ => 0)) := ⟨_, rfl⟩
  rw [← hFF15] at hw
  have f_a1 : pt (((((((([o] ++ [a1]) ++ [a2]) ++ [a3]) ++ [a4]) ++ [a5]) ++ [a6]) ++ [a7]) ++ [a8]) FF15 a1 (eI G 6 (fun _ => 0)) := by rw [hFF15]; exact (pt_push f_a1 ha8)
  have f_a2 : pt (((((((([o] ++ [a1]) ++ [a2]) ++ [a3]) ++ [a4]) ++ [a5]) ++ [a6]) ++ [a7]) ++ [a8]) FF15 a2 (eI G 6 (fun _ => 0)) := by rw [hFF15]; exact (pt_push f_a2 ha8)
  have f_a3 : pt (((((((([o] ++ [a1]) ++ [a2]) ++ [a3]) ++ [a4]) ++ [a5]) ++ [a6]) ++ [a7]) ++ [a8]) FF15 a3 (eJ G 96 (fun _ => 0)) := by rw [hFF15]; exact (pt_push f_a3 ha8)
  have f_a4 : pt (((((((([o] ++ [a1]) ++ [a2]) ++ [a3]) ++ [a4]) ++ [a5]) ++ [a6]) ++ [a7]) ++ [a8]) FF15 a4 (eI G 64 (fun _ => 0)) := by rw [hFF15]; exact (pt_push f_a4 ha8)
  have f_a5 : pt (((((((([o] ++ [a1]) ++ [a2]) ++ [a3]) ++ [a4]) ++ [a5]) ++ [a6]) ++ [a7]) ++ [a8]) FF15 a5 (eI G 96 (fun _ => 0)) := by rw [hFF15]; exact (pt_push f_a5 ha8)
  have f_a6 : pt (((((((([o] ++ [a1]) ++ [a2]) ++ [a3]) ++ [a4]) ++ [a5]) ++ [a6]) ++ [a7]) ++ [a8]) FF15 a6 (eJ G 48 (fun _ => 0)) := by rw [hFF15]; exact (pt_push f_a6 ha8)
  have f_a7 : pt (((((((([o] ++ [a1]) ++ [a2]) ++ [a3]) ++ [a4]) ++ [a5]) ++ [a6]) ++ [a7]) ++ [a8]) FF15 a7 (eJ G 16 (fun _ => 0)) := by rw [hFF15]; exact (pt_push f_a7 ha8)
  have f_o : pt (((((((([o] ++ [a1]) ++ [a2]) ++ [a3]) ++ [a4]) ++ [a5]) ++ [a6]) ++ [a7]) ++ [a8]) FF15 o (.inr (6, [.ref a1, .ref a2, .ref a3, .ref a4, .ref a5, .int 0, .ref a6, .ref a7, .null, .null, .null, .null, .null, .null, .null, .null, .null, .int 0])) := by rw [hFF15]; exact (pt_push f_o ha8)
  have f_a8 : pt (((((((([o] ++ [a1]) ++ [a2]) ++ [a3]) ++ [a4]) ++ [a5]) ++ [a6]) ++ [a7]) ++ [a8]) FF15 a8 (eJ G 4 (fun _ => 0)) := by rw [hFF15]; exact pt_new
  refine h_putF hx hb hE.1 hw hts hinX6 tyX6 tyX6_ok nmX6 hown (ci := 6) rfl 8 (by decide) lk_32 (fun _ h9 => h9) rfl hin rfl f_o (ty := .array .long) (by decide +kernel) rfl rfl (Nat.le_of_ble_eq_true rfl) (fs2 := [.ref a1, .ref a2, .ref a3, .ref a4, .ref a5, .int 0, .ref a6, .ref a7, .ref a8, .null, .null, .null, .null, .null, .null, .null, .null, .int 0]) rfl dX6_init_64 (fun H locs hw => ?_)
  obtain ⟨FF16, hFF16⟩ : ∃ Fx : FM, Fx = va_up FF15 o (.inr (6, [.ref a1, .ref a2, .ref a3, .ref a4, .ref a5, .int 0, .ref a6, .ref a7, .ref a8, .null, .null, .null, .null, .null, .null, .null, .null, .int 0])) := ⟨_, rfl⟩
  rw [← hFF16] at hw
  have f_a1 : pt (((((((([o] ++ [a1]) ++ [a2]) ++ [a3]) ++ [a4]) ++ [a5]) ++ [a6]) ++ [a7]) ++ [a8]) FF16 a1 (eI G 6 (fun _ => 0)) := by rw [hFF16]; exact (pt_ne f_a1 (pt_ap f_a1 f_o (fun h9 => absurd (show (1061 : Nat) = 6 from congrArg tg h9) (by decide))))
  have f_a2 : pt (((((((([o] ++ [a1]) ++ [a2]) ++ [a3]) ++ [a4]) ++ [a5]) ++ [a6]) ++ [a7]) ++ [a8]) FF16 a2 (eI G 6 (fun _ => 0)) := by rw [hFF16]; exact (pt_ne f_a2 (pt_ap f_a2 f_o (fun h9 => absurd (show (1061 : Nat) = 6 from congrArg tg h9) (by decide))))
  have f_a3 : pt (((((((([o] ++ [a1]) ++ [a2]) ++ [a3]) ++ [a4]) ++ [a5]) ++ [a6]) ++ [a7]) ++ [a8]) FF16 a3 (eJ G 96 (fun _ => 0)) := by rw [hFF16]; exact (pt_ne f_a3 (pt_ap f_a3 f_o (fun h9 => absurd (show (1962 : Nat) = 6 from congrArg tg h9) (by decide))))
  have f_a4 : pt (((((((([o] ++ [a1]) ++ [a2]) ++ [a3]) ++ [a4]) ++ [a5]) ++ [a6]) ++ [a7]) ++ [a8]) FF16 a4 (eI G 64 (fun _ => 0)) := by rw [hFF16]; exact (pt_ne f_a4 (pt_ap f_a4 f_o (fun h9 => absurd (show (1641 : Nat) = 6 from congrArg tg h9) (by decide))))
  have f_a5 : pt (((((((([o] ++ [a1]) ++ [a2]) ++ [a3]) ++ [a4]) ++ [a5]) ++ [a6]) ++ [a7]) ++ [a8]) FF16 a5 (eI G 96 (fun _ => 0)) := by rw [hFF16]; exact (pt_ne f_a5 (pt_ap f_a5 f_o (fun h9 => absurd (show (1961 : Nat) = 6 from congrArg tg h9) (by decide))))
  have f_a6 : pt (((((((([o] ++ [a1]) ++ [a2]) ++ [a3]) ++ [a4]) ++ [a5]) ++ [a6]) ++ [a7]) ++ [a8]) FF16 a6 (eJ G 48 (fun _ => 0)) := by rw [hFF16]; exact (pt_ne f_a6 (pt_ap f_a6 f_o (fun h9 => absurd (show (1482 : Nat) = 6 from congrArg tg h9) (by decide))))
  have f_a7 : pt (((((((([o] ++ [a1]) ++ [a2]) ++ [a3]) ++ [a4]) ++ [a5]) ++ [a6]) ++ [a7]) ++ [a8]) FF16 a7 (eJ G 16 (fun _ => 0)) := by rw [hFF16]; exact (pt_ne f_a7 (pt_ap f_a7 f_o (fun h9 => absurd (show (1162 : Nat) = 6 from congrArg tg h9) (by decide))))
  have f_a8 : pt (((((((([o] ++ [a1]) ++ [a2]) ++ [a3]) ++ [a4]) ++ [a5]) ++ [a6]) ++ [a7]) ++ [a8]) FF16 a8 (eJ G 4 (fun _ => 0)) := by rw [hFF16]; exact (pt_ne f_a8 (pt_ap f_a8 f_o (fun h9 => absurd (show (1042 : Nat) = 6 from congrArg tg h9) (by decide))))
  have f_o : pt (((((((([o] ++ [a1]) ++ [a2]) ++ [a3]) ++ [a4]) ++ [a5]) ++ [a6]) ++ [a7]) ++ [a8]) FF16 o (.inr (6, [.ref a1, .ref a2, .ref a3, .ref a4, .ref a5, .int 0, .ref a6, .ref a7, .ref a8, .null, .null, .null, .null, .null, .null, .null, .null, .int 0])) := by rw [hFF16]; exact (pt_up f_o)
  refine lv_aload_n hx hb dX6_init_67 rfl (lv_at hl 0 rfl) ?_
  refine lv_iconst (v := 4) hx hb dX6_init_68 (by decide) ?_
  refine h_newJ hx hb hE.1 hw hA (hts (.arrayClass .long) (by decide +kernel)) 4 rfl (by decide) (by first | decide | (show _ ≤ 16; omega)) (by first | decide | (show _ ≤ 368; omega)) dX6_init_69 (fun a9 H ha9 hw => ?_)
  obtain ⟨FF17, hFF17⟩ : ∃ Fx : FM, Fx = va_up FF16 a9 (eJ G 4 (fun _ => 0)) := ⟨_, rfl⟩
  rw [← hFF17] at hw
  have f_a1 : pt ((((((((([o] ++ [a1]) ++ [a2]) ++ [a3]) ++ [a4]) ++ [a5]) ++ [a6]) ++ [a7]) ++ [a8]) ++ [a9]) FF17 a1 (eI G 6 (fun _ => 0)) := by rw [hFF17]; exact (pt_push f_a1 ha9)
  have f_a2 : pt ((((((((([o] ++ [a1]) ++ [a2]) ++ [a3]) ++ [a4]) ++ [a5]) ++ [a6]) ++ [a7]) ++ [a8]) ++ [a9]) FF17 a2 (eI G 6 (fun _ => 0)) := by rw [hFF17]; exact (pt_push f_a2 ha9)
  have f_a3 : pt ((((((((([o] ++ [a1]) ++ [a2]) ++ [a3]) ++ [a4]) ++ [a5]) ++ [a6]) ++ [a7]) ++ [a8]) ++ [a9]) FF17 a3 (eJ G 96 (fun _ => 0)) := by rw [hFF17]; exact (pt_push f_a3 ha9)
  have f_a4 : pt ((((((((([o] ++ [a1]) ++ [a2]) ++ [a3]) ++ [a4]) ++ [a5]) ++ [a6]) ++ [a7]) ++ [a8]) ++ [a9]) FF17 a4 (eI G 64 (fun _ => 0)) := by rw [hFF17]; exact (pt_push f_a4 ha9)
  have f_a5 : pt ((((((((([o] ++ [a1]) ++ [a2]) ++ [a3]) ++ [a4]) ++ [a5]) ++ [a6]) ++ [a7]) ++ [a8]) ++ [a9]) FF17 a5 (eI G 96 (fun _ => 0)) := by rw [hFF17]; exact (pt_push f_a5 ha9)
  have f_a6 : pt ((((((((([o] ++ [a1]) ++ [a2]) ++ [a3]) ++ [a4]) ++ [a5]) ++ [a6]) ++ [a7]) ++ [a8]) ++ [a9]) FF17 a6 (eJ G 48 (fun _ => 0)) := by rw [hFF17]; exact (pt_push f_a6 ha9)
  have f_a7 : pt ((((((((([o] ++ [a1]) ++ [a2]) ++ [a3]) ++ [a4]) ++ [a5]) ++ [a6]) ++ [a7]) ++ [a8]) ++ [a9]) FF17 a7 (eJ G 16 (fun _ => 0)) := by rw [hFF17]; exact (pt_push f_a7 ha9)
  have f_a8 : pt ((((((((([o] ++ [a1]) ++ [a2]) ++ [a3]) ++ [a4]) ++ [a5]) ++ [a6]) ++ [a7]) ++ [a8]) ++ [a9]) FF17 a8 (eJ G 4 (fun _ => 0)) := by rw [hFF17]; exact (pt_push f_a8 ha9)
  have f_o : pt ((((((((([o] ++ [a1]) ++ [a2]) ++ [a3]) ++ [a4]) ++ [a5]) ++ [a6]) ++ [a7]) ++ [a8]) ++ [a9]) FF17 o (.inr (6, [.ref a1, .ref a2, .ref a3, .ref a4, .ref a5, .int 0, .ref a6, .ref a7, .ref a8, .null, .null, .null, .null, .null, .null, .null, .null, .int 0])) := by rw [hFF17]; exact (pt_push f_o ha9)
  have f_a9 : pt ((((((((([o] ++ [a1]) ++ [a2]) ++ [a3]) ++ [a4]) ++ [a5]) ++ [a6]) ++ [a7]) ++ [a8]) ++ [a9]) FF17 a9 (eJ G 4 (fun _ => 0)) := by rw [hFF17]; exact pt_new
  refine h_putF hx hb hE.1 hw hts hinX6 tyX6 tyX6_ok nmX6 hown (ci := 6) rfl 9 (by decide) lk_35 (fun _ h9 => h9) rfl hin rfl f_o (ty := .array .long) (by decide +kernel) rfl rfl (Nat.le_of_ble_eq_true rfl) (fs2 := [.ref a1, .ref a2, .ref a3, .ref a4, .ref a5, .int 0, .ref a6, .ref a7, .ref a8, .ref a9, .null, .null, .null, .null, .null, .null, .null, .int 0]) rfl dX6_init_71 (fun H locs hw => ?_)
  obtain ⟨FF18, hFF18⟩ : ∃ Fx : FM, Fx = va_up FF17 o (.inr (6, [.ref a1, .ref a2, .ref a3, .ref a4, .ref a5, .int 0, .ref a6, .ref a7, .ref a8, .ref a9, .null, .null, .null, .null, .null, .null, .null, .int 0])) := ⟨_, rfl⟩
  rw [← hFF18] at hw
  have f_a1 : pt ((((((((([o] ++ [a1]) ++ [a2]) ++ [a3]) ++ [a4]) ++ [a5]) ++ [a6]) ++ [a7]) ++ [a8]) ++ [a9]) FF18 a1 (eI G 6 (fun _ => 0)) := by rw [hFF18]; exact (pt_ne f_a1 (pt_ap f_a1 f_o (fun h9 => absurd (show (1061 : Nat) = 6 from congrArg tg h9) (by decide))))
  have f_a2 : pt ((((((((([o] ++ [a1]) ++ [a2]) ++ [a3]) ++ [a4]) ++ [a5]) ++ [a6]) ++ [a7]) ++ [a8]) ++ [a9]) FF18 a2 (eI G 6 (fun _ => 0)) := by rw [hFF18]; exact (pt_ne f_a2 (pt_ap f_a2 f_o (fun h9 => absurd (show (1061 : Nat) = 6 from congrArg tg h9) (by decide))))
  have f_a3 : pt ((((((((([o] ++ [a1]) ++ [a2]) ++ [a3]) ++ [a4]) ++ [a5]) ++ [a6]) ++ [a7]) ++ [a8]) ++ [a9]) FF18 a3 (eJ G 96 (fun _ => 0)) := by rw [hFF18]; exact (pt_ne f_a3 (pt_ap f_a3 f_o (fun h9 => absurd (show (1962 : Nat) = 6 from congrArg tg h9) (by decide))))
  have f_a4 : pt ((((((((([o] ++ [a1]) ++ [a2]) ++ [a3]) ++ [a4]) ++ [a5]) ++ [a6]) ++ [a7]) ++ [a8]) ++ [a9]) FF18 a4 (eI G 64 (fun _ => 0)) := by rw [hFF18]; exact (pt_ne f_a4 (pt_ap f_a4 f_o (fun h9 => absurd (show (1641 : Nat) = 6 from congrArg tg h9) (by decide))))
  have f_a5 : pt ((((((((([o] ++ [a1]) ++ [a2]) ++ [a3]) ++ [a4]) ++ [a5]) ++ [a6]) ++ [a7]) ++ [a8]) ++ [a9]) FF18 a5 (eI G 96 (fun _ => 0)) := by rw [hFF18]; exact (pt_ne f_a5 (pt_ap f_a5 f_o (fun h9 => absurd (show (1961 : Nat) = 6 from congrArg tg h9) (by decide))))
  have f_a6 : pt ((((((((([o] ++ [a1]) ++ [a2]) ++ [a3]) ++ [a4]) ++ [a5]) ++ [a6]) ++ [a7]) ++ [a8]) ++ [a9]) FF18 a6 (eJ G 48 (fun _ => 0)) := by rw [hFF18]; exact (pt_ne f_a6 (pt_ap f_a6 f_o (fun h9 => absurd (show (1482 : Nat) = 6 from congrArg tg h9) (by decide))))
  have f_a7 : pt ((((((((([o] ++ [a1]) ++ [a2]) ++ [a3]) ++ [a4]) ++ [a5]) ++ [a6]) ++ [a7]) ++ [a8]) ++ [a9]) FF18 a7 (eJ G 16 (fun _ => 0)) := by rw [hFF18]; exact (pt_ne f_a7 (pt_ap f_a7 f_o (fun h9 => absurd (show (1162 : Nat) = 6 from congrArg tg h9) (by decide))))
  have f_a8 : pt ((((((((([o] ++ [a1]) ++ [a2]) ++ [a3]) ++ [a4]) ++ [a5]) ++ [a6]) ++ [a7]) ++ [a8]) ++ [a9]) FF18 a8 (eJ G 4 (fun _ => 0)) := by rw [hFF18]; exact (pt_ne f_a8 (pt_ap f_a8 f_o (fun h9 => absurd (show (1042 : Nat) = 6 from congrArg tg h9) (by decide))))
  have f_a9 : pt ((((((((([o] ++ [a1]) ++ [a2]) ++ [a3]) ++ [a4]) ++ [a5]) ++ [a6]) ++ [a7]) ++ [a8]) ++ [a9]) FF18 a9 (eJ G 4 (fun _ => 0)) := by rw [hFF18]; exact (pt_ne f_a9 (pt_ap f_a9 f_o (fun h9 => absurd (show (1042 : Nat) = 6 from congrArg tg h9) (by decide))))
  have f_o : pt ((((((((([o] ++ [a1]) ++ [a2]) ++ [a3]) ++ [a4]) ++ [a5]) ++ [a6]) ++ [a7]) ++ [a8]) ++ [a9]) FF18 o (.inr (6, [.ref a1, .ref a2, .ref a3, .ref a4, .ref a5, .int 0, .ref a6, .ref a7, .ref a8, .ref a9, .null, .null, .null, .null, .null, .null, .null, .int 0])) := by rw [hFF18]; exact (pt_up f_o)
  refine lv_aload_n hx hb dX6_init_74 rfl (lv_at hl 0 rfl) ?_
  refine lv_iconst (v := 4) hx hb dX6_init_75 (by decide) ?_
  refine h_newJ hx hb hE.1 hw hA (hts (.arrayClass .long) (by decide +kernel)) 4 rfl (by decide) (by first | decide | (show _ ≤ 16; omega)) (by first | decide | (show _ ≤ 368; omega)) dX6_init_76 (fun a10 H ha10 hw => ?_)
  obtain ⟨FF19, hFF19⟩ : ∃ Fx : FM, Fx = va_up FF18 a10 (eJ G 4 (fun _ => 0)) := ⟨_, rfl⟩
  rw [← hFF19] at hw
  have f_a1 : pt (((((((((([o] ++ [a1]) ++ [a2]) ++ [a3]) ++ [a4]) ++ [a5]) ++ [a6]) ++ [a7]) ++ [a8]) ++ [a9]) ++ [a10]) FF19 a1 (eI G 6 (fun _ => 0)) := by rw [hFF19]; exact (pt_push f_a1 ha10)
  have f_a2 : pt (((((((((([o] ++ [a1]) ++ [a2]) ++ [a3]) ++ [a4]) ++ [a5]) ++ [a6]) ++ [a7]) ++ [a8]) ++ [a9]) ++ [a10]) FF19 a2 (eI G 6 (fun _ => 0)) := by rw [hFF19]; exact (pt_push f_a2 ha10)
  have f_a3 : pt (((((((((([o] ++ [a1]) ++ [a2]) ++ [a3]) ++ [a4]) ++ [a5]) ++ [a6]) ++ [a7]) ++ [a8]) ++ [a9]) ++ [a10]) FF19 a3 (eJ G 96 (fun _ => 0)) := by rw [hFF19]; exact (pt_push f_a3 ha10)
  have f_a4 : pt (((((((((([o] ++ [a1]) ++ [a2]) ++ [a3]) ++ [a4]) ++ [a5]) ++ [a6]) ++ [a7]) ++ [a8]) ++ [a9]) ++ [a10]) FF19 a4 (eI G 64 (fun _ => 0)) := by rw [hFF19]; exact (pt_push f_a4 ha10)
  have f_a5 : pt (((((((((([o] ++ [a1]) ++ [a2]) ++ [a3]) ++ [a4]) ++ [a5]) ++ [a6]) ++ [a7]) ++ [a8]) ++ [a9]) ++ [a10]) FF19 a5 (eI G 96 (fun _ => 0)) := by rw [hFF19]; exact (pt_push f_a5 ha10)
  have f_a6 : pt (((((((((([o] ++ [a1]) ++ [a2]) ++ [a3]) ++ [a4]) ++ [a5]) ++ [a6]) ++ [a7]) ++ [a8]) ++ [a9]) ++ [a10]) FF19 a6 (eJ G 48 (fun _ => 0)) := by rw [hFF19]; exact (pt_push f_a6 ha10)
  have f_a7 : pt (((((((((([o] ++ [a1]) ++ [a2]) ++ [a3]) ++ [a4]) ++ [a5]) ++ [a6]) ++ [a7]) ++ [a8]) ++ [a9]) ++ [a10]) FF19 a7 (eJ G 16 (fun _ => 0)) := by rw [hFF19]; exact (pt_push f_a7 ha10)
  have f_a8 : pt (((((((((([o] ++ [a1]) ++ [a2]) ++ [a3]) ++ [a4]) ++ [a5]) ++ [a6]) ++ [a7]) ++ [a8]) ++ [a9]) ++ [a10]) FF19 a8 (eJ G 4 (fun _ => 0)) := by rw [hFF19]; exact (pt_push f_a8 ha10)
  have f_a9 : pt (((((((((([o] ++ [a1]) ++ [a2]) ++ [a3]) ++ [a4]) ++ [a5]) ++ [a6]) ++ [a7]) ++ [a8]) ++ [a9]) ++ [a10]) FF19 a9 (eJ G 4 (fun _ => 0)) := by rw [hFF19]; exact (pt_push f_a9 ha10)
  have f_o : pt (((((((((([o] ++ [a1]) ++ [a2]) ++ [a3]) ++ [a4]) ++ [a5]) ++ [a6]) ++ [a7]) ++ [a8]) ++ [a9]) ++ [a10]) FF19 o (.inr (6, [.ref a1, .ref a2, .ref a3, .ref a4, .ref a5, .int 0, .ref a6, .ref a7, .ref a8, .ref a9, .null, .null, .null, .null, .null, .null, .null, .int 0])) := by rw [hFF19]; exact (pt_push f_o ha10)
  have f_a10 : pt (((((((((([o] ++ [a1]) ++ [a2]) ++ [a3]) ++ [a4]) ++ [a5]) ++ [a6]) ++ [a7]) ++ [a8]) ++ [a9]) ++ [a10]) FF19 a10 (eJ G 4 (fun _ => 0)) := by rw [hFF19]; exact pt_new
  refine h_putF hx hb hE.1 hw hts hinX6 tyX6 tyX6_ok nmX6 hown (ci := 6) rfl 10 (by decide) lk_38 (fun _ h9 => h9) rfl hin rfl f_o (ty := .array .long) (by decide +kernel) rfl rfl (Nat.le_of_ble_eq_true rfl) (fs2 := [.ref a1, .ref a2, .ref a3, .ref a4, .ref a5, .int 0, .ref a6, .ref a7, .ref a8, .ref a9, .ref a10, .null, .null, .null, .null, .null, .null, .int 0]) rfl dX6_init_78 (fun H locs hw => ?_)
  obtain ⟨FF20, hFF20⟩ : ∃ Fx : FM, Fx = va_up FF19 o (.inr (6, [.ref a1, .ref a2, .ref a3, .ref a4, .ref a5, .int 0, .ref a6, .ref a7, .ref a8, .ref a9, .ref a10, .null, .null, .null, .null, .null, .null, .int 0])) := ⟨_, rfl⟩
  rw [← hFF20] at hw
  have f_a1 : pt (((((((((([o] ++ [a1]) ++ [a2]) ++ [a3]) ++ [a4]) ++ [a5]) ++ [a6]) ++ [a7]) ++ [a8]) ++ [a9]) ++ [a10]) FF20 a1 (eI G 6 (fun _ => 0)) := by rw [hFF20]; exact (pt_ne f_a1 (pt_ap f_a1 f_o (fun h9 => absurd (show (1061 : Nat) = 6 from congrArg tg h9) (by decide))))
  have f_a2 : pt (((((((((([o] ++ [a1]) ++ [a2]) ++ [a3]) ++ [a4]) ++ [a5]) ++ [a6]) ++ [a7]) ++ [a8]) ++ [a9]) ++ [a10]) FF20 a2 (eI G 6 (fun _ => 0)) := by rw [hFF20]; exact (pt_ne f_a2 (pt_ap f_a2 f_o (fun h9 => absurd (show (1061 : Nat) = 6 from congrArg tg h9) (by decide))))
  have f_a3 : pt (((((((((([o] ++ [a1]) ++ [a2]) ++ [a3]) ++ [a4]) ++ [a5]) ++ [a6]) ++ [a7]) ++ [a8]) ++ [a9]) ++ [a10]) FF20 a3 (eJ G 96 (fun _ => 0)) := by rw [hFF20]; exact (pt_ne f_a3 (pt_ap f_a3 f_o (fun h9 => absurd (show (1962 : Nat) = 6 from congrArg tg h9) (by decide))))
  have f_a4 : pt (((((((((([o] ++ [a1]) ++ [a2]) ++ [a3]) ++ [a4]) ++ [a5]) ++ [a6]) ++ [a7]) ++ [a8]) ++ [a9]) ++ [a10]) FF20 a4 (eI G 64 (fun _ => 0)) := by rw [hFF20]; exact (pt_ne f_a4 (pt_ap f_a4 f_o (fun h9 => absurd (show (1641 : Nat) = 6 from congrArg tg h9) (by decide))))
  have f_a5 : pt (((((((((([o] ++ [a1]) ++ [a2]) ++ [a3]) ++ [a4]) ++ [a5]) ++ [a6]) ++ [a7]) ++ [a8]) ++ [a9]) ++ [a10]) FF20 a5 (eI G 96 (fun _ => 0)) := by rw [hFF20]; exact (pt_ne f_a5 (pt_ap f_a5 f_o (fun h9 => absurd (show (1961 : Nat) = 6 from congrArg tg h9) (by decide))))
  have f_a6 : pt (((((((((([o] ++ [a1]) ++ [a2]) ++ [a3]) ++ [a4]) ++ [a5]) ++ [a6]) ++ [a7]) ++ [a8]) ++ [a9]) ++ [a10]) FF20 a6 (eJ G 48 (fun _ => 0)) := by rw [hFF20]; exact (pt_ne f_a6 (pt_ap f_a6 f_o (fun h9 => absurd (show (1482 : Nat) = 6 from congrArg tg h9) (by decide))))
  have f_a7 : pt (((((((((([o] ++ [a1]) ++ [a2]) ++ [a3]) ++ [a4]) ++ [a5]) ++ [a6]) ++ [a7]) ++ [a8]) ++ [a9]) ++ [a10]) FF20 a7 (eJ G 16 (fun _ => 0)) := by rw [hFF20]; exact (pt_ne f_a7 (pt_ap f_a7 f_o (fun h9 => absurd (show (1162 : Nat) = 6 from congrArg tg h9) (by decide))))
  have f_a8 : pt (((((((((([o] ++ [a1]) ++ [a2]) ++ [a3]) ++ [a4]) ++ [a5]) ++ [a6]) ++ [a7]) ++ [a8]) ++ [a9]) ++ [a10]) FF20 a8 (eJ G 4 (fun _ => 0)) := by rw [hFF20]; exact (pt_ne f_a8 (pt_ap f_a8 f_o (fun h9 => absurd (show (1042 : Nat) = 6 from congrArg tg h9) (by decide))))
  have f_a9 : pt (((((((((([o] ++ [a1]) ++ [a2]) ++ [a3]) ++ [a4]) ++ [a5]) ++ [a6]) ++ [a7]) ++ [a8]) ++ [a9]) ++ [a10]) FF20 a9 (eJ G 4 (fun _ => 0)) := by rw [hFF20]; exact (pt_ne f_a9 (pt_ap f_a9 f_o (fun h9 => absurd (show (1042 : Nat) = 6 from congrArg tg h9) (by decide))))
  have f_a10 : pt (((((((((([o] ++ [a1]) ++ [a2]) ++ [a3]) ++ [a4]) ++ [a5]) ++ [a6]) ++ [a7]) ++ [a8]) ++ [a9]) ++ [a10]) FF20 a10 (eJ G 4 (fun _ => 0)) := by rw [hFF20]; exact (pt_ne f_a10 (pt_ap f_a10 f_o (fun h9 => absurd (show (1042 : Nat) = 6 from congrArg tg h9) (by decide))))
  have f_o : pt (((((((((([o] ++ [a1]) ++ [a2]) ++ [a3]) ++ [a4]) ++ [a5]) ++ [a6]) ++ [a7]) ++ [a8]) ++ [a9]) ++ [a10]) FF20 o (.inr (6, [.ref a1, .ref a2, .ref a3, .ref a4, .ref a5, .int 0, .ref a6, .ref a7, .ref a8, .ref a9, .ref a10, .null, .null, .null, .null, .null, .null, .int 0])) := by rw [hFF20]; exact (pt_up f_o)
  refine lv_aload_n hx hb dX6_init_81 rfl (lv_at hl 0 rfl) ?_
  refine lv_iconst (v := 4) hx hb dX6_init_82 (by decide) ?_
  refine h_newJ hx hb hE.1 hw hA (hts (.arrayClass .long) (by decide +kernel)) 4 rfl (by decide) (by first | decide | (show _ ≤ 16; omega)) (by first | decide | (show _ ≤ 368; omega)) dX6_init_83 (fun a11 H ha11 hw => ?_)
  obtain ⟨FF21, hFF21⟩ : ∃ Fx : FM, Fx = va_up FF20 a11 (eJ G 4 (fun _ => 0)) := ⟨_, rfl⟩
  rw [← hFF21] at hw
  have f_a1 : pt ((((((((((([o] ++ [a1]) ++ [a2]) ++ [a3]) ++ [a4]) ++ [a5]) ++ [a6]) ++ [a7]) ++ [a8]) ++ [a9]) ++ [a10]) ++ [a11]) FF21 a1 (eI G 6 (fun _ => 0)) := by rw [hFF21]; exact (pt_push f_a1 ha11)
  have f_a2 : pt ((((((((((([o] ++ [a1]) ++ [a2]) ++ [a3]) ++ [a4]) ++ [a5]) ++ [a6]) ++ [a7]) ++ [a8]) ++ [a9]) ++ [a10]) ++ [a11]) FF21 a2 (eI G 6 (fun _ => 0)) := by rw [hFF21]; exact (pt_push f_a2 ha11)
  have f_a3 : pt ((((((((((([o] ++ [a1]) ++ [a2]) ++ [a3]) ++ [a4]) ++ [a5]) ++ [a6]) ++ [a7]) ++ [a8]) ++ [a9]) ++ [a10]) ++ [a11]) FF21 a3 (eJ G 96 (fun _ => 0)) := by rw [hFF21]; exact (pt_push f_a3 ha11)
  have f_a4 : pt ((((((((((([o] ++ [a1]) ++ [a2]) ++ [a3]) ++ [a4]) ++ [a5]) ++ [a6]) ++ [a7]) ++ [a8]) ++ [a9]) ++ [a10]) ++ [a11]) FF21 a4 (eI G 64 (fun _ => 0)) := by rw [hFF21]; exact (pt_push f_a4 ha11)
  have f_a5 : pt ((((((((((([o] ++ [a1]) ++ [a2]) ++ [a3]) ++ [a4]) ++ [a5]) ++ [a6]) ++ [a7]) ++ [a8]) ++ [a9]) ++ [a10]) ++ [a11]) FF21 a5 (eI G 96 (fun _ => 0)) := by rw [hFF21]; exact (pt_push f_a5 ha11)
  have f_a6 : pt ((((((((((([o] ++ [a1]) ++ [a2]) ++ [a3]) ++ [a4]) ++ [a5]) ++ [a6]) ++ [a7]) ++ [a8]) ++ [a9]) ++ [a10]) ++ [a11]) FF21 a6 (eJ G 48 (fun _ => 0)) := by rw [hFF21]; exact (pt_push f_a6 ha11)
  have f_a7 : pt ((((((((((([o] ++ [a1]) ++ [a2]) ++ [a3]) ++ [a4]) ++ [a5]) ++ [a6]) ++ [a7]) ++ [a8]) ++ [a9]) ++ [a10]) ++ [a11]) FF21 a7 (eJ G 16 (fun _ => 0)) := by rw [hFF21]; exact (pt_push f_a7 ha11)
  have f_a8 : pt ((((((((((([o] ++ [a1]) ++ [a2]) ++ [a3]) ++ [a4]) ++ [a5]) ++ [a6]) ++ [a7]) ++ [a8]) ++ [a9]) ++ [a10]) ++ [a11]) FF21 a8 (eJ G 4 (fun _ => 0)) := by rw [hFF21]; exact (pt_push f_a8 ha11)
  have f_a9 : pt ((((((((((([o] ++ [a1]) ++ [a2]) ++ [a3]) ++ [a4]) ++ [a5]) ++ [a6]) ++ [a7]) ++ [a8]) ++ [a9]) ++ [a10]) ++ [a11]) FF21 a9 (eJ G 4 (fun _ => 0)) := by rw [hFF21]; exact (pt_push f_a9 ha11)
  have f_a10 : pt ((((((((((([o] ++ [a1]) ++ [a2]) ++ [a3]) ++ [a4]) ++ [a5]) ++ [a6]) ++ [a7]) ++ [a8]) ++ [a9]) ++ [a10]) ++ [a11]) FF21 a10 (eJ G 4 (fun _ => 0)) := by rw [hFF21]; exact (pt_push f_a10 ha11)
  have f_o : pt ((((((((((([o] ++ [a1]) ++ [a2]) ++ [a3]) ++ [a4]) ++ [a5]) ++ [a6]) ++ [a7]) ++ [a8]) ++ [a9]) ++ [a10]) ++ [a11]) FF21 o (.inr (6, [.ref a1, .ref a2, .ref a3, .ref a4, .ref a5, .int 0, .ref a6, .ref a7, .ref a8, .ref a9, .ref a10, .null, .null, .null, .null, .null, .null, .int 0])) := by rw [hFF21]; exact (pt_push f_o ha11)
  have f_a11 : pt ((((((((((([o] ++ [a1]) ++ [a2]) ++ [a3]) ++ [a4]) ++ [a5]) ++ [a6]) ++ [a7]) ++ [a8]) ++ [a9]) ++ [a10]) ++ [a11]) FF21 a11 (eJ G 4 (fun _ => 0)) := by rw [hFF21]; exact pt_new
  refine h_putF hx hb hE.1 hw hts hinX6 tyX6 tyX6_ok nmX6 hown (ci := 6) rfl 11 (by decide) lk_41 (fun _ h9 => h9) rfl hin rfl f_o (ty := .array .long) (by decide +kernel) rfl rfl (Nat.le_of_ble_eq_true rfl) (fs2 := [.ref a1, .ref a2, .ref a3, .ref a4, .ref a5, .int 0, .ref a6, .ref a7, .ref a8, .ref a9, .ref a10, .ref a11, .null, .null, .null, .null, .null, .int 0]) rfl dX6_init_85 (fun H locs hw => ?_)
  obtain ⟨FF22, hFF22⟩ : ∃ Fx : FM, Fx = va_up FF21 o (.inr (6, [.ref a1, .ref a2, .ref a3, .ref a4, .ref a5, .int 0, .ref a6, .ref a7, .ref a8, .ref a9, .ref a10, .ref a11, .null, .null, .null, .null, .null, .int 0])) := ⟨_, rfl⟩
  rw [← hFF22] at hw
  have f_a1 : pt ((((((((((([o] ++ [a1]) ++ [a2]) ++ [a3]) ++ [a4]) ++ [a5]) ++ [a6]) ++ [a7]) ++ [a8]) ++ [a9]) ++ [a10]) ++ [a11]) FF22 a1 (eI G 6 (fun _ => 0)) := by rw [hFF22]; exact (pt_ne f_a1 (pt_ap f_a1 f_o (fun h9 => absurd (show (1061 : Nat) = 6 from congrArg tg h9) (by decide))))
  have f_a2 : pt ((((((((((([o] ++ [a1]) ++ [a2]) ++ [a3]) ++ [a4]) ++ [a5]) ++ [a6]) ++ [a7]) ++ [a8]) ++ [a9]) ++ [a10]) ++ [a11]) FF22 a2 (eI G 6 (fun _ => 0)) := by rw [hFF22]; exact (pt_ne f_a2 (pt_ap f_a2 f_o (fun h9 => absurd (show (1061 : Nat) = 6 from congrArg tg h9) (by decide))))
  have f_a3 : pt ((((((((((([o] ++ [a1]) ++ [a2]) ++ [a3]) ++ [a4]) ++ [a5]) ++ [a6]) ++ [a7]) ++ [a8]) ++ [a9]) ++ [a10]) ++ [a11]) FF22 a3 (eJ G 96 (fun _ => 0)) := by rw [hFF22]; exact (pt_ne f_a3 (pt_ap f_a3 f_o (fun h9 => absurd (show (1962 : Nat) = 6 from congrArg tg h9) (by decide))))
  have f_a4 : pt ((((((((((([o] ++ [a1]) ++ [a2]) ++ [a3]) ++ [a4]) ++ [a5]) ++ [a6]) ++ [a7]) ++ [a8]) ++ [a9]) ++ [a10]) ++ [a11]) FF22 a4 (eI G 64 (fun _ => 0)) := by rw [hFF22]; exact (pt_ne f_a4 (pt_ap f_a4 f_o (fun h9 => absurd (show (1641 : Nat) = 6 from congrArg tg h9) (by decide))))
  have f_a5 : pt ((((((((((([o] ++ [a1]) ++ [a2]) ++ [a3]) ++ [a4]) ++ [a5]) ++ [a6]) ++ [a7]) ++ [a8]) ++ [a9]) ++ [a10]) ++ [a11]) FF22 a5 (eI G 96 (fun _ => 0)) := by rw [hFF22]; exact (pt_ne f_a5 (pt_ap f_a5 f_o (fun h9 => absurd (show (1961 : Nat) = 6 from congrArg tg h9) (by decide))))
  have f_a6 : pt ((((((((((([o] ++ [a1]) ++ [a2]) ++ [a3]) ++ [a4]) ++ [a5]) ++ [a6]) ++ [a7]) ++ [a8]) ++ [a9]) ++ [a10]) ++ [a11]) FF22 a6 (eJ G 48 (fun _ => 0)) := by rw [hFF22]; exact (pt_ne f_a6 (pt_ap f_a6 f_o (fun h9 => absurd (show (1482 : Nat) = 6 from congrArg tg h9) (by decide))))
  have f_a7 : pt ((((((((((([o] ++ [a1]) ++ [a2]) ++ [a3]) ++ [a4]) ++ [a5]) ++ [a6]) ++ [a7]) ++ [a8]) ++ [a9]) ++ [a10]) ++ [a11]) FF22 a7 (eJ G 16 (fun _ => 0)) := by rw [hFF22]; exact (pt_ne f_a7 (pt_ap f_a7 f_o (fun h9 => absurd (show (1162 : Nat) = 6 from congrArg tg h9) (by decide))))
  have f_a8 : pt ((((((((((([o] ++ [a1]) ++ [a2]) ++ [a3]) ++ [a4]) ++ [a5]) ++ [a6]) ++ [a7]) ++ [a8]) ++ [a9]) ++ [a10]) ++ [a11]) FF22 a8 (eJ G 4 (fun _ => 0)) := by rw [hFF22]; exact (pt_ne f_a8 (pt_ap f_a8 f_o (fun h9 => absurd (show (1042 : Nat) = 6 from congrArg tg h9) (by decide))))
  have f_a9 : pt ((((((((((([o] ++ [a1]) ++ [a2]) ++ [a3]) ++ [a4]) ++ [a5]) ++ [a6]) ++ [a7]) ++ [a8]) ++ [a9]) ++ [a10]) ++ [a11]) FF22 a9 (eJ G 4 (fun _ => 0)) := by rw [hFF22]; exact (pt_ne f_a9 (pt_ap f_a9 f_o (fun h9 => absurd (show (1042 : Nat) = 6 from congrArg tg h9) (by decide))))
  have f_a10 : pt ((((((((((([o] ++ [a1]) ++ [a2]) ++ [a3]) ++ [a4]) ++ [a5]) ++ [a6]) ++ [a7]) ++ [a8]) ++ [a9]) ++ [a10]) ++ [a11]) FF22 a10 (eJ G 4 (fun _ => 0)) := by rw [hFF22]; exact (pt_ne f_a10 (pt_ap f_a10 f_o (fun h9 => absurd (show (1042 : Nat) = 6 from congrArg tg h9) (by decide))))
  have f_a11 : pt ((((((((((([o] ++ [a1]) ++ [a2]) ++ [a3]) ++ [a4]) ++ [a5]) ++ [a6]) ++ [a7]) ++ [a8]) ++ [a9]) ++ [a10]) ++ [a11]) FF22 a11 (eJ G 4 (fun _ => 0)) := by rw [hFF22]; exact (pt_ne f_a11 (pt_ap f_a11 f_o (fun h9 => absurd (show (1042 : Nat) = 6 from congrArg tg h9) (by decide))))
  have f_o : pt ((((((((((([o] ++ [a1]) ++ [a2]) ++ [a3]) ++ [a4]) ++ [a5]) ++ [a6]) ++ [a7]) ++ [a8]) ++ [a9]) ++ [a10]) ++ [a11]) FF22 o (.inr (6, [.ref a1, .ref a2, .ref a3, .ref a4, .ref a5, .int 0, .ref a6, .ref a7, .ref a8, .ref a9, .ref a10, .ref a11, .null, .null, .null, .null, .null, .int 0])) := by rw [hFF22]; exact (pt_up f_o)
  refine lv_aload_n hx hb dX6_init_88 rfl (lv_at hl 0 rfl) ?_
  refine lv_iconst (v := 4) hx hb dX6_init_89 (by decide) ?_
  refine h_newJ hx hb hE.1 hw hA (hts (.arrayClass .long) (by decide +kernel)) 4 rfl (by decide) (by first | decide | (show _ ≤ 16; omega)) (by first | decide | (show _ ≤ 368; omega)) dX6_init_90 (fun a12 H ha12 hw => ?_)
  obtain ⟨FF23, hFF23⟩ : ∃ Fx : FM, Fx = va_up FF22 a12 (eJ G 4 (fun _ => 0)) := ⟨_, rfl⟩
  rw [← hFF23] at hw
  have f_a1 : pt (((((((((((([o] ++ [a1]) ++ [a2]) ++ [a3]) ++ [a4]) ++ [a5]) ++ [a6]) ++ [a7]) ++ [a8]) ++ [a9]) ++ [a10]) ++ [a11]) ++ [a12]) FF23 a1 (eI G 6 (fun _ => 0)) := by rw [hFF23]; exact (pt_push f_a1 ha12)
  have f_a2 : pt (((((((((((([o] ++ [a1]) ++ [a2]) ++ [a3]) ++ [a4]) ++ [a5]) ++ [a6]) ++ [a7]) ++ [a8]) ++ [a9]) ++ [a10]) ++ [a11]) ++ [a12]) FF23 a2 (eI G 6 (fun _ => 0)) := by rw [hFF23]; exact (pt_push f_a2 ha12)
  have f_a3 : pt (((((((((((([o] ++ [a1]) ++ [a2]) ++ [a3]) ++ [a4]) ++ [a5]) ++ [a6]) ++ [a7]) ++ [a8]) ++ [a9]) ++ [a10]) ++ [a11]) ++ [a12]) FF23 a3 (eJ G 96 (fun _ => 0)) := by rw [hFF23]; exact (pt_push f_a3 ha12)
  have f_a4 : pt (((((((((((([o] ++ [a1]) ++ [a2]) ++ [a3]) ++ [a4]) ++ [a5]) ++ [a6]) ++ [a7]) ++ [a8]) ++ [a9]) ++ [a10]) ++ [a11]) ++ [a12]) FF23 a4 (eI G 64 (fun _ => 0)) := by rw [hFF23]; exact (pt_push f_a4 ha12)
  have f_a5 : pt (((((((((((([o] ++ [a1]) ++ [a2]) ++ [a3]) ++ [a4]) ++ [a5]) ++ [a6]) ++ [a7]) ++ [a8]) ++ [a9]) ++ [a10]) ++ [a11]) ++ [a12]) FF23 a5 (eI G 96 (fun _ => 0)) := by rw [hFF23]; exact (pt_push f_a5 ha12)
  have f_a6 : pt (((((((((((([o] ++ [a1]) ++ [a2]) ++ [a3]) ++ [a4]) ++ [a5]) ++ [a6]) ++ [a7]) ++ [a8]) ++ [a9]) ++ [a10]) ++ [a11]) ++ [a12]) FF23 a6 (eJ G 48 (fun _ => 0)) := by rw [hFF23]; exact (pt_push f_a6 ha12)
  have f_a7 : pt (((((((((((([o] ++ [a1]) ++ [a2]) ++ [a3]) ++ [a4]) ++ [a5]) ++ [a6]) ++ [a7]) ++ [a8]) ++ [a9]) ++ [a10]) ++ [a11]) ++ [a12]) FF23 a7 (eJ G 16 (fun _ => 0)) := by rw [hFF23]; exact (pt_push f_a7 ha12)
  have f_a8 : pt (((((((((((([o] ++ [a1]) ++ [a2]) ++ [a3]) ++ [a4]) ++ [a5]) ++ [a6]) ++ [a7]) ++ [a8]) ++ [a9]) ++ [a10]) ++ [a11]) ++ [a12]) FF23 a8 (eJ G 4 (fun _ => 0)) := by rw [hFF23]; exact (pt_push f_a8 ha12)
  have f_a9 : pt (((((((((((([o] ++ [a1]) ++ [a2]) ++ [a3]) ++ [a4]) ++ [a5]) ++ [a6]) ++ [a7]) ++ [a8]) ++ [a9]) ++ [a10]) ++ [a11]) ++ [a12]) FF23 a9 (eJ G 4 (fun _ => 0)) := by rw [hFF23]; exact (pt_push f_a9 ha12)
  have f_a10 : pt (((((((((((([o] ++ [a1]) ++ [a2]) ++ [a3]) ++ [a4]) ++ [a5]) ++ [a6]) ++ [a7]) ++ [a8]) ++ [a9]) ++ [a10]) ++ [a11]) ++ [a12]) FF23 a10 (eJ G 4 (fun _ => 0)) := by rw [hFF23]; exact (pt_push f_a10 ha12)
  have f_a11 : pt (((((((((((([o] ++ [a1]) ++ [a2]) ++ [a3]) ++ [a4]) ++ [a5]) ++ [a6]) ++ [a7]) ++ [a8]) ++ [a9]) ++ [a10]) ++ [a11]) ++ [a12]) FF23 a11 (eJ G 4 (fun _ => 0)) := by rw [hFF23]; exact (pt_push f_a11 ha12)
  have f_o : pt (((((((((((([o] ++ [a1]) ++ [a2]) ++ [a3]) ++ [a4]) ++ [a5]) ++ [a6]) ++ [a7]) ++ [a8]) ++ [a9]) ++ [a10]) ++ [a11]) ++ [a12]) FF23 o (.inr (6, [.ref a1, .ref a2, .ref a3, .ref a4, .ref a5, .int 0, .ref a6, .ref a7, .ref a8, .ref a9, .ref a10, .ref a11, .null, .null, .null, .null, .null, .int 0])) := by rw [hFF23]; exact (pt_push f_o ha12)
  have f_a12 : pt (((((((((((([o] ++ [a1]) ++ [a2]) ++ [a3]) ++ [a4]) ++ [a5]) ++ [a6]) ++ [a7]) ++ [a8]) ++ [a9]) ++ [a10]) ++ [a11]) ++ [a12]) FF23 a12 (eJ G 4 (fun _ => 0)) := by rw [hFF23]; exact pt_new
  refine h_putF hx hb hE.1 hw hts hinX6 tyX6 tyX6_ok nmX6 hown (ci := 6) rfl 12 (by decide) lk_44 (fun _ h9 => h9) rfl hin rfl f_o (ty := .array .long) (by decide +kernel) rfl rfl (Nat.le_of_ble_eq_true rfl) (fs2 := [.ref a1, .ref a2, .ref a3, .ref a4, .ref a5, .int 0, .ref a6, .ref a7, .ref a8, .ref a9, .ref a10, .ref a11, .ref a12, .null, .null, .null, .null, .int 0]) rfl dX6_init_92 (fun H locs hw => ?_)
  obtain ⟨FF24, hFF24⟩ : ∃ Fx : FM, Fx = va_up FF23 o (.inr (6, [.ref a1, .ref a2, .ref a3, .ref a4, .ref a5, .int 0, .ref a6, .ref a7, .ref a8, .ref a9, .ref a10, .ref a11, .ref a12, .null, .null, .null, .null, .int 0])) := ⟨_, rfl⟩
  rw [← hFF24] at hw
  have f_a1 : pt (((((((((((([o] ++ [a1]) ++ [a2]) ++ [a3]) ++ [a4]) ++ [a5]) ++ [a6]) ++ [a7]) ++ [a8]) ++ [a9]) ++ [a10]) ++ [a11]) ++ [a12]) FF24 a1 (eI G 6 (fun _ => 0)) := by rw [hFF24]; exact (pt_ne f_a1 (pt_ap f_a1 f_o (fun h9 => absurd (show (1061 : Nat) = 6 from congrArg tg h9) (by decide))))
  have f_a2 : pt (((((((((((([o] ++ [a1]) ++ [a2]) ++ [a3]) ++ [a4]) ++ [a5]) ++ [a6]) ++ [a7]) ++ [a8]) ++ [a9]) ++ [a10]) ++ [a11]) ++ [a12]) FF24 a2 (eI G 6 (fun _ => 0)) := by rw [hFF24]; exact (pt_ne f_a2 (pt_ap f_a2 f_o (fun h9 => absurd (show (1061 : Nat) = 6 from congrArg tg h9) (by decide))))
  have f_a3 : pt (((((((((((([o] ++ [a1]) ++ [a2]) ++ [a3]) ++ [a4]) ++ [a5]) ++ [a6]) ++ [a7]) ++ [a8]) ++ [a9]) ++ [a10]) ++ [a11]) ++ [a12]) FF24 a3 (eJ G 96 (fun _ => 0)) := by rw [hFF24]; exact (pt_ne f_a3 (pt_ap f_a3 f_o (fun h9 => absurd (show (1962 : Nat) = 6 from congrArg tg h9) (by decide))))
  have f_a4 : pt (((((((((((([o] ++ [a1]) ++ [a2]) ++ [a3]) ++ [a4]) ++ [a5]) ++ [a6]) ++ [a7]) ++ [a8]) ++ [a9]) ++ [a10]) ++ [a11]) ++ [a12]) FF24 a4 (eI G 64 (fun _ => 0)) := by rw [hFF24]; exact (pt_ne f_a4 (pt_ap f_a4 f_o (fun h9 => absurd (show (1641 : Nat) = 6 from congrArg tg h9) (by decide))))
  have f_a5 : pt (((((((((((([o] ++ [a1]) ++ [a2]) ++ [a3]) ++ [a4]) ++ [a5]) ++ [a6]) ++ [a7]) ++ [a8]) ++ [a9]) ++ [a10]) ++ [a11]) ++ [a12]) FF24 a5 (eI G 96 (fun _ => 0)) := by rw [hFF24]; exact (pt_ne f_a5 (pt_ap f_a5 f_o (fun h9 => absurd (show (1961 : Nat) = 6 from congrArg tg h9) (by decide))))
  have f_a6 : pt (((((((((((([o] ++ [a1]) ++ [a2]) ++ [a3]) ++ [a4]) ++ [a5]) ++ [a6]) ++ [a7]) ++ [a8]) ++ [a9]) ++ [a10]) ++ [a11]) ++ [a12]) FF24 a6 (eJ G 48 (fun _ => 0)) := by rw [hFF24]; exact (pt_ne f_a6 (pt_ap f_a6 f_o (fun h9 => absurd (show (1482 : Nat) = 6 from congrArg tg h9) (by decide))))
  have f_a7 : pt (((((((((((([o] ++ [a1]) ++ [a2]) ++ [a3]) ++ [a4]) ++ [a5]) ++ [a6]) ++ [a7]) ++ [a8]) ++ [a9]) ++ [a10]) ++ [a11]) ++ [a12]) FF24 a7 (eJ G 16 (fun _ => 0)) := by rw [hFF24]; exact (pt_ne f_a7 (pt_ap f_a7 f_o (fun h9 => absurd (show (1162 : Nat) = 6 from congrArg tg h9) (by decide))))
  have f_a8 : pt (((((((((((([o] ++ [a1]) ++ [a2]) ++ [a3]) ++ [a4]) ++ [a5]) ++ [a6]) ++ [a7]) ++ [a8]) ++ [a9]) ++ [a10]) ++ [a11]) ++ [a12]) FF24 a8 (eJ G 4 (fun _ => 0)) := by rw [hFF24]; exact (pt_ne f_a8 (pt_ap f_a8 f_o (fun h9 => absurd (show (1042 : Nat) = 6 from congrArg tg h9) (by decide))))
  have f_a9 : pt (((((((((((([o] ++ [a1]) ++ [a2]) ++ [a3]) ++ [a4]) ++ [a5]) ++ [a6]) ++ [a7]) ++ [a8]) ++ [a9]) ++ [a10]) ++ [a11]) ++ [a12]) FF24 a9 (eJ G 4 (fun _ => 0)) := by rw [hFF24]; exact (pt_ne f_a9 (pt_ap f_a9 f_o (fun h9 => absurd (show (1042 : Nat) = 6 from congrArg tg h9) (by decide))))
  have f_a10 : pt (((((((((((([o] ++ [a1]) ++ [a2]) ++ [a3]) ++ [a4]) ++ [a5]) ++ [a6]) ++ [a7]) ++ [a8]) ++ [a9]) ++ [a10]) ++ [a11]) ++ [a12]) FF24 a10 (eJ G 4 (fun _ => 0)) := by rw [hFF24]; exact (pt_ne f_a10 (pt_ap f_a10 f_o (fun h9 => absurd (show (1042 : Nat) = 6 from congrArg tg h9) (by decide))))
  have f_a11 : pt (((((((((((([o] ++ [a1]) ++ [a2]) ++ [a3]) ++ [a4]) ++ [a5]) ++ [a6]) ++ [a7]) ++ [a8]) ++ [a9]) ++ [a10]) ++ [a11]) ++ [a12]) FF24 a11 (eJ G 4 (fun _ => 0)) := by rw [hFF24]; exact (pt_ne f_a11 (pt_ap f_a11 f_o (fun h9 => absurd (show (1042 : Nat) = 6 from congrArg tg h9) (by decide))))
  have f_a12 : pt (((((((((((([o] ++ [a1]) ++ [a2]) ++ [a3]) ++ [a4]) ++ [a5]) ++ [a6]) ++ [a7]) ++ [a8]) ++ [a9]) ++ [a10]) ++ [a11]) ++ [a12]) FF24 a12 (eJ G 4 (fun _ => 0)) := by rw [hFF24]; exact (pt_ne f_a12 (pt_ap f_a12 f_o (fun h9 => absurd (show (1042 : Nat) = 6 from congrArg tg h9) (by decide))))
  have f_o : pt (((((((((((([o] ++ [a1]) ++ [a2]) ++ [a3]) ++ [a4]) ++ [a5]) ++ [a6]) ++ [a7]) ++ [a8]) ++ [a9]) ++ [a10]) ++ [a11]) ++ [a12]) FF24 o (.inr (6, [.ref a1, .ref a2, .ref a3, .ref a4, .ref a5, .int 0, .ref a6, .ref a7, .ref a8, .ref a9, .ref a10, .ref a11, .ref a12, .null, .null, .null, .null, .int 0])) := by rw [hFF24]; exact (pt_up f_o)
  refine lv_aload_n hx hb dX6_init_95 rfl (lv_at hl 0 rfl) ?_
  refine lv_iconst (v := 4) hx hb dX6_init_96 (by decide) ?_
  refine h_newJ hx hb hE.1 hw hA (hts (.arrayClass .long) (by decide +kernel)) 4 rfl (by decide) (by first | decide | (show _ ≤ 16; omega)) (by first | decide | (show _ ≤ 368; omega)) dX6_init_97 (fun a13 H ha13 hw => ?_)
  obtain ⟨FF25, hFF25⟩ : ∃ Fx : FM, Fx = va_up FF24 a13 (eJ G 4 (fun _ => 0)) := ⟨_, rfl⟩
  rw [← hFF25] at hw
  have f_a1 : pt ((((((((((((([o] ++ [a1]) ++ [a2]) ++ [a3]) ++ [a4]) ++ [a5]) ++ [a6]) ++ [a7]) ++ [a8]) ++ [a9]) ++ [a10]) ++ [a11]) ++ [a12]) ++ [a13]) FF25 a1 (eI G 6 (fun _ => 0)) := by rw [hFF25]; exact (pt_push f_a1 ha13)
  have f_a2 : pt ((((((((((((([o] ++ [a1]) ++ [a2]) ++ [a3]) ++ [a4]) ++ [a5]) ++ [a6]) ++ [a7]) ++ [a8]) ++ [a9]) ++ [a10]) ++ [a11]) ++ [a12]) ++ [a13]) FF25 a2 (eI G 6 (fun _ => 0)) := by rw [hFF25]; exact (pt_push f_a2 ha13)
  have f_a3 : pt ((((((((((((([o] ++ [a1]) ++ [a2]) ++ [a3]) ++ [a4]) ++ [a5]) ++ [a6]) ++ [a7]) ++ [a8]) ++ [a9]) ++ [a10]) ++ [a11]) ++ [a12]) ++ [a13]) FF25 a3 (eJ G 96 (fun _ => 0)) := by rw [hFF25]; exact (pt_push f_a3 ha13)
  have f_a4 : pt ((((((((((((([o] ++ [a1]) ++ [a2]) ++ [a3]) ++ [a4]) ++ [a5]) ++ [a6]) ++ [a7]) ++ [a8]) ++ [a9]) ++ [a10]) ++ [a11]) ++ [a12]) ++ [a13]) FF25 a4 (eI G 64 (fun _ => 0)) := by rw [hFF25]; exact (pt_push f_a4 ha13)
  have f_a5 : pt ((((((((((((([o] ++ [a1]) ++ [a2]) ++ [a3]) ++ [a4]) ++ [a5]) ++ [a6]) ++ [a7]) ++ [a8]) ++ [a9]) ++ [a10]) ++ [a11]) ++ [a12]) ++ [a13]) FF25 a5 (eI G 96 (fun _ => 0)) := by rw [hFF25]; exact (pt_push f_a5 ha13)
  have f_a6 : pt ((((((((((((([o] ++ [a1]) ++ [a2]) ++ [a3]) ++ [a4]) ++ [a5]) ++ [a6]) ++ [a7]) ++ [a8]) ++ [a9]) ++ [a10]) ++ [a11]) ++ [a12]) ++ [a13]) FF25 a6 (eJ G 48 (fun _ => 0)) := by rw [hFF25]; exact (pt_push f_a6 ha13)
  have f_a7 : pt ((((((((((((([o] ++ [a1]) ++ [a2]) ++ [a3]) ++ [a4]) ++ [a5]) ++ [a6]) ++ [a7]) ++ [a8]) ++ [a9]) ++ [a10]) ++ [a11]) ++ [a12]) ++ [a13]) FF25 a7 (eJ G 16 (fun _ => 0)) := by rw [hFF25]; exact (pt_push f_a7 ha13)
  have f_a8 : pt ((((((((((((([o] ++ [a1]) ++ [a2]) ++ [a3]) ++ [a4]) ++ [a5]) ++ [a6]) ++ [a7]) ++ [a8]) ++ [a9]) ++ [a10]) ++ [a11]) ++ [a12]) ++ [a13]) FF25 a8 (eJ G 4 (fun _ => 0)) := by rw [hFF25]; exact (pt_push f_a8 ha13)
  have f_a9 : pt ((((((((((((([o] ++ [a1]) ++ [a2]) ++ [a3]) ++ [a4]) ++ [a5]) ++ [a6]) ++ [a7]) ++ [a8]) ++ [a9]) ++ [a10]) ++ [a11]) ++ [a12]) ++ [a13]) FF25 a9 (eJ G 4 (fun _ => 0)) := by rw [hFF25]; exact (pt_push f_a9 ha13)
  have f_a10 : pt ((((((((((((([o] ++ [a1]) ++ [a2]) ++ [a3]) ++ [a4]) ++ [a5]) ++ [a6]) ++ [a7]) ++ [a8]) ++ [a9]) ++ [a10]) ++ [a11]) ++ [a12]) ++ [a13]) FF25 a10 (eJ G 4 (fun _ => 0)) := by rw [hFF25]; exact (pt_push f_a10 ha13)
  have f_a11 : pt ((((((((((((([o] ++ [a1]) ++ [a2]) ++ [a3]) ++ [a4]) ++ [a5]) ++ [a6]) ++ [a7]) ++ [a8]) ++ [a9]) ++ [a10]) ++ [a11]) ++ [a12]) ++ [a13]) FF25 a11 (eJ G 4 (fun _ => 0)) := by rw [hFF25]; exact (pt_push f_a11 ha13)
  have f_a12 : pt ((((((((((((([o] ++ [a1]) ++ [a2]) ++ [a3]) ++ [a4]) ++ [a5]) ++ [a6]) ++ [a7]) ++ [a8]) ++ [a9]) ++ [a10]) ++ [a11]) ++ [a12]) ++ [a13]) FF25 a12 (eJ G 4 (fun _ => 0)) := by rw [hFF25]; exact (pt_push f_a12 ha13)
  have f_o : pt ((((((((((((([o] ++ [a1]) ++ [a2]) ++ [a3]) ++ [a4]) ++ [a5]) ++ [a6]) ++ [a7]) ++ [a8]) ++ [a9]) ++ [a10]) ++ [a11]) ++ [a12]) ++ [a13]) FF25 o (.inr (6, [.ref a1, .ref a2, .ref a3, .ref a4, .ref a5, .int 0, .ref a6, .ref a7, .ref a8, .ref a9, .ref a10, .ref a11, .ref a12, .null, .null, .null, .null, .int 0])) := by rw [hFF25]; exact (pt_push f_o ha13)
  have f_a13 : pt ((((((((((((([o] ++ [a1]) ++ [a2]) ++ [a3]) ++ [a4]) ++ [a5]) ++ [a6]) ++ [a7]) ++ [a8]) ++ [a9]) ++ [a10]) ++ [a11]) ++ [a12]) ++ [a13]) FF25 a13 (eJ G 4 (fun _ => 0)) := by rw [hFF25]; exact pt_new
  refine h_putF hx hb hE.1 hw hts hinX6 tyX6 tyX6_ok nmX6 hown (ci := 6) rfl 13 (by decide) lk_47 (fun _ h9 => h9) rfl hin rfl f_o (ty := .array .long) (by decide +kernel) rfl rfl (Nat.le_of_ble_eq_true rfl) (fs2 := [.ref a1, .ref a2, .ref a3, .ref a4, .ref a5, .int 0, .ref a6, .ref a7, .ref a8, .ref a9, .ref a10, .ref a11, .ref a12, .ref a13, .null, .null, .null, .int 0]) rfl dX6_init_99 (fun H locs hw => ?_)
  obtain ⟨FF26, hFF26⟩ : ∃ Fx : FM, Fx = va_up FF25 o (.inr (6, [.ref a1, .ref a2, .ref a3, .ref a4, .ref a5, .int 0, .ref a6, .ref a7, .ref a8, .ref a9, .ref a10, .ref a11, .ref a12, .ref a13, .null, .null, .null, .int 0])) := ⟨_, rfl⟩
  rw [← hFF26] at hw
  have f_a1 : pt ((((((((((((([o] ++ [a1]) ++ [a2]) ++ [a3]) ++ [a4]) ++ [a5]) ++ [a6]) ++ [a7]) ++ [a8]) ++ [a9]) ++ [a10]) ++ [a11]) ++ [a12]) ++ [a13]) FF26 a1 (eI G 6 (fun _ => 0)) := by rw [hFF26]; exact (pt_ne f_a1 (pt_ap f_a1 f_o (fun h9 => absurd (show (1061 : Nat) = 6 from congrArg tg h9) (by decide))))
  have f_a2 : pt ((((((((((((([o] ++ [a1]) ++ [a2]) ++ [a3]) ++ [a4]) ++ [a5]) ++ [a6]) ++ [a7]) ++ [a8]) ++ [a9]) ++ [a10]) ++ [a11]) ++ [a12]) ++ [a13]) FF26 a2 (eI G 6 (fun _ => 0)) := by rw [hFF26]; exact (pt_ne f_a2 (pt_ap f_a2 f_o (fun h9 => absurd (show (1061 : Nat) = 6 from congrArg tg h9) (by decide))))
  have f_a3 : pt ((((((((((((([o] ++ [a1]) ++ [a2]) ++ [a3]) ++ [a4]) ++ [a5]) ++ [a6]) ++ [a7]) ++ [a8]) ++ [a9]) ++ [a10]) ++ [a11]) ++ [a12]) ++ [a13]) FF26 a3 (eJ G 96 (fun _ => 0)) := by rw [hFF26]; exact (pt_ne f_a3 (pt_ap f_a3 f_o (fun h9 => absurd (show (1962 : Nat) = 6 from congrArg tg h9) (by decide))))
  have f_a4 : pt ((((((((((((([o] ++ [a1]) ++ [a2]) ++ [a3]) ++ [a4]) ++ [a5]) ++ [a6]) ++ [a7]) ++ [a8]) ++ [a9]) ++ [a10]) ++ [a11]) ++ [a12]) ++ [a13]) FF26 a4 (eI G 64 (fun _ => 0)) := by rw [hFF26]; exact (pt_ne f_a4 (pt_ap f_a4 f_o (fun h9 => absurd (show (1641 : Nat) = 6 from congrArg tg h9) (by decide))))
  have f_a5 : pt ((((((((((((([o] ++ [a1]) ++ [a2]) ++ [a3]) ++ [a4]) ++ [a5]) ++ [a6]) ++ [a7]) ++ [a8]) ++ [a9]) ++ [a10]) ++ [a11]) ++ [a12]) ++ [a13]) FF26 a5 (eI G 96 (fun _ => 0)) := by rw [hFF26]; exact (pt_ne f_a5 (pt_ap f_a5 f_o (fun h9 => absurd (show (1961 : Nat) = 6 from congrArg tg h9) (by decide))))
  have f_a6 : pt ((((((((((((([o] ++ [a1]) ++ [a2]) ++ [a3]) ++ [a4]) ++ [a5]) ++ [a6]) ++ [a7]) ++ [a8]) ++ [a9]) ++ [a10]) ++ [a11]) ++ [a12]) ++ [a13]) FF26 a6 (eJ G 48 (fun _ => 0)) := by rw [hFF26]; exact (pt_ne f_a6 (pt_ap f_a6 f_o (fun h9 => absurd (show (1482 : Nat) = 6 from congrArg tg h9) (by decide))))
  have f_a7 : pt ((((((((((((([o] ++ [a1]) ++ [a2]) ++ [a3]) ++ [a4]) ++ [a5]) ++ [a6]) ++ [a7]) ++ [a8]) ++ [a9]) ++ [a10]) ++ [a11]) ++ [a12]) ++ [a13]) FF26 a7 (eJ G 16 (fun _ => 0)) := by rw [hFF26]; exact (pt_ne f_a7 (pt_ap f_a7 f_o (fun h9 => absurd (show (1162 : Nat) = 6 from congrArg tg h9) (by decide))))
  have f_a8 : pt ((((((((((((([o] ++ [a1]) ++ [a2]) ++ [a3]) ++ [a4]) ++ [a5]) ++ [a6]) ++ [a7]) ++ [a8]) ++ [a9]) ++ [a10]) ++ [a11]) ++ [a12]) ++ [a13]) FF26 a8 (eJ G 4 (fun _ => 0)) := by rw [hFF26]; exact (pt_ne f_a8 (pt_ap f_a8 f_o (fun h9 => absurd (show (1042 : Nat) = 6 from congrArg tg h9) (by decide))))
  have f_a9 : pt ((((((((((((([o] ++ [a1]) ++ [a2]) ++ [a3]) ++ [a4]) ++ [a5]) ++ [a6]) ++ [a7]) ++ [a8]) ++ [a9]) ++ [a10]) ++ [a11]) ++ [a12]) ++ [a13]) FF26 a9 (eJ G 4 (fun _ => 0)) := by rw [hFF26]; exact (pt_ne f_a9 (pt_ap f_a9 f_o (fun h9 => absurd (show (1042 : Nat) = 6 from congrArg tg h9) (by decide))))
  have f_a10 : pt ((((((((((((([o] ++ [a1]) ++ [a2]) ++ [a3]) ++ [a4]) ++ [a5]) ++ [a6]) ++ [a7]) ++ [a8]) ++ [a9]) ++ [a10]) ++ [a11]) ++ [a12]) ++ [a13]) FF26 a10 (eJ G 4 (fun _ => 0)) := by rw [hFF26]; exact (pt_ne f_a10 (pt_ap f_a10 f_o (fun h9 => absurd (show (1042 : Nat) = 6 from congrArg tg h9) (by decide))))
  have f_a11 : pt ((((((((((((([o] ++ [a1]) ++ [a2]) ++ [a3]) ++ [a4]) ++ [a5]) ++ [a6]) ++ [a7]) ++ [a8]) ++ [a9]) ++ [a10]) ++ [a11]) ++ [a12]) ++ [a13]) FF26 a11 (eJ G 4 (fun _ => 0)) := by rw [hFF26]; exact (pt_ne f_a11 (pt_ap f_a11 f_o (fun h9 => absurd (show (1042 : Nat) = 6 from congrArg tg h9) (by decide))))
  have f_a12 : pt ((((((((((((([o] ++ [a1]) ++ [a2]) ++ [a3]) ++ [a4]) ++ [a5]) ++ [a6]) ++ [a7]) ++ [a8]) ++ [a9]) ++ [a10]) ++ [a11]) ++ [a12]) ++ [a13]) FF26 a12 (eJ G 4 (fun _ => 0)) := by rw [hFF26]; exact (pt_ne f_a12 (pt_ap f_a12 f_o (fun h9 => absurd (show (1042 : Nat) = 6 from congrArg tg h9) (by decide))))
  have f_a13 : pt ((((((((((((([o] ++ [a1]) ++ [a2]) ++ [a3]) ++ [a4]) ++ [a5]) ++ [a6]) ++ [a7]) ++ [a8]) ++ [a9]) ++ [a10]) ++ [a11]) ++ [a12]) ++ [a13]) FF26 a13 (eJ G 4 (fun _ => 0)) := by rw [hFF26]; exact (pt_ne f_a13 (pt_ap f_a13 f_o (fun h9 => absurd (show (1042 : Nat) = 6 from congrArg tg h9) (by decide))))
  have f_o : pt ((((((((((((([o] ++ [a1]) ++ [a2]) ++ [a3]) ++ [a4]) ++ [a5]) ++ [a6]) ++ [a7]) ++ [a8]) ++ [a9]) ++ [a10]) ++ [a11]) ++ [a12]) ++ [a13]) FF26 o (.inr (6, [.ref a1, .ref a2, .ref a3, .ref a4, .ref a5, .int 0, .ref a6, .ref a7, .ref a8, .ref a9, .ref a10, .ref a11, .ref a12, .ref a13, .null, .null, .null, .int 0])) := by rw [hFF26]; exact (pt_up f_o)
  refine lv_aload_n hx hb dX6_init_102 rfl (lv_at hl 0 rfl) ?_
  refine lv_iconst (v := 4) hx hb dX6_init_103 (by decide) ?_
  refine h_newJ hx hb hE.1 hw hA (hts (.arrayClass .long) (by decide +kernel)) 4 rfl (by decide) (by first | decide | (show _ ≤ 16; omega)) (by first | decide | (show _ ≤ 368; omega)) dX6_init_104 (fun a14 H ha14 hw => ?_)
  obtain ⟨FF27, hFF27⟩ : ∃ Fx : FM, Fx = va_up FF26 a14 (eJ G 4 (fun _ => 0)) := ⟨_, rfl⟩
  rw [← hFF27] at hw
  have f_a1 : pt (((((((((((((([o] ++ [a1]) ++ [a2]) ++ [a3]) ++ [a4]) ++ [a5]) ++ [a6]) ++ [a7]) ++ [a8]) ++ [a9]) ++ [a10]) ++ [a11]) ++ [a12]) ++ [a13]) ++ [a14]) FF27 a1 (eI G 6 (fun _ => 0)) := by rw [hFF27]; exact (pt_push f_a1 ha14)
  have f_a2 : pt (((((((((((((([o] ++ [a1]) ++ [a2]) ++ [a3]) ++ [a4]) ++ [a5]) ++ [a6]) ++ [a7]) ++ [a8]) ++ [a9]) ++ [a10]) ++ [a11]) ++ [a12]) ++ [a13]) ++ [a14]) FF27 a2 (eI G 6 (fun _ => 0)) := by rw [hFF27]; exact (pt_push f_a2 ha14)
  have f_a3 : pt (((((((((((((([o] ++ [a1]) ++ [a2]) ++ [a3]) ++ [a4]) ++ [a5]) ++ [a6]) ++ [a7]) ++ [a8]) ++ [a9]) ++ [a10]) ++ [a11]) ++ [a12]) ++ [a13]) ++ [a14]) FF27 a3 (eJ G 96 (fun _ => 0)) := by rw [hFF27]; exact (pt_push f_a3 ha14)
  have f_a4 : pt (((((((((((((([o] ++ [a1]) ++ [a2]) ++ [a3]) ++ [a4]) ++ [a5]) ++ [a6]) ++ [a7]) ++ [a8]) ++ [a9]) ++ [a10]) ++ [a11]) ++ [a12]) ++ [a13]) ++ [a14]) FF27 a4 (eI G 64 (fun _ => 0)) := by rw [hFF27]; exact (pt_push f_a4 ha14)
  have f_a5 : pt (((((((((((((([o] ++ [a1]) ++ [a2]) ++ [a3]) ++ [a4]) ++ [a5]) ++ [a6]) ++ [a7]) ++ [a8]) ++ [a9]) ++ [a10]) ++ [a11]) ++ [a12]) ++ [a13]) ++ [a14]) FF27 a5 (eI G 96 (fun _ => 0)) := by rw [hFF27]; exact (pt_push f_a5 ha14)
  have f_a6 : pt (((((((((((((([o] ++ [a1]) ++ [a2]) ++ [a3]) ++ [a4]) ++ [a5]) ++ [a6]) ++ [a7]) ++ [a8]) ++ [a9]) ++ [a10]) ++ [a11]) ++ [a12]) ++ [a13]) ++ [a14]) FF27 a6 (eJ G 48 (fun _ => 0)) := by rw [hFF27]; exact (pt_push f_a6 ha14)
  have f_a7 : pt (((((((((((((([o] ++ [a1]) ++ [a2]) ++ [a3]) ++ [a4]) ++ [a5]) ++ [a6]) ++ [a7]) ++ [a8]) ++ [a9]) ++ [a10]) ++ [a11]) ++ [a12]) ++ [a13]) ++ [a14]) FF27 a7 (eJ G 16 (fun _ => 0)) := by rw [hFF27]; exact (pt_push f_a7 ha14)
  have f_a8 : pt (((((((((((((([o] ++ [a1]) ++ [a2]) ++ [a3]) ++ [a4]) ++ [a5]) ++ [a6]) ++ [a7]) ++ [a8]) ++ [a9]) ++ [a10]) ++ [a11]) ++ [a12]) ++ [a13]) ++ [a14]) FF27 a8 (eJ G 4 (fun _ => 0)) := by rw [hFF27]; exact (pt_push f_a8 ha14)
  have f_a9 : pt (((((((((((((([o] ++ [a1]) ++ [a2]) ++ [a3]) ++ [a4]) ++ [a5]) ++ [a6]) ++ [a7]) ++ [a8]) ++ [a9]) ++ [a10]) ++ [a11]) ++ [a12]) ++ [a13]) ++ [a14]) FF27 a9 (eJ G 4 (fun _ => 0)) := by rw [hFF27]; exact (pt_push f_a9 ha14)
  have f_a10 : pt (((((((((((((([o] ++ [a1]) ++ [a2]) ++ [a3]) ++ [a4]) ++ [a5]) ++ [a6]) ++ [a7]) ++ [a8]) ++ [a9]) ++ [a10]) ++ [a11]) ++ [a12]) ++ [a13]) ++ [a14]) FF27 a10 (eJ G 4 (fun _ => 0)) := by rw [hFF27]; exact (pt_push f_a10 ha14)
  have f_a11 : pt (((((((((((((([o] ++ [a1]) ++ [a2]) ++ [a3]) ++ [a4]) ++ [a5]) ++ [a6]) ++ [a7]) ++ [a8]) ++ [a9]) ++ [a10]) ++ [a11]) ++ [a12]) ++ [a13]) ++ [a14]) FF27 a11 (eJ G 4 (fun _ => 0)) := by rw [hFF27]; exact (pt_push f_a11 ha14)
  have f_a12 : pt (((((((((((((([o] ++ [a1]) ++ [a2]) ++ [a3]) ++ [a4]) ++ [a5]) ++ [a6]) ++ [a7]) ++ [a8]) ++ [a9]) ++ [a10]) ++ [a11]) ++ [a12]) ++ [a13]) ++ [a14]) FF27 a12 (eJ G 4 (fun _ => 0)) := by rw [hFF27]; exact (pt_push f_a12 ha14)
  have f_a13 : pt (((((((((((((([o] ++ [a1]) ++ [a2]) ++ [a3]) ++ [a4]) ++ [a5]) ++ [a6]) ++ [a7]) ++ [a8]) ++ [a9]) ++ [a10]) ++ [a11]) ++ [a12]) ++ [a13]) ++ [a14]) FF27 a13 (eJ G 4 (fun _ => 0)) := by rw [hFF27]; exact (pt_push f_a13 ha14)
  have f_o : pt (((((((((((((([o] ++ [a1]) ++ [a2]) ++ [a3]) ++ [a4]) ++ [a5]) ++ [a6]) ++ [a7]) ++ [a8]) ++ [a9]) ++ [a10]) ++ [a11]) ++ [a12]) ++ [a13]) ++ [a14]) FF27 o (.inr (6, [.ref a1, .ref a2, .ref a3, .ref a4, .ref a5, .int 0, .ref a6, .ref a7, .ref a8, .ref a9, .ref a10, .ref a11, .ref a12, .ref a13, .null, .null, .null, .int 0])) := by rw [hFF27]; exact (pt_push f_o ha14)
  have f_a14 : pt (((((((((((((([o] ++ [a1]) ++ [a2]) ++ [a3]) ++ [a4]) ++ [a5]) ++ [a6]) ++ [a7]) ++ [a8]) ++ [a9]) ++ [a10]) ++ [a11]) ++ [a12]) ++ [a13]) ++ [a14]) FF27 a14 (eJ G 4 (fun _ => 0)) := by rw [hFF27]; exact pt_new
  refine h_putF hx hb hE.1 hw hts hinX6 tyX6 tyX6_ok nmX6 hown (ci := 6) rfl 14 (by decide) lk_50 (fun _ h9 => h9) rfl hin rfl f_o (ty := .array .long) (by decide +kernel) rfl rfl (Nat.le_of_ble_eq_true rfl) (fs2 := [.ref a1, .ref a2, .ref a3, .ref a4, .ref a5, .int 0, .ref a6, .ref a7, .ref a8, .ref a9, .ref a10, .ref a11, .ref a12, .ref a13, .ref a14, .null, .null, .int 0]) rfl dX6_init_106 (fun H locs hw => ?_)
  obtain ⟨FF28, hFF28⟩ : ∃ Fx : FM, Fx = va_up FF27 o (.inr (6, [.ref a1, .ref a2, .ref a3, .ref a4, .ref a5, .int 0, .ref a6, .ref a7, .ref a8, .ref a9, .ref a10, .ref a11, .ref a12, .ref a13, .ref a14, .null, .null, .int 0])) := ⟨_, rfl⟩
  rw [← hFF28] at hw
  have f_a1 : pt (((((((((((((([o] ++ [a1]) ++ [a2]) ++ [a3]) ++ [a4]) ++ [a5]) ++ [a6]) ++ [a7]) ++ [a8]) ++ [a9]) ++ [a10]) ++ [a11]) ++ [a12]) ++ [a13]) ++ [a14]) FF28 a1 (eI G 6 (fun _ => 0)) := by rw [hFF28]; exact (pt_ne f_a1 (pt_ap f_a1 f_o (fun h9 => absurd (show (1061 : Nat) = 6 from congrArg tg h9) (by decide))))
  have f_a2 : pt (((((((((((((([o] ++ [a1]) ++ [a2]) ++ [a3]) ++ [a4]) ++ [a5]) ++ [a6]) ++ [a7]) ++ [a8]) ++ [a9]) ++ [a10]) ++ [a11]) ++ [a12]) ++ [a13]) ++ [a14]) FF28 a2 (eI G 6 (fun _ => 0)) := by rw [hFF28]; exact (pt_ne f_a2 (pt_ap f_a2 f_o (fun h9 => absurd (show (1061 : Nat) = 6 from congrArg tg h9) (by decide))))
  have f_a3 : pt (((((((((((((([o] ++ [a1]) ++ [a2]) ++ [a3]) ++ [a4]) ++ [a5]) ++ [a6]) ++ [a7]) ++ [a8]) ++ [a9]) ++ [a10]) ++ [a11]) ++ [a12]) ++ [a13]) ++ [a14]) FF28 a3 (eJ G 96 (fun _ => 0)) := by rw [hFF28]; exact (pt_ne f_a3 (pt_ap f_a3 f_o (fun h9 => absurd (show (1962 : Nat) = 6 from congrArg tg h9) (by decide))))
  have f_a4 : pt (((((((((((((([o] ++ [a1]) ++ [a2]) ++ [a3]) ++ [a4]) ++ [a5]) ++ [a6]) ++ [a7]) ++ [a8]) ++ [a9]) ++ [a10]) ++ [a11]) ++ [a12]) ++ [a13]) ++ [a14]) FF28 a4 (eI G 64 (fun _ => 0)) := by rw [hFF28]; exact (pt_ne f_a4 (pt_ap f_a4 f_o (fun h9 => absurd (show (1641 : Nat) = 6 from congrArg tg h9) (by decide))))
  have f_a5 : pt (((((((((((((([o] ++ [a1]) ++ [a2]) ++ [a3]) ++ [a4]) ++ [a5]) ++ [a6]) ++ [a7]) ++ [a8]) ++ [a9]) ++ [a10]) ++ [a11]) ++ [a12]) ++ [a13]) ++ [a14]) FF28 a5 (eI G 96 (fun _ => 0)) := by rw [hFF28]; exact (pt_ne f_a5 (pt_ap f_a5 f_o (fun h9 => absurd (show (1961 : Nat) = 6 from congrArg tg h9) (by decide))))
  have f_a6 : pt (((((((((((((([o] ++ [a1]) ++ [a2]) ++ [a3]) ++ [a4]) ++ [a5]) ++ [a6]) ++ [a7]) ++ [a8]) ++ [a9]) ++ [a10]) ++ [a11]) ++ [a12]) ++ [a13]) ++ [a14]) FF28 a6 (eJ G 48 (fun _ => 0)) := by rw [hFF28]; exact (pt_ne f_a6 (pt_ap f_a6 f_o (fun h9 => absurd (show (1482 : Nat) = 6 from congrArg tg h9) (by decide))))
  have f_a7 : pt (((((((((((((([o] ++ [a1]) ++ [a2]) ++ [a3]) ++ [a4]) ++ [a5]) ++ [a6]) ++ [a7]) ++ [a8]) ++ [a9]) ++ [a10]) ++ [a11]) ++ [a12]) ++ [a13]) ++ [a14]) FF28 a7 (eJ G 16 (fun _ => 0)) := by rw [hFF28]; exact (pt_ne f_a7 (pt_ap f_a7 f_o (fun h9 => absurd (show (1162 : Nat) = 6 from congrArg tg h9) (by decide))))
  have f_a8 : pt (((((((((((((([o] ++ [a1]) ++ [a2]) ++ [a3]) ++ [a4]) ++ [a5]) ++ [a6]) ++ [a7]) ++ [a8]) ++ [a9]) ++ [a10]) ++ [a11]) ++ [a12]) ++ [a13]) ++ [a14]) FF28 a8 (eJ G 4 (fun _ => 0)) := by rw [hFF28]; exact (pt_ne f_a8 (pt_ap f_a8 f_o (fun h9 => absurd (show (1042 : Nat) = 6 from congrArg tg h9) (by decide))))
  have f_a9 : pt (((((((((((((([o] ++ [a1]) ++ [a2]) ++ [a3]) ++ [a4]) ++ [a5]) ++ [a6]) ++ [a7]) ++ [a8]) ++ [a9]) ++ [a10]) ++ [a11]) ++ [a12]) ++ [a13]) ++ [a14]) FF28 a9 (eJ G 4 (fun _ => 0)) := by rw [hFF28]; exact (pt_ne f_a9 (pt_ap f_a9 f_o (fun h9 => absurd (show (1042 : Nat) = 6 from congrArg tg h9) (by decide))))
  have f_a10 : pt (((((((((((((([o] ++ [a1]) ++ [a2]) ++ [a3]) ++ [a4]) ++ [a5]) ++ [a6]) ++ [a7]) ++ [a8]) ++ [a9]) ++ [a10]) ++ [a11]) ++ [a12]) ++ [a13]) ++ [a14]) FF28 a10 (eJ G 4 (fun _ => 0)) := by rw [hFF28]; exact (pt_ne f_a10 (pt_ap f_a10 f_o (fun h9 => absurd (show (1042 : Nat) = 6 from congrArg tg h9) (by decide))))
  have f_a11 : pt (((((((((((((([o] ++ [a1]) ++ [a2]) ++ [a3]) ++ [a4]) ++ [a5]) ++ [a6]) ++ [a7]) ++ [a8]) ++ [a9]) ++ [a10]) ++ [a11]) ++ [a12]) ++ [a13]) ++ [a14]) FF28 a11 (eJ G 4 (fun _ => 0)) := by rw [hFF28]; exact (pt_ne f_a11 (pt_ap f_a11 f_o (fun h9 => absurd (show (1042 : Nat) = 6 from congrArg tg h9) (by decide))))
  have f_a12 : pt (((((((((((((([o] ++ [a1]) ++ [a2]) ++ [a3]) ++ [a4]) ++ [a5]) ++ [a6]) ++ [a7]) ++ [a8]) ++ [a9]) ++ [a10]) ++ [a11]) ++ [a12]) ++ [a13]) ++ [a14]) FF28 a12 (eJ G 4 (fun _ => 0)) := by rw [hFF28]; exact (pt_ne f_a12 (pt_ap f_a12 f_o (fun h9 => absurd (show (1042 : Nat) = 6 from congrArg tg h9) (by decide))))
  have f_a13 : pt (((((((((((((([o] ++ [a1]) ++ [a2]) ++ [a3]) ++ [a4]) ++ [a5]) ++ [a6]) ++ [a7]) ++ [a8]) ++ [a9]) ++ [a10]) ++ [a11]) ++ [a12]) ++ [a13]) ++ [a14]) FF28 a13 (eJ G 4 (fun _ => 0)) := by rw [hFF28]; exact (pt_ne f_a13 (pt_ap f_a13 f_o (fun h9 => absurd (show (1042 : Nat) = 6 from congrArg tg h9) (by decide))))
  have f_a14 : pt (((((((((((((([o] ++ [a1]) ++ [a2]) ++ [a3]) ++ [a4]) ++ [a5]) ++ [a6]) ++ [a7]) ++ [a8]) ++ [a9]) ++ [a10]) ++ [a11]) ++ [a12]) ++ [a13]) ++ [a14]) FF28 a14 (eJ G 4 (fun _ => 0)) := by rw [hFF28]; exact (pt_ne f_a14 (pt_ap f_a14 f_o (fun h9 => absurd (show (1042 : Nat) = 6 from congrArg tg h9) (by decide))))
  have f_o : pt (((((((((((((([o] ++ [a1]) ++ [a2]) ++ [a3]) ++ [a4]) ++ [a5]) ++ [a6]) ++ [a7]) ++ [a8]) ++ [a9]) ++ [a10]) ++ [a11]) ++ [a12]) ++ [a13]) ++ [a14]) FF28 o (.inr (6, [.ref a1, .ref a2, .ref a3, .ref a4, .ref a5, .int 0, .ref a6, .ref a7, .ref a8, .ref a9, .ref a10, .ref a11, .ref a12, .ref a13, .ref a14, .null, .null, .int 0])) := by rw [hFF28]; exact (pt_up f_o)
  refine lv_aload_n hx hb dX6_init_109 rfl (lv_at hl 0 rfl) ?_
  refine lv_iconst (v := 4) hx hb dX6_init_110 (by decide) ?_
  refine h_newJ hx hb hE.1 hw hA (hts (.arrayClass .long) (by decide +kernel)) 4 rfl (by decide) (by first | decide | (show _ ≤ 16; omega)) (by first | decide | (show _ ≤ 368; omega)) dX6_init_111 (fun a15 H ha15 hw => ?_)
  obtain ⟨FF29, hFF29⟩ : ∃ Fx : FM, Fx = va_up FF28 a15 (eJ G 4 (fun _ => 0)) := ⟨_, rfl⟩
  rw [← hFF29] at hw
  have f_a1 : pt ((((((((((((((([o] ++ [a1]) ++ [a2]) ++ [a3]) ++ [a4]) ++ [a5]) ++ [a6]) ++ [a7]) ++ [a8]) ++ [a9]) ++ [a10]) ++ [a11]) ++ [a12]) ++ [a13]) ++ [a14]) ++ [a15]) FF29 a1 (eI G 6 (fun _ => 0)) := by rw [hFF29]; exact (pt_push f_a1 ha15)
  have f_a2 : pt ((((((((((((((([o] ++ [a1]) ++ [a2]) ++ [a3]) ++ [a4]) ++ [a5]) ++ [a6]) ++ [a7]) ++ [a8]) ++ [a9]) ++ [a10]) ++ [a11]) ++ [a12]) ++ [a13]) ++ [a14]) ++ [a15]) FF29 a2 (eI G 6 (fun _ => 0)) := by rw [hFF29]; exact (pt_push f_a2 ha15)
  have f_a3 : pt ((((((((((((((([o] ++ [a1]) ++ [a2]) ++ [a3]) ++ [a4]) ++ [a5]) ++ [a6]) ++ [a7]) ++ [a8]) ++ [a9]) ++ [a10]) ++ [a11]) ++ [a12]) ++ [a13]) ++ [a14]) ++ [a15]) FF29 a3 (eJ G 96 (fun _ => 0)) := by rw [hFF29]; exact (pt_push f_a3 ha15)
  have f_a4 : pt ((((((((((((((([o] ++ [a1]) ++ [a2]) ++ [a3]) ++ [a4]) ++ [a5]) ++ [a6]) ++ [a7]) ++ [a8]) ++ [a9]) ++ [a10]) ++ [a11]) ++ [a12]) ++ [a13]) ++ [a14]) ++ [a15]) FF29 a4 (eI G 64 (fun _ => 0)) := by rw [hFF29]; exact (pt_push f_a4 ha15)
  have f_a5 : pt ((((((((((((((([o] ++ [a1]) ++ [a2]) ++ [a3]) ++ [a4]) ++ [a5]) ++ [a6]) ++ [a7]) ++ [a8]) ++ [a9]) ++ [a10]) ++ [a11]) ++ [a12]) ++ [a13]) ++ [a14]) ++ [a15]) FF29 a5 (eI G 96 (fun _ => 0)) := by rw [hFF29]; exact (pt_push f_a5 ha15)
  have f_a6 : pt ((((((((((((((([o] ++ [a1]) ++ [a2]) ++ [a3]) ++ [a4]) ++ [a5]) ++ [a6]) ++ [a7]) ++ [a8]) ++ [a9]) ++ [a10]) ++ [a11]) ++ [a12]) ++ [a13]) ++ [a14]) ++ [a15]) FF29 a6 (eJ G 48 (fun _ => 0)) := by rw [hFF29]; exact (pt_push f_a6 ha15)
  have f_a7 : pt ((((((((((((((([o] ++ [a1]) ++ [a2]) ++ [a3]) ++ [a4]) ++ [a5]) ++ [a6]) ++ [a7]) ++ [a8]) ++ [a9]) ++ [a10]) ++ [a11]) ++ [a12]) ++ [a13]) ++ [a14]) ++ [a15]) FF29 a7 (eJ G 16 (fun _ => 0)) := by rw [hFF29]; exact (pt_push f_a7 ha15)
  have f_a8 : pt ((((((((((((((([o] ++ [a1]) ++ [a2]) ++ [a3]) ++ [a4]) ++ [a5]) ++ [a6]) ++ [a7]) ++ [a8]) ++ [a9]) ++ [a10]) ++ [a11]) ++ [a12]) ++ [a13]) ++ [a14]) ++ [a15]) FF29 a8 (eJ G 4 (fun _ => 0)) := by rw [hFF29]; exact (pt_push f_a8 ha15)
  have f_a9 : pt ((((((((((((((([o] ++ [a1]) ++ [a2]) ++ [a3]) ++ [a4]) ++ [a5]) ++ [a6]) ++ [a7]) ++ [a8]) ++ [a9]) ++ [a10]) ++ [a11]) ++ [a12]) ++ [a13]) ++ [a14]) ++ [a15]) FF29 a9 (eJ G 4 (fun _ => 0)) := by rw [hFF29]; exact (pt_push f_a9 ha15)
  have f_a10 : pt ((((((((((((((([o] ++ [a1]) ++ [a2]) ++ [a3]) ++ [a4]) ++ [a5]) ++ [a6]) ++ [a7]) ++ [a8]) ++ [a9]) ++ [a10]) ++ [a11]) ++ [a12]) ++ [a13]) ++ [a14]) ++ [a15]) FF29 a10 (eJ G 4 (fun _ => 0)) := by rw [hFF29]; exact (pt_push f_a10 ha15)
  have f_a11 : pt ((((((((((((((([o] ++ [a1]) ++ [a2]) ++ [a3]) ++ [a4]) ++ [a5]) ++ [a6]) ++ [a7]) ++ [a8]) ++ [a9]) ++ [a10]) ++ [a11]) ++ [a12]) ++ [a13]) ++ [a14]) ++ [a15]) FF29 a11 (eJ G 4 (fun _ => 0)) := by rw [hFF29]; exact (pt_push f_a11 ha15)
  have f_a12 : pt ((((((((((((((([o] ++ [a1]) ++ [a2]) ++ [a3]) ++ [a4]) ++ [a5]) ++ [a6]) ++ [a7]) ++ [a8]) ++ [a9]) ++ [a10]) ++ [a11]) ++ [a12]) ++ [a13]) ++ [a14]) ++ [a15]) FF29 a12 (eJ G 4 (fun _ => 0)) := by rw [hFF29]; exact (pt_push f_a12 ha15)
  have f_a13 : pt ((((((((((((((([o] ++ [a1]) ++ [a2]) ++ [a3]) ++ [a4]) ++ [a5]) ++ [a6]) ++ [a7]) ++ [a8]) ++ [a9]) ++ [a10]) ++ [a11]) ++ [a12]) ++ [a13]) ++ [a14]) ++ [a15]) FF29 a13 (eJ G 4 (fun _ => 0)) := by rw [hFF29]; exact (pt_push f_a13 ha15)
  have f_a14 : pt ((((((((((((((([o] ++ [a1]) ++ [a2]) ++ [a3]) ++ [a4]) ++ [a5]) ++ [a6]) ++ [a7]) ++ [a8]) ++ [a9]) ++ [a10]) ++ [a11]) ++ [a12]) ++ [a13]) ++ [a14]) ++ [a15]) FF29 a14 (eJ G 4 (fun _ => 0)) := by rw [hFF29]; exact (pt_push f_a14 ha15)
  have f_o : pt ((((((((((((((([o] ++ [a1]) ++ [a2]) ++ [a3]) ++ [a4]) ++ [a5]) ++ [a6]) ++ [a7]) ++ [a8]) ++ [a9]) ++ [a10]) ++ [a11]) ++ [a12]) ++ [a13]) ++ [a14]) ++ [a15]) FF29 o (.inr (6, [.ref a1, .ref a2, .ref a3, .ref a4, .ref a5, .int 0, .ref a6, .ref a7, .ref a8, .ref a9, .ref a10, .ref a11, .ref a12, .ref a13, .ref a14, .null, .null, .int 0])) := by rw [hFF29]; exact (pt_push f_o ha15)
  have f_a15 : pt ((((((((((((((([o] ++ [a1]) ++ [a2]) ++ [a3]) ++ [a4]) ++ [a5]) ++ [a6]) ++ [a7]) ++ [a8]) ++ [a9]) ++ [a10]) ++ [a11]) ++ [a12]) ++ [a13]) ++ [a14]) ++ [a15]) FF29 a15 (eJ G 4 (fun _ => 0)) := by rw [hFF29]; exact pt_new
  refine h_putF hx hb hE.1 hw hts hinX6 tyX6 tyX6_ok nmX6 hown (ci := 6) rfl 15 (by decide) lk_53 (fun _ h9 => h9) rfl hin rfl f_o (ty := .array .long) (by decide +kernel) rfl rfl (Nat.le_of_ble_eq_true rfl) (fs2 := [.ref a1, .ref a2, .ref a3, .ref a4, .ref a5, .int 0, .ref a6, .ref a7, .ref a8, .ref a9, .ref a10, .ref a11, .ref a12, .ref a13, .ref a14, .ref a15, .null, .int 0]) rfl dX6_init_113 (fun H locs hw => ?_)
  obtain ⟨FF30, hFF30⟩ : ∃ Fx : FM, Fx = va_up FF29 o (.inr (6, [.ref a1, .ref a2, .ref a3, .ref a4, .ref a5, .int 0, .ref a6, .ref a7, .ref a8, .ref a9, .ref a10, .ref a11, .ref a12, .ref a13, .ref a14, .ref a15, .null, .int 0])) := ⟨_, rfl⟩
  rw [← hFF30] at hw
  have f_a1 : pt ((((((((((((((([o] ++ [a1]) ++ [a2]) ++ [a3]) ++ [a4]) ++ [a5]) ++ [a6]) ++ [a7]) ++ [a8]) ++ [a9]) ++ [a10]) ++ [a11]) ++ [a12]) ++ [a13]) ++ [a14]) ++ [a15]) FF30 a1 (eI G 6 (fun _ => 0)) := by rw [hFF30]; exact (pt_ne f_a1 (pt_ap f_a1 f_o (fun h9 => absurd (show (1061 : Nat) = 6 from congrArg tg h9) (by decide))))
  have f_a2 : pt ((((((((((((((([o] ++ [a1]) ++ [a2]) ++ [a3]) ++ [a4]) ++ [a5]) ++ [a6]) ++ [a7]) ++ [a8]) ++ [a9]) ++ [a10]) ++ [a11]) ++ [a12]) ++ [a13]) ++ [a14]) ++ [a15]) FF30 a2 (eI G 6 (fun _ => 0)) := by rw [hFF30]; exact (pt_ne f_a2 (pt_ap f_a2 f_o (fun h9 => absurd (show (1061 : Nat) = 6 from congrArg tg h9) (by decide))))
  have f_a3 : pt ((((((((((((((([o] ++ [a1]) ++ [a2]) ++ [a3]) ++ [a4]) ++ [a5]) ++ [a6]) ++ [a7]) ++ [a8]) ++ [a9]) ++ [a10]) ++ [a11]) ++ [a12]) ++ [a13]) ++ [a14]) ++ [a15]) FF30 a3 (eJ G 96 (fun _ => 0)) := by rw [hFF30]; exact (pt_ne f_a3 (pt_ap f_a3 f_o (fun h9 => absurd (show (1962 : Nat) = 6 from congrArg tg h9) (by decide))))
  have f_a4 : pt ((((((((((((((([o] ++ [a1]) ++ [a2]) ++ [a3]) ++ [a4]) ++ [a5]) ++ [a6]) ++ [a7]) ++ [a8]) ++ [a9]) ++ [a10]) ++ [a11]) ++ [a12]) ++ [a13]) ++ [a14]) ++ [a15]) FF30 a4 (eI G 64 (fun _ => 0)) := by rw [hFF30]; exact (pt_ne f_a4 (pt_ap f_a4 f_o (fun h9 => absurd (show (1641 : Nat) = 6 from congrArg tg h9) (by decide))))
  have f_a5 : pt ((((((((((((((([o] ++ [a1]) ++ [a2]) ++ [a3]) ++ [a4]) ++ [a5]) ++ [a6]) ++ [a7]) ++ [a8]) ++ [a9]) ++ [a10]) ++ [a11]) ++ [a12]) ++ [a13]) ++ [a14]) ++ [a15]) FF30 a5 (eI G 96 (fun _ => 0)) := by rw [hFF30]; exact (pt_ne f_a5 (pt_ap f_a5 f_o (fun h9 => absurd (show (1961 : Nat) = 6 from congrArg tg h9) (by decide))))
  have f_a6 : pt ((((((((((((((([o] ++ [a1]) ++ [a2]) ++ [a3]) ++ [a4]) ++ [a5]) ++ [a6]) ++ [a7]) ++ [a8]) ++ [a9]) ++ [a10]) ++ [a11]) ++ [a12]) ++ [a13]) ++ [a14]) ++ [a15]) FF30 a6 (eJ G 48 (fun _ => 0)) := by rw [hFF30]; exact (pt_ne f_a6 (pt_ap f_a6 f_o (fun h9 => absurd (show (1482 : Nat) = 6 from congrArg tg h9) (by decide))))
  have f_a7 : pt ((((((((((((((([o] ++ [a1]) ++ [a2]) ++ [a3]) ++ [a4]) ++ [a5]) ++ [a6]) ++ [a7]) ++ [a8]) ++ [a9]) ++ [a10]) ++ [a11]) ++ [a12]) ++ [a13]) ++ [a14]) ++ [a15]) FF30 a7 (eJ G 16 (fun _ => 0)) := by rw [hFF30]; exact (pt_ne f_a7 (pt_ap f_a7 f_o (fun h9 => absurd (show (1162 : Nat) = 6 from congrArg tg h9) (by decide))))
  have f_a8 : pt ((((((((((((((([o] ++ [a1]) ++ [a2]) ++ [a3]) ++ [a4]) ++ [a5]) ++ [a6]) ++ [a7]) ++ [a8]) ++ [a9]) ++ [a10]) ++ [a11]) ++ [a12]) ++ [a13]) ++ [a14]) ++ [a15]) FF30 a8 (eJ G 4 (fun _ => 0)) := by rw [hFF30]; exact (pt_ne f_a8 (pt_ap f_a8 f_o (fun h9 => absurd (show (1042 : Nat) = 6 from congrArg tg h9) (by decide))))
  have f_a9 : pt ((((((((((((((([o] ++ [a1]) ++ [a2]) ++ [a3]) ++ [a4]) ++ [a5]) ++ [a6]) ++ [a7]) ++ [a8]) ++ [a9]) ++ [a10]) ++ [a11]) ++ [a12]) ++ [a13]) ++ [a14]) ++ [a15]) FF30 a9 (eJ G 4 (fun _ => 0)) := by rw [hFF30]; exact (pt_ne f_a9 (pt_ap f_a9 f_o (fun h9 => absurd (show (1042 : Nat) = 6 from congrArg tg h9) (by decide))))
  have f_a10 : pt ((((((((((((((([o] ++ [a1]) ++ [a2]) ++ [a3]) ++ [a4]) ++ [a5]) ++ [a6]) ++ [a7]) ++ [a8]) ++ [a9]) ++ [a10]) ++ [a11]) ++ [a12]) ++ [a13]) ++ [a14]) ++ [a15]) FF30 a10 (eJ G 4 (fun _ => 0)) := by rw [hFF30]; exact (pt_ne f_a10 (pt_ap f_a10 f_o (fun h9 => absurd (show (1042 : Nat) = 6 from congrArg tg h9) (by decide))))
  have f_a11 : pt ((((((((((((((([o] ++ [a1]) ++ [a2]) ++ [a3]) ++ [a4]) ++ [a5]) ++ [a6]) ++ [a7]) ++ [a8]) ++ [a9]) ++ [a10]) ++ [a11]) ++ [a12]) ++ [a13]) ++ [a14]) ++ [a15]) FF30 a11 (eJ G 4 (fun _ => 0)) := by rw [hFF30]; exact (pt_ne f_a11 (pt_ap f_a11 f_o (fun h9 => absurd (show (1042 : Nat) = 6 from congrArg tg h9) (by decide))))
  have f_a12 : pt ((((((((((((((([o] ++ [a1]) ++ [a2]) ++ [a3]) ++ [a4]) ++ [a5]) ++ [a6]) ++ [a7]) ++ [a8]) ++ [a9]) ++ [a10]) ++ [a11]) ++ [a12]) ++ [a13]) ++ [a14]) ++ [a15]) FF30 a12 (eJ G 4 (fun _ => 0)) := by rw [hFF30]; exact (pt_ne f_a12 (pt_ap f_a12 f_o (fun h9 => absurd (show (1042 : Nat) = 6 from congrArg tg h9) (by decide))))
  have f_a13 : pt ((((((((((((((([o] ++ [a1]) ++ [a2]) ++ [a3]) ++ [a4]) ++ [a5]) ++ [a6]) ++ [a7]) ++ [a8]) ++ [a9]) ++ [a10]) ++ [a11]) ++ [a12]) ++ [a13]) ++ [a14]) ++ [a15]) FF30 a13 (eJ G 4 (fun _ => 0)) := by rw [hFF30]; exact (pt_ne f_a13 (pt_ap f_a13 f_o (fun h9 => absurd (show (1042 : Nat) = 6 from congrArg tg h9) (by decide))))
  have f_a14 : pt ((((((((((((((([o] ++ [a1]) ++ [a2]) ++ [a3]) ++ [a4]) ++ [a5]) ++ [a6]) ++ [a7]) ++ [a8]) ++ [a9]) ++ [a10]) ++ [a11]) ++ [a12]) ++ [a13]) ++ [a14]) ++ [a15]) FF30 a14 (eJ G 4 (fun _ => 0)) := by rw [hFF30]; exact (pt_ne f_a14 (pt_ap f_a14 f_o (fun h9 => absurd (show (1042 : Nat) = 6 from congrArg tg h9) (by decide))))
  have f_a15 : pt ((((((((((((((([o] ++ [a1]) ++ [a2]) ++ [a3]) ++ [a4]) ++ [a5]) ++ [a6]) ++ [a7]) ++ [a8]) ++ [a9]) ++ [a10]) ++ [a11]) ++ [a12]) ++ [a13]) ++ [a14]) ++ [a15]) FF30 a15 (eJ G 4 (fun _ => 0)) := by rw [hFF30]; exact (pt_ne f_a15 (pt_ap f_a15 f_o (fun h9 => absurd (show (1042 : Nat) = 6 from congrArg tg h9) (by decide))))
  have f_o : pt ((((((((((((((([o] ++ [a1]) ++ [a2]) ++ [a3]) ++ [a4]) ++ [a5]) ++ [a6]) ++ [a7]) ++ [a8]) ++ [a9]) ++ [a10]) ++ [a11]) ++ [a12]) ++ [a13]) ++ [a14]) ++ [a15]) FF30 o (.inr (6, [.ref a1, .ref a2, .ref a3, .ref a4, .ref a5, .int 0, .ref a6, .ref a7, .ref a8, .ref a9, .ref a10, .ref a11, .ref a12, .ref a13, .ref a14, .ref a15, .null, .int 0])) := by rw [hFF30]; exact (pt_up f_o)
  refine lv_aload_n hx hb dX6_init_116 rfl (lv_at hl 0 rfl) ?_
  refine lv_iconst (v := 4) hx hb dX6_init_117 (by decide) ?_
  refine h_newJ hx hb hE.1 hw hA (hts (.arrayClass .long) (by decide +kernel)) 4 rfl (by decide) (by first | decide | (show _ ≤ 16; omega)) (by first | decide | (show _ ≤ 368; omega)) dX6_init_118 (fun a16 H ha16 hw => ?_)
  obtain ⟨FF31, hFF31⟩ : ∃ Fx : FM, Fx = va_up FF30 a16 (eJ G 4 (fun _ => 0)) := ⟨_, rfl⟩
  rw [← hFF31] at hw
  have f_a1 : pt (((((((((((((((([o] ++ [a1]) ++ [a2]) ++ [a3]) ++ [a4]) ++ [a5]) ++ [a6]) ++ [a7]) ++ [a8]) ++ [a9]) ++ [a10]) ++ [a11]) ++ [a12]) ++ [a13]) ++ [a14]) ++ [a15]) ++ [a16]) FF31 a1 (eI G 6 (fun _ => 0)) := by rw [hFF31]; exact (pt_push f_a1 ha16)
  have f_a2 : pt (((((((((((((((([o] ++ [a1]) ++ [a2]) ++ [a3]) ++ [a4]) ++ [a5]) ++ [a6]) ++ [a7]) ++ [a8]) ++ [a9]) ++ [a10]) ++ [a11]) ++ [a12]) ++ [a13]) ++ [a14]) ++ [a15]) ++ [a16]) FF31 a2 (eI G 6 (fun _ => 0)) := by rw [hFF31]; exact (pt_push f_a2 ha16)
  have f_a3 : pt (((((((((((((((([o] ++ [a1]) ++ [a2]) ++ [a3]) ++ [a4]) ++ [a5]) ++ [a6]) ++ [a7]) ++ [a8]) ++ [a9]) ++ [a10]) ++ [a11]) ++ [a12]) ++ [a13]) ++ [a14]) ++ [a15]) ++ [a16]) FF31 a3 (eJ G 96 (fun _ => 0)) := by rw [hFF31]; exact (pt_push f_a3 ha16)
  have f_a4 : pt (((((((((((((((([o] ++ [a1]) ++ [a2]) ++ [a3]) ++ [a4]) ++ [a5]) ++ [a6]) ++ [a7]) ++ [a8]) ++ [a9]) ++ [a10]) ++ [a11]) ++ [a12]) ++ [a13]) ++ [a14]) ++ [a15]) ++ [a16]) FF31 a4 (eI G 64 (fun _ => 0)) := by rw [hFF31]; exact (pt_push f_a4 ha16)
  have f_a5 : pt (((((((((((((((([o] ++ [a1]) ++ [a2]) ++ [a3]) ++ [a4]) ++ [a5]) ++ [a6]) ++ [a7]) ++ [a8]) ++ [a9]) ++ [a10]) ++ [a11]) ++ [a12]) ++ [a13]) ++ [a14]) ++ [a15]) ++ [a16]) FF31 a5 (eI G 96 (fun _ => 0)) := by rw [hFF31]; exact (pt_push f_a5 ha16)
  have f_a6 : pt (((((((((((((((([o] ++ [a1]) ++ [a2]) ++ [a3]) ++ [a4]) ++ [a5]) ++ [a6]) ++ [a7]) ++ [a8]) ++ [a9]) ++ [a10]) ++ [a11]) ++ [a12]) ++ [a13]) ++ [a14]) ++ [a15]) ++ [a16]) FF31 a6 (eJ G 48 (fun _ => 0)) := by rw [hFF31]; exact (pt_push f_a6 ha16)
  have f_a7 : pt (((((((((((((((([o] ++ [a1]) ++ [a2]) ++ [a3]) ++ [a4]) ++ [a5]) ++ [a6]) ++ [a7]) ++ [a8]) ++ [a9]) ++ [a10]) ++ [a11]) ++ [a12]) ++ [a13]) ++ [a14]) ++ [a15]) ++ [a16]) FF31 a7 (eJ G 16 (fun _ => 0)) := by rw [hFF31]; exact (pt_push f_a7 ha16)
  have f_a8 : pt (((((((((((((((([o] ++ [a1]) ++ [a2]) ++ [a3]) ++ [a4]) ++ [a5]) ++ [a6]) ++ [a7]) ++ [a8]) ++ [a9]) ++ [a10]) ++ [a11]) ++ [a12]) ++ [a13]) ++ [a14]) ++ [a15]) ++ [a16]) FF31 a8 (eJ G 4 (fun _ => 0)) := by rw [hFF31]; exact (pt_push f_a8 ha16)
  have f_a9 : pt (((((((((((((((([o] ++ [a1]) ++ [a2]) ++ [a3]) ++ [a4]) ++ [a5]) ++ [a6]) ++ [a7]) ++ [a8]) ++ [a9]) ++ [a10]) ++ [a11]) ++ [a12]) ++ [a13]) ++ [a14]) ++ [a15]) ++ [a16]) FF31 a9 (eJ G 4 (fun _ => 0)) := by rw [hFF31]; exact (pt_push f_a9 ha16)
  have f_a10 : pt (((((((((((((((([o] ++ [a1]) ++ [a2]) ++ [a3]) ++ [a4]) ++ [a5]) ++ [a6]) ++ [a7]) ++ [a8]) ++ [a9]) ++ [a10]) ++ [a11]) ++ [a12]) ++ [a13]) ++ [a14]) ++ [a15]) ++ [a16]) FF31 a10 (eJ G 4 (fun _ => 0)) := by rw [hFF31]; exact (pt_push f_a10 ha16)
  have f_a11 : pt (((((((((((((((([o] ++ [a1]) ++ [a2]) ++ [a3]) ++ [a4]) ++ [a5]) ++ [a6]) ++ [a7]) ++ [a8]) ++ [a9]) ++ [a10]) ++ [a11]) ++ [a12]) ++ [a13]) ++ [a14]) ++ [a15]) ++ [a16]) FF31 a11 (eJ G 4 (fun _ => 0)) := by rw [hFF31]; exact (pt_push f_a11 ha16)
  have f_a12 : pt (((((((((((((((([o] ++ [a1]) ++ [a2]) ++ [a3]) ++ [a4]) ++ [a5]) ++ [a6]) ++ [a7]) ++ [a8]) ++ [a9]) ++ [a10]) ++ [a11]) ++ [a12]) ++ [a13]) ++ [a14]) ++ [a15]) ++ [a16]) FF31 a12 (eJ G 4 (fun _ => 0)) := by rw [hFF31]; exact (pt_push f_a12 ha16)
  have f_a13 : pt (((((((((((((((([o] ++ [a1]) ++ [a2]) ++ [a3]) ++ [a4]) ++ [a5]) ++ [a6]) ++ [a7]) ++ [a8]) ++ [a9]) ++ [a10]) ++ [a11]) ++ [a12]) ++ [a13]) ++ [a14]) ++ [a15]) ++ [a16]) FF31 a13 (eJ G 4 (fun _ => 0)) := by rw [hFF31]; exact (pt_push f_a13 ha16)
  have f_a14 : pt (((((((((((((((([o] ++ [a1]) ++ [a2]) ++ [a3]) ++ [a4]) ++ [a5]) ++ [a6]) ++ [a7]) ++ [a8]) ++ [a9]) ++ [a10]) ++ [a11]) ++ [a12]) ++ [a13]) ++ [a14]) ++ [a15]) ++ [a16]) FF31 a14 (eJ G 4 (fun _ => 0)) := by rw [hFF31]; exact (pt_push f_a14 ha16)
  have f_a15 : pt (((((((((((((((([o] ++ [a1]) ++ [a2]) ++ [a3]) ++ [a4]) ++ [a5]) ++ [a6]) ++ [a7]) ++ [a8]) ++ [a9]) ++ [a10]) ++ [a11]) ++ [a12]) ++ [a13]) ++ [a14]) ++ [a15]) ++ [a16]) FF31 a15 (eJ G 4 (fun _ => 0)) := by rw [hFF31]; exact (pt_push f_a15 ha16)
  have f_o : pt (((((((((((((((([o] ++ [a1]) ++ [a2]) ++ [a3]) ++ [a4]) ++ [a5]) ++ [a6]) ++ [a7]) ++ [a8]) ++ [a9]) ++ [a10]) ++ [a11]) ++ [a12]) ++ [a13]) ++ [a14]) ++ [a15]) ++ [a16]) FF31 o (.inr (6, [.ref a1, .ref a2, .ref a3, .ref a4, .ref a5, .int 0, .ref a6, .ref a7, .ref a8, .ref a9, .ref a10, .ref a11, .ref a12, .ref a13, .ref a14, .ref a15, .null, .int 0])) := by rw [hFF31]; exact (pt_push f_o ha16)
  have f_a16 : pt (((((((((((((((([o] ++ [a1]) ++ [a2]) ++ [a3]) ++ [a4]) ++ [a5]) ++ [a6]) ++ [a7]) ++ [a8]) ++ [a9]) ++ [a10]) ++ [a11]) ++ [a12]) ++ [a13]) ++ [a14]) ++ [a15]) ++ [a16]) FF31 a16 (eJ G 4 (fun _ => 0)) := by rw [hFF31]; exact pt_new
  refine h_putF hx hb hE.1 hw hts hinX6 tyX6 tyX6_ok nmX6 hown (ci := 6) rfl 16 (by decide) lk_56 (fun _ h9 => h9) rfl hin rfl f_o (ty := .array .long) (by decide +kernel) rfl rfl (Nat.le_of_ble_eq_true rfl) (fs2 := [.ref a1, .ref a2, .ref a3, .ref a4, .ref a5, .int 0, .ref a6, .ref a7, .ref a8, .ref a9, .ref a10, .ref a11, .ref a12, .ref a13, .ref a14, .ref a15, .ref a16, .int 0]) rfl dX6_init_120 (fun H locs hw => ?_)
  obtain ⟨FF32, hFF32⟩ : ∃ Fx : FM, Fx = va_up FF31 o (.inr (6, [.ref a1, .ref a2, .ref a3, .ref a4, .ref a5, .int 0, .ref a6, .ref a7, .ref a8, .ref a9, .ref a10, .ref a11, .ref a12, .ref a13, .ref a14, .ref a15, .ref a16, .int 0])) := ⟨_, rfl⟩
  rw [← hFF32] at hw
  have f_a1 : pt (((((((((((((((([o] ++ [a1]) ++ [a2]) ++ [a3]) ++ [a4]) ++ [a5]) ++ [a6]) ++ [a7]) ++ [a8]) ++ [a9]) ++ [a10]) ++ [a11]) ++ [a12]) ++ [a13]) ++ [a14]) ++ [a15]) ++ [a16]) FF32 a1 (eI G 6 (fun _ => 0)) := by rw [hFF32]; exact (pt_ne f_a1 (pt_ap f_a1 f_o (fun h9 => absurd (show (1061 : Nat) = 6 from congrArg tg h9) (by decide))))
  have f_a2 : pt (((((((((((((((([o] ++ [a1]) ++ [a2]) ++ [a3]) ++ [a4]) ++ [a5]) ++ [a6]) ++ [a7]) ++ [a8]) ++ [a9]) ++ [a10]) ++ [a11]) ++ [a12]) ++ [a13]) ++ [a14]) ++ [a15]) ++ [a16]) FF32 a2 (eI G 6 (fun _ => 0)) := by rw [hFF32]; exact (pt_ne f_a2 (pt_ap f_a2 f_o (fun h9 => absurd (show (1061 : Nat) = 6 from congrArg tg h9) (by decide))))
  have f_a3 : pt (((((((((((((((([o] ++ [a1]) ++ [a2]) ++ [a3]) ++ [a4]) ++ [a5]) ++ [a6]) ++ [a7]) ++ [a8]) ++ [a9]) ++ [a10]) ++ [a11]) ++ [a12]) ++ [a13]) ++ [a14]) ++ [a15]) ++ [a16]) FF32 a3 (eJ G 96 (fun _ => 0)) := by rw [hFF32]; exact (pt_ne f_a3 (pt_ap f_a3 f_o (fun h9 => absurd (show (1962 : Nat) = 6 from congrArg tg h9) (by decide))))
  have f_a4 : pt (((((((((((((((([o] ++ [a1]) ++ [a2]) ++ [a3]) ++ [a4]) ++ [a5]) ++ [a6]) ++ [a7]) ++ [a8]) ++ [a9]) ++ [a10]) ++ [a11]) ++ [a12]) ++ [a13]) ++ [a14]) ++ [a15]) ++ [a16]) FF32 a4 (eI G 64 (fun _ => 0)) := by rw [hFF32]; exact (pt_ne f_a4 (pt_ap f_a4 f_o (fun h9 => absurd (show (1641 : Nat) = 6 from congrArg tg h9) (by decide))))
  have f_a5 : pt (((((((((((((((([o] ++ [a1]) ++ [a2]) ++ [a3]) ++ [a4]) ++ [a5]) ++ [a6]) ++ [a7]) ++ [a8]) ++ [a9]) ++ [a10]) ++ [a11]) ++ [a12]) ++ [a13]) ++ [a14]) ++ [a15]) ++ [a16]) FF32 a5 (eI G 96 (fun _ => 0)) := by rw [hFF32]; exact (pt_ne f_a5 (pt_ap f_a5 f_o (fun h9 => absurd (show (1961 : Nat) = 6 from congrArg tg h9) (by decide))))
  have f_a6 : pt (((((((((((((((([o] ++ [a1]) ++ [a2]) ++ [a3]) ++ [a4]) ++ [a5]) ++ [a6]) ++ [a7]) ++ [a8]) ++ [a9]) ++ [a10]) ++ [a11]) ++ [a12]) ++ [a13]) ++ [a14]) ++ [a15]) ++ [a16]) FF32 a6 (eJ G 48 (fun _ => 0)) := by rw [hFF32]; exact (pt_ne f_a6 (pt_ap f_a6 f_o (fun h9 => absurd (show (1482 : Nat) = 6 from congrArg tg h9) (by decide))))
  have f_a7 : pt (((((((((((((((([o] ++ [a1]) ++ [a2]) ++ [a3]) ++ [a4]) ++ [a5]) ++ [a6]) ++ [a7]) ++ [a8]) ++ [a9]) ++ [a10]) ++ [a11]) ++ [a12]) ++ [a13]) ++ [a14]) ++ [a15]) ++ [a16]) FF32 a7 (eJ G 16 (fun _ => 0)) := by rw [hFF32]; exact (pt_ne f_a7 (pt_ap f_a7 f_o (fun h9 => absurd (show (1162 : Nat) = 6 from congrArg tg h9) (by decide))))
  have f_a8 : pt (((((((((((((((([o] ++ [a1]) ++ [a2]) ++ [a3]) ++ [a4]) ++ [a5]) ++ [a6]) ++ [a7]) ++ [a8]) ++ [a9]) ++ [a10]) ++ [a11]) ++ [a12]) ++ [a13]) ++ [a14]) ++ [a15]) ++ [a16]) FF32 a8 (eJ G 4 (fun _ => 0)) := by rw [hFF32]; exact (pt_ne f_a8 (pt_ap f_a8 f_o (fun h9 => absurd (show (1042 : Nat) = 6 from congrArg tg h9) (by decide))))
  have f_a9 : pt (((((((((((((((([o] ++ [a1]) ++ [a2]) ++ [a3]) ++ [a4]) ++ [a5]) ++ [a6]) ++ [a7]) ++ [a8]) ++ [a9]) ++ [a10]) ++ [a11]) ++ [a12]) ++ [a13]) ++ [a14]) ++ [a15]) ++ [a16]) FF32 a9 (eJ G 4 (fun _ => 0)) := by rw [hFF32]; exact (pt_ne f_a9 (pt_ap f_a9 f_o (fun h9 => absurd (show (1042 : Nat) = 6 from congrArg tg h9) (by decide))))
  have f_a10 : pt (((((((((((((((([o] ++ [a1]) ++ [a2]) ++ [a3]) ++ [a4]) ++ [a5]) ++ [a6]) ++ [a7]) ++ [a8]) ++ [a9]) ++ [a10]) ++ [a11]) ++ [a12]) ++ [a13]) ++ [a14]) ++ [a15]) ++ [a16]) FF32 a10 (eJ G 4 (fun _ => 0)) := by rw [hFF32]; exact (pt_ne f_a10 (pt_ap f_a10 f_o (fun h9 => absurd (show (1042 : Nat) = 6 from congrArg tg h9) (by decide))))
  have f_a11 : pt (((((((((((((((([o] ++ [a1]) ++ [a2]) ++ [a3]) ++ [a4]) ++ [a5]) ++ [a6]) ++ [a7]) ++ [a8]) ++ [a9]) ++ [a10]) ++ [a11]) ++ [a12]) ++ [a13]) ++ [a14]) ++ [a15]) ++ [a16]) FF32 a11 (eJ G 4 (fun _ => 0)) := by rw [hFF32]; exact (pt_ne f_a11 (pt_ap f_a11 f_o (fun h9 => absurd (show (1042 : Nat) = 6 from congrArg tg h9) (by decide))))
  have f_a12 : pt (((((((((((((((([o] ++ [a1]) ++ [a2]) ++ [a3]) ++ [a4]) ++ [a5]) ++ [a6]) ++ [a7]) ++ [a8]) ++ [a9]) ++ [a10]) ++ [a11]) ++ [a12]) ++ [a13]) ++ [a14]) ++ [a15]) ++ [a16]) FF32 a12 (eJ G 4 (fun _ => 0)) := by rw [hFF32]; exact (pt_ne f_a12 (pt_ap f_a12 f_o (fun h9 => absurd (show (1042 : Nat) = 6 from congrArg tg h9) (by decide))))
  have f_a13 : pt (((((((((((((((([o] ++ [a1]) ++ [a2]) ++ [a3]) ++ [a4]) ++ [a5]) ++ [a6]) ++ [a7]) ++ [a8]) ++ [a9]) ++ [a10]) ++ [a11]) ++ [a12]) ++ [a13]) ++ [a14]) ++ [a15]) ++ [a16]) FF32 a13 (eJ G 4 (fun _ => 0)) := by rw [hFF32]; exact (pt_ne f_a13 (pt_ap f_a13 f_o (fun h9 => absurd (show (1042 : Nat) = 6 from congrArg tg h9) (by decide))))
  have f_a14 : pt (((((((((((((((([o] ++ [a1]) ++ [a2]) ++ [a3]) ++ [a4]) ++ [a5]) ++ [a6]) ++ [a7]) ++ [a8]) ++ [a9]) ++ [a10]) ++ [a11]) ++ [a12]) ++ [a13]) ++ [a14]) ++ [a15]) ++ [a16]) FF32 a14 (eJ G 4 (fun _ => 0)) := by rw [hFF32]; exact (pt_ne f_a14 (pt_ap f_a14 f_o (fun h9 => absurd (show (1042 : Nat) = 6 from congrArg tg h9) (by decide))))
  have f_a15 : pt (((((((((((((((([o] ++ [a1]) ++ [a2]) ++ [a3]) ++ [a4]) ++ [a5]) ++ [a6]) ++ [a7]) ++ [a8]) ++ [a9]) ++ [a10]) ++ [a11]) ++ [a12]) ++ [a13]) ++ [a14]) ++ [a15]) ++ [a16]) FF32 a15 (eJ G 4 (fun _ => 0)) := by rw [hFF32]; exact (pt_ne f_a15 (pt_ap f_a15 f_o (fun h9 => absurd (show (1042 : Nat) = 6 from congrArg tg h9) (by decide))))
  have f_a16 : pt (((((((((((((((([o] ++ [a1]) ++ [a2]) ++ [a3]) ++ [a4]) ++ [a5]) ++ [a6]) ++ [a7]) ++ [a8]) ++ [a9]) ++ [a10]) ++ [a11]) ++ [a12]) ++ [a13]) ++ [a14]) ++ [a15]) ++ [a16]) FF32 a16 (eJ G 4 (fun _ => 0)) := by rw [hFF32]; exact (pt_ne f_a16 (pt_ap f_a16 f_o (fun h9 => absurd (show (1042 : Nat) = 6 from congrArg tg h9) (by decide))))
  have f_o : pt (((((((((((((((([o] ++ [a1]) ++ [a2]) ++ [a3]) ++ [a4]) ++ [a5]) ++ [a6]) ++ [a7]) ++ [a8]) ++ [a9]) ++ [a10]) ++ [a11]) ++ [a12]) ++ [a13]) ++ [a14]) ++ [a15]) ++ [a16]) FF32 o (.inr (6, [.ref a1, .ref a2, .ref a3, .ref a4, .ref a5, .int 0, .ref a6, .ref a7, .ref a8, .ref a9, .ref a10, .ref a11, .ref a12, .ref a13, .ref a14, .ref a15, .ref a16, .int 0])) := by rw [hFF32]; exact (pt_up f_o)
  have d_a1 := f_a1
  have d_a2 := f_a2
  have d_a3 := f_a3
  have d_a4 := f_a4
  have d_a5 := f_a5
  have d_a6 := f_a6
  have d_a7 := f_a7
  have d_a8 := f_a8
  have d_a9 := f_a9
  have d_a10 := f_a10
  have d_a11 := f_a11
  have d_a12 := f_a12
  have d_a13 := f_a13
  have d_a14 := f_a14
  have d_a15 := f_a15
  have d_a16 := f_a16
  have d_o := f_o
  refine lv_iconst (v := 0) hx hb dX6_init_123 (by decide) ?_
  refine lv_istore_n (lv' := [(1, .int 0), (0, .ref o)]) hx hb dX6_init_124 rfl hl (by decide) rfl (fun ls hl => ?_)
  refine lv_iload_n hx hb dX6_init_125 rfl (lv_at hl 0 rfl) ?_
  refine lv_bipush (v := 6) hx hb dX6_init_126 (by decide) ?_
  refine lv_icmp_ge (tgt := 144) hx hb dX6_init_128 (by decide) (fun c_128 => ?_) (fun c_128 => ?_)
  · skip
    first | exact absurd c_128 (by decide) | exact absurd (by decide) c_128
  · skip
    refine lv_aload_n hx hb dX6_init_131 rfl (lv_at hl 1 rfl) ?_
    refine h_get hx hb hE hw hts hinX6 hown (ci := 6) rfl 0 (by decide) lk_7 (fun _ h9 => h9) f_o rfl dX6_init_132 ?_
    refine lv_iload_n hx hb dX6_init_135 rfl (lv_at hl 0 rfl) ?_
    refine lv_iconst (v := (-1)) hx hb dX6_init_136 (by decide) ?_
    refine h_iast hx hb hE hw f_a1 (vp_in_nI (n := 0) (N := 6) (by omega) (by decide)) (g := upd (fun _ => 0) 0 (-1)) rfl dX6_init_137 (fun H locs hw => ?_)
    obtain ⟨FF33, hFF33⟩ : ∃ Fx : FM, Fx = va_up FF32 a1 (eI G 6 (upd (fun _ => 0) 0 (-1))) := ⟨_, rfl⟩
    rw [← hFF33] at hw
    have f_o : pt (((((((((((((((([o] ++ [a1]) ++ [a2]) ++ [a3]) ++ [a4]) ++ [a5]) ++ [a6]) ++ [a7]) ++ [a8]) ++ [a9]) ++ [a10]) ++ [a11]) ++ [a12]) ++ [a13]) ++ [a14]) ++ [a15]) ++ [a16]) FF33 o (.inr (6, [.ref a1, .ref a2, .ref a3, .ref a4, .ref a5, .int 0, .ref a6, .ref a7, .ref a8, .ref a9, .ref a10, .ref a11, .ref a12, .ref a13, .ref a14, .ref a15, .ref a16, .int 0])) := by rw [hFF33]; exact (pt_ne f_o (pt_ap f_o f_a1 (fun h9 => absurd (show (6 : Nat) = 1061 from congrArg tg h9) (by decide))))
    have f_a1 : pt (((((((((((((((([o] ++ [a1]) ++ [a2]) ++ [a3]) ++ [a4]) ++ [a5]) ++ [a6]) ++ [a7]) ++ [a8]) ++ [a9]) ++ [a10]) ++ [a11]) ++ [a12]) ++ [a13]) ++ [a14]) ++ [a15]) ++ [a16]) FF33 a1 (eI G 6 (upd (fun _ => 0) 0 (-1))) := by rw [hFF33]; exact (pt_up f_a1)
    refine lv_iinc (v := 1) (lv' := [(1, .int 1), (0, .ref o)]) hx hb dX6_init_138 hl (k := 0) rfl (by decide) (by decide) rfl (fun ls hl => ?_)
    refine lv_goto (tgt := 125) hx hb dX6_init_141 (by decide) ?_
    refine lv_iload_n hx hb dX6_init_125 rfl (lv_at hl 0 rfl) ?_
    refine lv_bipush (v := 6) hx hb dX6_init_126 (by decide) ?_
    refine lv_icmp_ge (tgt := 144) hx hb dX6_init_128 (by decide) (fun c_128 => ?_) (fun c_128 => ?_)
    · skip
      first | exact absurd c_128 (by decide) | exact absurd (by decide) c_128
    · skip
      refine lv_aload_n hx hb dX6_init_131 rfl (lv_at hl 1 rfl) ?_
      refine h_get hx hb hE hw hts hinX6 hown (ci := 6) rfl 0 (by decide) lk_7 (fun _ h9 => h9) f_o rfl dX6_init_132 ?_
      refine lv_iload_n hx hb dX6_init_135 rfl (lv_at hl 0 rfl) ?_
      refine lv_iconst (v := (-1)) hx hb dX6_init_136 (by decide) ?_
      refine h_iast hx hb hE hw f_a1 (vp_in_nI (n := 1) (N := 6) (by omega) (by decide)) (g := upd (upd (fun _ => 0) 0 (-1)) 1 (-1)) rfl dX6_init_137 (fun H locs hw => ?_)
      obtain ⟨FF34, hFF34⟩ : ∃ Fx : FM, Fx = va_up FF33 a1 (eI G 6 (upd (upd (fun _ => 0) 0 (-1)) 1 (-1))) := ⟨_, rfl⟩
      rw [← hFF34] at hw
      have f_o : pt (((((((((((((((([o] ++ [a1]) ++ [a2]) ++ [a3]) ++ [a4]) ++ [a5]) ++ [a6]) ++ [a7]) ++ [a8]) ++ [a9]) ++ [a10]) ++ [a11]) ++ [a12]) ++ [a13]) ++ [a14]) ++ [a15]) ++ [a16]) FF34 o (.inr (6, [.ref a1, .ref a2, .ref a3, .ref a4, .ref a5, .int 0, .ref a6, .ref a7, .ref a8, .ref a9, .ref a10, .ref a11, .ref a12, .ref a13, .ref a14, .ref a15, .ref a16, .int 0])) := by rw [hFF34]; exact (pt_ne f_o (pt_ap f_o f_a1 (fun h9 => absurd (show (6 : Nat) = 1061 from congrArg tg h9) (by decide))))
      have f_a1 : pt (((((((((((((((([o] ++ [a1]) ++ [a2]) ++ [a3]) ++ [a4]) ++ [a5]) ++ [a6]) ++ [a7]) ++ [a8]) ++ [a9]) ++ [a10]) ++ [a11]) ++ [a12]) ++ [a13]) ++ [a14]) ++ [a15]) ++ [a16]) FF34 a1 (eI G 6 (upd (upd (fun _ => 0) 0 (-1)) 1 (-1))) := by rw [hFF34]; exact (pt_up f_a1)
      refine lv_iinc (v := 2) (lv' := [(1, .int 2), (0, .ref o)]) hx hb dX6_init_138 hl (k := 0) rfl (by decide) (by decide) rfl (fun ls hl => ?_)
      refine lv_goto (tgt := 125) hx hb dX6_init_141 (by decide) ?_
      refine lv_iload_n hx hb dX6_init_125 rfl (lv_at hl 0 rfl) ?_
      refine lv_bipush (v := 6) hx hb dX6_init_126 (by decide) ?_
      refine lv_icmp_ge (tgt := 144) hx hb dX6_init_128 (by decide) (fun c_128 => ?_) (fun c_128 => ?_)
      · skip
        first | exact absurd c_128 (by decide) | exact absurd (by decide) c_128
      · skip
        refine lv_aload_n hx hb dX6_init_131 rfl (lv_at hl 1 rfl) ?_
        refine h_get hx hb hE hw hts hinX6 hown (ci := 6) rfl 0 (by decide) lk_7 (fun _ h9 => h9) f_o rfl dX6_init_132 ?_
        refine lv_iload_n hx hb dX6_init_135 rfl (lv_at hl 0 rfl) ?_
        refine lv_iconst (v := (-1)) hx hb dX6_init_136 (by decide) ?_
        refine h_iast hx hb hE hw f_a1 (vp_in_nI (n := 2) (N := 6) (by omega) (by decide)) (g := upd (upd (upd (fun _ => 0) 0 (-1)) 1 (-1)) 2 (-1)) rfl dX6_init_137 (fun H locs hw => ?_)
        obtain ⟨FF35, hFF35⟩ : ∃ Fx : FM, Fx = va_up FF34 a1 (eI G 6 (upd (upd (upd (fun _ => 0) 0 (-1)) 1 (-1)) 2 (-1))) := ⟨_, rfl⟩
        rw [← hFF35] at hw
        have f_o : pt (((((((((((((((([o] ++ [a1]) ++ [a2]) ++ [a3]) ++ [a4]) ++ [a5]) ++ [a6]) ++ [a7]) ++ [a8]) ++ [a9]) ++ [a10]) ++ [a11]) ++ [a12]) ++ [a13]) ++ [a14]) ++ [a15]) ++ [a16]) FF35 o (.inr (6, [.ref a1, .ref a2, .ref a3, .ref a4, .ref a5, .int 0, .ref a6, .ref a7, .ref a8, .ref a9, .ref a10, .ref a11, .ref a12, .ref a13, .ref a14, .ref a15, .ref a16, .int 0])) := by rw [hFF35]; exact (pt_ne f_o (pt_ap f_o f_a1 (fun h9 => absurd (show (6 : Nat) = 1061 from congrArg tg h9) (by decide))))
        have f_a1 : pt (((((((((((((((([o] ++ [a1]) ++ [a2]) ++ [a3]) ++ [a4]) ++ [a5]) ++ [a6]) ++ [a7]) ++ [a8]) ++ [a9]) ++ [a10]) ++ [a11]) ++ [a12]) ++ [a13]) ++ [a14]) ++ [a15]) ++ [a16]) FF35 a1 (eI G 6 (upd (upd (upd (fun _ => 0) 0 (-1)) 1 (-1)) 2 (-1))) := by rw [hFF35]; exact (pt_up f_a1)
        refine lv_iinc (v := 3) (lv' := [(1, .int 3), (0, .ref o)]) hx hb dX6_init_138 hl (k := 0) rfl (by decide) (by decide) rfl (fun ls hl => ?_)
        refine lv_goto (tgt := 125) hx hb dX6_init_141 (by decide) ?_
        refine lv_iload_n hx hb dX6_init_125 rfl (lv_at hl 0 rfl) ?_
        refine lv_bipush (v := 6) hx hb dX6_init_126 (by decide) ?_
        refine lv_icmp_ge (tgt := 144) hx hb dX6_init_128 (by decide) (fun c_128 => ?_) (fun c_128 => ?_)
        · skip
          first | exact absurd c_128 (by decide) | exact absurd (by decide) c_128
        · skip
          refine lv_aload_n hx hb dX6_init_131 rfl (lv_at hl 1 rfl) ?_
          refine h_get hx hb hE hw hts hinX6 hown (ci := 6) rfl 0 (by decide) lk_7 (fun _ h9 => h9) f_o rfl dX6_init_132 ?_
          refine lv_iload_n hx hb dX6_init_135 rfl (lv_at hl 0 rfl) ?_
          refine lv_iconst (v := (-1)) hx hb dX6_init_136 (by decide) ?_
          refine h_iast hx hb hE hw f_a1 (vp_in_nI (n := 3) (N := 6) (by omega) (by decide)) (g := upd (upd (upd (upd (fun _ => 0) 0 (-1)) 1 (-1)) 2 (-1)) 3 (-1)) rfl dX6_init_137 (fun H locs hw => ?_)
          obtain ⟨FF36, hFF36⟩ : ∃ Fx : FM, Fx = va_up FF35 a1 (eI G 6 (upd (upd (upd (upd (fun _ => 0) 0 (-1)) 1 (-1)) 2 (-1)) 3 (-1))) := ⟨_, rfl⟩
          rw [← hFF36] at hw
          have f_o : pt (((((((((((((((([o] ++ [a1]) ++ [a2]) ++ [a3]) ++ [a4]) ++ [a5]) ++ [a6]) ++ [a7]) ++ [a8]) ++ [a9]) ++ [a10]) ++ [a11]) ++ [a12]) ++ [a13]) ++ [a14]) ++ [a15]) ++ [a16]) FF36 o (.inr (6, [.ref a1, .ref a2, .ref a3, .ref a4, .ref a5, .int 0, .ref a6, .ref a7, .ref a8, .ref a9, .ref a10, .ref a11, .ref a12, .ref a13, .ref a14, .ref a15, .ref a16, .int 0])) := by rw [hFF36]; exact (pt_ne f_o (pt_ap f_o f_a1 (fun h9 => absurd (show (6 : Nat) = 1061 from congrArg tg h9) (by decide))))
          have f_a1 : pt (((((((((((((((([o] ++ [a1]) ++ [a2]) ++ [a3]) ++ [a4]) ++ [a5]) ++ [a6]) ++ [a7]) ++ [a8]) ++ [a9]) ++ [a10]) ++ [a11]) ++ [a12]) ++ [a13]) ++ [a14]) ++ [a15]) ++ [a16]) FF36 a1 (eI G 6 (upd (upd (upd (upd (fun _ => 0) 0 (-1)) 1 (-1)) 2 (-1)) 3 (-1))) := by rw [hFF36]; exact (pt_up f_a1)
          refine lv_iinc (v := 4) (lv' := [(1, .int 4), (0, .ref o)]) hx hb dX6_init_138 hl (k := 0) rfl (by decide) (by decide) rfl (fun ls hl => ?_)
          refine lv_goto (tgt := 125) hx hb dX6_init_141 (by decide) ?_
          refine lv_iload_n hx hb dX6_init_125 rfl (lv_at hl 0 rfl) ?_
          refine lv_bipush (v := 6) hx hb dX6_init_126 (by decide) ?_
          refine lv_icmp_ge (tgt := 144) hx hb dX6_init_128 (by decide) (fun c_128 => ?_) (fun c_128 => ?_)
          · skip
            first | exact absurd c_128 (by decide) | exact absurd (by decide) c_128
          · skip
            refine lv_aload_n hx hb dX6_init_131 rfl (lv_at hl 1 rfl) ?_
            refine h_get hx hb hE hw hts hinX6 hown (ci := 6) rfl 0 (by decide) lk_7 (fun _ h9 => h9) f_o rfl dX6_init_132 ?_
            refine lv_iload_n hx hb dX6_init_135 rfl (lv_at hl 0 rfl) ?_
            refine lv_iconst (v := (-1)) hx hb dX6_init_136 (by decide) ?_
            refine h_iast hx hb hE hw f_a1 (vp_in_nI (n := 4) (N := 6) (by omega) (by decide)) (g := upd (upd (upd (upd (upd (fun _ => 0) 0 (-1)) 1 (-1)) 2 (-1)) 3 (-1)) 4 (-1)) rfl dX6_init_137 (fun H locs hw => ?_)
            obtain ⟨FF37, hFF37⟩ : ∃ Fx : FM, Fx = va_up FF36 a1 (eI G 6 (upd (upd (upd (upd (upd (fun _ => 0) 0 (-1)) 1 (-1)) 2 (-1)) 3 (-1)) 4 (-1))) := ⟨_, rfl⟩
            rw [← hFF37] at hw
            have f_o : pt (((((((((((((((([o] ++ [a1]) ++ [a2]) ++ [a3]) ++ [a4]) ++ [a5]) ++ [a6]) ++ [a7]) ++ [a8]) ++ [a9]) ++ [a10]) ++ [a11]) ++ [a12]) ++ [a13]) ++ [a14]) ++ [a15]) ++ [a16]) FF37 o (.inr (6, [.ref a1, .ref a2, .ref a3, .ref a4, .ref a5, .int 0, .ref a6, .ref a7, .ref a8, .ref a9, .ref a10, .ref a11, .ref a12, .ref a13, .ref a14, .ref a15, .ref a16, .int 0])) := by rw [hFF37]; exact (pt_ne f_o (pt_ap f_o f_a1 (fun h9 => absurd (show (6 : Nat) = 1061 from congrArg tg h9) (by decide))))
            have f_a1 : pt (((((((((((((((([o] ++ [a1]) ++ [a2]) ++ [a3]) ++ [a4]) ++ [a5]) ++ [a6]) ++ [a7]) ++ [a8]) ++ [a9]) ++ [a10]) ++ [a11]) ++ [a12]) ++ [a13]) ++ [a14]) ++ [a15]) ++ [a16]) FF37 a1 (eI G 6 (upd (upd (upd (upd (upd (fun _ => 0) 0 (-1)) 1 (-1)) 2 (-1)) 3 (-1)) 4 (-1))) := by rw [hFF37]; exact (pt_up f_a1)
            refine lv_iinc (v := 5) (lv' := [(1, .int 5), (0, .ref o)]) hx hb dX6_init_138 hl (k := 0) rfl (by decide) (by decide) rfl (fun ls hl => ?_)
            refine lv_goto (tgt := 125) hx hb dX6_init_141 (by decide) ?_
            refine lv_iload_n hx hb dX6_init_125 rfl (lv_at hl 0 rfl) ?_
            refine lv_bipush (v := 6) hx hb dX6_init_126 (by decide) ?_
            refine lv_icmp_ge (tgt := 144) hx hb dX6_init_128 (by decide) (fun c_128 => ?_) (fun c_128 => ?_)
            · skip
              first | exact absurd c_128 (by decide) | exact absurd (by decide) c_128
            · skip
              refine lv_aload_n hx hb dX6_init_131 rfl (lv_at hl 1 rfl) ?_
              refine h_get hx hb hE hw hts hinX6 hown (ci := 6) rfl 0 (by decide) lk_7 (fun _ h9 => h9) f_o rfl dX6_init_132 ?_
              refine lv_iload_n hx hb dX6_init_135 rfl (lv_at hl 0 rfl) ?_
              refine lv_iconst (v := (-1)) hx hb dX6_init_136 (by decide) ?_
              refine h_iast hx hb hE hw f_a1 (vp_in_nI (n := 5) (N := 6) (by omega) (by decide)) (g := upd (upd (upd (upd (upd (upd (fun _ => 0) 0 (-1)) 1 (-1)) 2 (-1)) 3 (-1)) 4 (-1)) 5 (-1)) rfl dX6_init_137 (fun H locs hw => ?_)
              obtain ⟨FF38, hFF38⟩ : ∃ Fx : FM, Fx = va_up FF37 a1 (eI G 6 (upd (upd (upd (upd (upd (upd (fun _ => 0) 0 (-1)) 1 (-1)) 2 (-1)) 3 (-1)) 4 (-1)) 5 (-1))) := ⟨_, rfl⟩
              rw [← hFF38] at hw
              have f_o : pt (((((((((((((((([o] ++ [a1]) ++ [a2]) ++ [a3]) ++ [a4]) ++ [a5]) ++ [a6]) ++ [a7]) ++ [a8]) ++ [a9]) ++ [a10]) ++ [a11]) ++ [a12]) ++ [a13]) ++ [a14]) ++ [a15]) ++ [a16]) FF38 o (.inr (6, [.ref a1, .ref a2, .ref a3, .ref a4, .ref a5, .int 0, .ref a6, .ref a7, .ref a8, .ref a9, .ref a10, .ref a11, .ref a12, .ref a13, .ref a14, .ref a15, .ref a16, .int 0])) := by rw [hFF38]; exact (pt_ne f_o (pt_ap f_o f_a1 (fun h9 => absurd (show (6 : Nat) = 1061 from congrArg tg h9) (by decide))))
              have f_a1 : pt (((((((((((((((([o] ++ [a1]) ++ [a2]) ++ [a3]) ++ [a4]) ++ [a5]) ++ [a6]) ++ [a7]) ++ [a8]) ++ [a9]) ++ [a10]) ++ [a11]) ++ [a12]) ++ [a13]) ++ [a14]) ++ [a15]) ++ [a16]) FF38 a1 (eI G 6 (upd (upd (upd (upd (upd (upd (fun _ => 0) 0 (-1)) 1 (-1)) 2 (-1)) 3 (-1)) 4 (-1)) 5 (-1))) := by rw [hFF38]; exact (pt_up f_a1)
              refine lv_iinc (v := 6) (lv' := [(1, .int 6), (0, .ref o)]) hx hb dX6_init_138 hl (k := 0) rfl (by decide) (by decide) rfl (fun ls hl => ?_)
              refine lv_goto (tgt := 125) hx hb dX6_init_141 (by decide) ?_
              refine lv_iload_n hx hb dX6_init_125 rfl (lv_at hl 0 rfl) ?_
              refine lv_bipush (v := 6) hx hb dX6_init_126 (by decide) ?_
              refine lv_icmp_ge (tgt := 144) hx hb dX6_init_128 (by decide) (fun c_128 => ?_) (fun c_128 => ?_)
              · skip
                refine lv_iconst (v := 0) hx hb dX6_init_144 (by decide) ?_
                refine lv_istore_n (lv' := [(1, .int 0), (0, .ref o)]) hx hb dX6_init_145 rfl hl (by decide) rfl (fun ls hl => ?_)
                have hk1 : ∀ a, a ≠ a1 → FF38 a = FF32 a := fun a h => by rw [hFF38, va_up_ne _ _ h, hFF37, va_up_ne _ _ h, hFF36, va_up_ne _ _ h, hFF35, va_up_ne _ _ h, hFF34, va_up_ne _ _ h, hFF33, va_up_ne _ _ h]
                have hf1 := f_a1.2
                obtain ⟨f1, ef1⟩ : ∃ f1 : Nat → Int32, f1 = upd (upd (upd (upd (upd (upd (fun _ => 0) 0 (-1)) 1 (-1)) 2 (-1)) 3 (-1)) 4 (-1)) 5 (-1) := ⟨_, rfl⟩
                rw [← ef1] at hf1
                have hf6 : ∀ j, j < 6 → f1 j = -1 := fun j hj => by rw [ef1]; rcases (show j = 0 ∨ j = 1 ∨ j = 2 ∨ j = 3 ∨ j = 4 ∨ j = 5 by omega) with rfl | rfl | rfl | rfl | rfl | rfl <;> rfl
                refine W.widen (k := 16) (n := 368) (by decide) (by decide) ?_
                exact x6_units l G A o a1 a2 a3 a4 a5 a6 a7 a8 a9 a10 a11 a12 a13 a14 a15 a16 FF32 FF38 f1 hx hb hr hml hown hts hlk hE d_o d_a1 d_a2 d_a3 d_a4 d_a5 d_a6 d_a7 d_a8 d_a9 d_a10 d_a11 d_a12 d_a13 d_a14 d_a15 d_a16 ne_a2_a1 hk1 hf1 hf6 hw (lv_sub (l' := [(0, .ref o), (1, .int 0)]) hl [1, 0] rfl)
              · skip
                first | exact absurd c_128 (by decide) | exact absurd (by decide) c_128
