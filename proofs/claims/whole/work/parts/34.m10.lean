/-! the reference's tests of primitive numbers and of primes -/
def od : Nat → Nat → Nat
  | 0, g => g
  | n + 1, g => if g % 2 = 0 then od n (g / 2) else g
def prM (x : Q4) (K : Nat) : Prop := ¬ qzero x ∧ od 31 K = 1 ∧ ¬ (K % 2 = 0 ∧ oneM (x.1 / 2) (x.2.1 / 2) (x.2.2.1 / 2) (x.2.2.2 / 2))
def npr (N : Nat) : Prop := ∀ e, 2 ≤ e → e * e ≤ N → ¬ N % e = 0
theorem gcd_lt {a b : Nat} (ha : a < 2 ^ 31) (hb : b < 2 ^ 31) : Nat.gcd a b < 2 ^ 31 := by
  by_cases h : a = 0
  · rw [h, Nat.gcd_zero_left]; exact hb
  · exact Nat.lt_of_le_of_lt (Nat.gcd_le_left b (by omega)) ha
theorem rem2_N {K : Nat} (h : K < 2 ^ 31) : lN K - lN K / 2 * 2 = lN (K % 2) := pk_lRem (b := 2) (by omega) (by decide) (by decide)
theorem lN_0 {K : Nat} (h : K < 2 ^ 31) : lN K = 0 ↔ K = 0 := pk_lEQ (b := 0) (by omega) (by decide)
theorem lN_o {K : Nat} (h : K < 2 ^ 31) : lN K = 1 ↔ K = 1 := pk_lEQ (b := 1) (by omega) (by decide)
set_option maxHeartbeats 4000000 in
set_option maxRecDepth 100000 in
theorem c_X6_isPrimitive (l : Launch) (G : GG) (A : Nat → Prop) (ma : Nat → Nat) (F : FM) (mk msz : Nat → Int32) (msh : Nat → Int64) (mrg : Nat → Int32) (mfc mmd : Nat → Int64) (mv : Nat → Q4) (mcn : Int32) (hM : MW G ma (mk, msz, msh, mrg, mfc, mmd, mv, mcn) F) (t : Nat) (ht : 8 ≤ t) (ht2 : t < 17) (x : Q4) (e0 : pt (ML ma) F (ma t) (eJ4 G x)) (P0 P1 P2 P3 K : Nat) (a0 : abL x.1 = lN P0) (a1 : abL x.2.1 = lN P1) (a2 : abL x.2.2.1 = lN P2) (a3 : abL x.2.2.2 = lN P3) (hP0 : P0 < 2 ^ 31) (hP1 : P1 < 2 ^ 31) (hP2 : P2 < 2 ^ 31) (hP3 : P3 < 2 ^ 31) (hK : K = Nat.gcd (Nat.gcd P0 P1) (Nat.gcd P2 P3)) (hK0 : ¬ qzero x → 0 < K) : HT l yX6_isPrimitive wsX6_isPrimitive { frames := 1, cells := 0, slots := 0, locals := 29 } G A (ML ma) [.ref (ma 0), .ref (ma t)] F (some (.int (bI (prM x K)))) F := by
  refine HT.ofW (cc := cX6_isPrimitive) (maxL := 5) (ret := (some .boolean)) (plainFor_of_name (by decide)) rfl (Nat.le_of_ble_eq_true rfl) ?_
  intro p e s m below meth c ls hx hb hr hml hown hts hlk hE hw hl
  have hl : lv_has ls 5 [(0, .ref (ma 0)), (1, .ref (ma t))] := hl
  have hown : s.vm.findClass RX6 = some m.cls := hown
  have cl_77 := hts (.constantLong RX6 77 (2)) (by decide +kernel)
  have hK31 : K < 2 ^ 31 := by rw [hK]; exact gcd_lt (gcd_lt hP0 hP1) (gcd_lt hP2 hP3)
  have loop : ∀ (n K1 : Nat) (tw : Int32) (H : Heap) (locs : List Loc) (ls : Array Slot), K1 < 2 ^ n → n ≤ 31 → 0 < K1 → od n K1 = od 31 K → ((od 31 K = 1 ∧ tw = 0) ↔ prM x K) → wo G A s.heap (ML ma) F H locs → lv_has ls 5 [(2, .long (lN K1)), (4, .int tw)] → W p l e { frames := 1, cells := 0, slots := 0, locals := 29 } s m ([.ref (ma 0), .ref (ma t)].toArray) below meth c H locs 0 0 (MQ below (QH G A (ML ma) (some (.int (bI (prM x K)))) F) ([.ref (ma 0), .ref (ma t)].toArray) s 0 0 A) (F0 m 82 ls []) := by
    intro n
    induction n with
    | zero =>
      intro K1 tw H locs ls h1 h2 h3
      exact absurd h1 (by simp; omega)
    | succ n ih =>
      intro K1 tw H locs ls h1 h2 h3 ho hp hw hl
      have hK1 : K1 < 2 ^ 31 := Nat.lt_of_lt_of_le h1 (Nat.pow_le_pow_right (by decide) h2)
      refine lv_lload_n hx hb dX6_isPrimitive_82 rfl (lv_at hl 0 rfl) ?_
      refine lv_ldc2 hx hb (v := (2)) hown cl_77 dX6_isPrimitive_83 ?_
      refine lv_lrem hx hb dX6_isPrimitive_86 (by decide) ?_
      refine lv_lconst (v := 0) hx hb dX6_isPrimitive_87 (by decide) ?_
      refine h_lc_ne (x := (lN K1) - (lN K1) / (2) * (2)) (y := 0) (tgt := 101) hx hb dX6_isPrimitive_88 dX6_isPrimitive_89 (by decide) (fun c_88 => ?_) (fun c_88 => ?_)
      · skip
        have hz : ¬ K1 % 2 = 0 := fun w => c_88 (by rw [rem2_N hK1, w]; rfl)
        have ho1 : od 31 K = K1 := by rw [← ho, od, if_neg hz]
        refine lv_lload_n hx hb dX6_isPrimitive_101 rfl (lv_at hl 0 rfl) ?_
        refine lv_lconst (v := 1) hx hb dX6_isPrimitive_102 (by decide) ?_
        refine h_lc_ne (x := lN K1) (y := 1) (tgt := 116) hx hb dX6_isPrimitive_103 dX6_isPrimitive_104 (by decide) (fun c_103 => ?_) (fun c_103 => ?_)
        · skip
          have hk1 : ¬ K1 = 1 := fun w => c_103 ((lN_o hK1).mpr w)
          refine lv_iconst (v := 0) hx hb dX6_isPrimitive_116 (by decide) ?_
          exact h_zret hx hb hlk hr hw dX6_isPrimitive_117 rfl (by rw [bI_f (fun w => hk1 (by rw [← ho1]; exact (hp.mpr w).1))]) rfl
        · skip
          have hk1 : K1 = 1 := (lN_o hK1).mp c_103
          refine lv_iload hx hb dX6_isPrimitive_107 (lv_at hl 1 rfl) ?_
          refine lv_if_ne (tgt := 116) hx hb dX6_isPrimitive_109 (by decide) (fun c_109 => ?_) (fun c_109 => ?_)
          · skip
            refine lv_iconst (v := 0) hx hb dX6_isPrimitive_116 (by decide) ?_
            exact h_zret hx hb hlk hr hw dX6_isPrimitive_117 rfl (by rw [bI_f (fun w => c_109 (hp.mpr w).2)]) rfl
          · skip
            refine lv_iconst (v := 1) hx hb dX6_isPrimitive_112 (by decide) ?_
            refine lv_goto (tgt := 117) hx hb dX6_isPrimitive_113 (by decide) ?_
            exact h_zret hx hb hlk hr hw dX6_isPrimitive_117 rfl (by rw [bI_t (hp.mp ⟨by rw [ho1, hk1], c_109⟩)]) rfl
      · skip
        have hz : K1 % 2 = 0 := (lN_0 (by omega)).mp (by rw [← rem2_N hK1]; exact c_88)
        refine lv_lload_n hx hb dX6_isPrimitive_92 rfl (lv_at hl 0 rfl) ?_
        refine lv_ldc2 hx hb (v := (2)) hown cl_77 dX6_isPrimitive_93 ?_
        refine lv_ldiv hx hb dX6_isPrimitive_96 (by decide) ?_
        refine lv_topl (fun k9 ek9 => ?_)
        refine lv_lstore_n (lv' := [(2, .long k9), (4, .int tw)]) hx hb dX6_isPrimitive_97 rfl hl (by decide) rfl (fun ls hl => ?_)
        refine lv_goto (tgt := 82) hx hb dX6_isPrimitive_98 (by decide) ?_
        exact ih (K1 / 2) tw _ _ ls (by rw [Nat.pow_succ] at h1; omega) (by omega) (by omega) (by rw [← ho]; conv => rhs; rw [od, if_pos hz]) hp hw (lv_sub (l' := [(2, .long (lN (K1 / 2))), (4, .int tw)]) hl [0, 1] (by rw [← show k9 = lN (K1 / 2) from ek9.trans (pk_lDiv (b := 2) (by omega) (by decide) (by decide))]; rfl))
  refine lv_aload_n hx hb dX6_isPrimitive_0 rfl (lv_at hl 1 rfl) ?_
  refine h_callS (st1 := [.int (bI (qzero x))]) [.ref (ma t)] [] ⟨hx, hb, hml, hown, hts⟩ hE hw (c_X6_isNull l G A (ML ma) F (ma t) x e0) (va_cwS 1 hts gX6_isPrimitive_X6_isNull rfl rfl rfl (by decide +kernel) ⟨Nat.le_of_ble_eq_true rfl, Nat.le_of_ble_eq_true rfl⟩) rfl hl.1 rfl (Nat.le_of_ble_eq_true rfl) dX6_isPrimitive_1 ⟨Nat.le_of_ble_eq_true rfl, Nat.le_of_ble_eq_true rfl⟩ rfl (fun H locs hw => ?_)
  refine lv_if_eq (tgt := 9) hx hb dX6_isPrimitive_4 (by decide) (fun c_4 => ?_) (fun c_4 => ?_)
  · skip
    have c_4 := bI_eq.mp c_4
    refine lv_aload_n hx hb dX6_isPrimitive_9 rfl (lv_at hl 1 rfl) ?_
    refine lv_iconst (v := 0) hx hb dX6_isPrimitive_10 (by decide) ?_
    refine h_lald hx hb hE hw e0 (n := 4) (vp_in_nI (n := 0) (N := 4) (by decide) (by decide)) (v := x.1) rfl dX6_isPrimitive_11 ?_
    refine lv_aload_n hx hb dX6_isPrimitive_12 rfl (lv_at hl 1 rfl) ?_
    refine lv_iconst (v := 1) hx hb dX6_isPrimitive_13 (by decide) ?_
    refine h_lald hx hb hE hw e0 (n := 4) (vp_in_nI (n := 1) (N := 4) (by decide) (by decide)) (v := x.2.1) rfl dX6_isPrimitive_14 ?_
    refine h_callS (st1 := [.long (lN (Nat.gcd P0 P1))]) [.long x.1, .long x.2.1] [] ⟨hx, hb, hml, hown, hts⟩ hE hw (c_X6_common l G A (ML ma) F x.1 x.2.1 P0 P1 a0 a1 hP0 hP1) (va_cwS 2 hts gX6_isPrimitive_X6_common rfl rfl rfl (by decide +kernel) ⟨Nat.le_of_ble_eq_true rfl, Nat.le_of_ble_eq_true rfl⟩) rfl hl.1 rfl (Nat.le_of_ble_eq_true rfl) dX6_isPrimitive_15 ⟨Nat.le_of_ble_eq_true rfl, Nat.le_of_ble_eq_true rfl⟩ rfl (fun H locs hw => ?_)
    refine lv_aload_n hx hb dX6_isPrimitive_18 rfl (lv_at hl 1 rfl) ?_
    refine lv_iconst (v := 2) hx hb dX6_isPrimitive_19 (by decide) ?_
    refine h_lald hx hb hE hw e0 (n := 4) (vp_in_nI (n := 2) (N := 4) (by decide) (by decide)) (v := x.2.2.1) rfl dX6_isPrimitive_20 ?_
    refine lv_aload_n hx hb dX6_isPrimitive_21 rfl (lv_at hl 1 rfl) ?_
    refine lv_iconst (v := 3) hx hb dX6_isPrimitive_22 (by decide) ?_
    refine h_lald hx hb hE hw e0 (n := 4) (vp_in_nI (n := 3) (N := 4) (by decide) (by decide)) (v := x.2.2.2) rfl dX6_isPrimitive_23 ?_
    refine h_callS (st1 := [.long (lN (Nat.gcd P2 P3)), .long (lN (Nat.gcd P0 P1))]) [.long x.2.2.1, .long x.2.2.2] [.long (lN (Nat.gcd P0 P1))] ⟨hx, hb, hml, hown, hts⟩ hE hw (c_X6_common l G A (ML ma) F x.2.2.1 x.2.2.2 P2 P3 a2 a3 hP2 hP3) (va_cwS 2 hts gX6_isPrimitive_X6_common rfl rfl rfl (by decide +kernel) ⟨Nat.le_of_ble_eq_true rfl, Nat.le_of_ble_eq_true rfl⟩) rfl hl.1 rfl (Nat.le_of_ble_eq_true rfl) dX6_isPrimitive_24 ⟨Nat.le_of_ble_eq_true rfl, Nat.le_of_ble_eq_true rfl⟩ rfl (fun H locs hw => ?_)
    refine h_callS (st1 := [.long (lN K)]) [.long (lN (Nat.gcd P0 P1)), .long (lN (Nat.gcd P2 P3))] [] ⟨hx, hb, hml, hown, hts⟩ hE hw (HT.to (c_X6_common l G A (ML ma) F (lN (Nat.gcd P0 P1)) (lN (Nat.gcd P2 P3)) (Nat.gcd P0 P1) (Nat.gcd P2 P3) (abL_N _ (gcd_lt hP0 hP1)) (abL_N _ (gcd_lt hP2 hP3)) (gcd_lt hP0 hP1) (gcd_lt hP2 hP3)) (V2 := some (.long (lN K))) (by rw [hK]) rfl) (va_cwS 2 hts gX6_isPrimitive_X6_common rfl rfl rfl (by decide +kernel) ⟨Nat.le_of_ble_eq_true rfl, Nat.le_of_ble_eq_true rfl⟩) rfl hl.1 rfl (Nat.le_of_ble_eq_true rfl) dX6_isPrimitive_27 ⟨Nat.le_of_ble_eq_true rfl, Nat.le_of_ble_eq_true rfl⟩ rfl (fun H locs hw => ?_)
    refine lv_lstore_n (lv' := [(2, .long (lN K)), (0, .ref (ma 0)), (1, .ref (ma t))]) hx hb dX6_isPrimitive_30 rfl hl (by decide) rfl (fun ls hl => ?_)
    refine lv_lload_n hx hb dX6_isPrimitive_31 rfl (lv_at hl 0 rfl) ?_
    refine lv_ldc2 hx hb (v := (2)) hown cl_77 dX6_isPrimitive_32 ?_
    refine lv_lrem hx hb dX6_isPrimitive_35 (by decide) ?_
    refine lv_lconst (v := 0) hx hb dX6_isPrimitive_36 (by decide) ?_
    refine h_lc_ne (x := (lN K) - (lN K) / (2) * (2)) (y := 0) (tgt := 79) hx hb dX6_isPrimitive_37 dX6_isPrimitive_38 (by decide) (fun c_37 => ?_) (fun c_37 => ?_)
    · skip
      have hz : ¬ K % 2 = 0 := fun w => c_37 (by rw [rem2_N hK31, w]; rfl)
      refine lv_iconst (v := 0) hx hb dX6_isPrimitive_79 (by decide) ?_
      refine lv_istore (lv' := [(4, .int 0), (2, .long (lN K)), (0, .ref (ma 0)), (1, .ref (ma t))]) hx hb dX6_isPrimitive_80 hl (by decide) rfl (fun ls hl => ?_)
      exact loop 31 K 0 _ _ ls hK31 (by decide) (hK0 c_4) rfl ⟨fun w => ⟨c_4, w.1, fun v => hz v.1⟩, fun w => ⟨w.2.1, rfl⟩⟩ hw (lv_sub (l' := [(2, .long (lN K)), (4, .int 0)]) hl [1, 0] rfl)
    · skip
      have hz : K % 2 = 0 := (lN_0 (by omega)).mp (by rw [← rem2_N hK31]; exact c_37)
      refine lv_aload_n hx hb dX6_isPrimitive_41 rfl (lv_at hl 2 rfl) ?_
      refine lv_iconst (v := 0) hx hb dX6_isPrimitive_42 (by decide) ?_
      refine h_lald hx hb hE hw e0 (n := 4) (vp_in_nI (n := 0) (N := 4) (by decide) (by decide)) (v := x.1) rfl dX6_isPrimitive_43 ?_
      refine lv_ldc2 hx hb (v := (2)) hown cl_77 dX6_isPrimitive_44 ?_
      refine lv_ldiv hx hb dX6_isPrimitive_47 (by decide) ?_
      refine lv_aload_n hx hb dX6_isPrimitive_48 rfl (lv_at hl 2 rfl) ?_
      refine lv_iconst (v := 1) hx hb dX6_isPrimitive_49 (by decide) ?_
      refine h_lald hx hb hE hw e0 (n := 4) (vp_in_nI (n := 1) (N := 4) (by decide) (by decide)) (v := x.2.1) rfl dX6_isPrimitive_50 ?_
      refine lv_ldc2 hx hb (v := (2)) hown cl_77 dX6_isPrimitive_51 ?_
      refine lv_ldiv hx hb dX6_isPrimitive_54 (by decide) ?_
      refine lv_aload_n hx hb dX6_isPrimitive_55 rfl (lv_at hl 2 rfl) ?_
      refine lv_iconst (v := 2) hx hb dX6_isPrimitive_56 (by decide) ?_
      refine h_lald hx hb hE hw e0 (n := 4) (vp_in_nI (n := 2) (N := 4) (by decide) (by decide)) (v := x.2.2.1) rfl dX6_isPrimitive_57 ?_
      refine lv_ldc2 hx hb (v := (2)) hown cl_77 dX6_isPrimitive_58 ?_
      refine lv_ldiv hx hb dX6_isPrimitive_61 (by decide) ?_
      refine lv_aload_n hx hb dX6_isPrimitive_62 rfl (lv_at hl 2 rfl) ?_
      refine lv_iconst (v := 3) hx hb dX6_isPrimitive_63 (by decide) ?_
      refine h_lald hx hb hE hw e0 (n := 4) (vp_in_nI (n := 3) (N := 4) (by decide) (by decide)) (v := x.2.2.2) rfl dX6_isPrimitive_64 ?_
      refine lv_ldc2 hx hb (v := (2)) hown cl_77 dX6_isPrimitive_65 ?_
      refine lv_ldiv hx hb dX6_isPrimitive_68 (by decide) ?_
      refine h_callS (st1 := [.int (bI (oneM (x.1 / (2)) (x.2.1 / (2)) (x.2.2.1 / (2)) (x.2.2.2 / (2))))]) [.long (x.1 / (2)), .long (x.2.1 / (2)), .long (x.2.2.1 / (2)), .long (x.2.2.2 / (2))] [] ⟨hx, hb, hml, hown, hts⟩ hE hw (c_X6_isOne l G A (ML ma) F (x.1 / (2)) (x.2.1 / (2)) (x.2.2.1 / (2)) (x.2.2.2 / (2))) (va_cwS 4 hts gX6_isPrimitive_X6_isOne rfl rfl rfl (by decide +kernel) ⟨Nat.le_of_ble_eq_true rfl, Nat.le_of_ble_eq_true rfl⟩) rfl hl.1 rfl (Nat.le_of_ble_eq_true rfl) dX6_isPrimitive_69 ⟨Nat.le_of_ble_eq_true rfl, Nat.le_of_ble_eq_true rfl⟩ rfl (fun H locs hw => ?_)
      refine lv_if_eq (tgt := 79) hx hb dX6_isPrimitive_72 (by decide) (fun c_72 => ?_) (fun c_72 => ?_)
      · skip
        have c_72 := bI_eq.mp c_72
        refine lv_iconst (v := 0) hx hb dX6_isPrimitive_79 (by decide) ?_
        refine lv_istore (lv' := [(4, .int 0), (2, .long (lN K)), (0, .ref (ma 0)), (1, .ref (ma t))]) hx hb dX6_isPrimitive_80 hl (by decide) rfl (fun ls hl => ?_)
        exact loop 31 K 0 _ _ ls hK31 (by decide) (hK0 c_4) rfl ⟨fun w => ⟨c_4, w.1, fun v => c_72 v.2⟩, fun w => ⟨w.2.1, rfl⟩⟩ hw (lv_sub (l' := [(2, .long (lN K)), (4, .int 0)]) hl [1, 0] rfl)
      · skip
        have c_72 := bI_ne.mp c_72
        refine lv_iconst (v := 1) hx hb dX6_isPrimitive_75 (by decide) ?_
        refine lv_goto (tgt := 80) hx hb dX6_isPrimitive_76 (by decide) ?_
        refine lv_istore (lv' := [(4, .int 1), (2, .long (lN K)), (0, .ref (ma 0)), (1, .ref (ma t))]) hx hb dX6_isPrimitive_80 hl (by decide) rfl (fun ls hl => ?_)
        exact loop 31 K 1 _ _ ls hK31 (by decide) (hK0 c_4) rfl ⟨fun w => absurd w.2 (by decide), fun w => absurd ⟨hz, c_72⟩ w.2.2⟩ hw (lv_sub (l' := [(2, .long (lN K)), (4, .int 1)]) hl [1, 0] rfl)
  · skip
    have c_4 := bI_ne.mp c_4
    refine lv_iconst (v := 0) hx hb dX6_isPrimitive_7 (by decide) ?_
    exact h_zret hx hb hlk hr hw dX6_isPrimitive_8 rfl (by rw [bI_f (fun w => w.1 c_4)]) rfl

set_option maxHeartbeats 4000000 in
set_option maxRecDepth 100000 in
theorem c_X6_isPrime (l : Launch) (G : GG) (A : Nat → Prop) (L : List Nat) (F : FM) (pp : Int64) (N : Nat) (hN31 : N < 2 ^ 31) (hpN : 1 < pp → pp = lN N) (hN2 : 1 < pp → 2 ≤ N) : HT l yX6_isPrime wsX6_isPrime { frames := 0, cells := 0, slots := 0, locals := 0 } G A L [.long pp] F (some (.int (bI (1 < pp ∧ npr N)))) F := by
  refine HT.ofW (cc := cX6_isPrime) (maxL := 5) (ret := (some .boolean)) (plainFor_of_name (by decide)) rfl (Nat.le_of_ble_eq_true rfl) ?_
  intro p e s m below meth c ls hx hb hr hml hown hts hlk hE hw hl
  have hl : lv_has ls 5 [(0, .long pp)] := hl
  have hown : s.vm.findClass RX6 = some m.cls := hown
  have cl_77 := hts (.constantLong RX6 77 (2)) (by decide +kernel)
  have loop : ∀ (n d : Nat) (H : Heap) (locs : List Loc) (ls : Array Slot), 1 < pp → pp = lN N → N < d + n → 2 ≤ d → d ≤ N + 1 → (∀ e, 2 ≤ e → e < d → ¬ N % e = 0) → wo G A s.heap L F H locs → lv_has ls 5 [(0, .long pp), (2, .int 1), (3, .long (lN d))] → W p l e { frames := 0, cells := 0, slots := 0, locals := 0 } s m ([.long pp].toArray) below meth c H locs 0 0 (MQ below (QH G A L (some (.int (bI (1 < pp ∧ npr N)))) F) ([.long pp].toArray) s 0 0 A) (F0 m 16 ls []) := by
    intro n
    induction n with
    | zero =>
      intro d H locs ls h1 hpN hn hd hd2 hall hw hl
      have hsq : pp < lN d * lN d ↔ N < d * d := by rw [hpN, lN_mul]; exact pk_lLT (by omega) (Nat.lt_of_le_of_lt (Nat.mul_le_mul hd2 hd2) (Nat.lt_of_lt_of_le (Nat.mul_lt_mul'' (show N + 1 < 2 ^ 31 + 1 by omega) (show N + 1 < 2 ^ 31 + 1 by omega)) (by decide)))
      refine lv_lload_n hx hb dX6_isPrime_16 rfl (lv_at hl 2 rfl) ?_
      refine lv_lload_n hx hb dX6_isPrime_17 rfl (lv_at hl 2 rfl) ?_
      refine lv_lmul hx hb dX6_isPrime_18 ?_
      refine lv_lload_n hx hb dX6_isPrime_19 rfl (lv_at hl 0 rfl) ?_
      refine h_lc_gt (x := (lN d) * (lN d)) (y := pp) (tgt := 49) hx hb dX6_isPrime_20 dX6_isPrime_21 (by decide) (fun c_20 => ?_) (fun c_20 => ?_)
      · skip
        refine lv_iload_n hx hb dX6_isPrime_49 rfl (lv_at hl 1 rfl) ?_
        exact h_zret hx hb hlk hr hw dX6_isPrime_50 rfl (by rw [bI_t ⟨h1, fun e he1 he2 => hall e he1 (Nat.lt_of_not_le (fun w => absurd (Nat.le_trans (Nat.mul_le_mul w w) he2) (Nat.not_le.mpr (hsq.mp c_20))))⟩]) rfl
      · skip
        exact absurd (hsq.mpr (Nat.lt_of_lt_of_le (show N < d by omega) (Nat.le_mul_self d))) c_20
    | succ n ih =>
      intro d H locs ls h1 hpN hn hd hd2 hall hw hl
      have hsq : pp < lN d * lN d ↔ N < d * d := by rw [hpN, lN_mul]; exact pk_lLT (by omega) (Nat.lt_of_le_of_lt (Nat.mul_le_mul hd2 hd2) (Nat.lt_of_lt_of_le (Nat.mul_lt_mul'' (show N + 1 < 2 ^ 31 + 1 by omega) (show N + 1 < 2 ^ 31 + 1 by omega)) (by decide)))
      have hdn : ¬ lN d = 0 := fun w => absurd ((pk_lEQ (a := d) (b := 0) (by omega) (by decide)).mp w) (by omega)
      have hrm : pp - pp / lN d * lN d = lN (N % d) := by rw [hpN]; exact pk_lRem (by omega) (by omega) (by omega)
      refine lv_lload_n hx hb dX6_isPrime_16 rfl (lv_at hl 2 rfl) ?_
      refine lv_lload_n hx hb dX6_isPrime_17 rfl (lv_at hl 2 rfl) ?_
      refine lv_lmul hx hb dX6_isPrime_18 ?_
      refine lv_lload_n hx hb dX6_isPrime_19 rfl (lv_at hl 0 rfl) ?_
      refine h_lc_gt (x := (lN d) * (lN d)) (y := pp) (tgt := 49) hx hb dX6_isPrime_20 dX6_isPrime_21 (by decide) (fun c_20 => ?_) (fun c_20 => ?_)
      · skip
        refine lv_iload_n hx hb dX6_isPrime_49 rfl (lv_at hl 1 rfl) ?_
        exact h_zret hx hb hlk hr hw dX6_isPrime_50 rfl (by rw [bI_t ⟨h1, fun e he1 he2 => hall e he1 (Nat.lt_of_not_le (fun w => absurd (Nat.le_trans (Nat.mul_le_mul w w) he2) (Nat.not_le.mpr (hsq.mp c_20))))⟩]) rfl
      · skip
        have hle : d * d ≤ N := Nat.not_lt.mp (fun w => c_20 (hsq.mpr w))
        refine lv_iload_n hx hb dX6_isPrime_24 rfl (lv_at hl 1 rfl) ?_
        refine lv_if_eq (tgt := 49) hx hb dX6_isPrime_25 (by decide) (fun c_25 => ?_) (fun c_25 => ?_)
        · skip
          first | exact absurd c_25 (by decide) | exact absurd (by decide) c_25
        · skip
          refine lv_lload_n hx hb dX6_isPrime_28 rfl (lv_at hl 0 rfl) ?_
          refine lv_lload_n hx hb dX6_isPrime_29 rfl (lv_at hl 2 rfl) ?_
          refine lv_lrem hx hb dX6_isPrime_30 hdn ?_
          refine lv_lconst (v := 0) hx hb dX6_isPrime_31 (by decide) ?_
          refine h_lc_eq (x := pp - pp / (lN d) * (lN d)) (y := 0) (tgt := 40) hx hb dX6_isPrime_32 dX6_isPrime_33 (by decide) (fun c_32 => ?_) (fun c_32 => ?_)
          · skip
            have hz : N % d = 0 := (lN_0 (Nat.lt_of_le_of_lt (Nat.mod_le _ _) (by omega))).mp (by rw [← hrm]; exact c_32)
            refine lv_iconst (v := 0) hx hb dX6_isPrime_40 (by decide) ?_
            refine lv_istore_n (lv' := [(2, .int 0), (0, .long pp), (3, .long (lN d))]) hx hb dX6_isPrime_41 rfl hl (by decide) rfl (fun ls hl => ?_)
            refine lv_lload_n hx hb dX6_isPrime_42 rfl (lv_at hl 2 rfl) ?_
            refine lv_lconst (v := 1) hx hb dX6_isPrime_43 (by decide) ?_
            refine lv_ladd hx hb dX6_isPrime_44 ?_
            refine lv_topl (fun d9 ed9 => ?_)
            refine lv_lstore_n (lv' := [(3, .long d9), (2, .int 0), (0, .long pp)]) hx hb dX6_isPrime_45 rfl hl (by decide) rfl (fun ls hl => ?_)
            refine lv_goto (tgt := 16) hx hb dX6_isPrime_46 (by decide) ?_
            refine lv_lload_n hx hb dX6_isPrime_16 rfl (lv_at hl 0 rfl) ?_
            refine lv_lload_n hx hb dX6_isPrime_17 rfl (lv_at hl 0 rfl) ?_
            refine lv_lmul hx hb dX6_isPrime_18 ?_
            refine lv_lload_n hx hb dX6_isPrime_19 rfl (lv_at hl 2 rfl) ?_
            refine h_lc_gt (x := d9 * d9) (y := pp) (tgt := 49) hx hb dX6_isPrime_20 dX6_isPrime_21 (by decide) (fun c_20 => ?_) (fun c_20 => ?_)
            · skip
              refine lv_iload_n hx hb dX6_isPrime_49 rfl (lv_at hl 1 rfl) ?_
              exact h_zret hx hb hlk hr hw dX6_isPrime_50 rfl (by rw [bI_f (fun w => w.2 d hd hle hz)]) rfl
            · skip
              refine lv_iload_n hx hb dX6_isPrime_24 rfl (lv_at hl 1 rfl) ?_
              refine lv_if_eq (tgt := 49) hx hb dX6_isPrime_25 (by decide) (fun c_25 => ?_) (fun c_25 => ?_)
              · skip
                refine lv_iload_n hx hb dX6_isPrime_49 rfl (lv_at hl 1 rfl) ?_
                exact h_zret hx hb hlk hr hw dX6_isPrime_50 rfl (by rw [bI_f (fun w => w.2 d hd hle hz)]) rfl
              · skip
                first | exact absurd c_25 (by decide) | exact absurd (by decide) c_25
          · skip
            have hz : ¬ N % d = 0 := fun w => c_32 (by rw [hrm, w]; rfl)
            refine lv_iconst (v := 1) hx hb dX6_isPrime_36 (by decide) ?_
            refine lv_goto (tgt := 41) hx hb dX6_isPrime_37 (by decide) ?_
            refine lv_istore_n (lv' := [(2, .int 1), (0, .long pp), (3, .long (lN d))]) hx hb dX6_isPrime_41 rfl hl (by decide) rfl (fun ls hl => ?_)
            refine lv_lload_n hx hb dX6_isPrime_42 rfl (lv_at hl 2 rfl) ?_
            refine lv_lconst (v := 1) hx hb dX6_isPrime_43 (by decide) ?_
            refine lv_ladd hx hb dX6_isPrime_44 ?_
            refine lv_topl (fun d9 ed9 => ?_)
            refine lv_lstore_n (lv' := [(3, .long d9), (2, .int 1), (0, .long pp)]) hx hb dX6_isPrime_45 rfl hl (by decide) rfl (fun ls hl => ?_)
            refine lv_goto (tgt := 16) hx hb dX6_isPrime_46 (by decide) ?_
            exact ih (d + 1) _ _ ls h1 hpN (by omega) (by omega) (by have := Nat.le_mul_self d; omega) (fun e h2 h3 => by rcases Nat.lt_or_ge e d with q | q; exact hall e h2 q; rw [show e = d by omega]; exact hz) hw (lv_sub (l' := [(0, .long pp), (2, .int 1), (3, .long (lN (d + 1)))]) hl [2, 1, 0] (by rw [show lN (d + 1) = d9 from by rw [ed9, lN_1]]; rfl))
  refine lv_lload_n hx hb dX6_isPrime_0 rfl (lv_at hl 0 rfl) ?_
  refine lv_lconst (v := 1) hx hb dX6_isPrime_1 (by decide) ?_
  refine h_lc_le (x := pp) (y := 1) (tgt := 10) hx hb dX6_isPrime_2 dX6_isPrime_3 (by decide) (fun c_2 => ?_) (fun c_2 => ?_)
  · skip
    refine lv_iconst (v := 0) hx hb dX6_isPrime_10 (by decide) ?_
    refine lv_istore_n (lv' := [(2, .int 0), (0, .long pp)]) hx hb dX6_isPrime_11 rfl hl (by decide) rfl (fun ls hl => ?_)
    refine lv_ldc2 hx hb (v := (2)) hown cl_77 dX6_isPrime_12 ?_
    refine lv_lstore_n (lv' := [(3, .long (2)), (2, .int 0), (0, .long pp)]) hx hb dX6_isPrime_15 rfl hl (by decide) rfl (fun ls hl => ?_)
    refine lv_lload_n hx hb dX6_isPrime_16 rfl (lv_at hl 0 rfl) ?_
    refine lv_lload_n hx hb dX6_isPrime_17 rfl (lv_at hl 0 rfl) ?_
    refine lv_lmul hx hb dX6_isPrime_18 ?_
    refine lv_lload_n hx hb dX6_isPrime_19 rfl (lv_at hl 2 rfl) ?_
    refine h_lc_gt (x := (2) * (2)) (y := pp) (tgt := 49) hx hb dX6_isPrime_20 dX6_isPrime_21 (by decide) (fun c_20 => ?_) (fun c_20 => ?_)
    · skip
      refine lv_iload_n hx hb dX6_isPrime_49 rfl (lv_at hl 1 rfl) ?_
      exact h_zret hx hb hlk hr hw dX6_isPrime_50 rfl (by rw [bI_f (fun w => absurd w.1 (Int64.not_lt.mpr c_2))]) rfl
    · skip
      refine lv_iload_n hx hb dX6_isPrime_24 rfl (lv_at hl 1 rfl) ?_
      refine lv_if_eq (tgt := 49) hx hb dX6_isPrime_25 (by decide) (fun c_25 => ?_) (fun c_25 => ?_)
      · skip
        refine lv_iload_n hx hb dX6_isPrime_49 rfl (lv_at hl 1 rfl) ?_
        exact h_zret hx hb hlk hr hw dX6_isPrime_50 rfl (by rw [bI_f (fun w => absurd w.1 (Int64.not_lt.mpr c_2))]) rfl
      · skip
        first | exact absurd c_25 (by decide) | exact absurd (by decide) c_25
  · skip
    refine lv_iconst (v := 1) hx hb dX6_isPrime_6 (by decide) ?_
    refine lv_goto (tgt := 11) hx hb dX6_isPrime_7 (by decide) ?_
    refine lv_istore_n (lv' := [(2, .int 1), (0, .long pp)]) hx hb dX6_isPrime_11 rfl hl (by decide) rfl (fun ls hl => ?_)
    refine lv_ldc2 hx hb (v := (2)) hown cl_77 dX6_isPrime_12 ?_
    refine lv_lstore_n (lv' := [(3, .long (2)), (2, .int 1), (0, .long pp)]) hx hb dX6_isPrime_15 rfl hl (by decide) rfl (fun ls hl => ?_)
    exact loop N 2 _ _ ls (Int64.not_le.mp c_2) (hpN (Int64.not_le.mp c_2)) (by omega) (by decide) (by have := hN2 (Int64.not_le.mp c_2); omega) (fun e h2 h3 => absurd h3 (by omega)) hw (lv_sub (l' := [(0, .long pp), (2, .int 1), (3, .long (lN 2))]) hl [2, 1, 0] rfl)
