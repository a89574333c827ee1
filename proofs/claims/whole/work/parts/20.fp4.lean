def prl (p : Int64) : Nat → Nat → Prop
  | 0, _ => True
  | d + 1, m => 20000 < m ∨ p < lN m * lN m ∨ (¬ p - p / lN m * lN m = 0 ∧ prl p d (m + 2))
def pri (p : Int64) : Prop := (4 ≤ p ∧ ¬ p - p / 2 * 2 = 0 ∧ prl p 10000 3) ∨ (¬ 4 ≤ p ∧ ¬ p < 2)
theorem pri_odd {p : Int64} (h : 4 ≤ p) (h2 : ¬ p - p / 2 * 2 = 0) : prl p 10000 3 ↔ pri p := by
  unfold pri
  generalize prl p 10000 3 = X
  exact ⟨fun w => Or.inl ⟨h, h2, w⟩, fun w => w.elim (fun v => v.2.2) (fun v => absurd h v.1)⟩
theorem pri_even {p : Int64} (h : 4 ≤ p) (h2 : p - p / 2 * 2 = 0) : ¬ pri p := by
  unfold pri
  generalize prl p 10000 3 = X
  exact fun w => w.elim (fun v => v.2.1 h2) (fun v => v.1 h)
theorem pri_sm {p : Int64} (h : ¬ 4 ≤ p) (h2 : ¬ p < 2) : pri p := by
  unfold pri
  generalize prl p 10000 3 = X
  exact Or.inr ⟨h, h2⟩
theorem pri_lo {p : Int64} (h : ¬ 4 ≤ p) (h2 : p < 2) : ¬ pri p := by
  unfold pri
  generalize prl p 10000 3 = X
  exact fun w => w.elim (fun v => h v.1) (fun v => v.2 h2)
def apl (g : Nat → Int64) (a : Nat) : Nat → Nat → Int64 → Prop
  | 0, _, left => left = 1
  | d + 1, k, left => ¬ g (a + k) < 2 ∧ left - left / g (a + k) * g (a + k) = 0 ∧ pri (g (a + k)) ∧ apl g a d (k + 1) (left / g (a + k))
theorem nlt2_ne {p : Int64} (h : ¬ p < 2) : ¬ p = 0 := fun q => h (by rw [q]; decide)
noncomputable def wayq (q : Nat → Q4) (x : Q4) (pr : Nat → Int64) (n : Nat) (i : Nat) : Q4 := if 16 ≤ i ∧ i < 16 + n then (if i - 16 + 1 < n then wf x pr (i - 16) else wl x pr (n - 1)) else q i
noncomputable def sWy (S : SS) (a b o n : Nat) : SS := (wayq S.1 (S.1 a) (fun k => S.2.2.2.1 b (o + k)) n, S.2.1, S.2.2.1, S.2.2.2.1, n)
noncomputable def sp_way (S : SS) (s r i n : Int32) : Int32 × SS := match ix 16 s with
  | none => (-1, S)
  | some a => match ix 6 r with
    | none => (-1, S)
    | some b => cif (n = 0) (-1, S) (cif (n ≤ 12) (cif (S.2.1 b = -1) (-11, S) (cif (0 ≤ n) (match rch (S.2.2.1 b) i n with
      | none => (-12, S)
      | some t => cif (qpr (S.1 a)) (cif (apl (S.2.2.2.1 b) t.1 t.2 0 (qnorm (S.1 a))) (n, sWy S a b t.1 t.2) (-2, S)) (-2, S)) (-13, S))) (-1, S))
theorem way_q {q rg : Nat → Q4} {x : Q4} {pr : Nat → Int64} {n : Nat} (hn : 1 ≤ n) (hn2 : n ≤ 12) (h1 : ∀ k, k + 1 < n → q (16 + k) = wf x pr k) (h2 : q (16 + (n - 1)) = wl x pr (n - 1)) (h3 : ∀ k, n ≤ k → k < 12 → q (16 + k) = rg (16 + k)) (h4 : ∀ k, k < 16 → q k = rg k) : ∀ k, k < 28 → q k = wayq rg x pr n k := by
  intro k hk
  unfold wayq
  by_cases a1 : 16 ≤ k ∧ k < 16 + n
  · rw [if_pos a1]
    by_cases a2 : k - 16 + 1 < n
    · rw [if_pos a2, ← h1 (k - 16) a2, show 16 + (k - 16) = k by omega]
    · rw [if_neg a2, ← h2, show 16 + (n - 1) = k by omega]
  · rw [if_neg a1]
    by_cases a3 : k < 16
    · exact h4 k a3
    · have := h3 (k - 16) (by omega) (by omega)
      rw [show 16 + (k - 16) = k by omega] at this
      exact this
set_option maxHeartbeats 4000000 in
set_option maxRecDepth 100000 in
theorem c_X5_isPrime (l : Launch) (G : GG) (A : Nat → Prop) (L : List Nat) (F : FM) (pp : Int64) : HT l yX5_isPrime wsX5_isPrime { frames := 0, cells := 0, slots := 0, locals := 0 } G A L [.long pp] F (some (.int (bI (pri pp)))) F := by
  refine HT.ofW (cc := cX5_isPrime) (maxL := 4) (ret := (some .boolean)) (plainFor_of_name (by decide)) rfl (Nat.le_of_ble_eq_true rfl) ?_
  intro p e s m below meth c ls hx hb hr hml hown hts hlk hE hw hl
  have hl : lv_has ls 4 [(0, .long pp)] := hl
  have hown : s.vm.findClass RX5 = some m.cls := hown
  have cl_234 := hts (.constantLong RX5 234 (20000)) (by decide +kernel)
  have cl_224 := hts (.constantLong RX5 224 (2)) (by decide +kernel)
  have cl_230 := hts (.constantLong RX5 230 (4)) (by decide +kernel)
  have cl_232 := hts (.constantLong RX5 232 (3)) (by decide +kernel)
  have loop : ∀ (d mm : Nat) (H : Heap) (locs : List Loc) (ls : Array Slot), 20000 < mm + 2 * d → 0 < mm → mm ≤ 20002 → (prl pp d mm ↔ pri pp) → wo G A s.heap L F H locs → lv_has ls 4 [(0, .long pp), (2, .long (lN mm))] → W p l e { frames := 0, cells := 0, slots := 0, locals := 0 } s m ([.long pp].toArray) below meth c H locs 0 0 (MQ below (QH G A L (some (.int (bI (pri pp)))) F) ([.long pp].toArray) s 0 0 A) (F0 m 38 ls []) := by
    intro d
    induction d with
    | zero =>
      intro mm H locs ls h1 h0 h2 hp hw hl
      refine lv_lload_n hx hb dX5_isPrime_38 rfl (lv_at hl 1 rfl) ?_
      refine lv_ldc2 hx hb (v := (20000)) hown cl_234 dX5_isPrime_39 ?_
      refine h_lc_gt (x := lN mm) (y := (20000)) (tgt := 73) hx hb dX5_isPrime_42 dX5_isPrime_43 (by decide) (fun c_42 => ?_) (fun c_42 => ?_)
      · skip
        refine lv_iconst (v := 1) hx hb dX5_isPrime_73 (by decide) ?_
        exact h_zret hx hb hlk hr hw dX5_isPrime_74 rfl (by rw [bI_t (hp.mp trivial)]) rfl
      · skip
        exact absurd ((lN_lt (a := 20000) (by decide) (by omega)).mpr (by omega)) c_42
    | succ d ih =>
      intro mm H locs ls h1 h0 h2 hp hw hl
      have hne : ¬ lN mm = 0 := fun w => absurd ((lN_eq (a := mm) (b := 0) (by omega) (by decide)).mp w) (by omega)
      refine lv_lload_n hx hb dX5_isPrime_38 rfl (lv_at hl 1 rfl) ?_
      refine lv_ldc2 hx hb (v := (20000)) hown cl_234 dX5_isPrime_39 ?_
      refine h_lc_gt (x := lN mm) (y := (20000)) (tgt := 73) hx hb dX5_isPrime_42 dX5_isPrime_43 (by decide) (fun c_42 => ?_) (fun c_42 => ?_)
      · skip
        have hmm : 20000 < mm := (lN_lt (a := 20000) (by decide) (by omega)).mp c_42
        refine lv_iconst (v := 1) hx hb dX5_isPrime_73 (by decide) ?_
        exact h_zret hx hb hlk hr hw dX5_isPrime_74 rfl (by rw [bI_t (hp.mp (Or.inl hmm))]) rfl
      · skip
        have hmm : ¬ 20000 < mm := fun w => c_42 ((lN_lt (a := 20000) (by decide) (by omega)).mpr w)
        refine lv_lload_n hx hb dX5_isPrime_46 rfl (lv_at hl 1 rfl) ?_
        refine lv_lload_n hx hb dX5_isPrime_47 rfl (lv_at hl 1 rfl) ?_
        refine lv_lmul hx hb dX5_isPrime_48 ?_
        refine lv_lload_n hx hb dX5_isPrime_49 rfl (lv_at hl 0 rfl) ?_
        refine h_lc_gt (x := (lN mm) * (lN mm)) (y := pp) (tgt := 73) hx hb dX5_isPrime_50 dX5_isPrime_51 (by decide) (fun c_50 => ?_) (fun c_50 => ?_)
        · skip
          refine lv_iconst (v := 1) hx hb dX5_isPrime_73 (by decide) ?_
          exact h_zret hx hb hlk hr hw dX5_isPrime_74 rfl (by rw [bI_t (hp.mp (Or.inr (Or.inl c_50)))]) rfl
        · skip
          refine lv_lload_n hx hb dX5_isPrime_54 rfl (lv_at hl 0 rfl) ?_
          refine lv_lload_n hx hb dX5_isPrime_55 rfl (lv_at hl 1 rfl) ?_
          refine lv_lrem hx hb dX5_isPrime_56 hne ?_
          refine lv_lconst (v := 0) hx hb dX5_isPrime_57 (by decide) ?_
          refine h_lc_ne (x := pp - pp / (lN mm) * (lN mm)) (y := 0) (tgt := 64) hx hb dX5_isPrime_58 dX5_isPrime_59 (by decide) (fun c_58 => ?_) (fun c_58 => ?_)
          · skip
            refine lv_lload_n hx hb dX5_isPrime_64 rfl (lv_at hl 1 rfl) ?_
            refine lv_ldc2 hx hb (v := (2)) hown cl_224 dX5_isPrime_65 ?_
            refine lv_ladd hx hb dX5_isPrime_68 ?_
            refine lv_topl (fun m9 em9 => ?_)
            refine lv_lstore_n (lv' := [(2, .long m9), (0, .long pp)]) hx hb dX5_isPrime_69 rfl hl (by decide) rfl (fun ls hl => ?_)
            refine lv_goto (tgt := 38) hx hb dX5_isPrime_70 (by decide) ?_
            exact ih (mm + 2) _ _ ls (by omega) (by omega) (by omega) ⟨fun w => hp.mp (Or.inr (Or.inr ⟨c_58, w⟩)), fun w => (hp.mpr w).elim (fun v => absurd v hmm) (fun v => v.elim (fun v => absurd v c_50) (fun v => v.2))⟩ hw (lv_sub (l' := [(0, .long pp), (2, .long (lN (mm + 2)))]) hl [1, 0] (by rw [show lN (mm + 2) = m9 from by rw [em9, ← lN_add]; rfl]; rfl))
          · skip
            refine lv_iconst (v := 0) hx hb dX5_isPrime_62 (by decide) ?_
            exact h_zret hx hb hlk hr hw dX5_isPrime_63 rfl (by rw [bI_f (fun w => (hp.mpr w).elim hmm (fun w => w.elim c_50 (fun w => w.1 c_58)))]) rfl
  refine lv_lload_n hx hb dX5_isPrime_0 rfl (lv_at hl 0 rfl) ?_
  refine lv_ldc2 hx hb (v := (4)) hown cl_230 dX5_isPrime_1 ?_
  refine h_lc_ge (x := pp) (y := (4)) (tgt := 22) hx hb dX5_isPrime_4 dX5_isPrime_5 (by decide) (fun c_4 => ?_) (fun c_4 => ?_)
  · skip
    refine lv_lload_n hx hb dX5_isPrime_22 rfl (lv_at hl 0 rfl) ?_
    refine lv_ldc2 hx hb (v := (2)) hown cl_224 dX5_isPrime_23 ?_
    refine lv_lrem hx hb dX5_isPrime_26 (by decide) ?_
    refine lv_lconst (v := 0) hx hb dX5_isPrime_27 (by decide) ?_
    refine h_lc_ne (x := pp - pp / (2) * (2)) (y := 0) (tgt := 34) hx hb dX5_isPrime_28 dX5_isPrime_29 (by decide) (fun c_28 => ?_) (fun c_28 => ?_)
    · skip
      refine lv_ldc2 hx hb (v := (3)) hown cl_232 dX5_isPrime_34 ?_
      refine lv_lstore_n (lv' := [(2, .long (3)), (0, .long pp)]) hx hb dX5_isPrime_37 rfl hl (by decide) rfl (fun ls hl => ?_)
      exact loop 10000 3 _ _ ls (by decide) (by decide) (by decide) (pri_odd c_4 c_28) hw (lv_sub (l' := [(0, .long pp), (2, .long (lN 3))]) hl [1, 0] rfl)
    · skip
      refine lv_iconst (v := 0) hx hb dX5_isPrime_32 (by decide) ?_
      exact h_zret hx hb hlk hr hw dX5_isPrime_33 rfl (by rw [bI_f (pri_even c_4 c_28)]) rfl
  · skip
    refine lv_lload_n hx hb dX5_isPrime_8 rfl (lv_at hl 0 rfl) ?_
    refine lv_ldc2 hx hb (v := (2)) hown cl_224 dX5_isPrime_9 ?_
    refine h_lc_lt (x := pp) (y := (2)) (tgt := 20) hx hb dX5_isPrime_12 dX5_isPrime_13 (by decide) (fun c_12 => ?_) (fun c_12 => ?_)
    · skip
      refine lv_iconst (v := 0) hx hb dX5_isPrime_20 (by decide) ?_
      exact h_zret hx hb hlk hr hw dX5_isPrime_21 rfl (by rw [bI_f (pri_lo c_4 c_12)]) rfl
    · skip
      refine lv_iconst (v := 1) hx hb dX5_isPrime_16 (by decide) ?_
      refine lv_goto (tgt := 21) hx hb dX5_isPrime_17 (by decide) ?_
      exact h_zret hx hb hlk hr hw dX5_isPrime_21 rfl (by rw [bI_t (pri_sm c_4 c_12)]) rfl

set_option maxHeartbeats 4000000 in
set_option maxRecDepth 100000 in
theorem c_X5_arePrimesWithProduct (l : Launch) (G : GG) (A : Nat → Prop) (L : List Nat) (F : FM) (h ar : Nat) (z : Nat) (kd : Int32) (g : Nat → Int64) (e0 : pt L F h (eSh ar (nI z) kd)) (e1 : pt L F ar (eJ G 16 g)) (hz : z ≤ 16) (o n : Nat) (hon : o + n ≤ z) (nn : Int64) : HT l yX5_arePrimesWithProduct wsX5_arePrimesWithProduct { frames := 1, cells := 0, slots := 0, locals := 23 } G A L [.ref h, .int (nI o), .int (nI n), .long nn] F (some (.int (bI (apl g o n 0 nn)))) F := by
  refine HT.ofW (cc := cX5_arePrimesWithProduct) (maxL := 10) (ret := (some .boolean)) (plainFor_of_name (by decide)) rfl (Nat.le_of_ble_eq_true rfl) ?_
  intro p e s m below meth c ls hx hb hr hml hown hts hlk hE hw hl
  have hl : lv_has ls 10 [(0, .ref h), (1, .int (nI o)), (2, .int (nI n)), (3, .long nn)] := hl
  have hown : s.vm.findClass RX5 = some m.cls := hown
  have cl_224 := hts (.constantLong RX5 224 (2)) (by decide +kernel)
  have loop : ∀ (d k : Nat) (lf : Int64) (H : Heap) (locs : List Loc) (ls : Array Slot), d + k = n → (apl g o d k lf ↔ apl g o n 0 nn) → wo G A s.heap L F H locs → lv_has ls 10 [(0, .ref h), (1, .int (nI o)), (2, .int (nI n)), (5, .long lf), (7, .int (nI k))] → W p l e { frames := 1, cells := 0, slots := 0, locals := 23 } s m ([.ref h, .int (nI o), .int (nI n), .long nn].toArray) below meth c H locs 0 0 (MQ below (QH G A L (some (.int (bI (apl g o n 0 nn)))) F) ([.ref h, .int (nI o), .int (nI n), .long nn].toArray) s 0 0 A) (F0 m 6 ls []) := by
    intro d
    induction d with
    | zero =>
      intro k lf H locs ls hd hp hw hl
      refine lv_iload hx hb dX5_arePrimesWithProduct_6 (lv_at hl 4 rfl) ?_
      refine lv_iload_n hx hb dX5_arePrimesWithProduct_8 rfl (lv_at hl 2 rfl) ?_
      refine lv_icmp_ge (tgt := 64) hx hb dX5_arePrimesWithProduct_9 (by decide) (fun c_9 => ?_) (fun c_9 => ?_)
      · skip
        refine lv_lload hx hb dX5_arePrimesWithProduct_64 (lv_at hl 3 rfl) ?_
        refine lv_lconst (v := 1) hx hb dX5_arePrimesWithProduct_66 (by decide) ?_
        refine h_lc_ne (x := lf) (y := 1) (tgt := 75) hx hb dX5_arePrimesWithProduct_67 dX5_arePrimesWithProduct_68 (by decide) (fun c_67 => ?_) (fun c_67 => ?_)
        · skip
          refine lv_iconst (v := 0) hx hb dX5_arePrimesWithProduct_75 (by decide) ?_
          exact h_zret hx hb hlk hr hw dX5_arePrimesWithProduct_76 rfl (by rw [bI_f (fun w => c_67 (hp.mpr w))]) rfl
        · skip
          refine lv_iconst (v := 1) hx hb dX5_arePrimesWithProduct_71 (by decide) ?_
          refine lv_goto (tgt := 76) hx hb dX5_arePrimesWithProduct_72 (by decide) ?_
          exact h_zret hx hb hlk hr hw dX5_arePrimesWithProduct_76 rfl (by rw [bI_t (hp.mp c_67)]) rfl
      · skip
        exact absurd (nI_le (show n ≤ k by omega) (by omega)) c_9
    | succ d ih =>
      intro k lf H locs ls hd hp hw hl
      refine lv_iload hx hb dX5_arePrimesWithProduct_6 (lv_at hl 4 rfl) ?_
      refine lv_iload_n hx hb dX5_arePrimesWithProduct_8 rfl (lv_at hl 2 rfl) ?_
      refine lv_icmp_ge (tgt := 64) hx hb dX5_arePrimesWithProduct_9 (by decide) (fun c_9 => ?_) (fun c_9 => ?_)
      · skip
        exact absurd c_9 (nI_ge (show k < n by omega) (by omega))
      · skip
        refine lv_aload_n hx hb dX5_arePrimesWithProduct_12 rfl (lv_at hl 0 rfl) ?_
        refine lv_iload_n hx hb dX5_arePrimesWithProduct_13 rfl (lv_at hl 1 rfl) ?_
        refine lv_iload hx hb dX5_arePrimesWithProduct_14 (lv_at hl 4 rfl) ?_
        refine lv_iadd hx hb dX5_arePrimesWithProduct_16 ?_
        refine W.eq (g2 := F0 m 17 ls [.int (nI (o + k)), .ref h]) (by rw [nI_add]) ?_
        refine h_callV (st1 := [.long (g (o + k))]) [.int (nI (o + k))] [] ⟨hx, hb, hml, hown, hts⟩ hE hw (c_X3_at l G A L F h ar z kd g e0 e1 hz (o + k) (by omega)) (cwV 1 hts gX5_arePrimesWithProduct_X3_at rfl rfl rfl (by decide +kernel) ⟨Nat.le_of_ble_eq_true rfl, Nat.le_of_ble_eq_true rfl⟩) e0 rfl rfl rfl hl.1 rfl (Nat.le_of_ble_eq_true rfl) dX5_arePrimesWithProduct_17 ⟨Nat.le_of_ble_eq_true rfl, Nat.le_of_ble_eq_true rfl⟩ rfl (fun H locs hw => ?_)
        refine lv_lstore (lv' := [(8, .long (g (o + k))), (0, .ref h), (1, .int (nI o)), (2, .int (nI n)), (5, .long lf), (7, .int (nI k))]) hx hb dX5_arePrimesWithProduct_20 hl (by decide) rfl (fun ls hl => ?_)
        refine lv_lload hx hb dX5_arePrimesWithProduct_22 (lv_at hl 0 rfl) ?_
        refine lv_ldc2 hx hb (v := (2)) hown cl_224 dX5_arePrimesWithProduct_24 ?_
        refine h_lc_lt (x := g (o + k)) (y := (2)) (tgt := 49) hx hb dX5_arePrimesWithProduct_27 dX5_arePrimesWithProduct_28 (by decide) (fun c_27 => ?_) (fun c_27 => ?_)
        · skip
          refine lv_iconst (v := 0) hx hb dX5_arePrimesWithProduct_49 (by decide) ?_
          exact h_zret hx hb hlk hr hw dX5_arePrimesWithProduct_50 rfl (by rw [bI_f (fun w => (hp.mpr w).1 c_27)]) rfl
        · skip
          refine lv_lload hx hb dX5_arePrimesWithProduct_31 (lv_at hl 4 rfl) ?_
          refine lv_lload hx hb dX5_arePrimesWithProduct_33 (lv_at hl 0 rfl) ?_
          refine lv_lrem hx hb dX5_arePrimesWithProduct_35 (nlt2_ne c_27) ?_
          refine lv_lconst (v := 0) hx hb dX5_arePrimesWithProduct_36 (by decide) ?_
          refine h_lc_ne (x := lf - lf / (g (o + k)) * (g (o + k))) (y := 0) (tgt := 49) hx hb dX5_arePrimesWithProduct_37 dX5_arePrimesWithProduct_38 (by decide) (fun c_37 => ?_) (fun c_37 => ?_)
          · skip
            refine lv_iconst (v := 0) hx hb dX5_arePrimesWithProduct_49 (by decide) ?_
            exact h_zret hx hb hlk hr hw dX5_arePrimesWithProduct_50 rfl (by rw [bI_f (fun w => c_37 (hp.mpr w).2.1)]) rfl
          · skip
            refine lv_lload hx hb dX5_arePrimesWithProduct_41 (lv_at hl 0 rfl) ?_
            refine h_callS (st1 := [.int (bI (pri (g (o + k))))]) [.long (g (o + k))] [] ⟨hx, hb, hml, hown, hts⟩ hE hw (c_X5_isPrime l G A L F (g (o + k))) (va_cwS 1 hts gX5_arePrimesWithProduct_X5_isPrime rfl rfl rfl (by decide +kernel) ⟨Nat.le_of_ble_eq_true rfl, Nat.le_of_ble_eq_true rfl⟩) rfl hl.1 rfl (Nat.le_of_ble_eq_true rfl) dX5_arePrimesWithProduct_43 ⟨Nat.le_of_ble_eq_true rfl, Nat.le_of_ble_eq_true rfl⟩ rfl (fun H locs hw => ?_)
            refine lv_if_ne (tgt := 51) hx hb dX5_arePrimesWithProduct_46 (by decide) (fun c_46 => ?_) (fun c_46 => ?_)
            · skip
              have c_46 := bI_ne.mp c_46
              refine lv_lload hx hb dX5_arePrimesWithProduct_51 (lv_at hl 4 rfl) ?_
              refine lv_lload hx hb dX5_arePrimesWithProduct_53 (lv_at hl 0 rfl) ?_
              refine lv_ldiv hx hb dX5_arePrimesWithProduct_55 (nlt2_ne c_27) ?_
              refine lv_topl (fun l9 el9 => ?_)
              refine lv_lstore (lv' := [(5, .long l9), (8, .long (g (o + k))), (0, .ref h), (1, .int (nI o)), (2, .int (nI n)), (7, .int (nI k))]) hx hb dX5_arePrimesWithProduct_56 hl (by decide) rfl (fun ls hl => ?_)
              obtain ⟨i9, ei9⟩ : ∃ y : Int32, y = (nI k) + 1 := ⟨_, rfl⟩
              refine lv_iinc (v := i9) (lv' := [(7, .int i9), (5, .long l9), (8, .long (g (o + k))), (0, .ref h), (1, .int (nI o)), (2, .int (nI n))]) hx hb dX5_arePrimesWithProduct_58 hl (k := 5) rfl (by rw [ei9, show Int32.ofInt (1) = 1 from by decide]) (by decide) rfl (fun ls hl => ?_)
              refine lv_goto (tgt := 6) hx hb dX5_arePrimesWithProduct_61 (by decide) ?_
              exact ih (k + 1) l9 _ _ ls (by omega) (by rw [el9]; exact ⟨fun w => hp.mp ⟨c_27, c_37, c_46, w⟩, fun w => (hp.mpr w).2.2.2⟩) hw (lv_sub (l' := [(0, .ref h), (1, .int (nI o)), (2, .int (nI n)), (5, .long l9), (7, .int (nI (k + 1)))]) hl [3, 4, 5, 1, 0] (by rw [← nI_1, ← ei9]; rfl))
            · skip
              have c_46 := bI_eq.mp c_46
              refine lv_iconst (v := 0) hx hb dX5_arePrimesWithProduct_49 (by decide) ?_
              exact h_zret hx hb hlk hr hw dX5_arePrimesWithProduct_50 rfl (by rw [bI_f (fun w => c_46 (hp.mpr w).2.2.1)]) rfl
  refine lv_lload_n hx hb dX5_arePrimesWithProduct_0 rfl (lv_at hl 3 rfl) ?_
  refine lv_lstore (lv' := [(5, .long nn), (0, .ref h), (1, .int (nI o)), (2, .int (nI n)), (3, .long nn)]) hx hb dX5_arePrimesWithProduct_1 hl (by decide) rfl (fun ls hl => ?_)
  refine lv_iconst (v := 0) hx hb dX5_arePrimesWithProduct_3 (by decide) ?_
  refine lv_istore (lv' := [(7, .int 0), (5, .long nn), (0, .ref h), (1, .int (nI o)), (2, .int (nI n)), (3, .long nn)]) hx hb dX5_arePrimesWithProduct_4 hl (by decide) rfl (fun ls hl => ?_)
  exact loop n 0 nn _ _ ls rfl Iff.rfl hw (lv_sub (l' := [(0, .ref h), (1, .int (nI o)), (2, .int (nI n)), (5, .long nn), (7, .int (nI 0))]) hl [2, 3, 4, 1, 0] rfl)

set_option maxHeartbeats 4000000 in
set_option maxRecDepth 100000 in
theorem c_X5_way (l : Launch) (G : GG) (A : Nat → Prop) (ad : Nat → Nat) (F : FM) (rg : Nat → Q4) (kd : Nat → Int32) (z : Nat → Nat) (pl : Nat → Nat → Int64) (cnt : Nat) (hR : CR G ad (rg, kd, z, pl, cnt) F) (hz : ∀ k, k < 6 → z k ≤ 16) (hc12 : cnt ≤ 12) (hnz : ∀ ks kr o n : Nat, ks < 16 → kr < 6 → 1 ≤ n → n ≤ 12 → o + n ≤ z kr → qpr (rg ks) → apl (pl kr) o n 0 (qnorm (rg ks)) → ∀ k, k + 1 < n → ¬ qnorm (wf (rg ks) (fun k => pl kr (o + k)) k) = 0) (vs : Int32) (vr : Int32) (vi : Int32) (vn : Int32) : PT l yX5_way wsX5_way { frames := 6, cells := 0, slots := 0, locals := 148 } G A (CL ad) [.ref (ad 51), .int vs, .int vr, .int vi, .int vn] F (some (.int (sp_way (rg, kd, z, pl, cnt) vs vr vi vn).1)) (CR G ad (sp_way (rg, kd, z, pl, cnt) vs vr vi vn).2) := by
  refine PT.ofW (cc := cX5_way) (maxL := 7) (ret := (some .int)) (plainFor_of_name (by decide)) rfl (Nat.le_of_ble_eq_true rfl) ?_
  intro p e s m below meth c ls hx hb hr hml hown hts hlk hE hw hl
  have hl : lv_has ls 7 [(0, .ref (ad 51)), (1, .int vs), (2, .int vr), (3, .int vi), (4, .int vn)] := hl
  have hown : s.vm.findClass RX5 = some m.cls := hown
  have lk_38 := hts (.fieldLink RX5 38 "FourParts" "latest" "LFourParts$Way;") (by decide +kernel)
  have hinX5 : ∀ w ∈ u_ws RX5 TX5 6, w ∈ wsX5_way := by decide +kernel
  have lk_24 := hts (.fieldLink RX5 24 "FourParts" "reckoner" "LFourParts$Reckoner;") (by decide +kernel)
  obtain ⟨q, hC, hq⟩ := hR
  refine lv_aload_n hx hb dX5_way_0 rfl (lv_at hl 0 rfl) ?_
  refine lv_iload_n hx hb dX5_way_1 rfl (lv_at hl 1 rfl) ?_
  rcases ix_cases 16 (by decide) vs with hvs | ⟨kvs, hkvs, rfl⟩
  · skip
    have xvs := ix_none hvs
    refine h_callV (st1 := [.null]) [.int vs] [] ⟨hx, hb, hml, hown, hts⟩ hE hw (c_X5_register_out l G A ad F _ hC vs hvs) (cwV 1 hts gX5_way_X5_register rfl rfl rfl (by decide +kernel) ⟨Nat.le_of_ble_eq_true rfl, Nat.le_of_ble_eq_true rfl⟩) hC.fp rfl rfl rfl hl.1 rfl (Nat.le_of_ble_eq_true rfl) dX5_way_2 ⟨Nat.le_of_ble_eq_true rfl, Nat.le_of_ble_eq_true rfl⟩ rfl (fun H locs hw => ?_)
    refine lv_astoreN (lv' := [(5, .null), (0, .ref (ad 51)), (1, .int vs), (2, .int vr), (3, .int vi), (4, .int vn)]) hx hb dX5_way_5 hl (by decide) rfl (fun ls hl => ?_)
    refine lv_aload_n hx hb dX5_way_7 rfl (lv_at hl 1 rfl) ?_
    refine lv_iload_n hx hb dX5_way_8 rfl (lv_at hl 3 rfl) ?_
    rcases ix_cases 6 (by decide) vr with hvr | ⟨kvr, hkvr, rfl⟩
    · skip
      have xvr := ix_none hvr
      refine h_callV (st1 := [.null]) [.int vr] [] ⟨hx, hb, hml, hown, hts⟩ hE hw (c_X5_sheetAt_out l G A ad F _ hC vr hvr) (cwV 1 hts gX5_way_X5_sheetAt rfl rfl rfl (by decide +kernel) ⟨Nat.le_of_ble_eq_true rfl, Nat.le_of_ble_eq_true rfl⟩) hC.fp rfl rfl rfl hl.1 rfl (Nat.le_of_ble_eq_true rfl) dX5_way_9 ⟨Nat.le_of_ble_eq_true rfl, Nat.le_of_ble_eq_true rfl⟩ rfl (fun H locs hw => ?_)
      refine lv_astoreN (lv' := [(6, .null), (5, .null), (0, .ref (ad 51)), (1, .int vs), (2, .int vr), (3, .int vi), (4, .int vn)]) hx hb dX5_way_12 hl (by decide) rfl (fun ls hl => ?_)
      refine lv_aloadN hx hb dX5_way_14 (lv_at hl 1 rfl) ?_
      refine lv_ifnullN (tgt := 36) hx hb dX5_way_16 (by decide) ?_
      refine lv_iconst (v := (-1)) hx hb dX5_way_36 (by decide) ?_
      exact h_iretP hx hb hlk hr hw dX5_way_37 (by simp only [sp_way, xvs, xvr]) (by simp only [sp_way, xvs, xvr]; exact ⟨_, hC, hq⟩)
    · skip
      have xvr := ix_in (n := 6) hkvr (by decide)
      refine h_callV (st1 := [.ref (ad (39 + kvr))]) [.int (nI kvr)] [] ⟨hx, hb, hml, hown, hts⟩ hE hw (c_X5_sheetAt_in l G A ad F _ hC kvr hkvr) (cwV 1 hts gX5_way_X5_sheetAt rfl rfl rfl (by decide +kernel) ⟨Nat.le_of_ble_eq_true rfl, Nat.le_of_ble_eq_true rfl⟩) hC.fp rfl rfl rfl hl.1 rfl (Nat.le_of_ble_eq_true rfl) dX5_way_9 ⟨Nat.le_of_ble_eq_true rfl, Nat.le_of_ble_eq_true rfl⟩ rfl (fun H locs hw => ?_)
      refine lv_astore (lv' := [(6, .ref (ad (39 + kvr))), (5, .null), (0, .ref (ad 51)), (1, .int vs), (2, .int (nI kvr)), (3, .int vi), (4, .int vn)]) hx hb dX5_way_12 hl (by decide) rfl (fun ls hl => ?_)
      refine lv_aloadN hx hb dX5_way_14 (lv_at hl 1 rfl) ?_
      refine lv_ifnullN (tgt := 36) hx hb dX5_way_16 (by decide) ?_
      refine lv_iconst (v := (-1)) hx hb dX5_way_36 (by decide) ?_
      exact h_iretP hx hb hlk hr hw dX5_way_37 (by simp only [sp_way, xvs, xvr]) (by simp only [sp_way, xvs, xvr]; exact ⟨_, hC, hq⟩)
  · skip
    have xvs := ix_in (n := 16) hkvs (by decide)
    refine h_callV (st1 := [.ref (ad kvs)]) [.int (nI kvs)] [] ⟨hx, hb, hml, hown, hts⟩ hE hw (c_X5_register_in l G A ad F _ hC kvs hkvs) (cwV 1 hts gX5_way_X5_register rfl rfl rfl (by decide +kernel) ⟨Nat.le_of_ble_eq_true rfl, Nat.le_of_ble_eq_true rfl⟩) hC.fp rfl rfl rfl hl.1 rfl (Nat.le_of_ble_eq_true rfl) dX5_way_2 ⟨Nat.le_of_ble_eq_true rfl, Nat.le_of_ble_eq_true rfl⟩ rfl (fun H locs hw => ?_)
    refine lv_astore (lv' := [(5, .ref (ad kvs)), (0, .ref (ad 51)), (1, .int (nI kvs)), (2, .int vr), (3, .int vi), (4, .int vn)]) hx hb dX5_way_5 hl (by decide) rfl (fun ls hl => ?_)
    refine lv_aload_n hx hb dX5_way_7 rfl (lv_at hl 1 rfl) ?_
    refine lv_iload_n hx hb dX5_way_8 rfl (lv_at hl 3 rfl) ?_
    rcases ix_cases 6 (by decide) vr with hvr | ⟨kvr, hkvr, rfl⟩
    · skip
      have xvr := ix_none hvr
      refine h_callV (st1 := [.null]) [.int vr] [] ⟨hx, hb, hml, hown, hts⟩ hE hw (c_X5_sheetAt_out l G A ad F _ hC vr hvr) (cwV 1 hts gX5_way_X5_sheetAt rfl rfl rfl (by decide +kernel) ⟨Nat.le_of_ble_eq_true rfl, Nat.le_of_ble_eq_true rfl⟩) hC.fp rfl rfl rfl hl.1 rfl (Nat.le_of_ble_eq_true rfl) dX5_way_9 ⟨Nat.le_of_ble_eq_true rfl, Nat.le_of_ble_eq_true rfl⟩ rfl (fun H locs hw => ?_)
      refine lv_astoreN (lv' := [(6, .null), (5, .ref (ad kvs)), (0, .ref (ad 51)), (1, .int (nI kvs)), (2, .int vr), (3, .int vi), (4, .int vn)]) hx hb dX5_way_12 hl (by decide) rfl (fun ls hl => ?_)
      refine lv_aload hx hb dX5_way_14 (lv_at hl 1 rfl) ?_
      refine lv_ifnull hx hb dX5_way_16 ?_
      refine lv_aloadN hx hb dX5_way_19 (lv_at hl 0 rfl) ?_
      refine lv_ifnullN (tgt := 36) hx hb dX5_way_21 (by decide) ?_
      refine lv_iconst (v := (-1)) hx hb dX5_way_36 (by decide) ?_
      exact h_iretP hx hb hlk hr hw dX5_way_37 (by simp only [sp_way, xvs, xvr]) (by simp only [sp_way, xvs, xvr]; exact ⟨_, hC, hq⟩)
    · skip
      have xvr := ix_in (n := 6) hkvr (by decide)
      refine h_callV (st1 := [.ref (ad (39 + kvr))]) [.int (nI kvr)] [] ⟨hx, hb, hml, hown, hts⟩ hE hw (c_X5_sheetAt_in l G A ad F _ hC kvr hkvr) (cwV 1 hts gX5_way_X5_sheetAt rfl rfl rfl (by decide +kernel) ⟨Nat.le_of_ble_eq_true rfl, Nat.le_of_ble_eq_true rfl⟩) hC.fp rfl rfl rfl hl.1 rfl (Nat.le_of_ble_eq_true rfl) dX5_way_9 ⟨Nat.le_of_ble_eq_true rfl, Nat.le_of_ble_eq_true rfl⟩ rfl (fun H locs hw => ?_)
      refine lv_astore (lv' := [(6, .ref (ad (39 + kvr))), (5, .ref (ad kvs)), (0, .ref (ad 51)), (1, .int (nI kvs)), (2, .int (nI kvr)), (3, .int vi), (4, .int vn)]) hx hb dX5_way_12 hl (by decide) rfl (fun ls hl => ?_)
      refine lv_aload hx hb dX5_way_14 (lv_at hl 1 rfl) ?_
      refine lv_ifnull hx hb dX5_way_16 ?_
      refine lv_aload hx hb dX5_way_19 (lv_at hl 0 rfl) ?_
      refine lv_ifnull hx hb dX5_way_21 ?_
      refine lv_iload hx hb dX5_way_24 (lv_at hl 6 rfl) ?_
      refine lv_if_eq (tgt := 36) hx hb dX5_way_26 (by decide) (fun c_26 => ?_) (fun c_26 => ?_)
      · skip
        refine lv_iconst (v := (-1)) hx hb dX5_way_36 (by decide) ?_
        exact h_iretP hx hb hlk hr hw dX5_way_37 (by simp only [sp_way, xvs, xvr, cif_t c_26]) (by simp only [sp_way, xvs, xvr, cif_t c_26]; exact ⟨_, hC, hq⟩)
      · skip
        refine lv_iload hx hb dX5_way_29 (lv_at hl 6 rfl) ?_
        refine lv_bipush (v := 12) hx hb dX5_way_31 (by decide) ?_
        refine lv_icmp_le (tgt := 38) hx hb dX5_way_33 (by decide) (fun c_33 => ?_) (fun c_33 => ?_)
        · skip
          refine lv_aload hx hb dX5_way_38 (lv_at hl 0 rfl) ?_
          refine h_callV (st1 := [.int (bI ((kd kvr) = -1))]) [] [] ⟨hx, hb, hml, hown, hts⟩ hE hw (c_X3_isMissing l G A (CL ad) F (ad (39 + kvr)) (ad (45 + kvr)) (nI (z kvr)) (kd kvr) (hC.sh2 hkvr rfl rfl)) (cwV 0 hts gX5_way_X3_isMissing rfl rfl rfl (by decide +kernel) ⟨Nat.le_of_ble_eq_true rfl, Nat.le_of_ble_eq_true rfl⟩) (hC.sh2 hkvr rfl rfl) rfl rfl rfl hl.1 rfl (Nat.le_of_ble_eq_true rfl) dX5_way_40 ⟨Nat.le_of_ble_eq_true rfl, Nat.le_of_ble_eq_true rfl⟩ rfl (fun H locs hw => ?_)
          refine lv_if_eq (tgt := 49) hx hb dX5_way_43 (by decide) (fun c_43 => ?_) (fun c_43 => ?_)
          · skip
            have c_43 := bI_eq.mp c_43
            refine lv_iload hx hb dX5_way_49 (lv_at hl 6 rfl) ?_
            refine lv_if_ge (tgt := 57) hx hb dX5_way_51 (by decide) (fun c_51 => ?_) (fun c_51 => ?_)
            · skip
              refine lv_aload hx hb dX5_way_57 (lv_at hl 0 rfl) ?_
              refine lv_iload_n hx hb dX5_way_59 rfl (lv_at hl 5 rfl) ?_
              refine lv_iload hx hb dX5_way_60 (lv_at hl 6 rfl) ?_
              refine h_callV (st1 := [.int (bI (reach (nI (z kvr)) vi vn))]) [.int vi, .int vn] [] ⟨hx, hb, hml, hown, hts⟩ hE hw (c_X3_reaches l G A (CL ad) F (ad (39 + kvr)) (ad (45 + kvr)) (nI (z kvr)) (kd kvr) (hC.sh2 hkvr rfl rfl) vi vn) (cwV 2 hts gX5_way_X3_reaches rfl rfl rfl (by decide +kernel) ⟨Nat.le_of_ble_eq_true rfl, Nat.le_of_ble_eq_true rfl⟩) (hC.sh2 hkvr rfl rfl) rfl rfl rfl hl.1 rfl (Nat.le_of_ble_eq_true rfl) dX5_way_62 ⟨Nat.le_of_ble_eq_true rfl, Nat.le_of_ble_eq_true rfl⟩ rfl (fun H locs hw => ?_)
              refine lv_if_ne (tgt := 71) hx hb dX5_way_65 (by decide) (fun c_65 => ?_) (fun c_65 => ?_)
              · skip
                have c_65 := bI_ne.mp c_65
                obtain ⟨ia, nb, rfl, rfl, hab⟩ := (reach_iff (hz kvr hkvr) _ _).mp c_65
                have hz1 := hz kvr hkvr
                have hnb1 : 1 ≤ nb := Nat.one_le_iff_ne_zero.mpr (fun w => c_26 (by rw [w]; rfl))
                have hnb2 : nb ≤ 12 := (nI_leI (a := nb) (b := 12) (by omega) (by decide)).mp c_33
                refine lv_aload hx hb dX5_way_71 (lv_at hl 1 rfl) ?_
                refine h_callV (st1 := [.int (bI (qpr (rg kvs)))]) [] [] ⟨hx, hb, hml, hown, hts⟩ hE hw (c_X1_isPrimitive l G A (CL ad) F (ad kvs) (rg kvs) (pt_eq (hC.q (i := kvs) (Nat.lt_of_lt_of_le hkvs (by decide))) (by rw [show ((q, kd, (fun k => nI (z k)), pl, nI cnt) : CS).1 kvs = rg kvs from hq kvs (Nat.lt_of_lt_of_le hkvs (by decide))]))) (cwV 0 hts gX5_way_X1_isPrimitive rfl rfl rfl (by decide +kernel) ⟨Nat.le_of_ble_eq_true rfl, Nat.le_of_ble_eq_true rfl⟩) (pt_eq (hC.q (i := kvs) (Nat.lt_of_lt_of_le hkvs (by decide))) (by rw [show ((q, kd, (fun k => nI (z k)), pl, nI cnt) : CS).1 kvs = rg kvs from hq kvs (Nat.lt_of_lt_of_le hkvs (by decide))])) rfl rfl rfl hl.1 rfl (Nat.le_of_ble_eq_true rfl) dX5_way_73 ⟨Nat.le_of_ble_eq_true rfl, Nat.le_of_ble_eq_true rfl⟩ rfl (fun H locs hw => ?_)
                refine lv_if_eq (tgt := 95) hx hb dX5_way_76 (by decide) (fun c_76 => ?_) (fun c_76 => ?_)
                · skip
                  have c_76 := bI_eq.mp c_76
                  refine lv_bipush (v := (-2)) hx hb dX5_way_95 (by decide) ?_
                  exact h_iretP hx hb hlk hr hw dX5_way_97 (by simp only [sp_way, xvs, xvr, rch_in hab (hz kvr hkvr), cif_f c_26, cif_t c_33, cif_f c_43, cif_t c_51, cif_f c_76]) (by simp only [sp_way, xvs, xvr, rch_in hab (hz kvr hkvr), cif_f c_26, cif_t c_33, cif_f c_43, cif_t c_51, cif_f c_76]; exact ⟨_, hC, hq⟩)
                · skip
                  have c_76 := bI_ne.mp c_76
                  refine lv_aload hx hb dX5_way_79 (lv_at hl 0 rfl) ?_
                  refine lv_iload_n hx hb dX5_way_81 rfl (lv_at hl 5 rfl) ?_
                  refine lv_iload hx hb dX5_way_82 (lv_at hl 6 rfl) ?_
                  refine lv_aload hx hb dX5_way_84 (lv_at hl 1 rfl) ?_
                  refine h_callV (st1 := [.long (qnorm (rg kvs)), .int (nI nb), .int (nI ia), .ref (ad (39 + kvr))]) [] [.int (nI nb), .int (nI ia), .ref (ad (39 + kvr))] ⟨hx, hb, hml, hown, hts⟩ hE hw (c_X1_norm l G A (CL ad) F (ad kvs) (rg kvs) (pt_eq (hC.q (i := kvs) (Nat.lt_of_lt_of_le hkvs (by decide))) (by rw [show ((q, kd, (fun k => nI (z k)), pl, nI cnt) : CS).1 kvs = rg kvs from hq kvs (Nat.lt_of_lt_of_le hkvs (by decide))]))) (cwV 0 hts gX5_way_X1_norm rfl rfl rfl (by decide +kernel) ⟨Nat.le_of_ble_eq_true rfl, Nat.le_of_ble_eq_true rfl⟩) (pt_eq (hC.q (i := kvs) (Nat.lt_of_lt_of_le hkvs (by decide))) (by rw [show ((q, kd, (fun k => nI (z k)), pl, nI cnt) : CS).1 kvs = rg kvs from hq kvs (Nat.lt_of_lt_of_le hkvs (by decide))])) rfl rfl rfl hl.1 rfl (Nat.le_of_ble_eq_true rfl) dX5_way_86 ⟨Nat.le_of_ble_eq_true rfl, Nat.le_of_ble_eq_true rfl⟩ rfl (fun H locs hw => ?_)
                  refine h_callS (st1 := [.int (bI (apl (pl kvr) ia nb 0 (qnorm (rg kvs))))]) [.ref (ad (39 + kvr)), .int (nI ia), .int (nI nb), .long (qnorm (rg kvs))] [] ⟨hx, hb, hml, hown, hts⟩ hE hw (c_X5_arePrimesWithProduct l G A (CL ad) F (ad (39 + kvr)) (ad (45 + kvr)) (z kvr) (kd kvr) (pl kvr) (hC.sh2 hkvr rfl rfl) (hC.pl hkvr) (hz kvr hkvr) ia nb hab (qnorm (rg kvs))) (va_cwS 4 hts gX5_way_X5_arePrimesWithProduct rfl rfl rfl (by decide +kernel) ⟨Nat.le_of_ble_eq_true rfl, Nat.le_of_ble_eq_true rfl⟩) rfl hl.1 rfl (Nat.le_of_ble_eq_true rfl) dX5_way_89 ⟨Nat.le_of_ble_eq_true rfl, Nat.le_of_ble_eq_true rfl⟩ rfl (fun H locs hw => ?_)
                  refine lv_if_ne (tgt := 98) hx hb dX5_way_92 (by decide) (fun c_92 => ?_) (fun c_92 => ?_)
                  · skip
                    have c_92 := bI_ne.mp c_92
                    refine lv_aload_n hx hb dX5_way_98 rfl (lv_at hl 2 rfl) ?_
                    refine h_get hx hb hE hw hts hinX5 hown (ci := 5) rfl 4 (by decide) lk_38 (fun _ h9 => h9) hC.fp rfl dX5_way_99 ?_
                    refine lv_aload hx hb dX5_way_102 (lv_at hl 1 rfl) ?_
                    refine lv_aload hx hb dX5_way_104 (lv_at hl 0 rfl) ?_
                    refine lv_iload_n hx hb dX5_way_106 rfl (lv_at hl 5 rfl) ?_
                    refine lv_iload hx hb dX5_way_107 (lv_at hl 6 rfl) ?_
                    refine lv_aload_n hx hb dX5_way_109 rfl (lv_at hl 2 rfl) ?_
                    refine h_get hx hb hE hw hts hinX5 hown (ci := 5) rfl 2 (by decide) lk_24 (fun _ h9 => h9) hC.fp rfl dX5_way_110 ?_
                    refine h_callVP (st1 := []) [.ref (ad kvs), .ref (ad (39 + kvr)), .int (nI ia), .int (nI nb), .ref (ad 54)] [] ⟨hx, hb, hml, hown, hts⟩ hE hw (c_X4_follow l G A ad F _ _ _ _ _ hC kvs kvr (z kvr) ia nb hkvs hkvr rfl (hz kvr hkvr) hnb1 hnb2 hab (by rw [show q kvs = rg kvs from hq kvs (by omega)]; exact hnz kvs kvr ia nb hkvs hkvr hnb1 hnb2 hab c_76 c_92)) (cwV 5 hts gX5_way_X4_follow rfl rfl rfl (by decide +kernel) ⟨Nat.le_of_ble_eq_true rfl, Nat.le_of_ble_eq_true rfl⟩) hC.wy rfl rfl rfl hl.1 rfl (Nat.le_of_ble_eq_true rfl) dX5_way_113 ⟨Nat.le_of_ble_eq_true rfl, Nat.le_of_ble_eq_true rfl⟩ rfl (fun F H locs hP hw => ?_)
                    obtain ⟨q3, hC3, hf1, hf2, hf3, hf4⟩ := hP
                    have hqs : q kvs = rg kvs := hq kvs (by omega)
                    have hq3 := way_q (rg := rg) (x := rg kvs) (pr := fun k => pl kvr (ia + k)) hnb1 hnb2 (fun k hk => by rw [← hqs]; exact hf1 k hk) (by rw [← hqs]; exact hf2) (fun k h1 h2 => (hf3 k h1 h2).trans (hq (16 + k) (by omega))) (fun k hk => (hf4 k hk).trans (hq k (by omega)))
                    refine lv_iload hx hb dX5_way_116 (lv_at hl 6 rfl) ?_
                    exact h_iretP hx hb hlk hr hw dX5_way_118 (by simp only [sp_way, xvs, xvr, rch_in hab (hz kvr hkvr), cif_f c_26, cif_t c_33, cif_f c_43, cif_t c_51, cif_t c_76, cif_t c_92]) (by simp only [sp_way, xvs, xvr, rch_in hab (hz kvr hkvr), cif_f c_26, cif_t c_33, cif_f c_43, cif_t c_51, cif_t c_76, cif_t c_92]; exact ⟨_, hC3, hq3⟩)
                  · skip
                    have c_92 := bI_eq.mp c_92
                    refine lv_bipush (v := (-2)) hx hb dX5_way_95 (by decide) ?_
                    exact h_iretP hx hb hlk hr hw dX5_way_97 (by simp only [sp_way, xvs, xvr, rch_in hab (hz kvr hkvr), cif_f c_26, cif_t c_33, cif_f c_43, cif_t c_51, cif_t c_76, cif_f c_92]) (by simp only [sp_way, xvs, xvr, rch_in hab (hz kvr hkvr), cif_f c_26, cif_t c_33, cif_f c_43, cif_t c_51, cif_t c_76, cif_f c_92]; exact ⟨_, hC, hq⟩)
              · skip
                have c_65 := bI_eq.mp c_65
                refine lv_bipush (v := (-12)) hx hb dX5_way_68 (by decide) ?_
                exact h_iretP hx hb hlk hr hw dX5_way_70 (by simp only [sp_way, xvs, xvr, rch_out (hz kvr hkvr) c_65, cif_f c_26, cif_t c_33, cif_f c_43, cif_t c_51]) (by simp only [sp_way, xvs, xvr, rch_out (hz kvr hkvr) c_65, cif_f c_26, cif_t c_33, cif_f c_43, cif_t c_51]; exact ⟨_, hC, hq⟩)
            · skip
              refine lv_bipush (v := (-13)) hx hb dX5_way_54 (by decide) ?_
              exact h_iretP hx hb hlk hr hw dX5_way_56 (by simp only [sp_way, xvs, xvr, cif_f c_26, cif_t c_33, cif_f c_43, cif_f c_51]) (by simp only [sp_way, xvs, xvr, cif_f c_26, cif_t c_33, cif_f c_43, cif_f c_51]; exact ⟨_, hC, hq⟩)
          · skip
            have c_43 := bI_ne.mp c_43
            refine lv_bipush (v := (-11)) hx hb dX5_way_46 (by decide) ?_
            exact h_iretP hx hb hlk hr hw dX5_way_48 (by simp only [sp_way, xvs, xvr, cif_f c_26, cif_t c_33, cif_t c_43]) (by simp only [sp_way, xvs, xvr, cif_f c_26, cif_t c_33, cif_t c_43]; exact ⟨_, hC, hq⟩)
        · skip
          refine lv_iconst (v := (-1)) hx hb dX5_way_36 (by decide) ?_
          exact h_iretP hx hb hlk hr hw dX5_way_37 (by simp only [sp_way, xvs, xvr, cif_f c_26, cif_f c_33]) (by simp only [sp_way, xvs, xvr, cif_f c_26, cif_f c_33]; exact ⟨_, hC, hq⟩)
