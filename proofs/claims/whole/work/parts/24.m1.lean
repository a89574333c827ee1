/-! the reference's small tests -/
def inL (v a b : Int64) : Prop := ¬ v < a ∧ ¬ b < v
def oneM (a b c d : Int64) : Prop := b &&& 1 = a &&& 1 ∧ c &&& 1 = a &&& 1 ∧ d &&& 1 = a &&& 1
def lowP (v : Int64) : Prop := inL v (-20000) 20000
def qlow (x : Q4) : Prop := lowP x.1 ∧ lowP x.2.1 ∧ lowP x.2.2.1 ∧ lowP x.2.2.2
def floM (a b : Int64) : Int64 := if a - a / b * b = 0 then a / b else if 0 ≤ a then a / b else a / b - 1
def rgq (rg : Nat → Int32) (k : Nat) : Q4 := ((rg (4 * k)).toInt64, (rg (4 * k + 1)).toInt64, (rg (4 * k + 2)).toInt64, (rg (4 * k + 3)).toInt64)
def stq (rg : Nat → Int32) (k : Nat) (x : Q4) : Nat → Int32 := upd (upd (upd (upd rg (4 * k) x.1.toInt32) (4 * k + 1) x.2.1.toInt32) (4 * k + 2) x.2.2.1.toInt32) (4 * k + 3) x.2.2.2.toInt32
set_option maxHeartbeats 4000000 in
set_option maxRecDepth 100000 in
theorem c_X6_in (l : Launch) (G : GG) (A : Nat → Prop) (L : List Nat) (F : FM) (v va vb : Int64) : HT l yX6_in wsX6_in { frames := 0, cells := 0, slots := 0, locals := 0 } G A L [.long v, .long va, .long vb] F (some (.int (bI (inL v va vb)))) F := by
  refine HT.ofW (cc := cX6_in) (maxL := 6) (ret := (some .boolean)) (plainFor_of_name (by decide)) rfl (Nat.le_of_ble_eq_true rfl) ?_
  intro p e s m below meth c ls hx hb hr hml hown hts hlk hE hw hl
  have hl : lv_has ls 6 [(0, .long v), (2, .long va), (4, .long vb)] := hl
  have hown : s.vm.findClass RX6 = some m.cls := hown
  refine lv_lload_n hx hb dX6_in_0 rfl (lv_at hl 0 rfl) ?_
  refine lv_lload_n hx hb dX6_in_1 rfl (lv_at hl 1 rfl) ?_
  refine h_lc_lt (x := v) (y := va) (tgt := 17) hx hb dX6_in_2 dX6_in_3 (by decide) (fun c_2 => ?_) (fun c_2 => ?_)
  · skip
    refine lv_iconst (v := 0) hx hb dX6_in_17 (by decide) ?_
    exact h_zret hx hb hlk hr hw dX6_in_18 rfl (by rw [bI_f (by simp [inL, c_2])]) rfl
  · skip
    refine lv_lload_n hx hb dX6_in_6 rfl (lv_at hl 0 rfl) ?_
    refine lv_lload hx hb dX6_in_7 (lv_at hl 2 rfl) ?_
    refine h_lc_gt (x := v) (y := vb) (tgt := 17) hx hb dX6_in_9 dX6_in_10 (by decide) (fun c_9 => ?_) (fun c_9 => ?_)
    · skip
      refine lv_iconst (v := 0) hx hb dX6_in_17 (by decide) ?_
      exact h_zret hx hb hlk hr hw dX6_in_18 rfl (by rw [bI_f (by simp [inL, c_2, c_9])]) rfl
    · skip
      refine lv_iconst (v := 1) hx hb dX6_in_13 (by decide) ?_
      refine lv_goto (tgt := 18) hx hb dX6_in_14 (by decide) ?_
      exact h_zret hx hb hlk hr hw dX6_in_18 rfl (by rw [bI_t (by simp [inL, c_2, c_9])]) rfl

set_option maxHeartbeats 4000000 in
set_option maxRecDepth 100000 in
theorem c_X6_isOne (l : Launch) (G : GG) (A : Nat → Prop) (L : List Nat) (F : FM) (va vb vc vd : Int64) : HT l yX6_isOne wsX6_isOne { frames := 0, cells := 0, slots := 0, locals := 0 } G A L [.long va, .long vb, .long vc, .long vd] F (some (.int (bI (oneM va vb vc vd)))) F := by
  refine HT.ofW (cc := cX6_isOne) (maxL := 10) (ret := (some .boolean)) (plainFor_of_name (by decide)) rfl (Nat.le_of_ble_eq_true rfl) ?_
  intro p e s m below meth c ls hx hb hr hml hown hts hlk hE hw hl
  have hl : lv_has ls 10 [(0, .long va), (2, .long vb), (4, .long vc), (6, .long vd)] := hl
  have hown : s.vm.findClass RX6 = some m.cls := hown
  refine lv_lload_n hx hb dX6_isOne_0 rfl (lv_at hl 0 rfl) ?_
  refine lv_lconst (v := 1) hx hb dX6_isOne_1 (by decide) ?_
  refine lv_land hx hb dX6_isOne_2 ?_
  refine lv_lstore (lv' := [(8, .long (va &&& 1)), (0, .long va), (2, .long vb), (4, .long vc), (6, .long vd)]) hx hb dX6_isOne_3 hl (by decide) rfl (fun ls hl => ?_)
  refine lv_lload_n hx hb dX6_isOne_5 rfl (lv_at hl 2 rfl) ?_
  refine lv_lconst (v := 1) hx hb dX6_isOne_6 (by decide) ?_
  refine lv_land hx hb dX6_isOne_7 ?_
  refine lv_lload hx hb dX6_isOne_8 (lv_at hl 0 rfl) ?_
  refine h_lc_ne (x := vb &&& 1) (y := va &&& 1) (tgt := 38) hx hb dX6_isOne_10 dX6_isOne_11 (by decide) (fun c_10 => ?_) (fun c_10 => ?_)
  · skip
    refine lv_iconst (v := 0) hx hb dX6_isOne_38 (by decide) ?_
    exact h_zret hx hb hlk hr hw dX6_isOne_39 rfl (by rw [bI_f (by simp [oneM, c_10])]) rfl
  · skip
    refine lv_lload hx hb dX6_isOne_14 (lv_at hl 3 rfl) ?_
    refine lv_lconst (v := 1) hx hb dX6_isOne_16 (by decide) ?_
    refine lv_land hx hb dX6_isOne_17 ?_
    refine lv_lload hx hb dX6_isOne_18 (lv_at hl 0 rfl) ?_
    refine h_lc_ne (x := vc &&& 1) (y := va &&& 1) (tgt := 38) hx hb dX6_isOne_20 dX6_isOne_21 (by decide) (fun c_20 => ?_) (fun c_20 => ?_)
    · skip
      refine lv_iconst (v := 0) hx hb dX6_isOne_38 (by decide) ?_
      exact h_zret hx hb hlk hr hw dX6_isOne_39 rfl (by rw [bI_f (by simp [oneM, c_10, c_20])]) rfl
    · skip
      refine lv_lload hx hb dX6_isOne_24 (lv_at hl 4 rfl) ?_
      refine lv_lconst (v := 1) hx hb dX6_isOne_26 (by decide) ?_
      refine lv_land hx hb dX6_isOne_27 ?_
      refine lv_lload hx hb dX6_isOne_28 (lv_at hl 0 rfl) ?_
      refine h_lc_ne (x := vd &&& 1) (y := va &&& 1) (tgt := 38) hx hb dX6_isOne_30 dX6_isOne_31 (by decide) (fun c_30 => ?_) (fun c_30 => ?_)
      · skip
        refine lv_iconst (v := 0) hx hb dX6_isOne_38 (by decide) ?_
        exact h_zret hx hb hlk hr hw dX6_isOne_39 rfl (by rw [bI_f (by simp [oneM, c_10, c_20, c_30])]) rfl
      · skip
        refine lv_iconst (v := 1) hx hb dX6_isOne_34 (by decide) ?_
        refine lv_goto (tgt := 39) hx hb dX6_isOne_35 (by decide) ?_
        exact h_zret hx hb hlk hr hw dX6_isOne_39 rfl (by rw [bI_t (by simp [oneM, c_10, c_20, c_30])]) rfl

set_option maxHeartbeats 4000000 in
set_option maxRecDepth 100000 in
theorem c_X6_isPart (l : Launch) (G : GG) (A : Nat → Prop) (L : List Nat) (F : FM) (v : Int64) : HT l yX6_isPart wsX6_isPart { frames := 1, cells := 0, slots := 0, locals := 25 } G A L [.long v] F (some (.int (bI (lowP v)))) F := by
  refine HT.ofW (cc := cX6_isPart) (maxL := 2) (ret := (some .boolean)) (plainFor_of_name (by decide)) rfl (Nat.le_of_ble_eq_true rfl) ?_
  intro p e s m below meth c ls hx hb hr hml hown hts hlk hE hw hl
  have hl : lv_has ls 2 [(0, .long v)] := hl
  have hown : s.vm.findClass RX6 = some m.cls := hown
  have cl_87 := hts (.constantLong RX6 87 (-20000)) (by decide +kernel)
  have cl_89 := hts (.constantLong RX6 89 (20000)) (by decide +kernel)
  refine lv_lload_n hx hb dX6_isPart_0 rfl (lv_at hl 0 rfl) ?_
  refine lv_ldc2 hx hb (v := (-20000)) hown cl_87 dX6_isPart_1 ?_
  refine lv_ldc2 hx hb (v := (20000)) hown cl_89 dX6_isPart_4 ?_
  refine h_callS (st1 := [.int (bI (inL v (-20000) (20000)))]) [.long v, .long (-20000), .long (20000)] [] ⟨hx, hb, hml, hown, hts⟩ hE hw (c_X6_in l G A L F v (-20000) (20000)) (va_cwS 3 hts gX6_isPart_X6_in rfl rfl rfl (by decide +kernel) ⟨Nat.le_of_ble_eq_true rfl, Nat.le_of_ble_eq_true rfl⟩) rfl hl.1 rfl (Nat.le_of_ble_eq_true rfl) dX6_isPart_7 ⟨Nat.le_of_ble_eq_true rfl, Nat.le_of_ble_eq_true rfl⟩ rfl (fun H locs hw => ?_)
  exact h_zret hx hb hlk hr hw dX6_isPart_10 (bI_z _) rfl rfl

set_option maxHeartbeats 4000000 in
set_option maxRecDepth 100000 in
theorem c_X6_isSheet (l : Launch) (G : GG) (A : Nat → Prop) (L : List Nat) (F : FM) (vi : Int32) : HT l yX6_isSheet wsX6_isSheet { frames := 1, cells := 0, slots := 0, locals := 25 } G A L [.int vi] F (some (.int (bI (inL vi.toInt64 0 5)))) F := by
  refine HT.ofW (cc := cX6_isSheet) (maxL := 1) (ret := (some .boolean)) (plainFor_of_name (by decide)) rfl (Nat.le_of_ble_eq_true rfl) ?_
  intro p e s m below meth c ls hx hb hr hml hown hts hlk hE hw hl
  have hl : lv_has ls 1 [(0, .int vi)] := hl
  have hown : s.vm.findClass RX6 = some m.cls := hown
  have cl_63 := hts (.constantLong RX6 63 (5)) (by decide +kernel)
  refine lv_iload_n hx hb dX6_isSheet_0 rfl (lv_at hl 0 rfl) ?_
  refine lv_i2l hx hb dX6_isSheet_1 rfl ?_
  refine lv_lconst (v := 0) hx hb dX6_isSheet_2 (by decide) ?_
  refine lv_ldc2 hx hb (v := (5)) hown cl_63 dX6_isSheet_3 ?_
  refine h_callS (st1 := [.int (bI (inL vi.toInt64 0 (5)))]) [.long vi.toInt64, .long 0, .long (5)] [] ⟨hx, hb, hml, hown, hts⟩ hE hw (c_X6_in l G A L F vi.toInt64 0 (5)) (va_cwS 3 hts gX6_isSheet_X6_in rfl rfl rfl (by decide +kernel) ⟨Nat.le_of_ble_eq_true rfl, Nat.le_of_ble_eq_true rfl⟩) rfl hl.1 rfl (Nat.le_of_ble_eq_true rfl) dX6_isSheet_6 ⟨Nat.le_of_ble_eq_true rfl, Nat.le_of_ble_eq_true rfl⟩ rfl (fun H locs hw => ?_)
  exact h_zret hx hb hlk hr hw dX6_isSheet_9 (bI_z _) rfl rfl

set_option maxHeartbeats 4000000 in
set_option maxRecDepth 100000 in
theorem c_X6_isRegister (l : Launch) (G : GG) (A : Nat → Prop) (L : List Nat) (F : FM) (vi : Int32) : HT l yX6_isRegister wsX6_isRegister { frames := 1, cells := 0, slots := 0, locals := 25 } G A L [.int vi] F (some (.int (bI (inL vi.toInt64 0 15)))) F := by
  refine HT.ofW (cc := cX6_isRegister) (maxL := 1) (ret := (some .boolean)) (plainFor_of_name (by decide)) rfl (Nat.le_of_ble_eq_true rfl) ?_
  intro p e s m below meth c ls hx hb hr hml hown hts hlk hE hw hl
  have hl : lv_has ls 1 [(0, .int vi)] := hl
  have hown : s.vm.findClass RX6 = some m.cls := hown
  have cl_69 := hts (.constantLong RX6 69 (15)) (by decide +kernel)
  refine lv_iload_n hx hb dX6_isRegister_0 rfl (lv_at hl 0 rfl) ?_
  refine lv_i2l hx hb dX6_isRegister_1 rfl ?_
  refine lv_lconst (v := 0) hx hb dX6_isRegister_2 (by decide) ?_
  refine lv_ldc2 hx hb (v := (15)) hown cl_69 dX6_isRegister_3 ?_
  refine h_callS (st1 := [.int (bI (inL vi.toInt64 0 (15)))]) [.long vi.toInt64, .long 0, .long (15)] [] ⟨hx, hb, hml, hown, hts⟩ hE hw (c_X6_in l G A L F vi.toInt64 0 (15)) (va_cwS 3 hts gX6_isRegister_X6_in rfl rfl rfl (by decide +kernel) ⟨Nat.le_of_ble_eq_true rfl, Nat.le_of_ble_eq_true rfl⟩) rfl hl.1 rfl (Nat.le_of_ble_eq_true rfl) dX6_isRegister_6 ⟨Nat.le_of_ble_eq_true rfl, Nat.le_of_ble_eq_true rfl⟩ rfl (fun H locs hw => ?_)
  exact h_zret hx hb hlk hr hw dX6_isRegister_9 (bI_z _) rfl rfl

set_option maxHeartbeats 4000000 in
set_option maxRecDepth 100000 in
theorem c_X6_isLow (l : Launch) (G : GG) (A : Nat → Prop) (L : List Nat) (F : FM) (h0 : Nat) (x : Q4) (e0 : pt L F h0 (eJ4 G x)) : HT l yX6_isLow wsX6_isLow { frames := 2, cells := 0, slots := 0, locals := 46 } G A L [.ref h0] F (some (.int (bI (qlow x)))) F := by
  refine HT.ofW (cc := cX6_isLow) (maxL := 1) (ret := (some .boolean)) (plainFor_of_name (by decide)) rfl (Nat.le_of_ble_eq_true rfl) ?_
  intro p e s m below meth c ls hx hb hr hml hown hts hlk hE hw hl
  have hl : lv_has ls 1 [(0, .ref h0)] := hl
  have hown : s.vm.findClass RX6 = some m.cls := hown
  refine lv_aload_n hx hb dX6_isLow_0 rfl (lv_at hl 0 rfl) ?_
  refine lv_iconst (v := 0) hx hb dX6_isLow_1 (by decide) ?_
  refine h_lald hx hb hE hw e0 (n := 4) (vp_in_nI (n := 0) (N := 4) (by decide) (by decide)) (v := x.1) rfl dX6_isLow_2 ?_
  refine h_callS (st1 := [.int (bI (lowP x.1))]) [.long x.1] [] ⟨hx, hb, hml, hown, hts⟩ hE hw (c_X6_isPart l G A L F x.1) (va_cwS 1 hts gX6_isLow_X6_isPart rfl rfl rfl (by decide +kernel) ⟨Nat.le_of_ble_eq_true rfl, Nat.le_of_ble_eq_true rfl⟩) rfl hl.1 rfl (Nat.le_of_ble_eq_true rfl) dX6_isLow_3 ⟨Nat.le_of_ble_eq_true rfl, Nat.le_of_ble_eq_true rfl⟩ rfl (fun H locs hw => ?_)
  refine lv_if_eq (tgt := 40) hx hb dX6_isLow_6 (by decide) (fun c_6 => ?_) (fun c_6 => ?_)
  · skip
    have c_6 := bI_eq.mp c_6
    refine lv_iconst (v := 0) hx hb dX6_isLow_40 (by decide) ?_
    exact h_zret hx hb hlk hr hw dX6_isLow_41 rfl (by rw [bI_f (by simp [qlow, c_6])]) rfl
  · skip
    have c_6 := bI_ne.mp c_6
    refine lv_aload_n hx hb dX6_isLow_9 rfl (lv_at hl 0 rfl) ?_
    refine lv_iconst (v := 1) hx hb dX6_isLow_10 (by decide) ?_
    refine h_lald hx hb hE hw e0 (n := 4) (vp_in_nI (n := 1) (N := 4) (by decide) (by decide)) (v := x.2.1) rfl dX6_isLow_11 ?_
    refine h_callS (st1 := [.int (bI (lowP x.2.1))]) [.long x.2.1] [] ⟨hx, hb, hml, hown, hts⟩ hE hw (c_X6_isPart l G A L F x.2.1) (va_cwS 1 hts gX6_isLow_X6_isPart rfl rfl rfl (by decide +kernel) ⟨Nat.le_of_ble_eq_true rfl, Nat.le_of_ble_eq_true rfl⟩) rfl hl.1 rfl (Nat.le_of_ble_eq_true rfl) dX6_isLow_12 ⟨Nat.le_of_ble_eq_true rfl, Nat.le_of_ble_eq_true rfl⟩ rfl (fun H locs hw => ?_)
    refine lv_if_eq (tgt := 40) hx hb dX6_isLow_15 (by decide) (fun c_15 => ?_) (fun c_15 => ?_)
    · skip
      have c_15 := bI_eq.mp c_15
      refine lv_iconst (v := 0) hx hb dX6_isLow_40 (by decide) ?_
      exact h_zret hx hb hlk hr hw dX6_isLow_41 rfl (by rw [bI_f (by simp [qlow, c_6, c_15])]) rfl
    · skip
      have c_15 := bI_ne.mp c_15
      refine lv_aload_n hx hb dX6_isLow_18 rfl (lv_at hl 0 rfl) ?_
      refine lv_iconst (v := 2) hx hb dX6_isLow_19 (by decide) ?_
      refine h_lald hx hb hE hw e0 (n := 4) (vp_in_nI (n := 2) (N := 4) (by decide) (by decide)) (v := x.2.2.1) rfl dX6_isLow_20 ?_
      refine h_callS (st1 := [.int (bI (lowP x.2.2.1))]) [.long x.2.2.1] [] ⟨hx, hb, hml, hown, hts⟩ hE hw (c_X6_isPart l G A L F x.2.2.1) (va_cwS 1 hts gX6_isLow_X6_isPart rfl rfl rfl (by decide +kernel) ⟨Nat.le_of_ble_eq_true rfl, Nat.le_of_ble_eq_true rfl⟩) rfl hl.1 rfl (Nat.le_of_ble_eq_true rfl) dX6_isLow_21 ⟨Nat.le_of_ble_eq_true rfl, Nat.le_of_ble_eq_true rfl⟩ rfl (fun H locs hw => ?_)
      refine lv_if_eq (tgt := 40) hx hb dX6_isLow_24 (by decide) (fun c_24 => ?_) (fun c_24 => ?_)
      · skip
        have c_24 := bI_eq.mp c_24
        refine lv_iconst (v := 0) hx hb dX6_isLow_40 (by decide) ?_
        exact h_zret hx hb hlk hr hw dX6_isLow_41 rfl (by rw [bI_f (by simp [qlow, c_6, c_15, c_24])]) rfl
      · skip
        have c_24 := bI_ne.mp c_24
        refine lv_aload_n hx hb dX6_isLow_27 rfl (lv_at hl 0 rfl) ?_
        refine lv_iconst (v := 3) hx hb dX6_isLow_28 (by decide) ?_
        refine h_lald hx hb hE hw e0 (n := 4) (vp_in_nI (n := 3) (N := 4) (by decide) (by decide)) (v := x.2.2.2) rfl dX6_isLow_29 ?_
        refine h_callS (st1 := [.int (bI (lowP x.2.2.2))]) [.long x.2.2.2] [] ⟨hx, hb, hml, hown, hts⟩ hE hw (c_X6_isPart l G A L F x.2.2.2) (va_cwS 1 hts gX6_isLow_X6_isPart rfl rfl rfl (by decide +kernel) ⟨Nat.le_of_ble_eq_true rfl, Nat.le_of_ble_eq_true rfl⟩) rfl hl.1 rfl (Nat.le_of_ble_eq_true rfl) dX6_isLow_30 ⟨Nat.le_of_ble_eq_true rfl, Nat.le_of_ble_eq_true rfl⟩ rfl (fun H locs hw => ?_)
        refine lv_if_eq (tgt := 40) hx hb dX6_isLow_33 (by decide) (fun c_33 => ?_) (fun c_33 => ?_)
        · skip
          have c_33 := bI_eq.mp c_33
          refine lv_iconst (v := 0) hx hb dX6_isLow_40 (by decide) ?_
          exact h_zret hx hb hlk hr hw dX6_isLow_41 rfl (by rw [bI_f (by simp [qlow, c_6, c_15, c_24, c_33])]) rfl
        · skip
          have c_33 := bI_ne.mp c_33
          refine lv_iconst (v := 1) hx hb dX6_isLow_36 (by decide) ?_
          refine lv_goto (tgt := 41) hx hb dX6_isLow_37 (by decide) ?_
          exact h_zret hx hb hlk hr hw dX6_isLow_41 rfl (by rw [bI_t (by simp [qlow, c_6, c_15, c_24, c_33])]) rfl

set_option maxHeartbeats 4000000 in
set_option maxRecDepth 100000 in
theorem c_X6_norm (l : Launch) (G : GG) (A : Nat → Prop) (L : List Nat) (F : FM) (h0 : Nat) (x : Q4) (e0 : pt L F h0 (eJ4 G x)) : HT l yX6_norm wsX6_norm { frames := 0, cells := 0, slots := 0, locals := 0 } G A L [.ref h0] F (some (.long (qnorm x))) F := by
  refine HT.ofW (cc := cX6_norm) (maxL := 1) (ret := (some .long)) (plainFor_of_name (by decide)) rfl (Nat.le_of_ble_eq_true rfl) ?_
  intro p e s m below meth c ls hx hb hr hml hown hts hlk hE hw hl
  have hl : lv_has ls 1 [(0, .ref h0)] := hl
  have hown : s.vm.findClass RX6 = some m.cls := hown
  have cl_106 := hts (.constantLong RX6 106 (4)) (by decide +kernel)
  refine lv_aload_n hx hb dX6_norm_0 rfl (lv_at hl 0 rfl) ?_
  refine lv_iconst (v := 0) hx hb dX6_norm_1 (by decide) ?_
  refine h_lald hx hb hE hw e0 (n := 4) (vp_in_nI (n := 0) (N := 4) (by decide) (by decide)) (v := x.1) rfl dX6_norm_2 ?_
  refine lv_aload_n hx hb dX6_norm_3 rfl (lv_at hl 0 rfl) ?_
  refine lv_iconst (v := 0) hx hb dX6_norm_4 (by decide) ?_
  refine h_lald hx hb hE hw e0 (n := 4) (vp_in_nI (n := 0) (N := 4) (by decide) (by decide)) (v := x.1) rfl dX6_norm_5 ?_
  refine lv_lmul hx hb dX6_norm_6 ?_
  refine lv_aload_n hx hb dX6_norm_7 rfl (lv_at hl 0 rfl) ?_
  refine lv_iconst (v := 1) hx hb dX6_norm_8 (by decide) ?_
  refine h_lald hx hb hE hw e0 (n := 4) (vp_in_nI (n := 1) (N := 4) (by decide) (by decide)) (v := x.2.1) rfl dX6_norm_9 ?_
  refine lv_aload_n hx hb dX6_norm_10 rfl (lv_at hl 0 rfl) ?_
  refine lv_iconst (v := 1) hx hb dX6_norm_11 (by decide) ?_
  refine h_lald hx hb hE hw e0 (n := 4) (vp_in_nI (n := 1) (N := 4) (by decide) (by decide)) (v := x.2.1) rfl dX6_norm_12 ?_
  refine lv_lmul hx hb dX6_norm_13 ?_
  refine lv_ladd hx hb dX6_norm_14 ?_
  refine lv_aload_n hx hb dX6_norm_15 rfl (lv_at hl 0 rfl) ?_
  refine lv_iconst (v := 2) hx hb dX6_norm_16 (by decide) ?_
  refine h_lald hx hb hE hw e0 (n := 4) (vp_in_nI (n := 2) (N := 4) (by decide) (by decide)) (v := x.2.2.1) rfl dX6_norm_17 ?_
  refine lv_aload_n hx hb dX6_norm_18 rfl (lv_at hl 0 rfl) ?_
  refine lv_iconst (v := 2) hx hb dX6_norm_19 (by decide) ?_
  refine h_lald hx hb hE hw e0 (n := 4) (vp_in_nI (n := 2) (N := 4) (by decide) (by decide)) (v := x.2.2.1) rfl dX6_norm_20 ?_
  refine lv_lmul hx hb dX6_norm_21 ?_
  refine lv_ladd hx hb dX6_norm_22 ?_
  refine lv_aload_n hx hb dX6_norm_23 rfl (lv_at hl 0 rfl) ?_
  refine lv_iconst (v := 3) hx hb dX6_norm_24 (by decide) ?_
  refine h_lald hx hb hE hw e0 (n := 4) (vp_in_nI (n := 3) (N := 4) (by decide) (by decide)) (v := x.2.2.2) rfl dX6_norm_25 ?_
  refine lv_aload_n hx hb dX6_norm_26 rfl (lv_at hl 0 rfl) ?_
  refine lv_iconst (v := 3) hx hb dX6_norm_27 (by decide) ?_
  refine h_lald hx hb hE hw e0 (n := 4) (vp_in_nI (n := 3) (N := 4) (by decide) (by decide)) (v := x.2.2.2) rfl dX6_norm_28 ?_
  refine lv_lmul hx hb dX6_norm_29 ?_
  refine lv_ladd hx hb dX6_norm_30 ?_
  refine lv_ldc2 hx hb (v := (4)) hown cl_106 dX6_norm_31 ?_
  refine lv_ldiv hx hb dX6_norm_34 (by decide) ?_
  exact h_lret hx hb hlk hr hw dX6_norm_35 rfl rfl

set_option maxHeartbeats 4000000 in
set_option maxRecDepth 100000 in
theorem c_X6_isNull (l : Launch) (G : GG) (A : Nat → Prop) (L : List Nat) (F : FM) (h0 : Nat) (x : Q4) (e0 : pt L F h0 (eJ4 G x)) : HT l yX6_isNull wsX6_isNull { frames := 0, cells := 0, slots := 0, locals := 0 } G A L [.ref h0] F (some (.int (bI (qzero x)))) F := by
  refine HT.ofW (cc := cX6_isNull) (maxL := 1) (ret := (some .boolean)) (plainFor_of_name (by decide)) rfl (Nat.le_of_ble_eq_true rfl) ?_
  intro p e s m below meth c ls hx hb hr hml hown hts hlk hE hw hl
  have hl : lv_has ls 1 [(0, .ref h0)] := hl
  have hown : s.vm.findClass RX6 = some m.cls := hown
  refine lv_aload_n hx hb dX6_isNull_0 rfl (lv_at hl 0 rfl) ?_
  refine lv_iconst (v := 0) hx hb dX6_isNull_1 (by decide) ?_
  refine h_lald hx hb hE hw e0 (n := 4) (vp_in_nI (n := 0) (N := 4) (by decide) (by decide)) (v := x.1) rfl dX6_isNull_2 ?_
  refine lv_lconst (v := 0) hx hb dX6_isNull_3 (by decide) ?_
  refine h_lc_ne (x := x.1) (y := 0) (tgt := 36) hx hb dX6_isNull_4 dX6_isNull_5 (by decide) (fun c_4 => ?_) (fun c_4 => ?_)
  · skip
    refine lv_iconst (v := 0) hx hb dX6_isNull_36 (by decide) ?_
    exact h_zret hx hb hlk hr hw dX6_isNull_37 rfl (by rw [bI_f (by simp [qzero, c_4])]) rfl
  · skip
    refine lv_aload_n hx hb dX6_isNull_8 rfl (lv_at hl 0 rfl) ?_
    refine lv_iconst (v := 1) hx hb dX6_isNull_9 (by decide) ?_
    refine h_lald hx hb hE hw e0 (n := 4) (vp_in_nI (n := 1) (N := 4) (by decide) (by decide)) (v := x.2.1) rfl dX6_isNull_10 ?_
    refine lv_lconst (v := 0) hx hb dX6_isNull_11 (by decide) ?_
    refine h_lc_ne (x := x.2.1) (y := 0) (tgt := 36) hx hb dX6_isNull_12 dX6_isNull_13 (by decide) (fun c_12 => ?_) (fun c_12 => ?_)
    · skip
      refine lv_iconst (v := 0) hx hb dX6_isNull_36 (by decide) ?_
      exact h_zret hx hb hlk hr hw dX6_isNull_37 rfl (by rw [bI_f (by simp [qzero, c_4, c_12])]) rfl
    · skip
      refine lv_aload_n hx hb dX6_isNull_16 rfl (lv_at hl 0 rfl) ?_
      refine lv_iconst (v := 2) hx hb dX6_isNull_17 (by decide) ?_
      refine h_lald hx hb hE hw e0 (n := 4) (vp_in_nI (n := 2) (N := 4) (by decide) (by decide)) (v := x.2.2.1) rfl dX6_isNull_18 ?_
      refine lv_lconst (v := 0) hx hb dX6_isNull_19 (by decide) ?_
      refine h_lc_ne (x := x.2.2.1) (y := 0) (tgt := 36) hx hb dX6_isNull_20 dX6_isNull_21 (by decide) (fun c_20 => ?_) (fun c_20 => ?_)
      · skip
        refine lv_iconst (v := 0) hx hb dX6_isNull_36 (by decide) ?_
        exact h_zret hx hb hlk hr hw dX6_isNull_37 rfl (by rw [bI_f (by simp [qzero, c_4, c_12, c_20])]) rfl
      · skip
        refine lv_aload_n hx hb dX6_isNull_24 rfl (lv_at hl 0 rfl) ?_
        refine lv_iconst (v := 3) hx hb dX6_isNull_25 (by decide) ?_
        refine h_lald hx hb hE hw e0 (n := 4) (vp_in_nI (n := 3) (N := 4) (by decide) (by decide)) (v := x.2.2.2) rfl dX6_isNull_26 ?_
        refine lv_lconst (v := 0) hx hb dX6_isNull_27 (by decide) ?_
        refine h_lc_ne (x := x.2.2.2) (y := 0) (tgt := 36) hx hb dX6_isNull_28 dX6_isNull_29 (by decide) (fun c_28 => ?_) (fun c_28 => ?_)
        · skip
          refine lv_iconst (v := 0) hx hb dX6_isNull_36 (by decide) ?_
          exact h_zret hx hb hlk hr hw dX6_isNull_37 rfl (by rw [bI_f (by simp [qzero, c_4, c_12, c_20, c_28])]) rfl
        · skip
          refine lv_iconst (v := 1) hx hb dX6_isNull_32 (by decide) ?_
          refine lv_goto (tgt := 37) hx hb dX6_isNull_33 (by decide) ?_
          exact h_zret hx hb hlk hr hw dX6_isNull_37 rfl (by rw [bI_t (by simp [qzero, c_4, c_12, c_20, c_28])]) rfl

set_option maxHeartbeats 4000000 in
set_option maxRecDepth 100000 in
theorem c_X6_isSame (l : Launch) (G : GG) (A : Nat → Prop) (L : List Nat) (F : FM) (h0 h1 : Nat) (x y : Q4) (e0 : pt L F h0 (eJ4 G x)) (e1 : pt L F h1 (eJ4 G y)) : HT l yX6_isSame wsX6_isSame { frames := 0, cells := 0, slots := 0, locals := 0 } G A L [.ref h0, .ref h1] F (some (.int (bI (x = y)))) F := by
  refine HT.ofW (cc := cX6_isSame) (maxL := 2) (ret := (some .boolean)) (plainFor_of_name (by decide)) rfl (Nat.le_of_ble_eq_true rfl) ?_
  intro p e s m below meth c ls hx hb hr hml hown hts hlk hE hw hl
  have hl : lv_has ls 2 [(0, .ref h0), (1, .ref h1)] := hl
  have hown : s.vm.findClass RX6 = some m.cls := hown
  refine lv_aload_n hx hb dX6_isSame_0 rfl (lv_at hl 0 rfl) ?_
  refine lv_iconst (v := 0) hx hb dX6_isSame_1 (by decide) ?_
  refine h_lald hx hb hE hw e0 (n := 4) (vp_in_nI (n := 0) (N := 4) (by decide) (by decide)) (v := x.1) rfl dX6_isSame_2 ?_
  refine lv_aload_n hx hb dX6_isSame_3 rfl (lv_at hl 1 rfl) ?_
  refine lv_iconst (v := 0) hx hb dX6_isSame_4 (by decide) ?_
  refine h_lald hx hb hE hw e1 (n := 4) (vp_in_nI (n := 0) (N := 4) (by decide) (by decide)) (v := y.1) rfl dX6_isSame_5 ?_
  refine h_lc_ne (x := x.1) (y := y.1) (tgt := 44) hx hb dX6_isSame_6 dX6_isSame_7 (by decide) (fun c_6 => ?_) (fun c_6 => ?_)
  · skip
    refine lv_iconst (v := 0) hx hb dX6_isSame_44 (by decide) ?_
    exact h_zret hx hb hlk hr hw dX6_isSame_45 rfl (by rw [bI_f]; intro q; exact c_6 (by rw [q])) rfl
  · skip
    refine lv_aload_n hx hb dX6_isSame_10 rfl (lv_at hl 0 rfl) ?_
    refine lv_iconst (v := 1) hx hb dX6_isSame_11 (by decide) ?_
    refine h_lald hx hb hE hw e0 (n := 4) (vp_in_nI (n := 1) (N := 4) (by decide) (by decide)) (v := x.2.1) rfl dX6_isSame_12 ?_
    refine lv_aload_n hx hb dX6_isSame_13 rfl (lv_at hl 1 rfl) ?_
    refine lv_iconst (v := 1) hx hb dX6_isSame_14 (by decide) ?_
    refine h_lald hx hb hE hw e1 (n := 4) (vp_in_nI (n := 1) (N := 4) (by decide) (by decide)) (v := y.2.1) rfl dX6_isSame_15 ?_
    refine h_lc_ne (x := x.2.1) (y := y.2.1) (tgt := 44) hx hb dX6_isSame_16 dX6_isSame_17 (by decide) (fun c_16 => ?_) (fun c_16 => ?_)
    · skip
      refine lv_iconst (v := 0) hx hb dX6_isSame_44 (by decide) ?_
      exact h_zret hx hb hlk hr hw dX6_isSame_45 rfl (by rw [bI_f]; intro q; exact c_16 (by rw [q])) rfl
    · skip
      refine lv_aload_n hx hb dX6_isSame_20 rfl (lv_at hl 0 rfl) ?_
      refine lv_iconst (v := 2) hx hb dX6_isSame_21 (by decide) ?_
      refine h_lald hx hb hE hw e0 (n := 4) (vp_in_nI (n := 2) (N := 4) (by decide) (by decide)) (v := x.2.2.1) rfl dX6_isSame_22 ?_
      refine lv_aload_n hx hb dX6_isSame_23 rfl (lv_at hl 1 rfl) ?_
      refine lv_iconst (v := 2) hx hb dX6_isSame_24 (by decide) ?_
      refine h_lald hx hb hE hw e1 (n := 4) (vp_in_nI (n := 2) (N := 4) (by decide) (by decide)) (v := y.2.2.1) rfl dX6_isSame_25 ?_
      refine h_lc_ne (x := x.2.2.1) (y := y.2.2.1) (tgt := 44) hx hb dX6_isSame_26 dX6_isSame_27 (by decide) (fun c_26 => ?_) (fun c_26 => ?_)
      · skip
        refine lv_iconst (v := 0) hx hb dX6_isSame_44 (by decide) ?_
        exact h_zret hx hb hlk hr hw dX6_isSame_45 rfl (by rw [bI_f]; intro q; exact c_26 (by rw [q])) rfl
      · skip
        refine lv_aload_n hx hb dX6_isSame_30 rfl (lv_at hl 0 rfl) ?_
        refine lv_iconst (v := 3) hx hb dX6_isSame_31 (by decide) ?_
        refine h_lald hx hb hE hw e0 (n := 4) (vp_in_nI (n := 3) (N := 4) (by decide) (by decide)) (v := x.2.2.2) rfl dX6_isSame_32 ?_
        refine lv_aload_n hx hb dX6_isSame_33 rfl (lv_at hl 1 rfl) ?_
        refine lv_iconst (v := 3) hx hb dX6_isSame_34 (by decide) ?_
        refine h_lald hx hb hE hw e1 (n := 4) (vp_in_nI (n := 3) (N := 4) (by decide) (by decide)) (v := y.2.2.2) rfl dX6_isSame_35 ?_
        refine h_lc_ne (x := x.2.2.2) (y := y.2.2.2) (tgt := 44) hx hb dX6_isSame_36 dX6_isSame_37 (by decide) (fun c_36 => ?_) (fun c_36 => ?_)
        · skip
          refine lv_iconst (v := 0) hx hb dX6_isSame_44 (by decide) ?_
          exact h_zret hx hb hlk hr hw dX6_isSame_45 rfl (by rw [bI_f]; intro q; exact c_36 (by rw [q])) rfl
        · skip
          refine lv_iconst (v := 1) hx hb dX6_isSame_40 (by decide) ?_
          refine lv_goto (tgt := 45) hx hb dX6_isSame_41 (by decide) ?_
          exact h_zret hx hb hlk hr hw dX6_isSame_45 rfl (by rw [bI_t]; exact Prod.ext c_6 (Prod.ext c_16 (Prod.ext c_26 c_36))) rfl

set_option maxHeartbeats 4000000 in
set_option maxRecDepth 100000 in
theorem c_X6_isGreater (l : Launch) (G : GG) (A : Nat → Prop) (L : List Nat) (F : FM) (h0 h1 : Nat) (x y : Q4) (e0 : pt L F h0 (eJ4 G x)) (e1 : pt L F h1 (eJ4 G y)) : HT l yX6_isGreater wsX6_isGreater { frames := 0, cells := 0, slots := 0, locals := 0 } G A L [.ref h0, .ref h1] F (some (.int (bI (qgr x y)))) F := by
  refine HT.ofW (cc := cX6_isGreater) (maxL := 3) (ret := (some .boolean)) (plainFor_of_name (by decide)) rfl (Nat.le_of_ble_eq_true rfl) ?_
  intro p e s m below meth c ls hx hb hr hml hown hts hlk hE hw hl
  have hl : lv_has ls 3 [(0, .ref h0), (1, .ref h1)] := hl
  have hown : s.vm.findClass RX6 = some m.cls := hown
  refine lv_iconst (v := 0) hx hb dX6_isGreater_0 (by decide) ?_
  refine lv_istore_n (lv' := [(2, .int 0), (0, .ref h0), (1, .ref h1)]) hx hb dX6_isGreater_1 rfl hl (by decide) rfl (fun ls hl => ?_)
  refine lv_iload_n hx hb dX6_isGreater_2 rfl (lv_at hl 0 rfl) ?_
  refine lv_iconst (v := 4) hx hb dX6_isGreater_3 (by decide) ?_
  refine lv_icmp_ge (tgt := 39) hx hb dX6_isGreater_4 (by decide) (fun c_4 => ?_) (fun c_4 => ?_)
  · skip
    first | exact absurd c_4 (by decide) | exact absurd (by decide) c_4
  · skip
    refine lv_aload_n hx hb dX6_isGreater_7 rfl (lv_at hl 1 rfl) ?_
    refine lv_iload_n hx hb dX6_isGreater_8 rfl (lv_at hl 0 rfl) ?_
    refine h_lald hx hb hE hw e0 (n := 4) (vp_in_nI (n := 0) (N := 4) (by decide) (by decide)) (v := x.1) rfl dX6_isGreater_9 ?_
    refine lv_aload_n hx hb dX6_isGreater_10 rfl (lv_at hl 2 rfl) ?_
    refine lv_iload_n hx hb dX6_isGreater_11 rfl (lv_at hl 0 rfl) ?_
    refine h_lald hx hb hE hw e1 (n := 4) (vp_in_nI (n := 0) (N := 4) (by decide) (by decide)) (v := y.1) rfl dX6_isGreater_12 ?_
    refine h_lc_eq (x := x.1) (y := y.1) (tgt := 33) hx hb dX6_isGreater_13 dX6_isGreater_14 (by decide) (fun c_13 => ?_) (fun c_13 => ?_)
    · skip
      have d0 := c_13
      refine lv_iinc (v := 1) (lv' := [(2, .int 1), (0, .ref h0), (1, .ref h1)]) hx hb dX6_isGreater_33 hl (k := 0) rfl (by decide) (by decide) rfl (fun ls hl => ?_)
      refine lv_goto (tgt := 2) hx hb dX6_isGreater_36 (by decide) ?_
      refine lv_iload_n hx hb dX6_isGreater_2 rfl (lv_at hl 0 rfl) ?_
      refine lv_iconst (v := 4) hx hb dX6_isGreater_3 (by decide) ?_
      refine lv_icmp_ge (tgt := 39) hx hb dX6_isGreater_4 (by decide) (fun c_4 => ?_) (fun c_4 => ?_)
      · skip
        first | exact absurd c_4 (by decide) | exact absurd (by decide) c_4
      · skip
        refine lv_aload_n hx hb dX6_isGreater_7 rfl (lv_at hl 1 rfl) ?_
        refine lv_iload_n hx hb dX6_isGreater_8 rfl (lv_at hl 0 rfl) ?_
        refine h_lald hx hb hE hw e0 (n := 4) (vp_in_nI (n := 1) (N := 4) (by decide) (by decide)) (v := x.2.1) rfl dX6_isGreater_9 ?_
        refine lv_aload_n hx hb dX6_isGreater_10 rfl (lv_at hl 2 rfl) ?_
        refine lv_iload_n hx hb dX6_isGreater_11 rfl (lv_at hl 0 rfl) ?_
        refine h_lald hx hb hE hw e1 (n := 4) (vp_in_nI (n := 1) (N := 4) (by decide) (by decide)) (v := y.2.1) rfl dX6_isGreater_12 ?_
        refine h_lc_eq (x := x.2.1) (y := y.2.1) (tgt := 33) hx hb dX6_isGreater_13 dX6_isGreater_14 (by decide) (fun c_13 => ?_) (fun c_13 => ?_)
        · skip
          have d1 := c_13
          refine lv_iinc (v := 2) (lv' := [(2, .int 2), (0, .ref h0), (1, .ref h1)]) hx hb dX6_isGreater_33 hl (k := 0) rfl (by decide) (by decide) rfl (fun ls hl => ?_)
          refine lv_goto (tgt := 2) hx hb dX6_isGreater_36 (by decide) ?_
          refine lv_iload_n hx hb dX6_isGreater_2 rfl (lv_at hl 0 rfl) ?_
          refine lv_iconst (v := 4) hx hb dX6_isGreater_3 (by decide) ?_
          refine lv_icmp_ge (tgt := 39) hx hb dX6_isGreater_4 (by decide) (fun c_4 => ?_) (fun c_4 => ?_)
          · skip
            first | exact absurd c_4 (by decide) | exact absurd (by decide) c_4
          · skip
            refine lv_aload_n hx hb dX6_isGreater_7 rfl (lv_at hl 1 rfl) ?_
            refine lv_iload_n hx hb dX6_isGreater_8 rfl (lv_at hl 0 rfl) ?_
            refine h_lald hx hb hE hw e0 (n := 4) (vp_in_nI (n := 2) (N := 4) (by decide) (by decide)) (v := x.2.2.1) rfl dX6_isGreater_9 ?_
            refine lv_aload_n hx hb dX6_isGreater_10 rfl (lv_at hl 2 rfl) ?_
            refine lv_iload_n hx hb dX6_isGreater_11 rfl (lv_at hl 0 rfl) ?_
            refine h_lald hx hb hE hw e1 (n := 4) (vp_in_nI (n := 2) (N := 4) (by decide) (by decide)) (v := y.2.2.1) rfl dX6_isGreater_12 ?_
            refine h_lc_eq (x := x.2.2.1) (y := y.2.2.1) (tgt := 33) hx hb dX6_isGreater_13 dX6_isGreater_14 (by decide) (fun c_13 => ?_) (fun c_13 => ?_)
            · skip
              have d2 := c_13
              refine lv_iinc (v := 3) (lv' := [(2, .int 3), (0, .ref h0), (1, .ref h1)]) hx hb dX6_isGreater_33 hl (k := 0) rfl (by decide) (by decide) rfl (fun ls hl => ?_)
              refine lv_goto (tgt := 2) hx hb dX6_isGreater_36 (by decide) ?_
              refine lv_iload_n hx hb dX6_isGreater_2 rfl (lv_at hl 0 rfl) ?_
              refine lv_iconst (v := 4) hx hb dX6_isGreater_3 (by decide) ?_
              refine lv_icmp_ge (tgt := 39) hx hb dX6_isGreater_4 (by decide) (fun c_4 => ?_) (fun c_4 => ?_)
              · skip
                first | exact absurd c_4 (by decide) | exact absurd (by decide) c_4
              · skip
                refine lv_aload_n hx hb dX6_isGreater_7 rfl (lv_at hl 1 rfl) ?_
                refine lv_iload_n hx hb dX6_isGreater_8 rfl (lv_at hl 0 rfl) ?_
                refine h_lald hx hb hE hw e0 (n := 4) (vp_in_nI (n := 3) (N := 4) (by decide) (by decide)) (v := x.2.2.2) rfl dX6_isGreater_9 ?_
                refine lv_aload_n hx hb dX6_isGreater_10 rfl (lv_at hl 2 rfl) ?_
                refine lv_iload_n hx hb dX6_isGreater_11 rfl (lv_at hl 0 rfl) ?_
                refine h_lald hx hb hE hw e1 (n := 4) (vp_in_nI (n := 3) (N := 4) (by decide) (by decide)) (v := y.2.2.2) rfl dX6_isGreater_12 ?_
                refine h_lc_eq (x := x.2.2.2) (y := y.2.2.2) (tgt := 33) hx hb dX6_isGreater_13 dX6_isGreater_14 (by decide) (fun c_13 => ?_) (fun c_13 => ?_)
                · skip
                  have d3 := c_13
                  refine lv_iinc (v := 4) (lv' := [(2, .int 4), (0, .ref h0), (1, .ref h1)]) hx hb dX6_isGreater_33 hl (k := 0) rfl (by decide) (by decide) rfl (fun ls hl => ?_)
                  refine lv_goto (tgt := 2) hx hb dX6_isGreater_36 (by decide) ?_
                  refine lv_iload_n hx hb dX6_isGreater_2 rfl (lv_at hl 0 rfl) ?_
                  refine lv_iconst (v := 4) hx hb dX6_isGreater_3 (by decide) ?_
                  refine lv_icmp_ge (tgt := 39) hx hb dX6_isGreater_4 (by decide) (fun c_4 => ?_) (fun c_4 => ?_)
                  · skip
                    refine lv_iconst (v := 0) hx hb dX6_isGreater_39 (by decide) ?_
                    exact h_zret hx hb hlk hr hw dX6_isGreater_40 rfl (by rw [bI_f (by simp [qgr, d0, d1, d2, d3])]) rfl
                  · skip
                    first | exact absurd c_4 (by decide) | exact absurd (by decide) c_4
                · skip
                  have d3 := c_13
                  refine lv_aload_n hx hb dX6_isGreater_17 rfl (lv_at hl 1 rfl) ?_
                  refine lv_iload_n hx hb dX6_isGreater_18 rfl (lv_at hl 0 rfl) ?_
                  refine h_lald hx hb hE hw e0 (n := 4) (vp_in_nI (n := 3) (N := 4) (by decide) (by decide)) (v := x.2.2.2) rfl dX6_isGreater_19 ?_
                  refine lv_aload_n hx hb dX6_isGreater_20 rfl (lv_at hl 2 rfl) ?_
                  refine lv_iload_n hx hb dX6_isGreater_21 rfl (lv_at hl 0 rfl) ?_
                  refine h_lald hx hb hE hw e1 (n := 4) (vp_in_nI (n := 3) (N := 4) (by decide) (by decide)) (v := y.2.2.2) rfl dX6_isGreater_22 ?_
                  refine h_lc_le (x := x.2.2.2) (y := y.2.2.2) (tgt := 31) hx hb dX6_isGreater_23 dX6_isGreater_24 (by decide) (fun c_23 => ?_) (fun c_23 => ?_)
                  · skip
                    refine lv_iconst (v := 0) hx hb dX6_isGreater_31 (by decide) ?_
                    exact h_zret hx hb hlk hr hw dX6_isGreater_32 rfl (by rw [bI_f (by simp [qgr, d0, d1, d2, d3, c_23])]) rfl
                  · skip
                    refine lv_iconst (v := 1) hx hb dX6_isGreater_27 (by decide) ?_
                    refine lv_goto (tgt := 32) hx hb dX6_isGreater_28 (by decide) ?_
                    exact h_zret hx hb hlk hr hw dX6_isGreater_32 rfl (by rw [bI_t (by simp [qgr, d0, d1, d2, d3, c_23])]) rfl
            · skip
              have d2 := c_13
              refine lv_aload_n hx hb dX6_isGreater_17 rfl (lv_at hl 1 rfl) ?_
              refine lv_iload_n hx hb dX6_isGreater_18 rfl (lv_at hl 0 rfl) ?_
              refine h_lald hx hb hE hw e0 (n := 4) (vp_in_nI (n := 2) (N := 4) (by decide) (by decide)) (v := x.2.2.1) rfl dX6_isGreater_19 ?_
              refine lv_aload_n hx hb dX6_isGreater_20 rfl (lv_at hl 2 rfl) ?_
              refine lv_iload_n hx hb dX6_isGreater_21 rfl (lv_at hl 0 rfl) ?_
              refine h_lald hx hb hE hw e1 (n := 4) (vp_in_nI (n := 2) (N := 4) (by decide) (by decide)) (v := y.2.2.1) rfl dX6_isGreater_22 ?_
              refine h_lc_le (x := x.2.2.1) (y := y.2.2.1) (tgt := 31) hx hb dX6_isGreater_23 dX6_isGreater_24 (by decide) (fun c_23 => ?_) (fun c_23 => ?_)
              · skip
                refine lv_iconst (v := 0) hx hb dX6_isGreater_31 (by decide) ?_
                exact h_zret hx hb hlk hr hw dX6_isGreater_32 rfl (by rw [bI_f (by simp [qgr, d0, d1, d2, c_23])]) rfl
              · skip
                refine lv_iconst (v := 1) hx hb dX6_isGreater_27 (by decide) ?_
                refine lv_goto (tgt := 32) hx hb dX6_isGreater_28 (by decide) ?_
                exact h_zret hx hb hlk hr hw dX6_isGreater_32 rfl (by rw [bI_t (by simp [qgr, d0, d1, d2, c_23])]) rfl
        · skip
          have d1 := c_13
          refine lv_aload_n hx hb dX6_isGreater_17 rfl (lv_at hl 1 rfl) ?_
          refine lv_iload_n hx hb dX6_isGreater_18 rfl (lv_at hl 0 rfl) ?_
          refine h_lald hx hb hE hw e0 (n := 4) (vp_in_nI (n := 1) (N := 4) (by decide) (by decide)) (v := x.2.1) rfl dX6_isGreater_19 ?_
          refine lv_aload_n hx hb dX6_isGreater_20 rfl (lv_at hl 2 rfl) ?_
          refine lv_iload_n hx hb dX6_isGreater_21 rfl (lv_at hl 0 rfl) ?_
          refine h_lald hx hb hE hw e1 (n := 4) (vp_in_nI (n := 1) (N := 4) (by decide) (by decide)) (v := y.2.1) rfl dX6_isGreater_22 ?_
          refine h_lc_le (x := x.2.1) (y := y.2.1) (tgt := 31) hx hb dX6_isGreater_23 dX6_isGreater_24 (by decide) (fun c_23 => ?_) (fun c_23 => ?_)
          · skip
            refine lv_iconst (v := 0) hx hb dX6_isGreater_31 (by decide) ?_
            exact h_zret hx hb hlk hr hw dX6_isGreater_32 rfl (by rw [bI_f (by simp [qgr, d0, d1, c_23])]) rfl
          · skip
            refine lv_iconst (v := 1) hx hb dX6_isGreater_27 (by decide) ?_
            refine lv_goto (tgt := 32) hx hb dX6_isGreater_28 (by decide) ?_
            exact h_zret hx hb hlk hr hw dX6_isGreater_32 rfl (by rw [bI_t (by simp [qgr, d0, d1, c_23])]) rfl
    · skip
      have d0 := c_13
      refine lv_aload_n hx hb dX6_isGreater_17 rfl (lv_at hl 1 rfl) ?_
      refine lv_iload_n hx hb dX6_isGreater_18 rfl (lv_at hl 0 rfl) ?_
      refine h_lald hx hb hE hw e0 (n := 4) (vp_in_nI (n := 0) (N := 4) (by decide) (by decide)) (v := x.1) rfl dX6_isGreater_19 ?_
      refine lv_aload_n hx hb dX6_isGreater_20 rfl (lv_at hl 2 rfl) ?_
      refine lv_iload_n hx hb dX6_isGreater_21 rfl (lv_at hl 0 rfl) ?_
      refine h_lald hx hb hE hw e1 (n := 4) (vp_in_nI (n := 0) (N := 4) (by decide) (by decide)) (v := y.1) rfl dX6_isGreater_22 ?_
      refine h_lc_le (x := x.1) (y := y.1) (tgt := 31) hx hb dX6_isGreater_23 dX6_isGreater_24 (by decide) (fun c_23 => ?_) (fun c_23 => ?_)
      · skip
        refine lv_iconst (v := 0) hx hb dX6_isGreater_31 (by decide) ?_
        exact h_zret hx hb hlk hr hw dX6_isGreater_32 rfl (by rw [bI_f (by simp [qgr, d0, c_23])]) rfl
      · skip
        refine lv_iconst (v := 1) hx hb dX6_isGreater_27 (by decide) ?_
        refine lv_goto (tgt := 32) hx hb dX6_isGreater_28 (by decide) ?_
        exact h_zret hx hb hlk hr hw dX6_isGreater_32 rfl (by rw [bI_t (by simp [qgr, d0, c_23])]) rfl

set_option maxHeartbeats 4000000 in
set_option maxRecDepth 100000 in
theorem c_X6_copy4 (l : Launch) (G : GG) (A : Nat → Prop) (L : List Nat) (F : FM) (h0 h1 : Nat) (x y : Q4) (e0 : pt L F h0 (eJ4 G x)) (e1 : pt L F h1 (eJ4 G y)) (hne : h0 ≠ h1) : HT l yX6_copy4 wsX6_copy4 { frames := 0, cells := 0, slots := 0, locals := 0 } G A L [.ref h0, .ref h1] F none (va_up F h0 (eJ4 G y)) := by
  refine HT.ofW (cc := cX6_copy4) (maxL := 3) (ret := none) (plainFor_of_name (by decide)) rfl (Nat.le_of_ble_eq_true rfl) ?_
  intro p e s m below meth c ls hx hb hr hml hown hts hlk hE hw hl
  have hl : lv_has ls 3 [(0, .ref h0), (1, .ref h1)] := hl
  have hown : s.vm.findClass RX6 = some m.cls := hown
  refine lv_iconst (v := 0) hx hb dX6_copy4_0 (by decide) ?_
  refine lv_istore_n (lv' := [(2, .int 0), (0, .ref h0), (1, .ref h1)]) hx hb dX6_copy4_1 rfl hl (by decide) rfl (fun ls hl => ?_)
  refine lv_iload_n hx hb dX6_copy4_2 rfl (lv_at hl 0 rfl) ?_
  refine lv_iconst (v := 4) hx hb dX6_copy4_3 (by decide) ?_
  refine lv_icmp_ge (tgt := 19) hx hb dX6_copy4_4 (by decide) (fun c_4 => ?_) (fun c_4 => ?_)
  · skip
    first | exact absurd c_4 (by decide) | exact absurd (by decide) c_4
  · skip
    refine lv_aload_n hx hb dX6_copy4_7 rfl (lv_at hl 1 rfl) ?_
    refine lv_iload_n hx hb dX6_copy4_8 rfl (lv_at hl 0 rfl) ?_
    refine lv_aload_n hx hb dX6_copy4_9 rfl (lv_at hl 2 rfl) ?_
    refine lv_iload_n hx hb dX6_copy4_10 rfl (lv_at hl 0 rfl) ?_
    refine h_lald hx hb hE hw e1 (n := 4) (vp_in_nI (n := 0) (N := 4) (by decide) (by decide)) (v := y.1) rfl dX6_copy4_11 ?_
    refine h_last hx hb hE hw e0 (n := 4) (vp_in_nI (n := 0) (N := 4) (by decide) (by decide)) (g := vp_updL (q4f x) 0 y.1) rfl dX6_copy4_12 (fun H locs hw => ?_)
    have hw := wo_same hw (at_sameJ (G := G) (n := 4) (st4_0 x y.1))
    refine lv_iinc (v := 1) (lv' := [(2, .int 1), (0, .ref h0), (1, .ref h1)]) hx hb dX6_copy4_13 hl (k := 0) rfl (by decide) (by decide) rfl (fun ls hl => ?_)
    refine lv_goto (tgt := 2) hx hb dX6_copy4_16 (by decide) ?_
    refine lv_iload_n hx hb dX6_copy4_2 rfl (lv_at hl 0 rfl) ?_
    refine lv_iconst (v := 4) hx hb dX6_copy4_3 (by decide) ?_
    refine lv_icmp_ge (tgt := 19) hx hb dX6_copy4_4 (by decide) (fun c_4 => ?_) (fun c_4 => ?_)
    · skip
      first | exact absurd c_4 (by decide) | exact absurd (by decide) c_4
    · skip
      refine lv_aload_n hx hb dX6_copy4_7 rfl (lv_at hl 1 rfl) ?_
      refine lv_iload_n hx hb dX6_copy4_8 rfl (lv_at hl 0 rfl) ?_
      refine lv_aload_n hx hb dX6_copy4_9 rfl (lv_at hl 2 rfl) ?_
      refine lv_iload_n hx hb dX6_copy4_10 rfl (lv_at hl 0 rfl) ?_
      refine h_lald hx hb hE hw (pt_ne e1 (Ne.symm hne)) (n := 4) (vp_in_nI (n := 1) (N := 4) (by decide) (by decide)) (v := y.2.1) rfl dX6_copy4_11 ?_
      refine h_last hx hb hE hw (pt_up e0) (n := 4) (vp_in_nI (n := 1) (N := 4) (by decide) (by decide)) (g := vp_updL (q4f (y.1, x.2.1, x.2.2.1, x.2.2.2)) 1 y.2.1) rfl dX6_copy4_12 (fun H locs hw => ?_)
      have hw := wo_same hw (at_sameJ (G := G) (n := 4) (st4_1 (y.1, x.2.1, x.2.2.1, x.2.2.2) y.2.1))
      refine lv_iinc (v := 2) (lv' := [(2, .int 2), (0, .ref h0), (1, .ref h1)]) hx hb dX6_copy4_13 hl (k := 0) rfl (by decide) (by decide) rfl (fun ls hl => ?_)
      refine lv_goto (tgt := 2) hx hb dX6_copy4_16 (by decide) ?_
      refine lv_iload_n hx hb dX6_copy4_2 rfl (lv_at hl 0 rfl) ?_
      refine lv_iconst (v := 4) hx hb dX6_copy4_3 (by decide) ?_
      refine lv_icmp_ge (tgt := 19) hx hb dX6_copy4_4 (by decide) (fun c_4 => ?_) (fun c_4 => ?_)
      · skip
        first | exact absurd c_4 (by decide) | exact absurd (by decide) c_4
      · skip
        refine lv_aload_n hx hb dX6_copy4_7 rfl (lv_at hl 1 rfl) ?_
        refine lv_iload_n hx hb dX6_copy4_8 rfl (lv_at hl 0 rfl) ?_
        refine lv_aload_n hx hb dX6_copy4_9 rfl (lv_at hl 2 rfl) ?_
        refine lv_iload_n hx hb dX6_copy4_10 rfl (lv_at hl 0 rfl) ?_
        refine h_lald hx hb hE hw (pt_ne (pt_ne e1 (Ne.symm hne)) (Ne.symm hne)) (n := 4) (vp_in_nI (n := 2) (N := 4) (by decide) (by decide)) (v := y.2.2.1) rfl dX6_copy4_11 ?_
        refine h_last hx hb hE hw (pt_up (pt_up e0)) (n := 4) (vp_in_nI (n := 2) (N := 4) (by decide) (by decide)) (g := vp_updL (q4f (y.1, y.2.1, x.2.2.1, x.2.2.2)) 2 y.2.2.1) rfl dX6_copy4_12 (fun H locs hw => ?_)
        have hw := wo_same hw (at_sameJ (G := G) (n := 4) (st4_2 (y.1, y.2.1, x.2.2.1, x.2.2.2) y.2.2.1))
        refine lv_iinc (v := 3) (lv' := [(2, .int 3), (0, .ref h0), (1, .ref h1)]) hx hb dX6_copy4_13 hl (k := 0) rfl (by decide) (by decide) rfl (fun ls hl => ?_)
        refine lv_goto (tgt := 2) hx hb dX6_copy4_16 (by decide) ?_
        refine lv_iload_n hx hb dX6_copy4_2 rfl (lv_at hl 0 rfl) ?_
        refine lv_iconst (v := 4) hx hb dX6_copy4_3 (by decide) ?_
        refine lv_icmp_ge (tgt := 19) hx hb dX6_copy4_4 (by decide) (fun c_4 => ?_) (fun c_4 => ?_)
        · skip
          first | exact absurd c_4 (by decide) | exact absurd (by decide) c_4
        · skip
          refine lv_aload_n hx hb dX6_copy4_7 rfl (lv_at hl 1 rfl) ?_
          refine lv_iload_n hx hb dX6_copy4_8 rfl (lv_at hl 0 rfl) ?_
          refine lv_aload_n hx hb dX6_copy4_9 rfl (lv_at hl 2 rfl) ?_
          refine lv_iload_n hx hb dX6_copy4_10 rfl (lv_at hl 0 rfl) ?_
          refine h_lald hx hb hE hw (pt_ne (pt_ne (pt_ne e1 (Ne.symm hne)) (Ne.symm hne)) (Ne.symm hne)) (n := 4) (vp_in_nI (n := 3) (N := 4) (by decide) (by decide)) (v := y.2.2.2) rfl dX6_copy4_11 ?_
          refine h_last hx hb hE hw (pt_up (pt_up (pt_up e0))) (n := 4) (vp_in_nI (n := 3) (N := 4) (by decide) (by decide)) (g := vp_updL (q4f (y.1, y.2.1, y.2.2.1, x.2.2.2)) 3 y.2.2.2) rfl dX6_copy4_12 (fun H locs hw => ?_)
          have hw := wo_same hw (at_sameJ (G := G) (n := 4) (st4_3 (y.1, y.2.1, y.2.2.1, x.2.2.2) y.2.2.2))
          refine lv_iinc (v := 4) (lv' := [(2, .int 4), (0, .ref h0), (1, .ref h1)]) hx hb dX6_copy4_13 hl (k := 0) rfl (by decide) (by decide) rfl (fun ls hl => ?_)
          refine lv_goto (tgt := 2) hx hb dX6_copy4_16 (by decide) ?_
          refine lv_iload_n hx hb dX6_copy4_2 rfl (lv_at hl 0 rfl) ?_
          refine lv_iconst (v := 4) hx hb dX6_copy4_3 (by decide) ?_
          refine lv_icmp_ge (tgt := 19) hx hb dX6_copy4_4 (by decide) (fun c_4 => ?_) (fun c_4 => ?_)
          · skip
            exact h_vret hx hb hlk hr hw dX6_copy4_19 rfl (by simp only [up_up])
          · skip
            first | exact absurd c_4 (by decide) | exact absurd (by decide) c_4

set_option maxHeartbeats 4000000 in
set_option maxRecDepth 100000 in
theorem c_X6_mirror (l : Launch) (G : GG) (A : Nat → Prop) (L : List Nat) (F : FM) (h0 : Nat) (x : Q4) (e0 : pt L F h0 (eJ4 G x)) : HT l yX6_mirror wsX6_mirror { frames := 0, cells := 0, slots := 0, locals := 0 } G A L [.ref h0] F none (va_up F h0 (eJ4 G (qmir x))) := by
  refine HT.ofW (cc := cX6_mirror) (maxL := 1) (ret := none) (plainFor_of_name (by decide)) rfl (Nat.le_of_ble_eq_true rfl) ?_
  intro p e s m below meth c ls hx hb hr hml hown hts hlk hE hw hl
  have hl : lv_has ls 1 [(0, .ref h0)] := hl
  have hown : s.vm.findClass RX6 = some m.cls := hown
  refine lv_aload_n hx hb dX6_mirror_0 rfl (lv_at hl 0 rfl) ?_
  refine lv_iconst (v := 1) hx hb dX6_mirror_1 (by decide) ?_
  refine lv_aload_n hx hb dX6_mirror_2 rfl (lv_at hl 0 rfl) ?_
  refine lv_iconst (v := 1) hx hb dX6_mirror_3 (by decide) ?_
  refine h_lald hx hb hE hw e0 (n := 4) (vp_in_nI (n := 1) (N := 4) (by decide) (by decide)) (v := x.2.1) rfl dX6_mirror_4 ?_
  refine lv_lneg hx hb dX6_mirror_5 ?_
  refine h_last hx hb hE hw e0 (n := 4) (vp_in_nI (n := 1) (N := 4) (by decide) (by decide)) (g := vp_updL (q4f x) 1 (-x.2.1)) rfl dX6_mirror_6 (fun H locs hw => ?_)
  have hw := wo_same hw (at_sameJ (G := G) (n := 4) (st4_1 x (-x.2.1)))
  refine lv_aload_n hx hb dX6_mirror_7 rfl (lv_at hl 0 rfl) ?_
  refine lv_iconst (v := 2) hx hb dX6_mirror_8 (by decide) ?_
  refine lv_aload_n hx hb dX6_mirror_9 rfl (lv_at hl 0 rfl) ?_
  refine lv_iconst (v := 2) hx hb dX6_mirror_10 (by decide) ?_
  refine h_lald hx hb hE hw (pt_up e0) (n := 4) (vp_in_nI (n := 2) (N := 4) (by decide) (by decide)) (v := x.2.2.1) rfl dX6_mirror_11 ?_
  refine lv_lneg hx hb dX6_mirror_12 ?_
  refine h_last hx hb hE hw (pt_up e0) (n := 4) (vp_in_nI (n := 2) (N := 4) (by decide) (by decide)) (g := vp_updL (q4f (x.1, -x.2.1, x.2.2.1, x.2.2.2)) 2 (-x.2.2.1)) rfl dX6_mirror_13 (fun H locs hw => ?_)
  have hw := wo_same hw (at_sameJ (G := G) (n := 4) (st4_2 (x.1, -x.2.1, x.2.2.1, x.2.2.2) (-x.2.2.1)))
  refine lv_aload_n hx hb dX6_mirror_14 rfl (lv_at hl 0 rfl) ?_
  refine lv_iconst (v := 3) hx hb dX6_mirror_15 (by decide) ?_
  refine lv_aload_n hx hb dX6_mirror_16 rfl (lv_at hl 0 rfl) ?_
  refine lv_iconst (v := 3) hx hb dX6_mirror_17 (by decide) ?_
  refine h_lald hx hb hE hw (pt_up (pt_up e0)) (n := 4) (vp_in_nI (n := 3) (N := 4) (by decide) (by decide)) (v := x.2.2.2) rfl dX6_mirror_18 ?_
  refine lv_lneg hx hb dX6_mirror_19 ?_
  refine h_last hx hb hE hw (pt_up (pt_up e0)) (n := 4) (vp_in_nI (n := 3) (N := 4) (by decide) (by decide)) (g := vp_updL (q4f (x.1, -x.2.1, -x.2.2.1, x.2.2.2)) 3 (-x.2.2.2)) rfl dX6_mirror_20 (fun H locs hw => ?_)
  have hw := wo_same hw (at_sameJ (G := G) (n := 4) (st4_3 (x.1, -x.2.1, -x.2.2.1, x.2.2.2) (-x.2.2.2)))
  exact h_vret hx hb hlk hr hw dX6_mirror_21 rfl (by simp only [up_up]; rfl)

set_option maxHeartbeats 4000000 in
set_option maxRecDepth 100000 in
theorem c_X6_times (l : Launch) (G : GG) (A : Nat → Prop) (L : List Nat) (F : FM) (h0 h1 h2 : Nat) (x y z : Q4) (e0 : pt L F h0 (eJ4 G x)) (e1 : pt L F h1 (eJ4 G y)) (e2 : pt L F h2 (eJ4 G z)) (n1 : h0 ≠ h1) (n2 : h0 ≠ h2) : HT l yX6_times wsX6_times { frames := 0, cells := 0, slots := 0, locals := 0 } G A L [.ref h0, .ref h1, .ref h2] F none (va_up F h0 (eJ4 G (qmul y z))) := by
  refine HT.ofW (cc := cX6_times) (maxL := 3) (ret := none) (plainFor_of_name (by decide)) rfl (Nat.le_of_ble_eq_true rfl) ?_
  intro p e s m below meth c ls hx hb hr hml hown hts hlk hE hw hl
  have hl : lv_has ls 3 [(0, .ref h0), (1, .ref h1), (2, .ref h2)] := hl
  have hown : s.vm.findClass RX6 = some m.cls := hown
  have cl_77 := hts (.constantLong RX6 77 (2)) (by decide +kernel)
  refine lv_aload_n hx hb dX6_times_0 rfl (lv_at hl 0 rfl) ?_
  refine lv_iconst (v := 0) hx hb dX6_times_1 (by decide) ?_
  refine lv_aload_n hx hb dX6_times_2 rfl (lv_at hl 1 rfl) ?_
  refine lv_iconst (v := 0) hx hb dX6_times_3 (by decide) ?_
  refine h_lald hx hb hE hw e1 (n := 4) (vp_in_nI (n := 0) (N := 4) (by decide) (by decide)) (v := y.1) rfl dX6_times_4 ?_
  refine lv_aload_n hx hb dX6_times_5 rfl (lv_at hl 2 rfl) ?_
  refine lv_iconst (v := 0) hx hb dX6_times_6 (by decide) ?_
  refine h_lald hx hb hE hw e2 (n := 4) (vp_in_nI (n := 0) (N := 4) (by decide) (by decide)) (v := z.1) rfl dX6_times_7 ?_
  refine lv_lmul hx hb dX6_times_8 ?_
  refine lv_aload_n hx hb dX6_times_9 rfl (lv_at hl 1 rfl) ?_
  refine lv_iconst (v := 1) hx hb dX6_times_10 (by decide) ?_
  refine h_lald hx hb hE hw e1 (n := 4) (vp_in_nI (n := 1) (N := 4) (by decide) (by decide)) (v := y.2.1) rfl dX6_times_11 ?_
  refine lv_aload_n hx hb dX6_times_12 rfl (lv_at hl 2 rfl) ?_
  refine lv_iconst (v := 1) hx hb dX6_times_13 (by decide) ?_
  refine h_lald hx hb hE hw e2 (n := 4) (vp_in_nI (n := 1) (N := 4) (by decide) (by decide)) (v := z.2.1) rfl dX6_times_14 ?_
  refine lv_lmul hx hb dX6_times_15 ?_
  refine lv_lsub hx hb dX6_times_16 ?_
  refine lv_aload_n hx hb dX6_times_17 rfl (lv_at hl 1 rfl) ?_
  refine lv_iconst (v := 2) hx hb dX6_times_18 (by decide) ?_
  refine h_lald hx hb hE hw e1 (n := 4) (vp_in_nI (n := 2) (N := 4) (by decide) (by decide)) (v := y.2.2.1) rfl dX6_times_19 ?_
  refine lv_aload_n hx hb dX6_times_20 rfl (lv_at hl 2 rfl) ?_
  refine lv_iconst (v := 2) hx hb dX6_times_21 (by decide) ?_
  refine h_lald hx hb hE hw e2 (n := 4) (vp_in_nI (n := 2) (N := 4) (by decide) (by decide)) (v := z.2.2.1) rfl dX6_times_22 ?_
  refine lv_lmul hx hb dX6_times_23 ?_
  refine lv_lsub hx hb dX6_times_24 ?_
  refine lv_aload_n hx hb dX6_times_25 rfl (lv_at hl 1 rfl) ?_
  refine lv_iconst (v := 3) hx hb dX6_times_26 (by decide) ?_
  refine h_lald hx hb hE hw e1 (n := 4) (vp_in_nI (n := 3) (N := 4) (by decide) (by decide)) (v := y.2.2.2) rfl dX6_times_27 ?_
  refine lv_aload_n hx hb dX6_times_28 rfl (lv_at hl 2 rfl) ?_
  refine lv_iconst (v := 3) hx hb dX6_times_29 (by decide) ?_
  refine h_lald hx hb hE hw e2 (n := 4) (vp_in_nI (n := 3) (N := 4) (by decide) (by decide)) (v := z.2.2.2) rfl dX6_times_30 ?_
  refine lv_lmul hx hb dX6_times_31 ?_
  refine lv_lsub hx hb dX6_times_32 ?_
  refine lv_ldc2 hx hb (v := (2)) hown cl_77 dX6_times_33 ?_
  refine lv_ldiv hx hb dX6_times_36 (by decide) ?_
  refine h_last hx hb hE hw e0 (n := 4) (vp_in_nI (n := 0) (N := 4) (by decide) (by decide)) (g := vp_updL (q4f x) 0 (((((y.1 * z.1) - (y.2.1 * z.2.1)) - (y.2.2.1 * z.2.2.1)) - (y.2.2.2 * z.2.2.2)) / (2))) rfl dX6_times_37 (fun H locs hw => ?_)
  have hw := wo_same hw (at_sameJ (G := G) (n := 4) (st4_0 x (((((y.1 * z.1) - (y.2.1 * z.2.1)) - (y.2.2.1 * z.2.2.1)) - (y.2.2.2 * z.2.2.2)) / (2))))
  refine lv_aload_n hx hb dX6_times_38 rfl (lv_at hl 0 rfl) ?_
  refine lv_iconst (v := 1) hx hb dX6_times_39 (by decide) ?_
  refine lv_aload_n hx hb dX6_times_40 rfl (lv_at hl 1 rfl) ?_
  refine lv_iconst (v := 0) hx hb dX6_times_41 (by decide) ?_
  refine h_lald hx hb hE hw (pt_ne e1 (Ne.symm n1)) (n := 4) (vp_in_nI (n := 0) (N := 4) (by decide) (by decide)) (v := y.1) rfl dX6_times_42 ?_
  refine lv_aload_n hx hb dX6_times_43 rfl (lv_at hl 2 rfl) ?_
  refine lv_iconst (v := 1) hx hb dX6_times_44 (by decide) ?_
  refine h_lald hx hb hE hw (pt_ne e2 (Ne.symm n2)) (n := 4) (vp_in_nI (n := 1) (N := 4) (by decide) (by decide)) (v := z.2.1) rfl dX6_times_45 ?_
  refine lv_lmul hx hb dX6_times_46 ?_
  refine lv_aload_n hx hb dX6_times_47 rfl (lv_at hl 1 rfl) ?_
  refine lv_iconst (v := 1) hx hb dX6_times_48 (by decide) ?_
  refine h_lald hx hb hE hw (pt_ne e1 (Ne.symm n1)) (n := 4) (vp_in_nI (n := 1) (N := 4) (by decide) (by decide)) (v := y.2.1) rfl dX6_times_49 ?_
  refine lv_aload_n hx hb dX6_times_50 rfl (lv_at hl 2 rfl) ?_
  refine lv_iconst (v := 0) hx hb dX6_times_51 (by decide) ?_
  refine h_lald hx hb hE hw (pt_ne e2 (Ne.symm n2)) (n := 4) (vp_in_nI (n := 0) (N := 4) (by decide) (by decide)) (v := z.1) rfl dX6_times_52 ?_
  refine lv_lmul hx hb dX6_times_53 ?_
  refine lv_ladd hx hb dX6_times_54 ?_
  refine lv_aload_n hx hb dX6_times_55 rfl (lv_at hl 1 rfl) ?_
  refine lv_iconst (v := 2) hx hb dX6_times_56 (by decide) ?_
  refine h_lald hx hb hE hw (pt_ne e1 (Ne.symm n1)) (n := 4) (vp_in_nI (n := 2) (N := 4) (by decide) (by decide)) (v := y.2.2.1) rfl dX6_times_57 ?_
  refine lv_aload_n hx hb dX6_times_58 rfl (lv_at hl 2 rfl) ?_
  refine lv_iconst (v := 3) hx hb dX6_times_59 (by decide) ?_
  refine h_lald hx hb hE hw (pt_ne e2 (Ne.symm n2)) (n := 4) (vp_in_nI (n := 3) (N := 4) (by decide) (by decide)) (v := z.2.2.2) rfl dX6_times_60 ?_
  refine lv_lmul hx hb dX6_times_61 ?_
  refine lv_ladd hx hb dX6_times_62 ?_
  refine lv_aload_n hx hb dX6_times_63 rfl (lv_at hl 1 rfl) ?_
  refine lv_iconst (v := 3) hx hb dX6_times_64 (by decide) ?_
  refine h_lald hx hb hE hw (pt_ne e1 (Ne.symm n1)) (n := 4) (vp_in_nI (n := 3) (N := 4) (by decide) (by decide)) (v := y.2.2.2) rfl dX6_times_65 ?_
  refine lv_aload_n hx hb dX6_times_66 rfl (lv_at hl 2 rfl) ?_
  refine lv_iconst (v := 2) hx hb dX6_times_67 (by decide) ?_
  refine h_lald hx hb hE hw (pt_ne e2 (Ne.symm n2)) (n := 4) (vp_in_nI (n := 2) (N := 4) (by decide) (by decide)) (v := z.2.2.1) rfl dX6_times_68 ?_
  refine lv_lmul hx hb dX6_times_69 ?_
  refine lv_lsub hx hb dX6_times_70 ?_
  refine lv_ldc2 hx hb (v := (2)) hown cl_77 dX6_times_71 ?_
  refine lv_ldiv hx hb dX6_times_74 (by decide) ?_
  refine h_last hx hb hE hw (pt_up e0) (n := 4) (vp_in_nI (n := 1) (N := 4) (by decide) (by decide)) (g := vp_updL (q4f (((((y.1 * z.1) - (y.2.1 * z.2.1)) - (y.2.2.1 * z.2.2.1)) - (y.2.2.2 * z.2.2.2)) / (2), x.2.1, x.2.2.1, x.2.2.2)) 1 (((((y.1 * z.2.1) + (y.2.1 * z.1)) + (y.2.2.1 * z.2.2.2)) - (y.2.2.2 * z.2.2.1)) / (2))) rfl dX6_times_75 (fun H locs hw => ?_)
  have hw := wo_same hw (at_sameJ (G := G) (n := 4) (st4_1 (((((y.1 * z.1) - (y.2.1 * z.2.1)) - (y.2.2.1 * z.2.2.1)) - (y.2.2.2 * z.2.2.2)) / (2), x.2.1, x.2.2.1, x.2.2.2) (((((y.1 * z.2.1) + (y.2.1 * z.1)) + (y.2.2.1 * z.2.2.2)) - (y.2.2.2 * z.2.2.1)) / (2))))
  refine lv_aload_n hx hb dX6_times_76 rfl (lv_at hl 0 rfl) ?_
  refine lv_iconst (v := 2) hx hb dX6_times_77 (by decide) ?_
  refine lv_aload_n hx hb dX6_times_78 rfl (lv_at hl 1 rfl) ?_
  refine lv_iconst (v := 0) hx hb dX6_times_79 (by decide) ?_
  refine h_lald hx hb hE hw (pt_ne (pt_ne e1 (Ne.symm n1)) (Ne.symm n1)) (n := 4) (vp_in_nI (n := 0) (N := 4) (by decide) (by decide)) (v := y.1) rfl dX6_times_80 ?_
  refine lv_aload_n hx hb dX6_times_81 rfl (lv_at hl 2 rfl) ?_
  refine lv_iconst (v := 2) hx hb dX6_times_82 (by decide) ?_
  refine h_lald hx hb hE hw (pt_ne (pt_ne e2 (Ne.symm n2)) (Ne.symm n2)) (n := 4) (vp_in_nI (n := 2) (N := 4) (by decide) (by decide)) (v := z.2.2.1) rfl dX6_times_83 ?_
  refine lv_lmul hx hb dX6_times_84 ?_
  refine lv_aload_n hx hb dX6_times_85 rfl (lv_at hl 1 rfl) ?_
  refine lv_iconst (v := 1) hx hb dX6_times_86 (by decide) ?_
  refine h_lald hx hb hE hw (pt_ne (pt_ne e1 (Ne.symm n1)) (Ne.symm n1)) (n := 4) (vp_in_nI (n := 1) (N := 4) (by decide) (by decide)) (v := y.2.1) rfl dX6_times_87 ?_
  refine lv_aload_n hx hb dX6_times_88 rfl (lv_at hl 2 rfl) ?_
  refine lv_iconst (v := 3) hx hb dX6_times_89 (by decide) ?_
  refine h_lald hx hb hE hw (pt_ne (pt_ne e2 (Ne.symm n2)) (Ne.symm n2)) (n := 4) (vp_in_nI (n := 3) (N := 4) (by decide) (by decide)) (v := z.2.2.2) rfl dX6_times_90 ?_
  refine lv_lmul hx hb dX6_times_91 ?_
  refine lv_lsub hx hb dX6_times_92 ?_
  refine lv_aload_n hx hb dX6_times_93 rfl (lv_at hl 1 rfl) ?_
  refine lv_iconst (v := 2) hx hb dX6_times_94 (by decide) ?_
  refine h_lald hx hb hE hw (pt_ne (pt_ne e1 (Ne.symm n1)) (Ne.symm n1)) (n := 4) (vp_in_nI (n := 2) (N := 4) (by decide) (by decide)) (v := y.2.2.1) rfl dX6_times_95 ?_
  refine lv_aload_n hx hb dX6_times_96 rfl (lv_at hl 2 rfl) ?_
  refine lv_iconst (v := 0) hx hb dX6_times_97 (by decide) ?_
  refine h_lald hx hb hE hw (pt_ne (pt_ne e2 (Ne.symm n2)) (Ne.symm n2)) (n := 4) (vp_in_nI (n := 0) (N := 4) (by decide) (by decide)) (v := z.1) rfl dX6_times_98 ?_
  refine lv_lmul hx hb dX6_times_99 ?_
  refine lv_ladd hx hb dX6_times_100 ?_
  refine lv_aload_n hx hb dX6_times_101 rfl (lv_at hl 1 rfl) ?_
  refine lv_iconst (v := 3) hx hb dX6_times_102 (by decide) ?_
  refine h_lald hx hb hE hw (pt_ne (pt_ne e1 (Ne.symm n1)) (Ne.symm n1)) (n := 4) (vp_in_nI (n := 3) (N := 4) (by decide) (by decide)) (v := y.2.2.2) rfl dX6_times_103 ?_
  refine lv_aload_n hx hb dX6_times_104 rfl (lv_at hl 2 rfl) ?_
  refine lv_iconst (v := 1) hx hb dX6_times_105 (by decide) ?_
  refine h_lald hx hb hE hw (pt_ne (pt_ne e2 (Ne.symm n2)) (Ne.symm n2)) (n := 4) (vp_in_nI (n := 1) (N := 4) (by decide) (by decide)) (v := z.2.1) rfl dX6_times_106 ?_
  refine lv_lmul hx hb dX6_times_107 ?_
  refine lv_ladd hx hb dX6_times_108 ?_
  refine lv_ldc2 hx hb (v := (2)) hown cl_77 dX6_times_109 ?_
  refine lv_ldiv hx hb dX6_times_112 (by decide) ?_
  refine h_last hx hb hE hw (pt_up (pt_up e0)) (n := 4) (vp_in_nI (n := 2) (N := 4) (by decide) (by decide)) (g := vp_updL (q4f (((((y.1 * z.1) - (y.2.1 * z.2.1)) - (y.2.2.1 * z.2.2.1)) - (y.2.2.2 * z.2.2.2)) / (2), ((((y.1 * z.2.1) + (y.2.1 * z.1)) + (y.2.2.1 * z.2.2.2)) - (y.2.2.2 * z.2.2.1)) / (2), x.2.2.1, x.2.2.2)) 2 (((((y.1 * z.2.2.1) - (y.2.1 * z.2.2.2)) + (y.2.2.1 * z.1)) + (y.2.2.2 * z.2.1)) / (2))) rfl dX6_times_113 (fun H locs hw => ?_)
  have hw := wo_same hw (at_sameJ (G := G) (n := 4) (st4_2 (((((y.1 * z.1) - (y.2.1 * z.2.1)) - (y.2.2.1 * z.2.2.1)) - (y.2.2.2 * z.2.2.2)) / (2), ((((y.1 * z.2.1) + (y.2.1 * z.1)) + (y.2.2.1 * z.2.2.2)) - (y.2.2.2 * z.2.2.1)) / (2), x.2.2.1, x.2.2.2) (((((y.1 * z.2.2.1) - (y.2.1 * z.2.2.2)) + (y.2.2.1 * z.1)) + (y.2.2.2 * z.2.1)) / (2))))
  refine lv_aload_n hx hb dX6_times_114 rfl (lv_at hl 0 rfl) ?_
  refine lv_iconst (v := 3) hx hb dX6_times_115 (by decide) ?_
  refine lv_aload_n hx hb dX6_times_116 rfl (lv_at hl 1 rfl) ?_
  refine lv_iconst (v := 0) hx hb dX6_times_117 (by decide) ?_
  refine h_lald hx hb hE hw (pt_ne (pt_ne (pt_ne e1 (Ne.symm n1)) (Ne.symm n1)) (Ne.symm n1)) (n := 4) (vp_in_nI (n := 0) (N := 4) (by decide) (by decide)) (v := y.1) rfl dX6_times_118 ?_
  refine lv_aload_n hx hb dX6_times_119 rfl (lv_at hl 2 rfl) ?_
  refine lv_iconst (v := 3) hx hb dX6_times_120 (by decide) ?_
  refine h_lald hx hb hE hw (pt_ne (pt_ne (pt_ne e2 (Ne.symm n2)) (Ne.symm n2)) (Ne.symm n2)) (n := 4) (vp_in_nI (n := 3) (N := 4) (by decide) (by decide)) (v := z.2.2.2) rfl dX6_times_121 ?_
  refine lv_lmul hx hb dX6_times_122 ?_
  refine lv_aload_n hx hb dX6_times_123 rfl (lv_at hl 1 rfl) ?_
  refine lv_iconst (v := 1) hx hb dX6_times_124 (by decide) ?_
  refine h_lald hx hb hE hw (pt_ne (pt_ne (pt_ne e1 (Ne.symm n1)) (Ne.symm n1)) (Ne.symm n1)) (n := 4) (vp_in_nI (n := 1) (N := 4) (by decide) (by decide)) (v := y.2.1) rfl dX6_times_125 ?_
  refine lv_aload_n hx hb dX6_times_126 rfl (lv_at hl 2 rfl) ?_
  refine lv_iconst (v := 2) hx hb dX6_times_127 (by decide) ?_
  refine h_lald hx hb hE hw (pt_ne (pt_ne (pt_ne e2 (Ne.symm n2)) (Ne.symm n2)) (Ne.symm n2)) (n := 4) (vp_in_nI (n := 2) (N := 4) (by decide) (by decide)) (v := z.2.2.1) rfl dX6_times_128 ?_
  refine lv_lmul hx hb dX6_times_129 ?_
  refine lv_ladd hx hb dX6_times_130 ?_
  refine lv_aload_n hx hb dX6_times_131 rfl (lv_at hl 1 rfl) ?_
  refine lv_iconst (v := 2) hx hb dX6_times_132 (by decide) ?_
  refine h_lald hx hb hE hw (pt_ne (pt_ne (pt_ne e1 (Ne.symm n1)) (Ne.symm n1)) (Ne.symm n1)) (n := 4) (vp_in_nI (n := 2) (N := 4) (by decide) (by decide)) (v := y.2.2.1) rfl dX6_times_133 ?_
  refine lv_aload_n hx hb dX6_times_134 rfl (lv_at hl 2 rfl) ?_
  refine lv_iconst (v := 1) hx hb dX6_times_135 (by decide) ?_
  refine h_lald hx hb hE hw (pt_ne (pt_ne (pt_ne e2 (Ne.symm n2)) (Ne.symm n2)) (Ne.symm n2)) (n := 4) (vp_in_nI (n := 1) (N := 4) (by decide) (by decide)) (v := z.2.1) rfl dX6_times_136 ?_
  refine lv_lmul hx hb dX6_times_137 ?_
  refine lv_lsub hx hb dX6_times_138 ?_
  refine lv_aload_n hx hb dX6_times_139 rfl (lv_at hl 1 rfl) ?_
  refine lv_iconst (v := 3) hx hb dX6_times_140 (by decide) ?_
  refine h_lald hx hb hE hw (pt_ne (pt_ne (pt_ne e1 (Ne.symm n1)) (Ne.symm n1)) (Ne.symm n1)) (n := 4) (vp_in_nI (n := 3) (N := 4) (by decide) (by decide)) (v := y.2.2.2) rfl dX6_times_141 ?_
  refine lv_aload_n hx hb dX6_times_142 rfl (lv_at hl 2 rfl) ?_
  refine lv_iconst (v := 0) hx hb dX6_times_143 (by decide) ?_
  refine h_lald hx hb hE hw (pt_ne (pt_ne (pt_ne e2 (Ne.symm n2)) (Ne.symm n2)) (Ne.symm n2)) (n := 4) (vp_in_nI (n := 0) (N := 4) (by decide) (by decide)) (v := z.1) rfl dX6_times_144 ?_
  refine lv_lmul hx hb dX6_times_145 ?_
  refine lv_ladd hx hb dX6_times_146 ?_
  refine lv_ldc2 hx hb (v := (2)) hown cl_77 dX6_times_147 ?_
  refine lv_ldiv hx hb dX6_times_150 (by decide) ?_
  refine h_last hx hb hE hw (pt_up (pt_up (pt_up e0))) (n := 4) (vp_in_nI (n := 3) (N := 4) (by decide) (by decide)) (g := vp_updL (q4f (((((y.1 * z.1) - (y.2.1 * z.2.1)) - (y.2.2.1 * z.2.2.1)) - (y.2.2.2 * z.2.2.2)) / (2), ((((y.1 * z.2.1) + (y.2.1 * z.1)) + (y.2.2.1 * z.2.2.2)) - (y.2.2.2 * z.2.2.1)) / (2), ((((y.1 * z.2.2.1) - (y.2.1 * z.2.2.2)) + (y.2.2.1 * z.1)) + (y.2.2.2 * z.2.1)) / (2), x.2.2.2)) 3 (((((y.1 * z.2.2.2) + (y.2.1 * z.2.2.1)) - (y.2.2.1 * z.2.1)) + (y.2.2.2 * z.1)) / (2))) rfl dX6_times_151 (fun H locs hw => ?_)
  have hw := wo_same hw (at_sameJ (G := G) (n := 4) (st4_3 (((((y.1 * z.1) - (y.2.1 * z.2.1)) - (y.2.2.1 * z.2.2.1)) - (y.2.2.2 * z.2.2.2)) / (2), ((((y.1 * z.2.1) + (y.2.1 * z.1)) + (y.2.2.1 * z.2.2.2)) - (y.2.2.2 * z.2.2.1)) / (2), ((((y.1 * z.2.2.1) - (y.2.1 * z.2.2.2)) + (y.2.2.1 * z.1)) + (y.2.2.2 * z.2.1)) / (2), x.2.2.2) (((((y.1 * z.2.2.2) + (y.2.1 * z.2.2.1)) - (y.2.2.1 * z.2.1)) + (y.2.2.2 * z.1)) / (2))))
  exact h_vret hx hb hlk hr hw dX6_times_152 rfl (by simp only [up_up]; rfl)

set_option maxHeartbeats 4000000 in
set_option maxRecDepth 100000 in
theorem c_X6_floored (l : Launch) (G : GG) (A : Nat → Prop) (L : List Nat) (F : FM) (va vb : Int64) (hne : ¬ vb = 0) : HT l yX6_floored wsX6_floored { frames := 0, cells := 0, slots := 0, locals := 0 } G A L [.long va, .long vb] F (some (.long (floM va vb))) F := by
  refine HT.ofW (cc := cX6_floored) (maxL := 6) (ret := (some .long)) (plainFor_of_name (by decide)) rfl (Nat.le_of_ble_eq_true rfl) ?_
  intro p e s m below meth c ls hx hb hr hml hown hts hlk hE hw hl
  have hl : lv_has ls 6 [(0, .long va), (2, .long vb)] := hl
  have hown : s.vm.findClass RX6 = some m.cls := hown
  refine lv_lload_n hx hb dX6_floored_0 rfl (lv_at hl 0 rfl) ?_
  refine lv_lload_n hx hb dX6_floored_1 rfl (lv_at hl 1 rfl) ?_
  refine lv_ldiv hx hb dX6_floored_2 hne ?_
  refine lv_lstore (lv' := [(4, .long (va / vb)), (0, .long va), (2, .long vb)]) hx hb dX6_floored_3 hl (by decide) rfl (fun ls hl => ?_)
  refine lv_lload_n hx hb dX6_floored_5 rfl (lv_at hl 1 rfl) ?_
  refine lv_lload_n hx hb dX6_floored_6 rfl (lv_at hl 2 rfl) ?_
  refine lv_lrem hx hb dX6_floored_7 hne ?_
  refine lv_lconst (v := 0) hx hb dX6_floored_8 (by decide) ?_
  refine h_lc_eq (x := va - va / vb * vb) (y := 0) (tgt := 26) hx hb dX6_floored_9 dX6_floored_10 (by decide) (fun c_9 => ?_) (fun c_9 => ?_)
  · skip
    refine lv_lload hx hb dX6_floored_26 (lv_at hl 0 rfl) ?_
    exact h_lret hx hb hlk hr hw dX6_floored_28 (by unfold floM; rw [if_pos c_9]) rfl
  · skip
    refine lv_lload_n hx hb dX6_floored_13 rfl (lv_at hl 1 rfl) ?_
    refine lv_lconst (v := 0) hx hb dX6_floored_14 (by decide) ?_
    refine h_lc_ge (x := va) (y := 0) (tgt := 26) hx hb dX6_floored_15 dX6_floored_16 (by decide) (fun c_15 => ?_) (fun c_15 => ?_)
    · skip
      refine lv_lload hx hb dX6_floored_26 (lv_at hl 0 rfl) ?_
      exact h_lret hx hb hlk hr hw dX6_floored_28 (by unfold floM; rw [if_neg c_9, if_pos c_15]) rfl
    · skip
      refine lv_lload hx hb dX6_floored_19 (lv_at hl 0 rfl) ?_
      refine lv_lconst (v := 1) hx hb dX6_floored_21 (by decide) ?_
      refine lv_lsub hx hb dX6_floored_22 ?_
      refine lv_goto (tgt := 28) hx hb dX6_floored_23 (by decide) ?_
      exact h_lret hx hb hlk hr hw dX6_floored_28 (by unfold floM; rw [if_neg c_9, if_neg c_15]) rfl
