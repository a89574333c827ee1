/-- what kind of cell it is -/
def tg : va_E → Nat
  | .inr o => o.1
  | .inl a => 1000 + 10 * a.2.1 + (match a.2.2 with
    | .inl _ => 1
    | .inr (.inl _) => 2
    | _ => 3)
theorem c_X1_init (l : Launch) (G : GG) (A : Nat → Prop) (L : List Nat) (F : FM) (o : Nat) : HT l yX1_init wsX1_init { frames := 1, cells := 0, slots := 0, locals := 12 } G A L [.ref o] F none F := by
  refine HT.ofW (cc := cX1_init) (maxL := 1) (ret := none) (plainFor_of_name (by decide)) rfl (Nat.le_of_ble_eq_true rfl) ?_
  intro p e s m below meth c ls hx hb hr hml hown hts hlk hE hw hl
  have hl : lv_has ls 1 [(0, .ref o)] := hl
  have hown : s.vm.findClass RX1 = some m.cls := hown
  refine lv_aload_n hx hb dX1_init_0 rfl (lv_at hl 0 rfl) ?_
  refine W.objInit hx hb hown (hts (.methodLink RX1 3 objectInit) (by decide +kernel)) (hts (.instanceMethod objectInit) (by decide +kernel)) (hts (.code objectInit ⟨#[0xb1]⟩ 1 none) (by decide +kernel)) rfl (by rw [hml]; exact hl.1) rfl dX1_init_1 (Nat.le_of_ble_eq_true rfl) (Nat.le_of_ble_eq_true rfl) ?_
  refine W.eq (g2 := F0 m 4 ls []) rfl ?_
  exact h_vret hx hb hlk hr hw dX1_init_4 rfl rfl

set_option maxHeartbeats 8000000 in
set_option maxRecDepth 100000 in
theorem c_X3_init (l : Launch) (G : GG) (A : Nat → Prop) (L : List Nat) (F : FM) (o : Nat) (e0 : pt L F o (.inr (3, [.null, .int 0, .int 0]))) : NT l yX3_init wsX3_init { frames := 1, cells := 1, slots := 16, locals := 12 } G A L o F (fun L2 F2 => ∃ q : Nat, L2 = L ++ [q] ∧ (∀ a, a ∈ L → a ≠ o → F2 a = F a) ∧ F2 o = eSh q 0 (-1) ∧ F2 q = eJ G 16 (fun _ => 0)) 1 16 := by
  refine NT.ofW (cc := cX3_init) (maxL := 1) (plainFor_of_name (by decide)) rfl rfl (by decide) ?_
  intro p e s m below meth c ls hx hb hr hml hown hts hlk hin hC hw hl
  have hown : s.vm.findClass RX3 = some m.cls := hown
  have hE := hC.1
  have hA := hC.2.2.2
  have kp : ∀ a, a ∈ L → a ≠ o → F a = F a := fun _ _ _ => rfl
  have lk_9 := hts (.fieldLink RX3 9 "FourParts$Sheet" "places" "[J") (by decide +kernel)
  have hinX3 : ∀ w ∈ u_ws RX3 TX3 3, w ∈ wsX3_init := by decide +kernel
  have lk_15 := hts (.fieldLink RX3 15 "FourParts$Sheet" "size" "I") (by decide +kernel)
  have lk_19 := hts (.fieldLink RX3 19 "FourParts$Sheet" "kind" "I") (by decide +kernel)
  refine lv_aload_n hx hb dX3_init_0 rfl (lv_at hl 0 rfl) ?_
  refine W.objInit hx hb hown (hts (.methodLink RX3 3 objectInit) (by decide +kernel)) (hts (.instanceMethod objectInit) (by decide +kernel)) (hts (.code objectInit ⟨#[0xb1]⟩ 1 none) (by decide +kernel)) rfl (by rw [hml]; exact hl.1) rfl dX3_init_1 (Nat.le_of_ble_eq_true rfl) (Nat.le_of_ble_eq_true rfl) ?_
  refine W.eq (g2 := F0 m 4 ls []) rfl ?_
  refine lv_aload_n hx hb dX3_init_4 rfl (lv_at hl 0 rfl) ?_
  refine lv_bipush (v := 16) hx hb dX3_init_5 (by decide) ?_
  refine h_newJ hx hb hE.1 hw hA (hts (.arrayClass .long) (by decide +kernel)) 16 rfl (by decide) (by first | decide | (show _ ≤ 1; omega)) (by first | decide | (show _ ≤ 16; omega)) dX3_init_7 (fun q1 H hq1 hw => ?_)
  obtain ⟨FF1, hFF1⟩ : ∃ Fx : FM, Fx = va_up F q1 (eJ G 16 (fun _ => 0)) := ⟨_, rfl⟩
  rw [← hFF1] at hw
  have f_o : pt (L ++ [q1]) FF1 o (.inr (3, [.null, .int 0, .int 0])) := by rw [hFF1]; exact (pt_push e0 hq1)
  have f_q1 : pt (L ++ [q1]) FF1 q1 (eJ G 16 (fun _ => 0)) := by rw [hFF1]; exact pt_new
  have kp : ∀ a, a ∈ L → a ≠ o → FF1 a = F a := by rw [hFF1]; exact fun a ha hne => (va_up_ne _ _ (nem ha hq1)).trans (kp a ha hne)
  refine h_putF hx hb hE.1 hw hts hinX3 tyX3 tyX3_ok nmX3 hown (ci := 3) rfl 0 (by decide) lk_9 (fun _ h9 => h9) rfl hin rfl f_o (ty := .array .long) (by decide +kernel) rfl rfl (Nat.le_of_ble_eq_true rfl) (fs2 := [.ref q1, .int 0, .int 0]) rfl dX3_init_9 (fun H locs hw => ?_)
  obtain ⟨FF2, hFF2⟩ : ∃ Fx : FM, Fx = va_up FF1 o (.inr (3, [.ref q1, .int 0, .int 0])) := ⟨_, rfl⟩
  rw [← hFF2] at hw
  have f_q1 : pt (L ++ [q1]) FF2 q1 (eJ G 16 (fun _ => 0)) := by rw [hFF2]; exact (pt_ne f_q1 (pt_ap f_q1 f_o (fun h9 => absurd (show (1162 : Nat) = 3 from congrArg tg h9) (by decide))))
  have f_o : pt (L ++ [q1]) FF2 o (.inr (3, [.ref q1, .int 0, .int 0])) := by rw [hFF2]; exact (pt_up f_o)
  have kp : ∀ a, a ∈ L → a ≠ o → FF2 a = F a := by rw [hFF2]; exact fun a ha hne => (va_up_ne _ _ hne).trans (kp a ha hne)
  refine lv_aload_n hx hb dX3_init_12 rfl (lv_at hl 0 rfl) ?_
  refine lv_iconst (v := 0) hx hb dX3_init_13 (by decide) ?_
  refine h_put hx hb hE hw hts hinX3 tyX3 tyX3_ok nmX3 hown (ci := 3) rfl 1 (by decide) lk_15 (fun _ h9 => h9) rfl f_o (ty := .int) rfl rfl rfl (Nat.le_of_ble_eq_true rfl) (fs2 := [.ref q1, .int 0, .int 0]) rfl dX3_init_14 (fun H locs hw => ?_)
  obtain ⟨FF3, hFF3⟩ : ∃ Fx : FM, Fx = va_up FF2 o (.inr (3, [.ref q1, .int 0, .int 0])) := ⟨_, rfl⟩
  rw [← hFF3] at hw
  have f_q1 : pt (L ++ [q1]) FF3 q1 (eJ G 16 (fun _ => 0)) := by rw [hFF3]; exact (pt_ne f_q1 (pt_ap f_q1 f_o (fun h9 => absurd (show (1162 : Nat) = 3 from congrArg tg h9) (by decide))))
  have f_o : pt (L ++ [q1]) FF3 o (.inr (3, [.ref q1, .int 0, .int 0])) := by rw [hFF3]; exact (pt_up f_o)
  have kp : ∀ a, a ∈ L → a ≠ o → FF3 a = F a := by rw [hFF3]; exact fun a ha hne => (va_up_ne _ _ hne).trans (kp a ha hne)
  refine lv_aload_n hx hb dX3_init_17 rfl (lv_at hl 0 rfl) ?_
  refine lv_iconst (v := (-1)) hx hb dX3_init_18 (by decide) ?_
  refine h_put hx hb hE hw hts hinX3 tyX3 tyX3_ok nmX3 hown (ci := 3) rfl 2 (by decide) lk_19 (fun _ h9 => h9) rfl f_o (ty := .int) rfl rfl rfl (Nat.le_of_ble_eq_true rfl) (fs2 := [.ref q1, .int 0, .int (-1)]) rfl dX3_init_19 (fun H locs hw => ?_)
  obtain ⟨FF4, hFF4⟩ : ∃ Fx : FM, Fx = va_up FF3 o (.inr (3, [.ref q1, .int 0, .int (-1)])) := ⟨_, rfl⟩
  rw [← hFF4] at hw
  have f_q1 : pt (L ++ [q1]) FF4 q1 (eJ G 16 (fun _ => 0)) := by rw [hFF4]; exact (pt_ne f_q1 (pt_ap f_q1 f_o (fun h9 => absurd (show (1162 : Nat) = 3 from congrArg tg h9) (by decide))))
  have f_o : pt (L ++ [q1]) FF4 o (.inr (3, [.ref q1, .int 0, .int (-1)])) := by rw [hFF4]; exact (pt_up f_o)
  have kp : ∀ a, a ∈ L → a ≠ o → FF4 a = F a := by rw [hFF4]; exact fun a ha hne => (va_up_ne _ _ hne).trans (kp a ha hne)
  exact h_vretN hx hb hlk hr hw dX3_init_22 ⟨q1, rfl, kp, f_o.2, f_q1.2⟩ (by first | decide | omega) (by first | decide | omega)

set_option maxHeartbeats 8000000 in
set_option maxRecDepth 100000 in
theorem c_X2_init (l : Launch) (G : GG) (A : Nat → Prop) (L : List Nat) (F : FM) (o : Nat) (e0 : pt L F o (.inr (2, [.null, .null, .null, .null, .null, .null, .null, .null]))) : NT l yX2_init wsX2_init { frames := 2, cells := 8, slots := 32, locals := 32 } G A L o F (fun L2 F2 => ∃ n0 n1 n2 n3 n4 n5 n6 n7 : Nat, L2 = L ++ [n0, n1, n2, n3, n4, n5, n6, n7] ∧ (∀ a, a ∈ L → a ≠ o → F2 a = F a) ∧ F2 o = .inr (2, [.ref n0, .ref n1, .ref n2, .ref n3, .ref n4, .ref n5, .ref n6, .ref n7]) ∧ F2 n0 = eq4 (0, 0, 0, 0) ∧ F2 n1 = eq4 (0, 0, 0, 0) ∧ F2 n2 = eq4 (0, 0, 0, 0) ∧ F2 n3 = eq4 (0, 0, 0, 0) ∧ F2 n4 = eq4 (0, 0, 0, 0) ∧ F2 n5 = eq4 (0, 0, 0, 0) ∧ F2 n6 = eq4 (0, 0, 0, 0) ∧ F2 n7 = eq4 (0, 0, 0, 0)) 8 32 := by
  refine NT.ofW (cc := cX2_init) (maxL := 1) (plainFor_of_name (by decide)) rfl rfl (by decide) ?_
  intro p e s m below meth c ls hx hb hr hml hown hts hlk hin hC hw hl
  have hown : s.vm.findClass RX2 = some m.cls := hown
  have hE := hC.1
  have hA := hC.2.2.2
  have kp : ∀ a, a ∈ L → a ≠ o → F a = F a := fun _ _ _ => rfl
  have hinX1 : ∀ w ∈ u_ws RX1 TX1 4, w ∈ wsX2_init := by decide +kernel
  have lk_12 := hts (.fieldLink RX2 12 "FourParts$Reckoner" "quotient" "LFourParts$Quad;") (by decide +kernel)
  have hinX2 : ∀ w ∈ u_ws RX2 TX2 8, w ∈ wsX2_init := by decide +kernel
  have lk_18 := hts (.fieldLink RX2 18 "FourParts$Reckoner" "rest" "LFourParts$Quad;") (by decide +kernel)
  have lk_21 := hts (.fieldLink RX2 21 "FourParts$Reckoner" "common" "LFourParts$Quad;") (by decide +kernel)
  have lk_24 := hts (.fieldLink RX2 24 "FourParts$Reckoner" "upper" "LFourParts$Quad;") (by decide +kernel)
  have lk_27 := hts (.fieldLink RX2 27 "FourParts$Reckoner" "lower" "LFourParts$Quad;") (by decide +kernel)
  have lk_30 := hts (.fieldLink RX2 30 "FourParts$Reckoner" "ratio" "LFourParts$Quad;") (by decide +kernel)
  have lk_33 := hts (.fieldLink RX2 33 "FourParts$Reckoner" "halves" "LFourParts$Quad;") (by decide +kernel)
  have lk_36 := hts (.fieldLink RX2 36 "FourParts$Reckoner" "rival" "LFourParts$Quad;") (by decide +kernel)
  refine lv_aload_n hx hb dX2_init_0 rfl (lv_at hl 0 rfl) ?_
  refine W.objInit hx hb hown (hts (.methodLink RX2 3 objectInit) (by decide +kernel)) (hts (.instanceMethod objectInit) (by decide +kernel)) (hts (.code objectInit ⟨#[0xb1]⟩ 1 none) (by decide +kernel)) rfl (by rw [hml]; exact hl.1) rfl dX2_init_1 (Nat.le_of_ble_eq_true rfl) (Nat.le_of_ble_eq_true rfl) ?_
  refine W.eq (g2 := F0 m 4 ls []) rfl ?_
  refine lv_aload_n hx hb dX2_init_4 rfl (lv_at hl 0 rfl) ?_
  refine h_new hx hb hE.1 hw hA hts hinX1 tyX1 tyX1_ok hown (hts (.classLink RX2 9 RX1) (by decide +kernel)) (hts (.instantiable RX1 4) (by decide +kernel)) (hts (.initialized RX1) (by decide +kernel)) (ci := 1) rfl (fs := [.long 0, .long 0, .long 0, .long 0]) (fun j hj => by rcases (show j = 0 ∨ j = 1 ∨ j = 2 ∨ j = 3 by omega) with rfl | rfl | rfl | rfl <;> rfl) (by first | decide | (show _ ≤ 8; omega)) (by first | decide | (show _ ≤ 32; omega)) dX2_init_5 (fun n0 H hn0 hw => ?_)
  obtain ⟨FF1, hFF1⟩ : ∃ Fx : FM, Fx = va_up F n0 (.inr (1, [.long 0, .long 0, .long 0, .long 0])) := ⟨_, rfl⟩
  rw [← hFF1] at hw
  have f_o : pt (L ++ [n0]) FF1 o (.inr (2, [.null, .null, .null, .null, .null, .null, .null, .null])) := by rw [hFF1]; exact (pt_push e0 hn0)
  have f_n0 : pt (L ++ [n0]) FF1 n0 (.inr (1, [.long 0, .long 0, .long 0, .long 0])) := by rw [hFF1]; exact pt_new
  have kp : ∀ a, a ∈ L → a ≠ o → FF1 a = F a := by rw [hFF1]; exact fun a ha hne => (va_up_ne _ _ (nem ha hn0)).trans (kp a ha hne)
  refine lv_dup hx hb dX2_init_8 rfl ?_
  refine h_callHN [.ref n0, .ref o] ⟨hx, hb, hml, hown, hts⟩ hE hw (c_X1_init l G A (L ++ [n0]) FF1 n0) ⟨va_cnB 0 hts gX2_init_X1_init_n11 rfl rfl rfl hC.2.1.2.1 (hts (.initialized RX1) (by decide +kernel)) (by decide +kernel) ⟨Nat.le_of_ble_eq_true rfl, Nat.le_of_ble_eq_true rfl⟩, rfl, (hts (.instanceMethod yX1_init) (by decide +kernel))⟩ hl.1 (Nat.le_of_ble_eq_true rfl) dX2_init_9 ⟨(by first | decide | (show _ ≤ 8; omega)), (by first | decide | (show _ ≤ 32; omega))⟩ (fun H locs hw => ?_)
  refine h_putF hx hb hE.1 hw hts hinX2 tyX2 tyX2_ok nmX2 hown (ci := 2) rfl 0 (by decide) lk_12 (fun _ h9 => h9) rfl hin rfl f_o (ty := .object "FourParts$Quad") (by decide +kernel) rfl rfl (Nat.le_of_ble_eq_true rfl) (fs2 := [.ref n0, .null, .null, .null, .null, .null, .null, .null]) rfl dX2_init_12 (fun H locs hw => ?_)
  obtain ⟨FF2, hFF2⟩ : ∃ Fx : FM, Fx = va_up FF1 o (.inr (2, [.ref n0, .null, .null, .null, .null, .null, .null, .null])) := ⟨_, rfl⟩
  rw [← hFF2] at hw
  have f_n0 : pt (L ++ [n0]) FF2 n0 (.inr (1, [.long 0, .long 0, .long 0, .long 0])) := by rw [hFF2]; exact (pt_ne f_n0 (pt_ap f_n0 f_o (fun h9 => absurd (show (1 : Nat) = 2 from congrArg tg h9) (by decide))))
  have f_o : pt (L ++ [n0]) FF2 o (.inr (2, [.ref n0, .null, .null, .null, .null, .null, .null, .null])) := by rw [hFF2]; exact (pt_up f_o)
  have kp : ∀ a, a ∈ L → a ≠ o → FF2 a = F a := by rw [hFF2]; exact fun a ha hne => (va_up_ne _ _ hne).trans (kp a ha hne)
  refine lv_aload_n hx hb dX2_init_15 rfl (lv_at hl 0 rfl) ?_
  refine h_new hx hb hE.1 hw hA hts hinX1 tyX1 tyX1_ok hown (hts (.classLink RX2 9 RX1) (by decide +kernel)) (hts (.instantiable RX1 4) (by decide +kernel)) (hts (.initialized RX1) (by decide +kernel)) (ci := 1) rfl (fs := [.long 0, .long 0, .long 0, .long 0]) (fun j hj => by rcases (show j = 0 ∨ j = 1 ∨ j = 2 ∨ j = 3 by omega) with rfl | rfl | rfl | rfl <;> rfl) (by first | decide | (show _ ≤ 8; omega)) (by first | decide | (show _ ≤ 32; omega)) dX2_init_16 (fun n1 H hn1 hw => ?_)
  obtain ⟨FF3, hFF3⟩ : ∃ Fx : FM, Fx = va_up FF2 n1 (.inr (1, [.long 0, .long 0, .long 0, .long 0])) := ⟨_, rfl⟩
  rw [← hFF3] at hw
  have f_n0 : pt ((L ++ [n0]) ++ [n1]) FF3 n0 (.inr (1, [.long 0, .long 0, .long 0, .long 0])) := by rw [hFF3]; exact (pt_push f_n0 hn1)
  have f_o : pt ((L ++ [n0]) ++ [n1]) FF3 o (.inr (2, [.ref n0, .null, .null, .null, .null, .null, .null, .null])) := by rw [hFF3]; exact (pt_push f_o hn1)
  have f_n1 : pt ((L ++ [n0]) ++ [n1]) FF3 n1 (.inr (1, [.long 0, .long 0, .long 0, .long 0])) := by rw [hFF3]; exact pt_new
  have kp : ∀ a, a ∈ L → a ≠ o → FF3 a = F a := by rw [hFF3]; exact fun a ha hne => (va_up_ne _ _ (nem (List.mem_append_left _ ha) hn1)).trans (kp a ha hne)
  refine lv_dup hx hb dX2_init_19 rfl ?_
  refine h_callHN [.ref n1, .ref o] ⟨hx, hb, hml, hown, hts⟩ hE hw (c_X1_init l G A ((L ++ [n0]) ++ [n1]) FF3 n1) ⟨va_cnB 0 hts gX2_init_X1_init_n11 rfl rfl rfl hC.2.1.2.1 (hts (.initialized RX1) (by decide +kernel)) (by decide +kernel) ⟨Nat.le_of_ble_eq_true rfl, Nat.le_of_ble_eq_true rfl⟩, rfl, (hts (.instanceMethod yX1_init) (by decide +kernel))⟩ hl.1 (Nat.le_of_ble_eq_true rfl) dX2_init_20 ⟨(by first | decide | (show _ ≤ 8; omega)), (by first | decide | (show _ ≤ 32; omega))⟩ (fun H locs hw => ?_)
  refine h_putF hx hb hE.1 hw hts hinX2 tyX2 tyX2_ok nmX2 hown (ci := 2) rfl 1 (by decide) lk_18 (fun _ h9 => h9) rfl hin rfl f_o (ty := .object "FourParts$Quad") (by decide +kernel) rfl rfl (Nat.le_of_ble_eq_true rfl) (fs2 := [.ref n0, .ref n1, .null, .null, .null, .null, .null, .null]) rfl dX2_init_23 (fun H locs hw => ?_)
  obtain ⟨FF4, hFF4⟩ : ∃ Fx : FM, Fx = va_up FF3 o (.inr (2, [.ref n0, .ref n1, .null, .null, .null, .null, .null, .null])) := ⟨_, rfl⟩
  rw [← hFF4] at hw
  have f_n0 : pt ((L ++ [n0]) ++ [n1]) FF4 n0 (.inr (1, [.long 0, .long 0, .long 0, .long 0])) := by rw [hFF4]; exact (pt_ne f_n0 (pt_ap f_n0 f_o (fun h9 => absurd (show (1 : Nat) = 2 from congrArg tg h9) (by decide))))
  have f_n1 : pt ((L ++ [n0]) ++ [n1]) FF4 n1 (.inr (1, [.long 0, .long 0, .long 0, .long 0])) := by rw [hFF4]; exact (pt_ne f_n1 (pt_ap f_n1 f_o (fun h9 => absurd (show (1 : Nat) = 2 from congrArg tg h9) (by decide))))
  have f_o : pt ((L ++ [n0]) ++ [n1]) FF4 o (.inr (2, [.ref n0, .ref n1, .null, .null, .null, .null, .null, .null])) := by rw [hFF4]; exact (pt_up f_o)
  have kp : ∀ a, a ∈ L → a ≠ o → FF4 a = F a := by rw [hFF4]; exact fun a ha hne => (va_up_ne _ _ hne).trans (kp a ha hne)
  refine lv_aload_n hx hb dX2_init_26 rfl (lv_at hl 0 rfl) ?_
  refine h_new hx hb hE.1 hw hA hts hinX1 tyX1 tyX1_ok hown (hts (.classLink RX2 9 RX1) (by decide +kernel)) (hts (.instantiable RX1 4) (by decide +kernel)) (hts (.initialized RX1) (by decide +kernel)) (ci := 1) rfl (fs := [.long 0, .long 0, .long 0, .long 0]) (fun j hj => by rcases (show j = 0 ∨ j = 1 ∨ j = 2 ∨ j = 3 by omega) with rfl | rfl | rfl | rfl <;> rfl) (by first | decide | (show _ ≤ 8; omega)) (by first | decide | (show _ ≤ 32; omega)) dX2_init_27 (fun n2 H hn2 hw => ?_)
  obtain ⟨FF5, hFF5⟩ : ∃ Fx : FM, Fx = va_up FF4 n2 (.inr (1, [.long 0, .long 0, .long 0, .long 0])) := ⟨_, rfl⟩
  rw [← hFF5] at hw
  have f_n0 : pt (((L ++ [n0]) ++ [n1]) ++ [n2]) FF5 n0 (.inr (1, [.long 0, .long 0, .long 0, .long 0])) := by rw [hFF5]; exact (pt_push f_n0 hn2)
  have f_n1 : pt (((L ++ [n0]) ++ [n1]) ++ [n2]) FF5 n1 (.inr (1, [.long 0, .long 0, .long 0, .long 0])) := by rw [hFF5]; exact (pt_push f_n1 hn2)
  have f_o : pt (((L ++ [n0]) ++ [n1]) ++ [n2]) FF5 o (.inr (2, [.ref n0, .ref n1, .null, .null, .null, .null, .null, .null])) := by rw [hFF5]; exact (pt_push f_o hn2)
  have f_n2 : pt (((L ++ [n0]) ++ [n1]) ++ [n2]) FF5 n2 (.inr (1, [.long 0, .long 0, .long 0, .long 0])) := by rw [hFF5]; exact pt_new
  have kp : ∀ a, a ∈ L → a ≠ o → FF5 a = F a := by rw [hFF5]; exact fun a ha hne => (va_up_ne _ _ (nem (List.mem_append_left _ (List.mem_append_left _ ha)) hn2)).trans (kp a ha hne)
  refine lv_dup hx hb dX2_init_30 rfl ?_
  refine h_callHN [.ref n2, .ref o] ⟨hx, hb, hml, hown, hts⟩ hE hw (c_X1_init l G A (((L ++ [n0]) ++ [n1]) ++ [n2]) FF5 n2) ⟨va_cnB 0 hts gX2_init_X1_init_n11 rfl rfl rfl hC.2.1.2.1 (hts (.initialized RX1) (by decide +kernel)) (by decide +kernel) ⟨Nat.le_of_ble_eq_true rfl, Nat.le_of_ble_eq_true rfl⟩, rfl, (hts (.instanceMethod yX1_init) (by decide +kernel))⟩ hl.1 (Nat.le_of_ble_eq_true rfl) dX2_init_31 ⟨(by first | decide | (show _ ≤ 8; omega)), (by first | decide | (show _ ≤ 32; omega))⟩ (fun H locs hw => ?_)
  refine h_putF hx hb hE.1 hw hts hinX2 tyX2 tyX2_ok nmX2 hown (ci := 2) rfl 2 (by decide) lk_21 (fun _ h9 => h9) rfl hin rfl f_o (ty := .object "FourParts$Quad") (by decide +kernel) rfl rfl (Nat.le_of_ble_eq_true rfl) (fs2 := [.ref n0, .ref n1, .ref n2, .null, .null, .null, .null, .null]) rfl dX2_init_34 (fun H locs hw => ?_)
  obtain ⟨FF6, hFF6⟩ : ∃ Fx : FM, Fx = va_up FF5 o (.inr (2, [.ref n0, .ref n1, .ref n2, .null, .null, .null, .null, .null])) := ⟨_, rfl⟩
  rw [← hFF6] at hw
  have f_n0 : pt (((L ++ [n0]) ++ [n1]) ++ [n2]) FF6 n0 (.inr (1, [.long 0, .long 0, .long 0, .long 0])) := by rw [hFF6]; exact (pt_ne f_n0 (pt_ap f_n0 f_o (fun h9 => absurd (show (1 : Nat) = 2 from congrArg tg h9) (by decide))))
  have f_n1 : pt (((L ++ [n0]) ++ [n1]) ++ [n2]) FF6 n1 (.inr (1, [.long 0, .long 0, .long 0, .long 0])) := by rw [hFF6]; exact (pt_ne f_n1 (pt_ap f_n1 f_o (fun h9 => absurd (show (1 : Nat) = 2 from congrArg tg h9) (by decide))))
  have f_n2 : pt (((L ++ [n0]) ++ [n1]) ++ [n2]) FF6 n2 (.inr (1, [.long 0, .long 0, .long 0, .long 0])) := by rw [hFF6]; exact (pt_ne f_n2 (pt_ap f_n2 f_o (fun h9 => absurd (show (1 : Nat) = 2 from congrArg tg h9) (by decide))))
  have f_o : pt (((L ++ [n0]) ++ [n1]) ++ [n2]) FF6 o (.inr (2, [.ref n0, .ref n1, .ref n2, .null, .null, .null, .null, .null])) := by rw [hFF6]; exact (pt_up f_o)
  have kp : ∀ a, a ∈ L → a ≠ o → FF6 a = F a := by rw [hFF6]; exact fun a ha hne => (va_up_ne _ _ hne).trans (kp a ha hne)
  refine lv_aload_n hx hb dX2_init_37 rfl (lv_at hl 0 rfl) ?_
  refine h_new hx hb hE.1 hw hA hts hinX1 tyX1 tyX1_ok hown (hts (.classLink RX2 9 RX1) (by decide +kernel)) (hts (.instantiable RX1 4) (by decide +kernel)) (hts (.initialized RX1) (by decide +kernel)) (ci := 1) rfl (fs := [.long 0, .long 0, .long 0, .long 0]) (fun j hj => by rcases (show j = 0 ∨ j = 1 ∨ j = 2 ∨ j = 3 by omega) with rfl | rfl | rfl | rfl <;> rfl) (by first | decide | (show _ ≤ 8; omega)) (by first | decide | (show _ ≤ 32; omega)) dX2_init_38 (fun n3 H hn3 hw => ?_)
  obtain ⟨FF7, hFF7⟩ : ∃ Fx : FM, Fx = va_up FF6 n3 (.inr (1, [.long 0, .long 0, .long 0, .long 0])) := ⟨_, rfl⟩
  rw [← hFF7] at hw
  have f_n0 : pt ((((L ++ [n0]) ++ [n1]) ++ [n2]) ++ [n3]) FF7 n0 (.inr (1, [.long 0, .long 0, .long 0, .long 0])) := by rw [hFF7]; exact (pt_push f_n0 hn3)
  have f_n1 : pt ((((L ++ [n0]) ++ [n1]) ++ [n2]) ++ [n3]) FF7 n1 (.inr (1, [.long 0, .long 0, .long 0, .long 0])) := by rw [hFF7]; exact (pt_push f_n1 hn3)
  have f_n2 : pt ((((L ++ [n0]) ++ [n1]) ++ [n2]) ++ [n3]) FF7 n2 (.inr (1, [.long 0, .long 0, .long 0, .long 0])) := by rw [hFF7]; exact (pt_push f_n2 hn3)
  have f_o : pt ((((L ++ [n0]) ++ [n1]) ++ [n2]) ++ [n3]) FF7 o (.inr (2, [.ref n0, .ref n1, .ref n2, .null, .null, .null, .null, .null])) := by rw [hFF7]; exact (pt_push f_o hn3)
  have f_n3 : pt ((((L ++ [n0]) ++ [n1]) ++ [n2]) ++ [n3]) FF7 n3 (.inr (1, [.long 0, .long 0, .long 0, .long 0])) := by rw [hFF7]; exact pt_new
  have kp : ∀ a, a ∈ L → a ≠ o → FF7 a = F a := by rw [hFF7]; exact fun a ha hne => (va_up_ne _ _ (nem (List.mem_append_left _ (List.mem_append_left _ (List.mem_append_left _ ha))) hn3)).trans (kp a ha hne)
  refine lv_dup hx hb dX2_init_41 rfl ?_
  refine h_callHN [.ref n3, .ref o] ⟨hx, hb, hml, hown, hts⟩ hE hw (c_X1_init l G A ((((L ++ [n0]) ++ [n1]) ++ [n2]) ++ [n3]) FF7 n3) ⟨va_cnB 0 hts gX2_init_X1_init_n11 rfl rfl rfl hC.2.1.2.1 (hts (.initialized RX1) (by decide +kernel)) (by decide +kernel) ⟨Nat.le_of_ble_eq_true rfl, Nat.le_of_ble_eq_true rfl⟩, rfl, (hts (.instanceMethod yX1_init) (by decide +kernel))⟩ hl.1 (Nat.le_of_ble_eq_true rfl) dX2_init_42 ⟨(by first | decide | (show _ ≤ 8; omega)), (by first | decide | (show _ ≤ 32; omega))⟩ (fun H locs hw => ?_)
  refine h_putF hx hb hE.1 hw hts hinX2 tyX2 tyX2_ok nmX2 hown (ci := 2) rfl 3 (by decide) lk_24 (fun _ h9 => h9) rfl hin rfl f_o (ty := .object "FourParts$Quad") (by decide +kernel) rfl rfl (Nat.le_of_ble_eq_true rfl) (fs2 := [.ref n0, .ref n1, .ref n2, .ref n3, .null, .null, .null, .null]) rfl dX2_init_45 (fun H locs hw => ?_)
  obtain ⟨FF8, hFF8⟩ : ∃ Fx : FM, Fx = va_up FF7 o (.inr (2, [.ref n0, .ref n1, .ref n2, .ref n3, .null, .null, .null, .null])) := ⟨_, rfl⟩
  rw [← hFF8] at hw
  have f_n0 : pt ((((L ++ [n0]) ++ [n1]) ++ [n2]) ++ [n3]) FF8 n0 (.inr (1, [.long 0, .long 0, .long 0, .long 0])) := by rw [hFF8]; exact (pt_ne f_n0 (pt_ap f_n0 f_o (fun h9 => absurd (show (1 : Nat) = 2 from congrArg tg h9) (by decide))))
  have f_n1 : pt ((((L ++ [n0]) ++ [n1]) ++ [n2]) ++ [n3]) FF8 n1 (.inr (1, [.long 0, .long 0, .long 0, .long 0])) := by rw [hFF8]; exact (pt_ne f_n1 (pt_ap f_n1 f_o (fun h9 => absurd (show (1 : Nat) = 2 from congrArg tg h9) (by decide))))
  have f_n2 : pt ((((L ++ [n0]) ++ [n1]) ++ [n2]) ++ [n3]) FF8 n2 (.inr (1, [.long 0, .long 0, .long 0, .long 0])) := by rw [hFF8]; exact (pt_ne f_n2 (pt_ap f_n2 f_o (fun h9 => absurd (show (1 : Nat) = 2 from congrArg tg h9) (by decide))))
  have f_n3 : pt ((((L ++ [n0]) ++ [n1]) ++ [n2]) ++ [n3]) FF8 n3 (.inr (1, [.long 0, .long 0, .long 0, .long 0])) := by rw [hFF8]; exact (pt_ne f_n3 (pt_ap f_n3 f_o (fun h9 => absurd (show (1 : Nat) = 2 from congrArg tg h9) (by decide))))
  have f_o : pt ((((L ++ [n0]) ++ [n1]) ++ [n2]) ++ [n3]) FF8 o (.inr (2, [.ref n0, .ref n1, .ref n2, .ref n3, .null, .null, .null, .null])) := by rw [hFF8]; exact (pt_up f_o)
  have kp : ∀ a, a ∈ L → a ≠ o → FF8 a = F a := by rw [hFF8]; exact fun a ha hne => (va_up_ne _ _ hne).trans (kp a ha hne)
  refine lv_aload_n hx hb dX2_init_48 rfl (lv_at hl 0 rfl) ?_
  refine h_new hx hb hE.1 hw hA hts hinX1 tyX1 tyX1_ok hown (hts (.classLink RX2 9 RX1) (by decide +kernel)) (hts (.instantiable RX1 4) (by decide +kernel)) (hts (.initialized RX1) (by decide +kernel)) (ci := 1) rfl (fs := [.long 0, .long 0, .long 0, .long 0]) (fun j hj => by rcases (show j = 0 ∨ j = 1 ∨ j = 2 ∨ j = 3 by omega) with rfl | rfl | rfl | rfl <;> rfl) (by first | decide | (show _ ≤ 8; omega)) (by first | decide | (show _ ≤ 32; omega)) dX2_init_49 (fun n4 H hn4 hw => ?_)
  obtain ⟨FF9, hFF9⟩ : ∃ Fx : FM, Fx = va_up FF8 n4 (.inr (1, [.long 0, .long 0, .long 0, .long 0])) := ⟨_, rfl⟩
  rw [← hFF9] at hw
  have f_n0 : pt (((((L ++ [n0]) ++ [n1]) ++ [n2]) ++ [n3]) ++ [n4]) FF9 n0 (.inr (1, [.long 0, .long 0, .long 0, .long 0])) := by rw [hFF9]; exact (pt_push f_n0 hn4)
  have f_n1 : pt (((((L ++ [n0]) ++ [n1]) ++ [n2]) ++ [n3]) ++ [n4]) FF9 n1 (.inr (1, [.long 0, .long 0, .long 0, .long 0])) := by rw [hFF9]; exact (pt_push f_n1 hn4)
  have f_n2 : pt (((((L ++ [n0]) ++ [n1]) ++ [n2]) ++ [n3]) ++ [n4]) FF9 n2 (.inr (1, [.long 0, .long 0, .long 0, .long 0])) := by rw [hFF9]; exact (pt_push f_n2 hn4)
  have f_n3 : pt (((((L ++ [n0]) ++ [n1]) ++ [n2]) ++ [n3]) ++ [n4]) FF9 n3 (.inr (1, [.long 0, .long 0, .long 0, .long 0])) := by rw [hFF9]; exact (pt_push f_n3 hn4)
  have f_o : pt (((((L ++ [n0]) ++ [n1]) ++ [n2]) ++ [n3]) ++ [n4]) FF9 o (.inr (2, [.ref n0, .ref n1, .ref n2, .ref n3, .null, .null, .null, .null])) := by rw [hFF9]; exact (pt_push f_o hn4)
  have f_n4 : pt (((((L ++ [n0]) ++ [n1]) ++ [n2]) ++ [n3]) ++ [n4]) FF9 n4 (.inr (1, [.long 0, .long 0, .long 0, .long 0])) := by rw [hFF9]; exact pt_new
  have kp : ∀ a, a ∈ L → a ≠ o → FF9 a = F a := by rw [hFF9]; exact fun a ha hne => (va_up_ne _ _ (nem (List.mem_append_left _ (List.mem_append_left _ (List.mem_append_left _ (List.mem_append_left _ ha)))) hn4)).trans (kp a ha hne)
  refine lv_dup hx hb dX2_init_52 rfl ?_
  refine h_callHN [.ref n4, .ref o] ⟨hx, hb, hml, hown, hts⟩ hE hw (c_X1_init l G A (((((L ++ [n0]) ++ [n1]) ++ [n2]) ++ [n3]) ++ [n4]) FF9 n4) ⟨va_cnB 0 hts gX2_init_X1_init_n11 rfl rfl rfl hC.2.1.2.1 (hts (.initialized RX1) (by decide +kernel)) (by decide +kernel) ⟨Nat.le_of_ble_eq_true rfl, Nat.le_of_ble_eq_true rfl⟩, rfl, (hts (.instanceMethod yX1_init) (by decide +kernel))⟩ hl.1 (Nat.le_of_ble_eq_true rfl) dX2_init_53 ⟨(by first | decide | (show _ ≤ 8; omega)), (by first | decide | (show _ ≤ 32; omega))⟩ (fun H locs hw => ?_)
  refine h_putF hx hb hE.1 hw hts hinX2 tyX2 tyX2_ok nmX2 hown (ci := 2) rfl 4 (by decide) lk_27 (fun _ h9 => h9) rfl hin rfl f_o (ty := .object "FourParts$Quad") (by decide +kernel) rfl rfl (Nat.le_of_ble_eq_true rfl) (fs2 := [.ref n0, .ref n1, .ref n2, .ref n3, .ref n4, .null, .null, .null]) rfl dX2_init_56 (fun H locs hw => ?_)
  obtain ⟨FF10, hFF10⟩ : ∃ Fx : FM, Fx = va_up FF9 o (.inr (2, [.ref n0, .ref n1, .ref n2, .ref n3, .ref n4, .null, .null, .null])) := ⟨_, rfl⟩
  rw [← hFF10] at hw
  have f_n0 : pt (((((L ++ [n0]) ++ [n1]) ++ [n2]) ++ [n3]) ++ [n4]) FF10 n0 (.inr (1, [.long 0, .long 0, .long 0, .long 0])) := by rw [hFF10]; exact (pt_ne f_n0 (pt_ap f_n0 f_o (fun h9 => absurd (show (1 : Nat) = 2 from congrArg tg h9) (by decide))))
  have f_n1 : pt (((((L ++ [n0]) ++ [n1]) ++ [n2]) ++ [n3]) ++ [n4]) FF10 n1 (.inr (1, [.long 0, .long 0, .long 0, .long 0])) := by rw [hFF10]; exact (pt_ne f_n1 (pt_ap f_n1 f_o (fun h9 => absurd (show (1 : Nat) = 2 from congrArg tg h9) (by decide))))
  have f_n2 : pt (((((L ++ [n0]) ++ [n1]) ++ [n2]) ++ [n3]) ++ [n4]) FF10 n2 (.inr (1, [.long 0, .long 0, .long 0, .long 0])) := by rw [hFF10]; exact (pt_ne f_n2 (pt_ap f_n2 f_o (fun h9 => absurd (show (1 : Nat) = 2 from congrArg tg h9) (by decide))))
  have f_n3 : pt (((((L ++ [n0]) ++ [n1]) ++ [n2]) ++ [n3]) ++ [n4]) FF10 n3 (.inr (1, [.long 0, .long 0, .long 0, .long 0])) := by rw [hFF10]; exact (pt_ne f_n3 (pt_ap f_n3 f_o (fun h9 => absurd (show (1 : Nat) = 2 from congrArg tg h9) (by decide))))
  have f_n4 : pt (((((L ++ [n0]) ++ [n1]) ++ [n2]) ++ [n3]) ++ [n4]) FF10 n4 (.inr (1, [.long 0, .long 0, .long 0, .long 0])) := by rw [hFF10]; exact (pt_ne f_n4 (pt_ap f_n4 f_o (fun h9 => absurd (show (1 : Nat) = 2 from congrArg tg h9) (by decide))))
  have f_o : pt (((((L ++ [n0]) ++ [n1]) ++ [n2]) ++ [n3]) ++ [n4]) FF10 o (.inr (2, [.ref n0, .ref n1, .ref n2, .ref n3, .ref n4, .null, .null, .null])) := by rw [hFF10]; exact (pt_up f_o)
  have kp : ∀ a, a ∈ L → a ≠ o → FF10 a = F a := by rw [hFF10]; exact fun a ha hne => (va_up_ne _ _ hne).trans (kp a ha hne)
  refine lv_aload_n hx hb dX2_init_59 rfl (lv_at hl 0 rfl) ?_
  refine h_new hx hb hE.1 hw hA hts hinX1 tyX1 tyX1_ok hown (hts (.classLink RX2 9 RX1) (by decide +kernel)) (hts (.instantiable RX1 4) (by decide +kernel)) (hts (.initialized RX1) (by decide +kernel)) (ci := 1) rfl (fs := [.long 0, .long 0, .long 0, .long 0]) (fun j hj => by rcases (show j = 0 ∨ j = 1 ∨ j = 2 ∨ j = 3 by omega) with rfl | rfl | rfl | rfl <;> rfl) (by first | decide | (show _ ≤ 8; omega)) (by first | decide | (show _ ≤ 32; omega)) dX2_init_60 (fun n5 H hn5 hw => ?_)
  obtain ⟨FF11, hFF11⟩ : ∃ Fx : FM, Fx = va_up FF10 n5 (.inr (1, [.long 0, .long 0, .long 0, .long 0])) := ⟨_, rfl⟩
  rw [← hFF11] at hw
  have f_n0 : pt ((((((L ++ [n0]) ++ [n1]) ++ [n2]) ++ [n3]) ++ [n4]) ++ [n5]) FF11 n0 (.inr (1, [.long 0, .long 0, .long 0, .long 0])) := by rw [hFF11]; exact (pt_push f_n0 hn5)
  have f_n1 : pt ((((((L ++ [n0]) ++ [n1]) ++ [n2]) ++ [n3]) ++ [n4]) ++ [n5]) FF11 n1 (.inr (1, [.long 0, .long 0, .long 0, .long 0])) := by rw [hFF11]; exact (pt_push f_n1 hn5)
  have f_n2 : pt ((((((L ++ [n0]) ++ [n1]) ++ [n2]) ++ [n3]) ++ [n4]) ++ [n5]) FF11 n2 (.inr (1, [.long 0, .long 0, .long 0, .long 0])) := by rw [hFF11]; exact (pt_push f_n2 hn5)
  have f_n3 : pt ((((((L ++ [n0]) ++ [n1]) ++ [n2]) ++ [n3]) ++ [n4]) ++ [n5]) FF11 n3 (.inr (1, [.long 0, .long 0, .long 0, .long 0])) := by rw [hFF11]; exact (pt_push f_n3 hn5)
  have f_n4 : pt ((((((L ++ [n0]) ++ [n1]) ++ [n2]) ++ [n3]) ++ [n4]) ++ [n5]) FF11 n4 (.inr (1, [.long 0, .long 0, .long 0, .long 0])) := by rw [hFF11]; exact (pt_push f_n4 hn5)
  have f_o : pt ((((((L ++ [n0]) ++ [n1]) ++ [n2]) ++ [n3]) ++ [n4]) ++ [n5]) FF11 o (.inr (2, [.ref n0, .ref n1, .ref n2, .ref n3, .ref n4, .null, .null, .null])) := by rw [hFF11]; exact (pt_push f_o hn5)
  have f_n5 : pt ((((((L ++ [n0]) ++ [n1]) ++ [n2]) ++ [n3]) ++ [n4]) ++ [n5]) FF11 n5 (.inr (1, [.long 0, .long 0, .long 0, .long 0])) := by rw [hFF11]; exact pt_new
  have kp : ∀ a, a ∈ L → a ≠ o → FF11 a = F a := by rw [hFF11]; exact fun a ha hne => (va_up_ne _ _ (nem (List.mem_append_left _ (List.mem_append_left _ (List.mem_append_left _ (List.mem_append_left _ (List.mem_append_left _ ha))))) hn5)).trans (kp a ha hne)
  refine lv_dup hx hb dX2_init_63 rfl ?_
  refine h_callHN [.ref n5, .ref o] ⟨hx, hb, hml, hown, hts⟩ hE hw (c_X1_init l G A ((((((L ++ [n0]) ++ [n1]) ++ [n2]) ++ [n3]) ++ [n4]) ++ [n5]) FF11 n5) ⟨va_cnB 0 hts gX2_init_X1_init_n11 rfl rfl rfl hC.2.1.2.1 (hts (.initialized RX1) (by decide +kernel)) (by decide +kernel) ⟨Nat.le_of_ble_eq_true rfl, Nat.le_of_ble_eq_true rfl⟩, rfl, (hts (.instanceMethod yX1_init) (by decide +kernel))⟩ hl.1 (Nat.le_of_ble_eq_true rfl) dX2_init_64 ⟨(by first | decide | (show _ ≤ 8; omega)), (by first | decide | (show _ ≤ 32; omega))⟩ (fun H locs hw => ?_)
  refine h_putF hx hb hE.1 hw hts hinX2 tyX2 tyX2_ok nmX2 hown (ci := 2) rfl 5 (by decide) lk_30 (fun _ h9 => h9) rfl hin rfl f_o (ty := .object "FourParts$Quad") (by decide +kernel) rfl rfl (Nat.le_of_ble_eq_true rfl) (fs2 := [.ref n0, .ref n1, .ref n2, .ref n3, .ref n4, .ref n5, .null, .null]) rfl dX2_init_67 (fun H locs hw => ?_)
  obtain ⟨FF12, hFF12⟩ : ∃ Fx : FM, Fx = va_up FF11 o (.inr (2, [.ref n0, .ref n1, .ref n2, .ref n3, .ref n4, .ref n5, .null, .null])) := ⟨_, rfl⟩
  rw [← hFF12] at hw
  have f_n0 : pt ((((((L ++ [n0]) ++ [n1]) ++ [n2]) ++ [n3]) ++ [n4]) ++ [n5]) FF12 n0 (.inr (1, [.long 0, .long 0, .long 0, .long 0])) := by rw [hFF12]; exact (pt_ne f_n0 (pt_ap f_n0 f_o (fun h9 => absurd (show (1 : Nat) = 2 from congrArg tg h9) (by decide))))
  have f_n1 : pt ((((((L ++ [n0]) ++ [n1]) ++ [n2]) ++ [n3]) ++ [n4]) ++ [n5]) FF12 n1 (.inr (1, [.long 0, .long 0, .long 0, .long 0])) := by rw [hFF12]; exact (pt_ne f_n1 (pt_ap f_n1 f_o (fun h9 => absurd (show (1 : Nat) = 2 from congrArg tg h9) (by decide))))
  have f_n2 : pt ((((((L ++ [n0]) ++ [n1]) ++ [n2]) ++ [n3]) ++ [n4]) ++ [n5]) FF12 n2 (.inr (1, [.long 0, .long 0, .long 0, .long 0])) := by rw [hFF12]; exact (pt_ne f_n2 (pt_ap f_n2 f_o (fun h9 => absurd (show (1 : Nat) = 2 from congrArg tg h9) (by decide))))
  have f_n3 : pt ((((((L ++ [n0]) ++ [n1]) ++ [n2]) ++ [n3]) ++ [n4]) ++ [n5]) FF12 n3 (.inr (1, [.long 0, .long 0, .long 0, .long 0])) := by rw [hFF12]; exact (pt_ne f_n3 (pt_ap f_n3 f_o (fun h9 => absurd (show (1 : Nat) = 2 from congrArg tg h9) (by decide))))
  have f_n4 : pt ((((((L ++ [n0]) ++ [n1]) ++ [n2]) ++ [n3]) ++ [n4]) ++ [n5]) FF12 n4 (.inr (1, [.long 0, .long 0, .long 0, .long 0])) := by rw [hFF12]; exact (pt_ne f_n4 (pt_ap f_n4 f_o (fun h9 => absurd (show (1 : Nat) = 2 from congrArg tg h9) (by decide))))
  have f_n5 : pt ((((((L ++ [n0]) ++ [n1]) ++ [n2]) ++ [n3]) ++ [n4]) ++ [n5]) FF12 n5 (.inr (1, [.long 0, .long 0, .long 0, .long 0])) := by rw [hFF12]; exact (pt_ne f_n5 (pt_ap f_n5 f_o (fun h9 => absurd (show (1 : Nat) = 2 from congrArg tg h9) (by decide))))
  have f_o : pt ((((((L ++ [n0]) ++ [n1]) ++ [n2]) ++ [n3]) ++ [n4]) ++ [n5]) FF12 o (.inr (2, [.ref n0, .ref n1, .ref n2, .ref n3, .ref n4, .ref n5, .null, .null])) := by rw [hFF12]; exact (pt_up f_o)
  have kp : ∀ a, a ∈ L → a ≠ o → FF12 a = F a := by rw [hFF12]; exact fun a ha hne => (va_up_ne _ _ hne).trans (kp a ha hne)
  refine lv_aload_n hx hb dX2_init_70 rfl (lv_at hl 0 rfl) ?_
  refine h_new hx hb hE.1 hw hA hts hinX1 tyX1 tyX1_ok hown (hts (.classLink RX2 9 RX1) (by decide +kernel)) (hts (.instantiable RX1 4) (by decide +kernel)) (hts (.initialized RX1) (by decide +kernel)) (ci := 1) rfl (fs := [.long 0, .long 0, .long 0, .long 0]) (fun j hj => by rcases (show j = 0 ∨ j = 1 ∨ j = 2 ∨ j = 3 by omega) with rfl | rfl | rfl | rfl <;> rfl) (by first | decide | (show _ ≤ 8; omega)) (by first | decide | (show _ ≤ 32; omega)) dX2_init_71 (fun n6 H hn6 hw => ?_)
  obtain ⟨FF13, hFF13⟩ : ∃ Fx : FM, Fx = va_up FF12 n6 (.inr (1, [.long 0, .long 0, .long 0, .long 0])) := ⟨_, rfl⟩
  rw [← hFF13] at hw
  have f_n0 : pt (((((((L ++ [n0]) ++ [n1]) ++ [n2]) ++ [n3]) ++ [n4]) ++ [n5]) ++ [n6]) FF13 n0 (.inr (1, [.long 0, .long 0, .long 0, .long 0])) := by rw [hFF13]; exact (pt_push f_n0 hn6)
  have f_n1 : pt (((((((L ++ [n0]) ++ [n1]) ++ [n2]) ++ [n3]) ++ [n4]) ++ [n5]) ++ [n6]) FF13 n1 (.inr (1, [.long 0, .long 0, .long 0, .long 0])) := by rw [hFF13]; exact (pt_push f_n1 hn6)
  have f_n2 : pt (((((((L ++ [n0]) ++ [n1]) ++ [n2]) ++ [n3]) ++ [n4]) ++ [n5]) ++ [n6]) FF13 n2 (.inr (1, [.long 0, .long 0, .long 0, .long 0])) := by rw [hFF13]; exact (pt_push f_n2 hn6)
  have f_n3 : pt (((((((L ++ [n0]) ++ [n1]) ++ [n2]) ++ [n3]) ++ [n4]) ++ [n5]) ++ [n6]) FF13 n3 (.inr (1, [.long 0, .long 0, .long 0, .long 0])) := by rw [hFF13]; exact (pt_push f_n3 hn6)
  have f_n4 : pt (((((((L ++ [n0]) ++ [n1]) ++ [n2]) ++ [n3]) ++ [n4]) ++ [n5]) ++ [n6]) FF13 n4 (.inr (1, [.long 0, .long 0, .long 0, .long 0])) := by rw [hFF13]; exact (pt_push f_n4 hn6)
  have f_n5 : pt (((((((L ++ [n0]) ++ [n1]) ++ [n2]) ++ [n3]) ++ [n4]) ++ [n5]) ++ [n6]) FF13 n5 (.inr (1, [.long 0, .long 0, .long 0, .long 0])) := by rw [hFF13]; exact (pt_push f_n5 hn6)
  have f_o : pt (((((((L ++ [n0]) ++ [n1]) ++ [n2]) ++ [n3]) ++ [n4]) ++ [n5]) ++ [n6]) FF13 o (.inr (2, [.ref n0, .ref n1, .ref n2, .ref n3, .ref n4, .ref n5, .null, .null])) := by rw [hFF13]; exact (pt_push f_o hn6)
  have f_n6 : pt (((((((L ++ [n0]) ++ [n1]) ++ [n2]) ++ [n3]) ++ [n4]) ++ [n5]) ++ [n6]) FF13 n6 (.inr (1, [.long 0, .long 0, .long 0, .long 0])) := by rw [hFF13]; exact pt_new
  have kp : ∀ a, a ∈ L → a ≠ o → FF13 a = F a := by rw [hFF13]; exact fun a ha hne => (va_up_ne _ _ (nem (List.mem_append_left _ (List.mem_append_left _ (List.mem_append_left _ (List.mem_append_left _ (List.mem_append_left _ (List.mem_append_left _ ha)))))) hn6)).trans (kp a ha hne)
  refine lv_dup hx hb dX2_init_74 rfl ?_
  refine h_callHN [.ref n6, .ref o] ⟨hx, hb, hml, hown, hts⟩ hE hw (c_X1_init l G A (((((((L ++ [n0]) ++ [n1]) ++ [n2]) ++ [n3]) ++ [n4]) ++ [n5]) ++ [n6]) FF13 n6) ⟨va_cnB 0 hts gX2_init_X1_init_n11 rfl rfl rfl hC.2.1.2.1 (hts (.initialized RX1) (by decide +kernel)) (by decide +kernel) ⟨Nat.le_of_ble_eq_true rfl, Nat.le_of_ble_eq_true rfl⟩, rfl, (hts (.instanceMethod yX1_init) (by decide +kernel))⟩ hl.1 (Nat.le_of_ble_eq_true rfl) dX2_init_75 ⟨(by first | decide | (show _ ≤ 8; omega)), (by first | decide | (show _ ≤ 32; omega))⟩ (fun H locs hw => ?_)
  refine h_putF hx hb hE.1 hw hts hinX2 tyX2 tyX2_ok nmX2 hown (ci := 2) rfl 6 (by decide) lk_33 (fun _ h9 => h9) rfl hin rfl f_o (ty := .object "FourParts$Quad") (by decide +kernel) rfl rfl (Nat.le_of_ble_eq_true rfl) (fs2 := [.ref n0, .ref n1, .ref n2, .ref n3, .ref n4, .ref n5, .ref n6, .null]) rfl dX2_init_78 (fun H locs hw => ?_)
  obtain ⟨FF14, hFF14⟩ : ∃ Fx : FM, Fx = va_up FF13 o (.inr (2, [.ref n0, .ref n1, .ref n2, .ref n3, .ref n4, .ref n5, .ref n6, .null])) := ⟨_, rfl⟩
  rw [← hFF14] at hw
  have f_n0 : pt (((((((L ++ [n0]) ++ [n1]) ++ [n2]) ++ [n3]) ++ [n4]) ++ [n5]) ++ [n6]) FF14 n0 (.inr (1, [.long 0, .long 0, .long 0, .long 0])) := by rw [hFF14]; exact (pt_ne f_n0 (pt_ap f_n0 f_o (fun h9 => absurd (show (1 : Nat) = 2 from congrArg tg h9) (by decide))))
  have f_n1 : pt (((((((L ++ [n0]) ++ [n1]) ++ [n2]) ++ [n3]) ++ [n4]) ++ [n5]) ++ [n6]) FF14 n1 (.inr (1, [.long 0, .long 0, .long 0, .long 0])) := by rw [hFF14]; exact (pt_ne f_n1 (pt_ap f_n1 f_o (fun h9 => absurd (show (1 : Nat) = 2 from congrArg tg h9) (by decide))))
  have f_n2 : pt (((((((L ++ [n0]) ++ [n1]) ++ [n2]) ++ [n3]) ++ [n4]) ++ [n5]) ++ [n6]) FF14 n2 (.inr (1, [.long 0, .long 0, .long 0, .long 0])) := by rw [hFF14]; exact (pt_ne f_n2 (pt_ap f_n2 f_o (fun h9 => absurd (show (1 : Nat) = 2 from congrArg tg h9) (by decide))))
  have f_n3 : pt (((((((L ++ [n0]) ++ [n1]) ++ [n2]) ++ [n3]) ++ [n4]) ++ [n5]) ++ [n6]) FF14 n3 (.inr (1, [.long 0, .long 0, .long 0, .long 0])) := by rw [hFF14]; exact (pt_ne f_n3 (pt_ap f_n3 f_o (fun h9 => absurd (show (1 : Nat) = 2 from congrArg tg h9) (by decide))))
  have f_n4 : pt (((((((L ++ [n0]) ++ [n1]) ++ [n2]) ++ [n3]) ++ [n4]) ++ [n5]) ++ [n6]) FF14 n4 (.inr (1, [.long 0, .long 0, .long 0, .long 0])) := by rw [hFF14]; exact (pt_ne f_n4 (pt_ap f_n4 f_o (fun h9 => absurd (show (1 : Nat) = 2 from congrArg tg h9) (by decide))))
  have f_n5 : pt (((((((L ++ [n0]) ++ [n1]) ++ [n2]) ++ [n3]) ++ [n4]) ++ [n5]) ++ [n6]) FF14 n5 (.inr (1, [.long 0, .long 0, .long 0, .long 0])) := by rw [hFF14]; exact (pt_ne f_n5 (pt_ap f_n5 f_o (fun h9 => absurd (show (1 : Nat) = 2 from congrArg tg h9) (by decide))))
  have f_n6 : pt (((((((L ++ [n0]) ++ [n1]) ++ [n2]) ++ [n3]) ++ [n4]) ++ [n5]) ++ [n6]) FF14 n6 (.inr (1, [.long 0, .long 0, .long 0, .long 0])) := by rw [hFF14]; exact (pt_ne f_n6 (pt_ap f_n6 f_o (fun h9 => absurd (show (1 : Nat) = 2 from congrArg tg h9) (by decide))))
  have f_o : pt (((((((L ++ [n0]) ++ [n1]) ++ [n2]) ++ [n3]) ++ [n4]) ++ [n5]) ++ [n6]) FF14 o (.inr (2, [.ref n0, .ref n1, .ref n2, .ref n3, .ref n4, .ref n5, .ref n6, .null])) := by rw [hFF14]; exact (pt_up f_o)
  have kp : ∀ a, a ∈ L → a ≠ o → FF14 a = F a := by rw [hFF14]; exact fun a ha hne => (va_up_ne _ _ hne).trans (kp a ha hne)
  refine lv_aload_n hx hb dX2_init_81 rfl (lv_at hl 0 rfl) ?_
  refine h_new hx hb hE.1 hw hA hts hinX1 tyX1 tyX1_ok hown (hts (.classLink RX2 9 RX1) (by decide +kernel)) (hts (.instantiable RX1 4) (by decide +kernel)) (hts (.initialized RX1) (by decide +kernel)) (ci := 1) rfl (fs := [.long 0, .long 0, .long 0, .long 0]) (fun j hj => by rcases (show j = 0 ∨ j = 1 ∨ j = 2 ∨ j = 3 by omega) with rfl | rfl | rfl | rfl <;> rfl) (by first | decide | (show _ ≤ 8; omega)) (by first | decide | (show _ ≤ 32; omega)) dX2_init_82 (fun n7 H hn7 hw => ?_)
  obtain ⟨FF15, hFF15⟩ : ∃ Fx : FM, Fx = va_up FF14 n7 (.inr (1, [.long 0, .long 0, .long 0, .long 0])) := ⟨_, rfl⟩
  rw [← hFF15] at hw
  have f_n0 : pt ((((((((L ++ [n0]) ++ [n1]) ++ [n2]) ++ [n3]) ++ [n4]) ++ [n5]) ++ [n6]) ++ [n7]) FF15 n0 (.inr (1, [.long 0, .long 0, .long 0, .long 0])) := by rw [hFF15]; exact (pt_push f_n0 hn7)
  have f_n1 : pt ((((((((L ++ [n0]) ++ [n1]) ++ [n2]) ++ [n3]) ++ [n4]) ++ [n5]) ++ [n6]) ++ [n7]) FF15 n1 (.inr (1, [.long 0, .long 0, .long 0, .long 0])) := by rw [hFF15]; exact (pt_push f_n1 hn7)
  have f_n2 : pt ((((((((L ++ [n0]) ++ [n1]) ++ [n2]) ++ [n3]) ++ [n4]) ++ [n5]) ++ [n6]) ++ [n7]) FF15 n2 (.inr (1, [.long 0, .long 0, .long 0, .long 0])) := by rw [hFF15]; exact (pt_push f_n2 hn7)
  have f_n3 : pt ((((((((L ++ [n0]) ++ [n1]) ++ [n2]) ++ [n3]) ++ [n4]) ++ [n5]) ++ [n6]) ++ [n7]) FF15 n3 (.inr (1, [.long 0, .long 0, .long 0, .long 0])) := by rw [hFF15]; exact (pt_push f_n3 hn7)
  have f_n4 : pt ((((((((L ++ [n0]) ++ [n1]) ++ [n2]) ++ [n3]) ++ [n4]) ++ [n5]) ++ [n6]) ++ [n7]) FF15 n4 (.inr (1, [.long 0, .long 0, .long 0, .long 0])) := by rw [hFF15]; exact (pt_push f_n4 hn7)
  have f_n5 : pt ((((((((L ++ [n0]) ++ [n1]) ++ [n2]) ++ [n3]) ++ [n4]) ++ [n5]) ++ [n6]) ++ [n7]) FF15 n5 (.inr (1, [.long 0, .long 0, .long 0, .long 0])) := by rw [hFF15]; exact (pt_push f_n5 hn7)
  have f_n6 : pt ((((((((L ++ [n0]) ++ [n1]) ++ [n2]) ++ [n3]) ++ [n4]) ++ [n5]) ++ [n6]) ++ [n7]) FF15 n6 (.inr (1, [.long 0, .long 0, .long 0, .long 0])) := by rw [hFF15]; exact (pt_push f_n6 hn7)
  have f_o : pt ((((((((L ++ [n0]) ++ [n1]) ++ [n2]) ++ [n3]) ++ [n4]) ++ [n5]) ++ [n6]) ++ [n7]) FF15 o (.inr (2, [.ref n0, .ref n1, .ref n2, .ref n3, .ref n4, .ref n5, .ref n6, .null])) := by rw [hFF15]; exact (pt_push f_o hn7)
  have f_n7 : pt ((((((((L ++ [n0]) ++ [n1]) ++ [n2]) ++ [n3]) ++ [n4]) ++ [n5]) ++ [n6]) ++ [n7]) FF15 n7 (.inr (1, [.long 0, .long 0, .long 0, .long 0])) := by rw [hFF15]; exact pt_new
  have kp : ∀ a, a ∈ L → a ≠ o → FF15 a = F a := by rw [hFF15]; exact fun a ha hne => (va_up_ne _ _ (nem (List.mem_append_left _ (List.mem_append_left _ (List.mem_append_left _ (List.mem_append_left _ (List.mem_append_left _ (List.mem_append_left _ (List.mem_append_left _ ha))))))) hn7)).trans (kp a ha hne)
  refine lv_dup hx hb dX2_init_85 rfl ?_
  refine h_callHN [.ref n7, .ref o] ⟨hx, hb, hml, hown, hts⟩ hE hw (c_X1_init l G A ((((((((L ++ [n0]) ++ [n1]) ++ [n2]) ++ [n3]) ++ [n4]) ++ [n5]) ++ [n6]) ++ [n7]) FF15 n7) ⟨va_cnB 0 hts gX2_init_X1_init_n11 rfl rfl rfl hC.2.1.2.1 (hts (.initialized RX1) (by decide +kernel)) (by decide +kernel) ⟨Nat.le_of_ble_eq_true rfl, Nat.le_of_ble_eq_true rfl⟩, rfl, (hts (.instanceMethod yX1_init) (by decide +kernel))⟩ hl.1 (Nat.le_of_ble_eq_true rfl) dX2_init_86 ⟨(by first | decide | (show _ ≤ 8; omega)), (by first | decide | (show _ ≤ 32; omega))⟩ (fun H locs hw => ?_)
  refine h_putF hx hb hE.1 hw hts hinX2 tyX2 tyX2_ok nmX2 hown (ci := 2) rfl 7 (by decide) lk_36 (fun _ h9 => h9) rfl hin rfl f_o (ty := .object "FourParts$Quad") (by decide +kernel) rfl rfl (Nat.le_of_ble_eq_true rfl) (fs2 := [.ref n0, .ref n1, .ref n2, .ref n3, .ref n4, .ref n5, .ref n6, .ref n7]) rfl dX2_init_89 (fun H locs hw => ?_)
  obtain ⟨FF16, hFF16⟩ : ∃ Fx : FM, Fx = va_up FF15 o (.inr (2, [.ref n0, .ref n1, .ref n2, .ref n3, .ref n4, .ref n5, .ref n6, .ref n7])) := ⟨_, rfl⟩
  rw [← hFF16] at hw
  have f_n0 : pt ((((((((L ++ [n0]) ++ [n1]) ++ [n2]) ++ [n3]) ++ [n4]) ++ [n5]) ++ [n6]) ++ [n7]) FF16 n0 (.inr (1, [.long 0, .long 0, .long 0, .long 0])) := by rw [hFF16]; exact (pt_ne f_n0 (pt_ap f_n0 f_o (fun h9 => absurd (show (1 : Nat) = 2 from congrArg tg h9) (by decide))))
  have f_n1 : pt ((((((((L ++ [n0]) ++ [n1]) ++ [n2]) ++ [n3]) ++ [n4]) ++ [n5]) ++ [n6]) ++ [n7]) FF16 n1 (.inr (1, [.long 0, .long 0, .long 0, .long 0])) := by rw [hFF16]; exact (pt_ne f_n1 (pt_ap f_n1 f_o (fun h9 => absurd (show (1 : Nat) = 2 from congrArg tg h9) (by decide))))
  have f_n2 : pt ((((((((L ++ [n0]) ++ [n1]) ++ [n2]) ++ [n3]) ++ [n4]) ++ [n5]) ++ [n6]) ++ [n7]) FF16 n2 (.inr (1, [.long 0, .long 0, .long 0, .long 0])) := by rw [hFF16]; exact (pt_ne f_n2 (pt_ap f_n2 f_o (fun h9 => absurd (show (1 : Nat) = 2 from congrArg tg h9) (by decide))))
  have f_n3 : pt ((((((((L ++ [n0]) ++ [n1]) ++ [n2]) ++ [n3]) ++ [n4]) ++ [n5]) ++ [n6]) ++ [n7]) FF16 n3 (.inr (1, [.long 0, .long 0, .long 0, .long 0])) := by rw [hFF16]; exact (pt_ne f_n3 (pt_ap f_n3 f_o (fun h9 => absurd (show (1 : Nat) = 2 from congrArg tg h9) (by decide))))
  have f_n4 : pt ((((((((L ++ [n0]) ++ [n1]) ++ [n2]) ++ [n3]) ++ [n4]) ++ [n5]) ++ [n6]) ++ [n7]) FF16 n4 (.inr (1, [.long 0, .long 0, .long 0, .long 0])) := by rw [hFF16]; exact (pt_ne f_n4 (pt_ap f_n4 f_o (fun h9 => absurd (show (1 : Nat) = 2 from congrArg tg h9) (by decide))))
  have f_n5 : pt ((((((((L ++ [n0]) ++ [n1]) ++ [n2]) ++ [n3]) ++ [n4]) ++ [n5]) ++ [n6]) ++ [n7]) FF16 n5 (.inr (1, [.long 0, .long 0, .long 0, .long 0])) := by rw [hFF16]; exact (pt_ne f_n5 (pt_ap f_n5 f_o (fun h9 => absurd (show (1 : Nat) = 2 from congrArg tg h9) (by decide))))
  have f_n6 : pt ((((((((L ++ [n0]) ++ [n1]) ++ [n2]) ++ [n3]) ++ [n4]) ++ [n5]) ++ [n6]) ++ [n7]) FF16 n6 (.inr (1, [.long 0, .long 0, .long 0, .long 0])) := by rw [hFF16]; exact (pt_ne f_n6 (pt_ap f_n6 f_o (fun h9 => absurd (show (1 : Nat) = 2 from congrArg tg h9) (by decide))))
  have f_n7 : pt ((((((((L ++ [n0]) ++ [n1]) ++ [n2]) ++ [n3]) ++ [n4]) ++ [n5]) ++ [n6]) ++ [n7]) FF16 n7 (.inr (1, [.long 0, .long 0, .long 0, .long 0])) := by rw [hFF16]; exact (pt_ne f_n7 (pt_ap f_n7 f_o (fun h9 => absurd (show (1 : Nat) = 2 from congrArg tg h9) (by decide))))
  have f_o : pt ((((((((L ++ [n0]) ++ [n1]) ++ [n2]) ++ [n3]) ++ [n4]) ++ [n5]) ++ [n6]) ++ [n7]) FF16 o (.inr (2, [.ref n0, .ref n1, .ref n2, .ref n3, .ref n4, .ref n5, .ref n6, .ref n7])) := by rw [hFF16]; exact (pt_up f_o)
  have kp : ∀ a, a ∈ L → a ≠ o → FF16 a = F a := by rw [hFF16]; exact fun a ha hne => (va_up_ne _ _ hne).trans (kp a ha hne)
  exact h_vretN hx hb hlk hr hw dX2_init_92 ⟨n0, n1, n2, n3, n4, n5, n6, n7, by simp only [List.append_assoc, List.cons_append, List.nil_append], kp, f_o.2, f_n0.2, f_n1.2, f_n2.2, f_n3.2, f_n4.2, f_n5.2, f_n6.2, f_n7.2⟩ (by first | decide | omega) (by first | decide | omega)
