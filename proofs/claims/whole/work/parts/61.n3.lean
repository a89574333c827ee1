theorem nd_not {A B : List Nat} (h : (A ++ B).Nodup) {x : Nat} (hx : x ∈ B) : x ∉ A := fun ha => (List.nodup_append.mp h).2.2 x ha x hx rfl
theorem wd_re {G : GG} {A : Nat → Prop} {L : List Nat} {F : FM} {H : Heap} {a : Nat} {e1 e2 : va_E} (h : wd G A L F H) (ha : F a = e1) (he : ∀ H2, va_at G.1 vwCl (a, e1) H2 → va_at G.1 vwCl (a, e2) H2) : wd G A L (va_up F a e2) H := by
  have e : F = va_up F a e1 := by
    funext j
    by_cases hj : j = a
    · rw [hj, va_up_self, ha]
    · rw [va_up_ne _ _ hj]
  rw [e] at h
  exact wd_same h he
theorem gd_len {l : List Nat} : (List.range l.length).map (fun i => l.getD i 0) = l := by
  apply List.ext_getElem
  · simp
  · intro i h1 h2
    simp [List.getD_eq_getElem?_getD, List.getElem?_eq_getElem h2]
/-- a list by its places in another order -/
theorem gd_perm {l : List Nat} {ps : List Nat} (h : ps.Perm (List.range l.length)) : l.Perm (ps.map (fun i => l.getD i 0)) := by
  have := (h.map (fun i => l.getD i 0)).symm
  rw [gd_len] at this
  exact this
theorem of12 {l : List Nat} (h : l.length = 12) : ∃ a0 a1 a2 a3 a4 a5 a6 a7 a8 a9 b0 b1 : Nat, l = [a0, a1, a2, a3, a4, a5, a6, a7, a8, a9, b0, b1] := by
  match l, h with
  | [a0, a1, a2, a3, a4, a5, a6, a7, a8, a9, b0, b1], _ => exact ⟨a0, a1, a2, a3, a4, a5, a6, a7, a8, a9, b0, b1, rfl⟩
theorem of16 {l : List Nat} (h : l.length = 16) : ∃ a0 a1 a2 a3 a4 a5 a6 a7 a8 a9 b0 b1 b2 b3 b4 b5 : Nat, l = [a0, a1, a2, a3, a4, a5, a6, a7, a8, a9, b0, b1, b2, b3, b4, b5] := by
  match l, h with
  | [a0, a1, a2, a3, a4, a5, a6, a7, a8, a9, b0, b1, b2, b3, b4, b5], _ => exact ⟨a0, a1, a2, a3, a4, a5, a6, a7, a8, a9, b0, b1, b2, b3, b4, b5, rfl⟩
theorem of6 {l : List (Nat × Nat)} (h : l.length = 6) : ∃ s0 s1 s2 s3 s4 s5 p0 p1 p2 p3 p4 p5 : Nat, l = [(s0, p0), (s1, p1), (s2, p2), (s3, p3), (s4, p4), (s5, p5)] := by
  match l, h with
  | [(s0, p0), (s1, p1), (s2, p2), (s3, p3), (s4, p4), (s5, p5)], _ => exact ⟨s0, s1, s2, s3, s4, s5, p0, p1, p2, p3, p4, p5, rfl⟩
theorem ne_tg {F : FM} {a b : Nat} {x y : va_E} (h1 : F a = x) (h2 : F b = y) (n : ¬ tg x = tg y) : a ≠ b := fun q => n (by rw [← h1, ← h2, q])
def S0 : CS := (fun _ => (0, 0, 0, 0), fun _ => -1, fun _ => 0, fun _ _ => 0, 0)
def zz (X : List (Nat × Nat)) : List Nat := X.flatMap (fun x => [x.1, x.2])
theorem zz_s (X : List (Nat × Nat)) (s p : Nat) : zz (X ++ [(s, p)]) = zz X ++ [s] ++ [p] := by
  unfold zz
  simp [List.flatMap_append]
theorem zz_m {X : List (Nat × Nat)} {x : Nat × Nat} (h : x ∈ X) : x.1 ∈ zz X ∧ x.2 ∈ zz X := by
  unfold zz
  constructor <;> (rw [List.mem_flatMap]; exact ⟨x, h, by simp⟩)
set_option maxHeartbeats 8000000 in
set_option maxRecDepth 100000 in
theorem c_X5_init (l : Launch) (G : GG) (A : Nat → Prop) (F : FM) (o : Nat) (e0 : pt [o] F o (.inr (5, [.null, .null, .null, .null, .null, .null]))) : NT l yX5_init wsX5_init { frames := 3, cells := 58, slots := 1118, locals := 53 } G A [o] o F (fun L2 F2 => ∃ ad : Nat → Nat, ad 51 = o ∧ L2 = CL ad ∧ CW G ad S0 F2) 58 1118 := by
  refine NT.ofW (cc := cX5_init) (maxL := 2) (plainFor_of_name (by decide)) rfl rfl (by decide) ?_
  intro p e s m below meth c ls hx hb hr hml hown hts hlk hin hC hw hl
  have hown : s.vm.findClass RX5 = some m.cls := hown
  have hE := hC.1
  have hA := hC.2.2.2
  have lk_11 := hts (.fieldLink RX5 11 "FourParts" "registers" "[LFourParts$Quad;") (by decide +kernel)
  have hinX5 : ∀ w ∈ u_ws RX5 TX5 6, w ∈ wsX5_init := by decide +kernel
  have lk_17 := hts (.fieldLink RX5 17 "FourParts" "sheets" "[LFourParts$Sheet;") (by decide +kernel)
  have hinX2 : ∀ w ∈ u_ws RX2 TX2 8, w ∈ wsX5_init := by decide +kernel
  have lk_24 := hts (.fieldLink RX5 24 "FourParts" "reckoner" "LFourParts$Reckoner;") (by decide +kernel)
  have hinX0 : ∀ w ∈ u_ws RX0 TX0 1, w ∈ wsX5_init := by decide +kernel
  have lk_31 := hts (.fieldLink RX5 31 "FourParts" "norms" "LFourParts$Norms;") (by decide +kernel)
  have hinX4 : ∀ w ∈ u_ws RX4 TX4 4, w ∈ wsX5_init := by decide +kernel
  have lk_38 := hts (.fieldLink RX5 38 "FourParts" "latest" "LFourParts$Way;") (by decide +kernel)
  have hinX1 : ∀ w ∈ u_ws RX1 TX1 4, w ∈ wsX5_init := by decide +kernel
  have lk_43 := hts (.fieldLink RX5 43 "FourParts" "result" "LFourParts$Quad;") (by decide +kernel)
  have hinX3 : ∀ w ∈ u_ws RX3 TX3 3, w ∈ wsX5_init := by decide +kernel
  refine lv_aload_n hx hb dX5_init_0 rfl (lv_at hl 0 rfl) ?_
  refine W.objInit hx hb hown (hts (.methodLink RX5 1 objectInit) (by decide +kernel)) (hts (.instanceMethod objectInit) (by decide +kernel)) (hts (.code objectInit ⟨#[0xb1]⟩ 1 none) (by decide +kernel)) rfl (by rw [hml]; exact hl.1) rfl dX5_init_1 (Nat.le_of_ble_eq_true rfl) (Nat.le_of_ble_eq_true rfl) ?_
  refine W.eq (g2 := F0 m 4 ls []) rfl ?_
  refine lv_aload_n hx hb dX5_init_4 rfl (lv_at hl 0 rfl) ?_
  refine lv_bipush (v := 16) hx hb dX5_init_5 (by decide) ?_
  refine h_newQ hx hb hE.1 hw hA hown (hts (.classLink RX5 9 RX1) (by decide +kernel)) hC.2.2.1.1 16 rfl (by decide) (by first | decide | (show _ ≤ 58; omega)) (by first | decide | (show _ ≤ 1118; omega)) dX5_init_7 (fun rr H hrr hw => ?_)
  obtain ⟨FF1, hFF1⟩ : ∃ Fx : FM, Fx = va_up F rr (eRQ G 16 (fun _ => none)) := ⟨_, rfl⟩
  rw [← hFF1] at hw
  have f_o : pt ([o] ++ [rr]) FF1 o (.inr (5, [.null, .null, .null, .null, .null, .null])) := by rw [hFF1]; exact (pt_push e0 hrr)
  have f_rr : pt ([o] ++ [rr]) FF1 rr (eRQ G 16 (fun _ => none)) := by rw [hFF1]; exact pt_new
  refine h_putF hx hb hE.1 hw hts hinX5 tyX5 tyX5_ok nmX5 hown (ci := 5) rfl 0 (by decide) lk_11 (fun _ h9 => h9) rfl hin rfl f_o (ty := .array (.object "FourParts$Quad")) (by decide +kernel) rfl rfl (Nat.le_of_ble_eq_true rfl) (fs2 := [.ref rr, .null, .null, .null, .null, .null]) rfl dX5_init_10 (fun H locs hw => ?_)
  obtain ⟨FF2, hFF2⟩ : ∃ Fx : FM, Fx = va_up FF1 o (.inr (5, [.ref rr, .null, .null, .null, .null, .null])) := ⟨_, rfl⟩
  rw [← hFF2] at hw
  have f_rr : pt ([o] ++ [rr]) FF2 rr (eRQ G 16 (fun _ => none)) := by rw [hFF2]; exact (pt_ne f_rr (pt_ap f_rr f_o (fun h9 => absurd (show (1163 : Nat) = 5 from congrArg tg h9) (by decide))))
  have f_o : pt ([o] ++ [rr]) FF2 o (.inr (5, [.ref rr, .null, .null, .null, .null, .null])) := by rw [hFF2]; exact (pt_up f_o)
  refine lv_aload_n hx hb dX5_init_13 rfl (lv_at hl 0 rfl) ?_
  refine lv_bipush (v := 6) hx hb dX5_init_14 (by decide) ?_
  refine h_newS hx hb hE.1 hw hA hown (hts (.classLink RX5 15 RX3) (by decide +kernel)) hC.2.2.1.2 6 rfl (by decide) (by first | decide | (show _ ≤ 58; omega)) (by first | decide | (show _ ≤ 1118; omega)) dX5_init_16 (fun sr H hsr hw => ?_)
  obtain ⟨FF3, hFF3⟩ : ∃ Fx : FM, Fx = va_up FF2 sr (eRS G 6 (fun _ => none)) := ⟨_, rfl⟩
  rw [← hFF3] at hw
  have f_rr : pt (([o] ++ [rr]) ++ [sr]) FF3 rr (eRQ G 16 (fun _ => none)) := by rw [hFF3]; exact (pt_push f_rr hsr)
  have f_o : pt (([o] ++ [rr]) ++ [sr]) FF3 o (.inr (5, [.ref rr, .null, .null, .null, .null, .null])) := by rw [hFF3]; exact (pt_push f_o hsr)
  have f_sr : pt (([o] ++ [rr]) ++ [sr]) FF3 sr (eRS G 6 (fun _ => none)) := by rw [hFF3]; exact pt_new
  refine h_putF hx hb hE.1 hw hts hinX5 tyX5 tyX5_ok nmX5 hown (ci := 5) rfl 1 (by decide) lk_17 (fun _ h9 => h9) rfl hin rfl f_o (ty := .array (.object "FourParts$Sheet")) (by decide +kernel) rfl rfl (Nat.le_of_ble_eq_true rfl) (fs2 := [.ref rr, .ref sr, .null, .null, .null, .null]) rfl dX5_init_19 (fun H locs hw => ?_)
  obtain ⟨FF4, hFF4⟩ : ∃ Fx : FM, Fx = va_up FF3 o (.inr (5, [.ref rr, .ref sr, .null, .null, .null, .null])) := ⟨_, rfl⟩
  rw [← hFF4] at hw
  have f_rr : pt (([o] ++ [rr]) ++ [sr]) FF4 rr (eRQ G 16 (fun _ => none)) := by rw [hFF4]; exact (pt_ne f_rr (pt_ap f_rr f_o (fun h9 => absurd (show (1163 : Nat) = 5 from congrArg tg h9) (by decide))))
  have f_sr : pt (([o] ++ [rr]) ++ [sr]) FF4 sr (eRS G 6 (fun _ => none)) := by rw [hFF4]; exact (pt_ne f_sr (pt_ap f_sr f_o (fun h9 => absurd (show (1063 : Nat) = 5 from congrArg tg h9) (by decide))))
  have f_o : pt (([o] ++ [rr]) ++ [sr]) FF4 o (.inr (5, [.ref rr, .ref sr, .null, .null, .null, .null])) := by rw [hFF4]; exact (pt_up f_o)
  refine lv_aload_n hx hb dX5_init_22 rfl (lv_at hl 0 rfl) ?_
  refine h_new hx hb hE.1 hw hA hts hinX2 tyX2 tyX2_ok hown (hts (.classLink RX5 21 RX2) (by decide +kernel)) (hts (.instantiable RX2 8) (by decide +kernel)) (hts (.initialized RX2) (by decide +kernel)) (ci := 2) rfl (fs := [.null, .null, .null, .null, .null, .null, .null, .null]) (fun j hj => by rcases (show j = 0 ∨ j = 1 ∨ j = 2 ∨ j = 3 ∨ j = 4 ∨ j = 5 ∨ j = 6 ∨ j = 7 by omega) with rfl | rfl | rfl | rfl | rfl | rfl | rfl | rfl <;> rfl) (by first | decide | (show _ ≤ 58; omega)) (by first | decide | (show _ ≤ 1118; omega)) dX5_init_23 (fun rk H hrk hw => ?_)
  obtain ⟨FF5, hFF5⟩ : ∃ Fx : FM, Fx = va_up FF4 rk (.inr (2, [.null, .null, .null, .null, .null, .null, .null, .null])) := ⟨_, rfl⟩
  rw [← hFF5] at hw
  have f_rr : pt ((([o] ++ [rr]) ++ [sr]) ++ [rk]) FF5 rr (eRQ G 16 (fun _ => none)) := by rw [hFF5]; exact (pt_push f_rr hrk)
  have f_sr : pt ((([o] ++ [rr]) ++ [sr]) ++ [rk]) FF5 sr (eRS G 6 (fun _ => none)) := by rw [hFF5]; exact (pt_push f_sr hrk)
  have f_o : pt ((([o] ++ [rr]) ++ [sr]) ++ [rk]) FF5 o (.inr (5, [.ref rr, .ref sr, .null, .null, .null, .null])) := by rw [hFF5]; exact (pt_push f_o hrk)
  have f_rk : pt ((([o] ++ [rr]) ++ [sr]) ++ [rk]) FF5 rk (.inr (2, [.null, .null, .null, .null, .null, .null, .null, .null])) := by rw [hFF5]; exact pt_new
  refine lv_dup hx hb dX5_init_26 rfl ?_
  refine h_callNN [.ref rk, .ref o] ⟨hx, hb, hml, hown, hts⟩ hC hw (c_X2_init l G A ((([o] ++ [rr]) ++ [sr]) ++ [rk]) FF5 rk f_rk) ⟨va_cnB 0 hts gX5_init_X2_init_n23 rfl rfl rfl hC.2.1.1 (hts (.initialized RX2) (by decide +kernel)) (by decide +kernel) ⟨Nat.le_of_ble_eq_true rfl, Nat.le_of_ble_eq_true rfl⟩, rfl, (hts (.instanceMethod yX2_init) (by decide +kernel))⟩ hl.1 (Nat.le_of_ble_eq_true rfl) dX5_init_27 ⟨(by first | decide | (show _ ≤ 58; omega)), (by first | decide | (show _ ≤ 1118; omega))⟩ (fun L2 F2 H locs hP hw => ?_)
  obtain ⟨n0, n1, n2, n3, n4, n5, n6, n7, rfl, hkp, ho2, hn0, hn1, hn2, hn3, hn4, hn5, hn6, hn7⟩ := hP
  obtain ⟨FF6, hFF6⟩ : ∃ Fx : FM, Fx = F2 := ⟨_, rfl⟩
  rw [← hFF6] at hw
  have g_rkq : ∀ a, a ∈ [n0, n1, n2, n3, n4, n5, n6, n7] → pt (((([o] ++ [rr]) ++ [sr]) ++ [rk]) ++ [n0, n1, n2, n3, n4, n5, n6, n7]) FF6 a (eq4 (0, 0, 0, 0)) := by rw [hFF6]; exact fun a ha => ⟨List.mem_append_right _ ha, by simp only [List.mem_cons, List.not_mem_nil, or_false] at ha; rcases ha with rfl | rfl | rfl | rfl | rfl | rfl | rfl | rfl <;> assumption⟩
  have f_rr : pt (((([o] ++ [rr]) ++ [sr]) ++ [rk]) ++ [n0, n1, n2, n3, n4, n5, n6, n7]) FF6 rr (eRQ G 16 (fun _ => none)) := by rw [hFF6]; exact ⟨List.mem_append_left _ f_rr.1, (hkp rr f_rr.1 (pt_ap f_rr f_rk (fun h9 => absurd (show (1163 : Nat) = 2 from congrArg tg h9) (by decide)))).trans f_rr.2⟩
  have f_sr : pt (((([o] ++ [rr]) ++ [sr]) ++ [rk]) ++ [n0, n1, n2, n3, n4, n5, n6, n7]) FF6 sr (eRS G 6 (fun _ => none)) := by rw [hFF6]; exact ⟨List.mem_append_left _ f_sr.1, (hkp sr f_sr.1 (pt_ap f_sr f_rk (fun h9 => absurd (show (1063 : Nat) = 2 from congrArg tg h9) (by decide)))).trans f_sr.2⟩
  have f_o : pt (((([o] ++ [rr]) ++ [sr]) ++ [rk]) ++ [n0, n1, n2, n3, n4, n5, n6, n7]) FF6 o (.inr (5, [.ref rr, .ref sr, .null, .null, .null, .null])) := by rw [hFF6]; exact ⟨List.mem_append_left _ f_o.1, (hkp o f_o.1 (pt_ap f_o f_rk (fun h9 => absurd (show (5 : Nat) = 2 from congrArg tg h9) (by decide)))).trans f_o.2⟩
  have f_rk : pt (((([o] ++ [rr]) ++ [sr]) ++ [rk]) ++ [n0, n1, n2, n3, n4, n5, n6, n7]) FF6 rk (.inr (2, [.ref n0, .ref n1, .ref n2, .ref n3, .ref n4, .ref n5, .ref n6, .ref n7])) := by rw [hFF6]; exact ⟨List.mem_append_left _ f_rk.1, ho2⟩
  refine h_putF hx hb hE.1 hw hts hinX5 tyX5 tyX5_ok nmX5 hown (ci := 5) rfl 2 (by decide) lk_24 (fun _ h9 => h9) rfl hin rfl f_o (ty := .object "FourParts$Reckoner") (by decide +kernel) rfl rfl (Nat.le_of_ble_eq_true rfl) (fs2 := [.ref rr, .ref sr, .ref rk, .null, .null, .null]) rfl dX5_init_30 (fun H locs hw => ?_)
  obtain ⟨FF7, hFF7⟩ : ∃ Fx : FM, Fx = va_up FF6 o (.inr (5, [.ref rr, .ref sr, .ref rk, .null, .null, .null])) := ⟨_, rfl⟩
  rw [← hFF7] at hw
  have g_rkq : ∀ a, a ∈ [n0, n1, n2, n3, n4, n5, n6, n7] → pt (((([o] ++ [rr]) ++ [sr]) ++ [rk]) ++ [n0, n1, n2, n3, n4, n5, n6, n7]) FF7 a (eq4 (0, 0, 0, 0)) := by rw [hFF7]; exact fun a ha => pt_ne (g_rkq a ha) (pt_ap (g_rkq a ha) f_o (fun h9 => absurd (show (1 : Nat) = 5 from congrArg tg h9) (by decide)))
  have f_rr : pt (((([o] ++ [rr]) ++ [sr]) ++ [rk]) ++ [n0, n1, n2, n3, n4, n5, n6, n7]) FF7 rr (eRQ G 16 (fun _ => none)) := by rw [hFF7]; exact (pt_ne f_rr (pt_ap f_rr f_o (fun h9 => absurd (show (1163 : Nat) = 5 from congrArg tg h9) (by decide))))
  have f_sr : pt (((([o] ++ [rr]) ++ [sr]) ++ [rk]) ++ [n0, n1, n2, n3, n4, n5, n6, n7]) FF7 sr (eRS G 6 (fun _ => none)) := by rw [hFF7]; exact (pt_ne f_sr (pt_ap f_sr f_o (fun h9 => absurd (show (1063 : Nat) = 5 from congrArg tg h9) (by decide))))
  have f_rk : pt (((([o] ++ [rr]) ++ [sr]) ++ [rk]) ++ [n0, n1, n2, n3, n4, n5, n6, n7]) FF7 rk (.inr (2, [.ref n0, .ref n1, .ref n2, .ref n3, .ref n4, .ref n5, .ref n6, .ref n7])) := by rw [hFF7]; exact (pt_ne f_rk (pt_ap f_rk f_o (fun h9 => absurd (show (2 : Nat) = 5 from congrArg tg h9) (by decide))))
  have f_o : pt (((([o] ++ [rr]) ++ [sr]) ++ [rk]) ++ [n0, n1, n2, n3, n4, n5, n6, n7]) FF7 o (.inr (5, [.ref rr, .ref sr, .ref rk, .null, .null, .null])) := by rw [hFF7]; exact (pt_up f_o)
  refine lv_aload_n hx hb dX5_init_33 rfl (lv_at hl 0 rfl) ?_
  refine h_new hx hb hE.1 hw hA hts hinX0 tyX0 tyX0_ok hown (hts (.classLink RX5 28 RX0) (by decide +kernel)) (hts (.instantiable RX0 1) (by decide +kernel)) (hts (.initialized RX0) (by decide +kernel)) (ci := 0) rfl (fs := [.null]) (fun j hj => by rcases (show j = 0 by omega) with rfl <;> rfl) (by first | decide | (show _ ≤ 58; omega)) (by first | decide | (show _ ≤ 1118; omega)) dX5_init_34 (fun nm H hnm hw => ?_)
  obtain ⟨FF8, hFF8⟩ : ∃ Fx : FM, Fx = va_up FF7 nm (.inr (0, [.null])) := ⟨_, rfl⟩
  rw [← hFF8] at hw
  have g_rkq : ∀ a, a ∈ [n0, n1, n2, n3, n4, n5, n6, n7] → pt ((((([o] ++ [rr]) ++ [sr]) ++ [rk]) ++ [n0, n1, n2, n3, n4, n5, n6, n7]) ++ [nm]) FF8 a (eq4 (0, 0, 0, 0)) := by rw [hFF8]; exact fun a ha => pt_push (g_rkq a ha) hnm
  have f_rr : pt ((((([o] ++ [rr]) ++ [sr]) ++ [rk]) ++ [n0, n1, n2, n3, n4, n5, n6, n7]) ++ [nm]) FF8 rr (eRQ G 16 (fun _ => none)) := by rw [hFF8]; exact (pt_push f_rr hnm)
  have f_sr : pt ((((([o] ++ [rr]) ++ [sr]) ++ [rk]) ++ [n0, n1, n2, n3, n4, n5, n6, n7]) ++ [nm]) FF8 sr (eRS G 6 (fun _ => none)) := by rw [hFF8]; exact (pt_push f_sr hnm)
  have f_rk : pt ((((([o] ++ [rr]) ++ [sr]) ++ [rk]) ++ [n0, n1, n2, n3, n4, n5, n6, n7]) ++ [nm]) FF8 rk (.inr (2, [.ref n0, .ref n1, .ref n2, .ref n3, .ref n4, .ref n5, .ref n6, .ref n7])) := by rw [hFF8]; exact (pt_push f_rk hnm)
  have f_o : pt ((((([o] ++ [rr]) ++ [sr]) ++ [rk]) ++ [n0, n1, n2, n3, n4, n5, n6, n7]) ++ [nm]) FF8 o (.inr (5, [.ref rr, .ref sr, .ref rk, .null, .null, .null])) := by rw [hFF8]; exact (pt_push f_o hnm)
  have f_nm : pt ((((([o] ++ [rr]) ++ [sr]) ++ [rk]) ++ [n0, n1, n2, n3, n4, n5, n6, n7]) ++ [nm]) FF8 nm (.inr (0, [.null])) := by rw [hFF8]; exact pt_new
  refine lv_dup hx hb dX5_init_37 rfl ?_
  refine h_callNI [.ref nm, .ref o] ⟨hx, hb, hml, hown, hts⟩ hC hw (c_X0_init l G A ((((([o] ++ [rr]) ++ [sr]) ++ [rk]) ++ [n0, n1, n2, n3, n4, n5, n6, n7]) ++ [nm]) FF8 nm f_nm) (cwI 0 hts gX5_init_X0_init rfl rfl rfl (hts (.initialized RX0) (by decide +kernel)) (hts (.methodLink RX5 30 yX0_init) (by decide +kernel)) (hts (.instanceMethod yX0_init) (by decide +kernel)) rfl (by decide +kernel) ⟨Nat.le_of_ble_eq_true rfl, Nat.le_of_ble_eq_true rfl⟩) hl.1 (Nat.le_of_ble_eq_true rfl) dX5_init_38 ⟨(by first | decide | (show _ ≤ 58; omega)), (by first | decide | (show _ ≤ 1118; omega))⟩ (fun L2 F2 H locs hP hw => ?_)
  obtain ⟨pr, pf, rfl, hkp, ho2, hq2, hpf⟩ := hP
  obtain ⟨FF9, hFF9⟩ : ∃ Fx : FM, Fx = F2 := ⟨_, rfl⟩
  rw [← hFF9] at hw
  have g_rkq : ∀ a, a ∈ [n0, n1, n2, n3, n4, n5, n6, n7] → pt (((((([o] ++ [rr]) ++ [sr]) ++ [rk]) ++ [n0, n1, n2, n3, n4, n5, n6, n7]) ++ [nm]) ++ [pr]) FF9 a (eq4 (0, 0, 0, 0)) := by rw [hFF9]; exact fun a ha => ⟨List.mem_append_left _ (g_rkq a ha).1, (hkp a (g_rkq a ha).1 (pt_ap (g_rkq a ha) f_nm (fun h9 => absurd (show (1 : Nat) = 0 from congrArg tg h9) (by decide)))).trans (g_rkq a ha).2⟩
  have f_rr : pt (((((([o] ++ [rr]) ++ [sr]) ++ [rk]) ++ [n0, n1, n2, n3, n4, n5, n6, n7]) ++ [nm]) ++ [pr]) FF9 rr (eRQ G 16 (fun _ => none)) := by rw [hFF9]; exact ⟨List.mem_append_left _ f_rr.1, (hkp rr f_rr.1 (pt_ap f_rr f_nm (fun h9 => absurd (show (1163 : Nat) = 0 from congrArg tg h9) (by decide)))).trans f_rr.2⟩
  have f_sr : pt (((((([o] ++ [rr]) ++ [sr]) ++ [rk]) ++ [n0, n1, n2, n3, n4, n5, n6, n7]) ++ [nm]) ++ [pr]) FF9 sr (eRS G 6 (fun _ => none)) := by rw [hFF9]; exact ⟨List.mem_append_left _ f_sr.1, (hkp sr f_sr.1 (pt_ap f_sr f_nm (fun h9 => absurd (show (1063 : Nat) = 0 from congrArg tg h9) (by decide)))).trans f_sr.2⟩
  have f_rk : pt (((((([o] ++ [rr]) ++ [sr]) ++ [rk]) ++ [n0, n1, n2, n3, n4, n5, n6, n7]) ++ [nm]) ++ [pr]) FF9 rk (.inr (2, [.ref n0, .ref n1, .ref n2, .ref n3, .ref n4, .ref n5, .ref n6, .ref n7])) := by rw [hFF9]; exact ⟨List.mem_append_left _ f_rk.1, (hkp rk f_rk.1 (pt_ap f_rk f_nm (fun h9 => absurd (show (2 : Nat) = 0 from congrArg tg h9) (by decide)))).trans f_rk.2⟩
  have f_o : pt (((((([o] ++ [rr]) ++ [sr]) ++ [rk]) ++ [n0, n1, n2, n3, n4, n5, n6, n7]) ++ [nm]) ++ [pr]) FF9 o (.inr (5, [.ref rr, .ref sr, .ref rk, .null, .null, .null])) := by rw [hFF9]; exact ⟨List.mem_append_left _ f_o.1, (hkp o f_o.1 (pt_ap f_o f_nm (fun h9 => absurd (show (5 : Nat) = 0 from congrArg tg h9) (by decide)))).trans f_o.2⟩
  have f_nm : pt (((((([o] ++ [rr]) ++ [sr]) ++ [rk]) ++ [n0, n1, n2, n3, n4, n5, n6, n7]) ++ [nm]) ++ [pr]) FF9 nm (.inr (0, [.ref pr])) := by rw [hFF9]; exact ⟨List.mem_append_left _ f_nm.1, ho2⟩
  have f_pr : pt (((((([o] ++ [rr]) ++ [sr]) ++ [rk]) ++ [n0, n1, n2, n3, n4, n5, n6, n7]) ++ [nm]) ++ [pr]) FF9 pr (eI G 801 pf) := by rw [hFF9]; exact ⟨List.mem_append_right _ (by simp), hq2⟩
  refine h_putF hx hb hE.1 hw hts hinX5 tyX5 tyX5_ok nmX5 hown (ci := 5) rfl 3 (by decide) lk_31 (fun _ h9 => h9) rfl hin rfl f_o (ty := .object "FourParts$Norms") (by decide +kernel) rfl rfl (Nat.le_of_ble_eq_true rfl) (fs2 := [.ref rr, .ref sr, .ref rk, .ref nm, .null, .null]) rfl dX5_init_41 (fun H locs hw => ?_)
  obtain ⟨FF10, hFF10⟩ : ∃ Fx : FM, Fx = va_up FF9 o (.inr (5, [.ref rr, .ref sr, .ref rk, .ref nm, .null, .null])) := ⟨_, rfl⟩
  rw [← hFF10] at hw
  have g_rkq : ∀ a, a ∈ [n0, n1, n2, n3, n4, n5, n6, n7] → pt (((((([o] ++ [rr]) ++ [sr]) ++ [rk]) ++ [n0, n1, n2, n3, n4, n5, n6, n7]) ++ [nm]) ++ [pr]) FF10 a (eq4 (0, 0, 0, 0)) := by rw [hFF10]; exact fun a ha => pt_ne (g_rkq a ha) (pt_ap (g_rkq a ha) f_o (fun h9 => absurd (show (1 : Nat) = 5 from congrArg tg h9) (by decide)))
  have f_rr : pt (((((([o] ++ [rr]) ++ [sr]) ++ [rk]) ++ [n0, n1, n2, n3, n4, n5, n6, n7]) ++ [nm]) ++ [pr]) FF10 rr (eRQ G 16 (fun _ => none)) := by rw [hFF10]; exact (pt_ne f_rr (pt_ap f_rr f_o (fun h9 => absurd (show (1163 : Nat) = 5 from congrArg tg h9) (by decide))))
  have f_sr : pt (((((([o] ++ [rr]) ++ [sr]) ++ [rk]) ++ [n0, n1, n2, n3, n4, n5, n6, n7]) ++ [nm]) ++ [pr]) FF10 sr (eRS G 6 (fun _ => none)) := by rw [hFF10]; exact (pt_ne f_sr (pt_ap f_sr f_o (fun h9 => absurd (show (1063 : Nat) = 5 from congrArg tg h9) (by decide))))
  have f_rk : pt (((((([o] ++ [rr]) ++ [sr]) ++ [rk]) ++ [n0, n1, n2, n3, n4, n5, n6, n7]) ++ [nm]) ++ [pr]) FF10 rk (.inr (2, [.ref n0, .ref n1, .ref n2, .ref n3, .ref n4, .ref n5, .ref n6, .ref n7])) := by rw [hFF10]; exact (pt_ne f_rk (pt_ap f_rk f_o (fun h9 => absurd (show (2 : Nat) = 5 from congrArg tg h9) (by decide))))
  have f_nm : pt (((((([o] ++ [rr]) ++ [sr]) ++ [rk]) ++ [n0, n1, n2, n3, n4, n5, n6, n7]) ++ [nm]) ++ [pr]) FF10 nm (.inr (0, [.ref pr])) := by rw [hFF10]; exact (pt_ne f_nm (pt_ap f_nm f_o (fun h9 => absurd (show (0 : Nat) = 5 from congrArg tg h9) (by decide))))
  have f_pr : pt (((((([o] ++ [rr]) ++ [sr]) ++ [rk]) ++ [n0, n1, n2, n3, n4, n5, n6, n7]) ++ [nm]) ++ [pr]) FF10 pr (eI G 801 pf) := by rw [hFF10]; exact (pt_ne f_pr (pt_ap f_pr f_o (fun h9 => absurd (show (9011 : Nat) = 5 from congrArg tg h9) (by decide))))
  have f_o : pt (((((([o] ++ [rr]) ++ [sr]) ++ [rk]) ++ [n0, n1, n2, n3, n4, n5, n6, n7]) ++ [nm]) ++ [pr]) FF10 o (.inr (5, [.ref rr, .ref sr, .ref rk, .ref nm, .null, .null])) := by rw [hFF10]; exact (pt_up f_o)
  refine lv_aload_n hx hb dX5_init_44 rfl (lv_at hl 0 rfl) ?_
  refine h_new hx hb hE.1 hw hA hts hinX4 tyX4 tyX4_ok hown (hts (.classLink RX5 35 RX4) (by decide +kernel)) (hts (.instantiable RX4 4) (by decide +kernel)) (hts (.initialized RX4) (by decide +kernel)) (ci := 4) rfl (fs := [.null, .null, .null, .int 0]) (fun j hj => by rcases (show j = 0 ∨ j = 1 ∨ j = 2 ∨ j = 3 by omega) with rfl | rfl | rfl | rfl <;> rfl) (by first | decide | (show _ ≤ 58; omega)) (by first | decide | (show _ ≤ 1118; omega)) dX5_init_45 (fun wy H hwy hw => ?_)
  obtain ⟨FF11, hFF11⟩ : ∃ Fx : FM, Fx = va_up FF10 wy (.inr (4, [.null, .null, .null, .int 0])) := ⟨_, rfl⟩
  rw [← hFF11] at hw
  have g_rkq : ∀ a, a ∈ [n0, n1, n2, n3, n4, n5, n6, n7] → pt ((((((([o] ++ [rr]) ++ [sr]) ++ [rk]) ++ [n0, n1, n2, n3, n4, n5, n6, n7]) ++ [nm]) ++ [pr]) ++ [wy]) FF11 a (eq4 (0, 0, 0, 0)) := by rw [hFF11]; exact fun a ha => pt_push (g_rkq a ha) hwy
  have f_rr : pt ((((((([o] ++ [rr]) ++ [sr]) ++ [rk]) ++ [n0, n1, n2, n3, n4, n5, n6, n7]) ++ [nm]) ++ [pr]) ++ [wy]) FF11 rr (eRQ G 16 (fun _ => none)) := by rw [hFF11]; exact (pt_push f_rr hwy)
  have f_sr : pt ((((((([o] ++ [rr]) ++ [sr]) ++ [rk]) ++ [n0, n1, n2, n3, n4, n5, n6, n7]) ++ [nm]) ++ [pr]) ++ [wy]) FF11 sr (eRS G 6 (fun _ => none)) := by rw [hFF11]; exact (pt_push f_sr hwy)
  have f_rk : pt ((((((([o] ++ [rr]) ++ [sr]) ++ [rk]) ++ [n0, n1, n2, n3, n4, n5, n6, n7]) ++ [nm]) ++ [pr]) ++ [wy]) FF11 rk (.inr (2, [.ref n0, .ref n1, .ref n2, .ref n3, .ref n4, .ref n5, .ref n6, .ref n7])) := by rw [hFF11]; exact (pt_push f_rk hwy)
  have f_nm : pt ((((((([o] ++ [rr]) ++ [sr]) ++ [rk]) ++ [n0, n1, n2, n3, n4, n5, n6, n7]) ++ [nm]) ++ [pr]) ++ [wy]) FF11 nm (.inr (0, [.ref pr])) := by rw [hFF11]; exact (pt_push f_nm hwy)
  have f_pr : pt ((((((([o] ++ [rr]) ++ [sr]) ++ [rk]) ++ [n0, n1, n2, n3, n4, n5, n6, n7]) ++ [nm]) ++ [pr]) ++ [wy]) FF11 pr (eI G 801 pf) := by rw [hFF11]; exact (pt_push f_pr hwy)
  have f_o : pt ((((((([o] ++ [rr]) ++ [sr]) ++ [rk]) ++ [n0, n1, n2, n3, n4, n5, n6, n7]) ++ [nm]) ++ [pr]) ++ [wy]) FF11 o (.inr (5, [.ref rr, .ref sr, .ref rk, .ref nm, .null, .null])) := by rw [hFF11]; exact (pt_push f_o hwy)
  have f_wy : pt ((((((([o] ++ [rr]) ++ [sr]) ++ [rk]) ++ [n0, n1, n2, n3, n4, n5, n6, n7]) ++ [nm]) ++ [pr]) ++ [wy]) FF11 wy (.inr (4, [.null, .null, .null, .int 0])) := by rw [hFF11]; exact pt_new
  refine lv_dup hx hb dX5_init_48 rfl ?_
  refine h_callNI [.ref wy, .ref o] ⟨hx, hb, hml, hown, hts⟩ hC hw (c_X4_init l G A ((((((([o] ++ [rr]) ++ [sr]) ++ [rk]) ++ [n0, n1, n2, n3, n4, n5, n6, n7]) ++ [nm]) ++ [pr]) ++ [wy]) FF11 wy f_wy) (cwI 0 hts gX5_init_X4_init rfl rfl rfl (hts (.initialized RX4) (by decide +kernel)) (hts (.methodLink RX5 37 yX4_init) (by decide +kernel)) (hts (.instanceMethod yX4_init) (by decide +kernel)) rfl (by decide +kernel) ⟨Nat.le_of_ble_eq_true rfl, Nat.le_of_ble_eq_true rfl⟩) hl.1 (Nat.le_of_ble_eq_true rfl) dX5_init_49 ⟨(by first | decide | (show _ ≤ 58; omega)), (by first | decide | (show _ ≤ 1118; omega))⟩ (fun L2 F2 H locs hP hw => ?_)
  obtain ⟨fr, pq, lf, R12, rfl, hR12, hkp, ho2, hfr2, hpq2, hlf2, hR2⟩ := hP
  rw [List.append_assoc] at hw
  obtain ⟨FF12, hFF12⟩ : ∃ Fx : FM, Fx = F2 := ⟨_, rfl⟩
  rw [← hFF12] at hw
  have g_rkq : ∀ a, a ∈ [n0, n1, n2, n3, n4, n5, n6, n7] → pt (((((((([o] ++ [rr]) ++ [sr]) ++ [rk]) ++ [n0, n1, n2, n3, n4, n5, n6, n7]) ++ [nm]) ++ [pr]) ++ [wy]) ++ ([fr, pq, lf] ++ R12)) FF12 a (eq4 (0, 0, 0, 0)) := by rw [hFF12]; exact fun a ha => ⟨List.mem_append_left _ (g_rkq a ha).1, (hkp a (g_rkq a ha).1 (pt_ap (g_rkq a ha) f_wy (fun h9 => absurd (show (1 : Nat) = 4 from congrArg tg h9) (by decide)))).trans (g_rkq a ha).2⟩
  have g_R12 : ∀ a, a ∈ R12 → pt (((((((([o] ++ [rr]) ++ [sr]) ++ [rk]) ++ [n0, n1, n2, n3, n4, n5, n6, n7]) ++ [nm]) ++ [pr]) ++ [wy]) ++ ([fr, pq, lf] ++ R12)) FF12 a (eq4 (0, 0, 0, 0)) := by rw [hFF12]; exact fun a ha => ⟨List.mem_append_right _ (List.mem_append_right _ ha), hR2 a ha⟩
  have f_rr : pt (((((((([o] ++ [rr]) ++ [sr]) ++ [rk]) ++ [n0, n1, n2, n3, n4, n5, n6, n7]) ++ [nm]) ++ [pr]) ++ [wy]) ++ ([fr, pq, lf] ++ R12)) FF12 rr (eRQ G 16 (fun _ => none)) := by rw [hFF12]; exact ⟨List.mem_append_left _ f_rr.1, (hkp rr f_rr.1 (pt_ap f_rr f_wy (fun h9 => absurd (show (1163 : Nat) = 4 from congrArg tg h9) (by decide)))).trans f_rr.2⟩
  have f_sr : pt (((((((([o] ++ [rr]) ++ [sr]) ++ [rk]) ++ [n0, n1, n2, n3, n4, n5, n6, n7]) ++ [nm]) ++ [pr]) ++ [wy]) ++ ([fr, pq, lf] ++ R12)) FF12 sr (eRS G 6 (fun _ => none)) := by rw [hFF12]; exact ⟨List.mem_append_left _ f_sr.1, (hkp sr f_sr.1 (pt_ap f_sr f_wy (fun h9 => absurd (show (1063 : Nat) = 4 from congrArg tg h9) (by decide)))).trans f_sr.2⟩
  have f_rk : pt (((((((([o] ++ [rr]) ++ [sr]) ++ [rk]) ++ [n0, n1, n2, n3, n4, n5, n6, n7]) ++ [nm]) ++ [pr]) ++ [wy]) ++ ([fr, pq, lf] ++ R12)) FF12 rk (.inr (2, [.ref n0, .ref n1, .ref n2, .ref n3, .ref n4, .ref n5, .ref n6, .ref n7])) := by rw [hFF12]; exact ⟨List.mem_append_left _ f_rk.1, (hkp rk f_rk.1 (pt_ap f_rk f_wy (fun h9 => absurd (show (2 : Nat) = 4 from congrArg tg h9) (by decide)))).trans f_rk.2⟩
  have f_nm : pt (((((((([o] ++ [rr]) ++ [sr]) ++ [rk]) ++ [n0, n1, n2, n3, n4, n5, n6, n7]) ++ [nm]) ++ [pr]) ++ [wy]) ++ ([fr, pq, lf] ++ R12)) FF12 nm (.inr (0, [.ref pr])) := by rw [hFF12]; exact ⟨List.mem_append_left _ f_nm.1, (hkp nm f_nm.1 (pt_ap f_nm f_wy (fun h9 => absurd (show (0 : Nat) = 4 from congrArg tg h9) (by decide)))).trans f_nm.2⟩
  have f_pr : pt (((((((([o] ++ [rr]) ++ [sr]) ++ [rk]) ++ [n0, n1, n2, n3, n4, n5, n6, n7]) ++ [nm]) ++ [pr]) ++ [wy]) ++ ([fr, pq, lf] ++ R12)) FF12 pr (eI G 801 pf) := by rw [hFF12]; exact ⟨List.mem_append_left _ f_pr.1, (hkp pr f_pr.1 (pt_ap f_pr f_wy (fun h9 => absurd (show (9011 : Nat) = 4 from congrArg tg h9) (by decide)))).trans f_pr.2⟩
  have f_o : pt (((((((([o] ++ [rr]) ++ [sr]) ++ [rk]) ++ [n0, n1, n2, n3, n4, n5, n6, n7]) ++ [nm]) ++ [pr]) ++ [wy]) ++ ([fr, pq, lf] ++ R12)) FF12 o (.inr (5, [.ref rr, .ref sr, .ref rk, .ref nm, .null, .null])) := by rw [hFF12]; exact ⟨List.mem_append_left _ f_o.1, (hkp o f_o.1 (pt_ap f_o f_wy (fun h9 => absurd (show (5 : Nat) = 4 from congrArg tg h9) (by decide)))).trans f_o.2⟩
  have f_wy : pt (((((((([o] ++ [rr]) ++ [sr]) ++ [rk]) ++ [n0, n1, n2, n3, n4, n5, n6, n7]) ++ [nm]) ++ [pr]) ++ [wy]) ++ ([fr, pq, lf] ++ R12)) FF12 wy (.inr (4, [.ref fr, .ref pq, .ref lf, .int 0])) := by rw [hFF12]; exact ⟨List.mem_append_left _ f_wy.1, ho2⟩
  have f_fr : pt (((((((([o] ++ [rr]) ++ [sr]) ++ [rk]) ++ [n0, n1, n2, n3, n4, n5, n6, n7]) ++ [nm]) ++ [pr]) ++ [wy]) ++ ([fr, pq, lf] ++ R12)) FF12 fr (eRQ G 12 (fun k => R12[k]?)) := by rw [hFF12]; exact ⟨List.mem_append_right _ (List.mem_append_left _ (by simp)), hfr2⟩
  have f_pq : pt (((((((([o] ++ [rr]) ++ [sr]) ++ [rk]) ++ [n0, n1, n2, n3, n4, n5, n6, n7]) ++ [nm]) ++ [pr]) ++ [wy]) ++ ([fr, pq, lf] ++ R12)) FF12 pq (.inr (1, [.long 0, .long 0, .long 0, .long 0])) := by rw [hFF12]; exact ⟨List.mem_append_right _ (List.mem_append_left _ (by simp)), hpq2⟩
  have f_lf : pt (((((((([o] ++ [rr]) ++ [sr]) ++ [rk]) ++ [n0, n1, n2, n3, n4, n5, n6, n7]) ++ [nm]) ++ [pr]) ++ [wy]) ++ ([fr, pq, lf] ++ R12)) FF12 lf (.inr (1, [.long 0, .long 0, .long 0, .long 0])) := by rw [hFF12]; exact ⟨List.mem_append_right _ (List.mem_append_left _ (by simp)), hlf2⟩
  refine h_putF hx hb hE.1 hw hts hinX5 tyX5 tyX5_ok nmX5 hown (ci := 5) rfl 4 (by decide) lk_38 (fun _ h9 => h9) rfl hin rfl f_o (ty := .object "FourParts$Way") (by decide +kernel) rfl rfl (Nat.le_of_ble_eq_true rfl) (fs2 := [.ref rr, .ref sr, .ref rk, .ref nm, .ref wy, .null]) rfl dX5_init_52 (fun H locs hw => ?_)
  obtain ⟨FF13, hFF13⟩ : ∃ Fx : FM, Fx = va_up FF12 o (.inr (5, [.ref rr, .ref sr, .ref rk, .ref nm, .ref wy, .null])) := ⟨_, rfl⟩
  rw [← hFF13] at hw
  have g_rkq : ∀ a, a ∈ [n0, n1, n2, n3, n4, n5, n6, n7] → pt (((((((([o] ++ [rr]) ++ [sr]) ++ [rk]) ++ [n0, n1, n2, n3, n4, n5, n6, n7]) ++ [nm]) ++ [pr]) ++ [wy]) ++ ([fr, pq, lf] ++ R12)) FF13 a (eq4 (0, 0, 0, 0)) := by rw [hFF13]; exact fun a ha => pt_ne (g_rkq a ha) (pt_ap (g_rkq a ha) f_o (fun h9 => absurd (show (1 : Nat) = 5 from congrArg tg h9) (by decide)))
  have g_R12 : ∀ a, a ∈ R12 → pt (((((((([o] ++ [rr]) ++ [sr]) ++ [rk]) ++ [n0, n1, n2, n3, n4, n5, n6, n7]) ++ [nm]) ++ [pr]) ++ [wy]) ++ ([fr, pq, lf] ++ R12)) FF13 a (eq4 (0, 0, 0, 0)) := by rw [hFF13]; exact fun a ha => pt_ne (g_R12 a ha) (pt_ap (g_R12 a ha) f_o (fun h9 => absurd (show (1 : Nat) = 5 from congrArg tg h9) (by decide)))
  have f_rr : pt (((((((([o] ++ [rr]) ++ [sr]) ++ [rk]) ++ [n0, n1, n2, n3, n4, n5, n6, n7]) ++ [nm]) ++ [pr]) ++ [wy]) ++ ([fr, pq, lf] ++ R12)) FF13 rr (eRQ G 16 (fun _ => none)) := by rw [hFF13]; exact (pt_ne f_rr (pt_ap f_rr f_o (fun h9 => absurd (show (1163 : Nat) = 5 from congrArg tg h9) (by decide))))
  have f_sr : pt (((((((([o] ++ [rr]) ++ [sr]) ++ [rk]) ++ [n0, n1, n2, n3, n4, n5, n6, n7]) ++ [nm]) ++ [pr]) ++ [wy]) ++ ([fr, pq, lf] ++ R12)) FF13 sr (eRS G 6 (fun _ => none)) := by rw [hFF13]; exact (pt_ne f_sr (pt_ap f_sr f_o (fun h9 => absurd (show (1063 : Nat) = 5 from congrArg tg h9) (by decide))))
  have f_rk : pt (((((((([o] ++ [rr]) ++ [sr]) ++ [rk]) ++ [n0, n1, n2, n3, n4, n5, n6, n7]) ++ [nm]) ++ [pr]) ++ [wy]) ++ ([fr, pq, lf] ++ R12)) FF13 rk (.inr (2, [.ref n0, .ref n1, .ref n2, .ref n3, .ref n4, .ref n5, .ref n6, .ref n7])) := by rw [hFF13]; exact (pt_ne f_rk (pt_ap f_rk f_o (fun h9 => absurd (show (2 : Nat) = 5 from congrArg tg h9) (by decide))))
  have f_nm : pt (((((((([o] ++ [rr]) ++ [sr]) ++ [rk]) ++ [n0, n1, n2, n3, n4, n5, n6, n7]) ++ [nm]) ++ [pr]) ++ [wy]) ++ ([fr, pq, lf] ++ R12)) FF13 nm (.inr (0, [.ref pr])) := by rw [hFF13]; exact (pt_ne f_nm (pt_ap f_nm f_o (fun h9 => absurd (show (0 : Nat) = 5 from congrArg tg h9) (by decide))))
  have f_pr : pt (((((((([o] ++ [rr]) ++ [sr]) ++ [rk]) ++ [n0, n1, n2, n3, n4, n5, n6, n7]) ++ [nm]) ++ [pr]) ++ [wy]) ++ ([fr, pq, lf] ++ R12)) FF13 pr (eI G 801 pf) := by rw [hFF13]; exact (pt_ne f_pr (pt_ap f_pr f_o (fun h9 => absurd (show (9011 : Nat) = 5 from congrArg tg h9) (by decide))))
  have f_wy : pt (((((((([o] ++ [rr]) ++ [sr]) ++ [rk]) ++ [n0, n1, n2, n3, n4, n5, n6, n7]) ++ [nm]) ++ [pr]) ++ [wy]) ++ ([fr, pq, lf] ++ R12)) FF13 wy (.inr (4, [.ref fr, .ref pq, .ref lf, .int 0])) := by rw [hFF13]; exact (pt_ne f_wy (pt_ap f_wy f_o (fun h9 => absurd (show (4 : Nat) = 5 from congrArg tg h9) (by decide))))
  have f_fr : pt (((((((([o] ++ [rr]) ++ [sr]) ++ [rk]) ++ [n0, n1, n2, n3, n4, n5, n6, n7]) ++ [nm]) ++ [pr]) ++ [wy]) ++ ([fr, pq, lf] ++ R12)) FF13 fr (eRQ G 12 (fun k => R12[k]?)) := by rw [hFF13]; exact (pt_ne f_fr (pt_ap f_fr f_o (fun h9 => absurd (show (1123 : Nat) = 5 from congrArg tg h9) (by decide))))
  have f_pq : pt (((((((([o] ++ [rr]) ++ [sr]) ++ [rk]) ++ [n0, n1, n2, n3, n4, n5, n6, n7]) ++ [nm]) ++ [pr]) ++ [wy]) ++ ([fr, pq, lf] ++ R12)) FF13 pq (.inr (1, [.long 0, .long 0, .long 0, .long 0])) := by rw [hFF13]; exact (pt_ne f_pq (pt_ap f_pq f_o (fun h9 => absurd (show (1 : Nat) = 5 from congrArg tg h9) (by decide))))
  have f_lf : pt (((((((([o] ++ [rr]) ++ [sr]) ++ [rk]) ++ [n0, n1, n2, n3, n4, n5, n6, n7]) ++ [nm]) ++ [pr]) ++ [wy]) ++ ([fr, pq, lf] ++ R12)) FF13 lf (.inr (1, [.long 0, .long 0, .long 0, .long 0])) := by rw [hFF13]; exact (pt_ne f_lf (pt_ap f_lf f_o (fun h9 => absurd (show (1 : Nat) = 5 from congrArg tg h9) (by decide))))
  have f_o : pt (((((((([o] ++ [rr]) ++ [sr]) ++ [rk]) ++ [n0, n1, n2, n3, n4, n5, n6, n7]) ++ [nm]) ++ [pr]) ++ [wy]) ++ ([fr, pq, lf] ++ R12)) FF13 o (.inr (5, [.ref rr, .ref sr, .ref rk, .ref nm, .ref wy, .null])) := by rw [hFF13]; exact (pt_up f_o)
  refine lv_aload_n hx hb dX5_init_55 rfl (lv_at hl 0 rfl) ?_
  refine h_new hx hb hE.1 hw hA hts hinX1 tyX1 tyX1_ok hown (hts (.classLink RX5 9 RX1) (by decide +kernel)) (hts (.instantiable RX1 4) (by decide +kernel)) (hts (.initialized RX1) (by decide +kernel)) (ci := 1) rfl (fs := [.long 0, .long 0, .long 0, .long 0]) (fun j hj => by rcases (show j = 0 ∨ j = 1 ∨ j = 2 ∨ j = 3 by omega) with rfl | rfl | rfl | rfl <;> rfl) (by first | decide | (show _ ≤ 58; omega)) (by first | decide | (show _ ≤ 1118; omega)) dX5_init_56 (fun rs H hrs hw => ?_)
  obtain ⟨FF14, hFF14⟩ : ∃ Fx : FM, Fx = va_up FF13 rs (.inr (1, [.long 0, .long 0, .long 0, .long 0])) := ⟨_, rfl⟩
  rw [← hFF14] at hw
  have g_rkq : ∀ a, a ∈ [n0, n1, n2, n3, n4, n5, n6, n7] → pt ((((((((([o] ++ [rr]) ++ [sr]) ++ [rk]) ++ [n0, n1, n2, n3, n4, n5, n6, n7]) ++ [nm]) ++ [pr]) ++ [wy]) ++ ([fr, pq, lf] ++ R12)) ++ [rs]) FF14 a (eq4 (0, 0, 0, 0)) := by rw [hFF14]; exact fun a ha => pt_push (g_rkq a ha) hrs
  have g_R12 : ∀ a, a ∈ R12 → pt ((((((((([o] ++ [rr]) ++ [sr]) ++ [rk]) ++ [n0, n1, n2, n3, n4, n5, n6, n7]) ++ [nm]) ++ [pr]) ++ [wy]) ++ ([fr, pq, lf] ++ R12)) ++ [rs]) FF14 a (eq4 (0, 0, 0, 0)) := by rw [hFF14]; exact fun a ha => pt_push (g_R12 a ha) hrs
  have f_rr : pt ((((((((([o] ++ [rr]) ++ [sr]) ++ [rk]) ++ [n0, n1, n2, n3, n4, n5, n6, n7]) ++ [nm]) ++ [pr]) ++ [wy]) ++ ([fr, pq, lf] ++ R12)) ++ [rs]) FF14 rr (eRQ G 16 (fun _ => none)) := by rw [hFF14]; exact (pt_push f_rr hrs)
  have f_sr : pt ((((((((([o] ++ [rr]) ++ [sr]) ++ [rk]) ++ [n0, n1, n2, n3, n4, n5, n6, n7]) ++ [nm]) ++ [pr]) ++ [wy]) ++ ([fr, pq, lf] ++ R12)) ++ [rs]) FF14 sr (eRS G 6 (fun _ => none)) := by rw [hFF14]; exact (pt_push f_sr hrs)
  have f_rk : pt ((((((((([o] ++ [rr]) ++ [sr]) ++ [rk]) ++ [n0, n1, n2, n3, n4, n5, n6, n7]) ++ [nm]) ++ [pr]) ++ [wy]) ++ ([fr, pq, lf] ++ R12)) ++ [rs]) FF14 rk (.inr (2, [.ref n0, .ref n1, .ref n2, .ref n3, .ref n4, .ref n5, .ref n6, .ref n7])) := by rw [hFF14]; exact (pt_push f_rk hrs)
  have f_nm : pt ((((((((([o] ++ [rr]) ++ [sr]) ++ [rk]) ++ [n0, n1, n2, n3, n4, n5, n6, n7]) ++ [nm]) ++ [pr]) ++ [wy]) ++ ([fr, pq, lf] ++ R12)) ++ [rs]) FF14 nm (.inr (0, [.ref pr])) := by rw [hFF14]; exact (pt_push f_nm hrs)
  have f_pr : pt ((((((((([o] ++ [rr]) ++ [sr]) ++ [rk]) ++ [n0, n1, n2, n3, n4, n5, n6, n7]) ++ [nm]) ++ [pr]) ++ [wy]) ++ ([fr, pq, lf] ++ R12)) ++ [rs]) FF14 pr (eI G 801 pf) := by rw [hFF14]; exact (pt_push f_pr hrs)
  have f_wy : pt ((((((((([o] ++ [rr]) ++ [sr]) ++ [rk]) ++ [n0, n1, n2, n3, n4, n5, n6, n7]) ++ [nm]) ++ [pr]) ++ [wy]) ++ ([fr, pq, lf] ++ R12)) ++ [rs]) FF14 wy (.inr (4, [.ref fr, .ref pq, .ref lf, .int 0])) := by rw [hFF14]; exact (pt_push f_wy hrs)
  have f_fr : pt ((((((((([o] ++ [rr]) ++ [sr]) ++ [rk]) ++ [n0, n1, n2, n3, n4, n5, n6, n7]) ++ [nm]) ++ [pr]) ++ [wy]) ++ ([fr, pq, lf] ++ R12)) ++ [rs]) FF14 fr (eRQ G 12 (fun k => R12[k]?)) := by rw [hFF14]; exact (pt_push f_fr hrs)
  have f_pq : pt ((((((((([o] ++ [rr]) ++ [sr]) ++ [rk]) ++ [n0, n1, n2, n3, n4, n5, n6, n7]) ++ [nm]) ++ [pr]) ++ [wy]) ++ ([fr, pq, lf] ++ R12)) ++ [rs]) FF14 pq (.inr (1, [.long 0, .long 0, .long 0, .long 0])) := by rw [hFF14]; exact (pt_push f_pq hrs)
  have f_lf : pt ((((((((([o] ++ [rr]) ++ [sr]) ++ [rk]) ++ [n0, n1, n2, n3, n4, n5, n6, n7]) ++ [nm]) ++ [pr]) ++ [wy]) ++ ([fr, pq, lf] ++ R12)) ++ [rs]) FF14 lf (.inr (1, [.long 0, .long 0, .long 0, .long 0])) := by rw [hFF14]; exact (pt_push f_lf hrs)
  have f_o : pt ((((((((([o] ++ [rr]) ++ [sr]) ++ [rk]) ++ [n0, n1, n2, n3, n4, n5, n6, n7]) ++ [nm]) ++ [pr]) ++ [wy]) ++ ([fr, pq, lf] ++ R12)) ++ [rs]) FF14 o (.inr (5, [.ref rr, .ref sr, .ref rk, .ref nm, .ref wy, .null])) := by rw [hFF14]; exact (pt_push f_o hrs)
  have f_rs : pt ((((((((([o] ++ [rr]) ++ [sr]) ++ [rk]) ++ [n0, n1, n2, n3, n4, n5, n6, n7]) ++ [nm]) ++ [pr]) ++ [wy]) ++ ([fr, pq, lf] ++ R12)) ++ [rs]) FF14 rs (.inr (1, [.long 0, .long 0, .long 0, .long 0])) := by rw [hFF14]; exact pt_new
  refine lv_dup hx hb dX5_init_59 rfl ?_
  refine h_callHN [.ref rs, .ref o] ⟨hx, hb, hml, hown, hts⟩ hE hw (c_X1_init l G A ((((((((([o] ++ [rr]) ++ [sr]) ++ [rk]) ++ [n0, n1, n2, n3, n4, n5, n6, n7]) ++ [nm]) ++ [pr]) ++ [wy]) ++ ([fr, pq, lf] ++ R12)) ++ [rs]) FF14 rs) ⟨va_cnB 0 hts gX5_init_X1_init_n42 rfl rfl rfl hC.2.1.2.2.2.1 (hts (.initialized RX1) (by decide +kernel)) (by decide +kernel) ⟨Nat.le_of_ble_eq_true rfl, Nat.le_of_ble_eq_true rfl⟩, rfl, (hts (.instanceMethod yX1_init) (by decide +kernel))⟩ hl.1 (Nat.le_of_ble_eq_true rfl) dX5_init_60 ⟨(by first | decide | (show _ ≤ 58; omega)), (by first | decide | (show _ ≤ 1118; omega))⟩ (fun H locs hw => ?_)
  refine h_putF hx hb hE.1 hw hts hinX5 tyX5 tyX5_ok nmX5 hown (ci := 5) rfl 5 (by decide) lk_43 (fun _ h9 => h9) rfl hin rfl f_o (ty := .object "FourParts$Quad") (by decide +kernel) rfl rfl (Nat.le_of_ble_eq_true rfl) (fs2 := [.ref rr, .ref sr, .ref rk, .ref nm, .ref wy, .ref rs]) rfl dX5_init_63 (fun H locs hw => ?_)
  obtain ⟨FF15, hFF15⟩ : ∃ Fx : FM, Fx = va_up FF14 o (.inr (5, [.ref rr, .ref sr, .ref rk, .ref nm, .ref wy, .ref rs])) := ⟨_, rfl⟩
  rw [← hFF15] at hw
  have g_rkq : ∀ a, a ∈ [n0, n1, n2, n3, n4, n5, n6, n7] → pt ((((((((([o] ++ [rr]) ++ [sr]) ++ [rk]) ++ [n0, n1, n2, n3, n4, n5, n6, n7]) ++ [nm]) ++ [pr]) ++ [wy]) ++ ([fr, pq, lf] ++ R12)) ++ [rs]) FF15 a (eq4 (0, 0, 0, 0)) := by rw [hFF15]; exact fun a ha => pt_ne (g_rkq a ha) (pt_ap (g_rkq a ha) f_o (fun h9 => absurd (show (1 : Nat) = 5 from congrArg tg h9) (by decide)))
  have g_R12 : ∀ a, a ∈ R12 → pt ((((((((([o] ++ [rr]) ++ [sr]) ++ [rk]) ++ [n0, n1, n2, n3, n4, n5, n6, n7]) ++ [nm]) ++ [pr]) ++ [wy]) ++ ([fr, pq, lf] ++ R12)) ++ [rs]) FF15 a (eq4 (0, 0, 0, 0)) := by rw [hFF15]; exact fun a ha => pt_ne (g_R12 a ha) (pt_ap (g_R12 a ha) f_o (fun h9 => absurd (show (1 : Nat) = 5 from congrArg tg h9) (by decide)))
  have f_rr : pt ((((((((([o] ++ [rr]) ++ [sr]) ++ [rk]) ++ [n0, n1, n2, n3, n4, n5, n6, n7]) ++ [nm]) ++ [pr]) ++ [wy]) ++ ([fr, pq, lf] ++ R12)) ++ [rs]) FF15 rr (eRQ G 16 (fun _ => none)) := by rw [hFF15]; exact (pt_ne f_rr (pt_ap f_rr f_o (fun h9 => absurd (show (1163 : Nat) = 5 from congrArg tg h9) (by decide))))
  have f_sr : pt ((((((((([o] ++ [rr]) ++ [sr]) ++ [rk]) ++ [n0, n1, n2, n3, n4, n5, n6, n7]) ++ [nm]) ++ [pr]) ++ [wy]) ++ ([fr, pq, lf] ++ R12)) ++ [rs]) FF15 sr (eRS G 6 (fun _ => none)) := by rw [hFF15]; exact (pt_ne f_sr (pt_ap f_sr f_o (fun h9 => absurd (show (1063 : Nat) = 5 from congrArg tg h9) (by decide))))
  have f_rk : pt ((((((((([o] ++ [rr]) ++ [sr]) ++ [rk]) ++ [n0, n1, n2, n3, n4, n5, n6, n7]) ++ [nm]) ++ [pr]) ++ [wy]) ++ ([fr, pq, lf] ++ R12)) ++ [rs]) FF15 rk (.inr (2, [.ref n0, .ref n1, .ref n2, .ref n3, .ref n4, .ref n5, .ref n6, .ref n7])) := by rw [hFF15]; exact (pt_ne f_rk (pt_ap f_rk f_o (fun h9 => absurd (show (2 : Nat) = 5 from congrArg tg h9) (by decide))))
  have f_nm : pt ((((((((([o] ++ [rr]) ++ [sr]) ++ [rk]) ++ [n0, n1, n2, n3, n4, n5, n6, n7]) ++ [nm]) ++ [pr]) ++ [wy]) ++ ([fr, pq, lf] ++ R12)) ++ [rs]) FF15 nm (.inr (0, [.ref pr])) := by rw [hFF15]; exact (pt_ne f_nm (pt_ap f_nm f_o (fun h9 => absurd (show (0 : Nat) = 5 from congrArg tg h9) (by decide))))
  have f_pr : pt ((((((((([o] ++ [rr]) ++ [sr]) ++ [rk]) ++ [n0, n1, n2, n3, n4, n5, n6, n7]) ++ [nm]) ++ [pr]) ++ [wy]) ++ ([fr, pq, lf] ++ R12)) ++ [rs]) FF15 pr (eI G 801 pf) := by rw [hFF15]; exact (pt_ne f_pr (pt_ap f_pr f_o (fun h9 => absurd (show (9011 : Nat) = 5 from congrArg tg h9) (by decide))))
  have f_wy : pt ((((((((([o] ++ [rr]) ++ [sr]) ++ [rk]) ++ [n0, n1, n2, n3, n4, n5, n6, n7]) ++ [nm]) ++ [pr]) ++ [wy]) ++ ([fr, pq, lf] ++ R12)) ++ [rs]) FF15 wy (.inr (4, [.ref fr, .ref pq, .ref lf, .int 0])) := by rw [hFF15]; exact (pt_ne f_wy (pt_ap f_wy f_o (fun h9 => absurd (show (4 : Nat) = 5 from congrArg tg h9) (by decide))))
  have f_fr : pt ((((((((([o] ++ [rr]) ++ [sr]) ++ [rk]) ++ [n0, n1, n2, n3, n4, n5, n6, n7]) ++ [nm]) ++ [pr]) ++ [wy]) ++ ([fr, pq, lf] ++ R12)) ++ [rs]) FF15 fr (eRQ G 12 (fun k => R12[k]?)) := by rw [hFF15]; exact (pt_ne f_fr (pt_ap f_fr f_o (fun h9 => absurd (show (1123 : Nat) = 5 from congrArg tg h9) (by decide))))
  have f_pq : pt ((((((((([o] ++ [rr]) ++ [sr]) ++ [rk]) ++ [n0, n1, n2, n3, n4, n5, n6, n7]) ++ [nm]) ++ [pr]) ++ [wy]) ++ ([fr, pq, lf] ++ R12)) ++ [rs]) FF15 pq (.inr (1, [.long 0, .long 0, .long 0, .long 0])) := by rw [hFF15]; exact (pt_ne f_pq (pt_ap f_pq f_o (fun h9 => absurd (show (1 : Nat) = 5 from congrArg tg h9) (by decide))))
  have f_lf : pt ((((((((([o] ++ [rr]) ++ [sr]) ++ [rk]) ++ [n0, n1, n2, n3, n4, n5, n6, n7]) ++ [nm]) ++ [pr]) ++ [wy]) ++ ([fr, pq, lf] ++ R12)) ++ [rs]) FF15 lf (.inr (1, [.long 0, .long 0, .long 0, .long 0])) := by rw [hFF15]; exact (pt_ne f_lf (pt_ap f_lf f_o (fun h9 => absurd (show (1 : Nat) = 5 from congrArg tg h9) (by decide))))
  have f_rs : pt ((((((((([o] ++ [rr]) ++ [sr]) ++ [rk]) ++ [n0, n1, n2, n3, n4, n5, n6, n7]) ++ [nm]) ++ [pr]) ++ [wy]) ++ ([fr, pq, lf] ++ R12)) ++ [rs]) FF15 rs (.inr (1, [.long 0, .long 0, .long 0, .long 0])) := by rw [hFF15]; exact (pt_ne f_rs (pt_ap f_rs f_o (fun h9 => absurd (show (1 : Nat) = 5 from congrArg tg h9) (by decide))))
  have f_o : pt ((((((((([o] ++ [rr]) ++ [sr]) ++ [rk]) ++ [n0, n1, n2, n3, n4, n5, n6, n7]) ++ [nm]) ++ [pr]) ++ [wy]) ++ ([fr, pq, lf] ++ R12)) ++ [rs]) FF15 o (.inr (5, [.ref rr, .ref sr, .ref rk, .ref nm, .ref wy, .ref rs])) := by rw [hFF15]; exact (pt_up f_o)
  refine lv_iconst (v := 0) hx hb dX5_init_66 (by decide) ?_
  refine lv_istore_n (lv' := [(1, .int 0), (0, .ref o)]) hx hb dX5_init_67 rfl hl (by decide) rfl (fun ls hl => ?_)
  have d_rr := f_rr
  have d_sr := f_sr
  have d_rk := f_rk
  have d_nm := f_nm
  have d_pr := f_pr
  have d_wy := f_wy
  have d_fr := f_fr
  have d_pq := f_pq
  have d_lf := f_lf
  have d_rs := f_rs
  have d_o := f_o
  have dl_rkq := g_rkq
  have dl_R12 := g_R12
  have m_o : o ∈ ((((((((([o] ++ [rr]) ++ [sr]) ++ [rk]) ++ [n0, n1, n2, n3, n4, n5, n6, n7]) ++ [nm]) ++ [pr]) ++ [wy]) ++ ([fr, pq, lf] ++ R12)) ++ [rs]) := f_o.1
  have m_rr : rr ∈ ((((((((([o] ++ [rr]) ++ [sr]) ++ [rk]) ++ [n0, n1, n2, n3, n4, n5, n6, n7]) ++ [nm]) ++ [pr]) ++ [wy]) ++ ([fr, pq, lf] ++ R12)) ++ [rs]) := f_rr.1
  have m_sr : sr ∈ ((((((((([o] ++ [rr]) ++ [sr]) ++ [rk]) ++ [n0, n1, n2, n3, n4, n5, n6, n7]) ++ [nm]) ++ [pr]) ++ [wy]) ++ ([fr, pq, lf] ++ R12)) ++ [rs]) := f_sr.1
  have b_o := f_o.2
  have b_rr := f_rr.2
  have b_sr := f_sr.2
  have n_orr : o ≠ rr := (pt_ap f_o f_rr (fun h9 => absurd (show (5 : Nat) = 1163 from congrArg tg h9) (by decide)))
  have n_osr : o ≠ sr := (pt_ap f_o f_sr (fun h9 => absurd (show (5 : Nat) = 1063 from congrArg tg h9) (by decide)))
  have n_rrsr : rr ≠ sr := (pt_ap f_rr f_sr (fun h9 => absurd (show (1163 : Nat) = 1063 from congrArg tg h9) (by decide)))
  have lpS : ∀ (R16 : List Nat) (d : Nat) (X : List (Nat × Nat)) (F1 : FM) (H : Heap) (locs : List Loc) (ls : Array Slot), R16.length = 16 → d + X.length = 6 → wo G A s.heap (((((((((([o] ++ [rr]) ++ [sr]) ++ [rk]) ++ [n0, n1, n2, n3, n4, n5, n6, n7]) ++ [nm]) ++ [pr]) ++ [wy]) ++ ([fr, pq, lf] ++ R12)) ++ [rs]) ++ R16 ++ zz X) F1 H locs → F1 rr = eRQ G 16 (fun k => R16[k]?) → (∀ a, a ∈ R16 → F1 a = eq4 (0, 0, 0, 0)) → F1 sr = eRS G 6 (fun k => (X.map Prod.fst)[k]?) → (∀ x, x ∈ X → F1 x.1 = eSh x.2 0 (-1) ∧ F1 x.2 = eJ G 16 (fun _ => 0)) → (∀ a, a ∈ ((((((((([o] ++ [rr]) ++ [sr]) ++ [rk]) ++ [n0, n1, n2, n3, n4, n5, n6, n7]) ++ [nm]) ++ [pr]) ++ [wy]) ++ ([fr, pq, lf] ++ R12)) ++ [rs]) → a ≠ rr → a ≠ sr → F1 a = FF15 a) → lv_has ls 2 [(0, .ref o), (1, .int (nI X.length))] → W p l e { frames := 3, cells := 58, slots := 1118, locals := 53 } s m ([Value.ref o].toArray) below meth c H locs (30 + 16 + 2 * X.length) (940 + 64 + 19 * X.length) (MQ below (QN G A (fun L2 F2 => ∃ ad : Nat → Nat, ad 51 = o ∧ L2 = CL ad ∧ CW G ad S0 F2)) ([Value.ref o].toArray) s 58 1118 A) (F0 m 98 ls []) := by
    intro R16 d
    induction d with
    | zero =>
      intro X F1 H locs ls hR16 hd hw hrr hR hsr hX hk hl
      have f_o : pt (((((((((([o] ++ [rr]) ++ [sr]) ++ [rk]) ++ [n0, n1, n2, n3, n4, n5, n6, n7]) ++ [nm]) ++ [pr]) ++ [wy]) ++ ([fr, pq, lf] ++ R12)) ++ [rs]) ++ R16 ++ zz X) F1 o (.inr (5, [.ref rr, .ref sr, .ref rk, .ref nm, .ref wy, .ref rs])) := ⟨List.mem_append_left _ (List.mem_append_left _ m_o), (hk o m_o n_orr n_osr).trans b_o⟩
      have f_sr : pt (((((((((([o] ++ [rr]) ++ [sr]) ++ [rk]) ++ [n0, n1, n2, n3, n4, n5, n6, n7]) ++ [nm]) ++ [pr]) ++ [wy]) ++ ([fr, pq, lf] ++ R12)) ++ [rs]) ++ R16 ++ zz X) F1 sr (eRS G 6 (fun k => (X.map Prod.fst)[k]?)) := ⟨List.mem_append_left _ (List.mem_append_left _ m_sr), hsr⟩
      refine lv_iload_n hx hb dX5_init_98 rfl (lv_at hl 1 rfl) ?_
      refine lv_aload_n hx hb dX5_init_99 rfl (lv_at hl 0 rfl) ?_
      refine h_get hx hb hE hw hts hinX5 hown (ci := 5) rfl 1 (by decide) lk_17 (fun _ h9 => h9) f_o rfl dX5_init_100 ?_
      refine h_ilen hx hb hE hw 3 rfl f_sr (v := 6) rfl dX5_init_103 ?_
      refine lv_icmp_ge (tgt := 126) hx hb dX5_init_104 (by decide) (fun c_104 => ?_) (fun c_104 => ?_)
      · skip
        have hX6 : X.length = 6 := by omega
        obtain ⟨r0, r1, r2, r3, r4, r5, r6, r7, r8, r9, r10, r11, r12, r13, r14, r15, rfl⟩ := of16 hR16
        obtain ⟨s0, s1, s2, s3, s4, s5, p0, p1, p2, p3, p4, p5, rfl⟩ := of6 hX6
        obtain ⟨t0, t1, t2, t3, t4, t5, t6, t7, t8, t9, t10, t11, rfl⟩ := of12 hR12
        have hw : wo G A s.heap [o, rr, sr, rk, n0, n1, n2, n3, n4, n5, n6, n7, nm, pr, wy, fr, pq, lf, t0, t1, t2, t3, t4, t5, t6, t7, t8, t9, t10, t11, rs, r0, r1, r2, r3, r4, r5, r6, r7, r8, r9, r10, r11, r12, r13, r14, r15, s0, p0, s1, p1, s2, p2, s3, p3, s4, p4, s5, p5] F1 H locs := hw
        obtain ⟨ad, had⟩ : ∃ ad : Nat → Nat, ad = fun i => [r0, r1, r2, r3, r4, r5, r6, r7, r8, r9, r10, r11, r12, r13, r14, r15, t0, t1, t2, t3, t4, t5, t6, t7, t8, t9, t10, t11, rs, n0, n1, n2, n3, n4, n5, n6, n7, pq, lf, s0, s1, s2, s3, s4, s5, p0, p1, p2, p3, p4, p5, o, rr, sr, rk, nm, wy, pr, fr].getD i 0 := ⟨_, rfl⟩
        have hcl : CL ad = [r0, r1, r2, r3, r4, r5, r6, r7, r8, r9, r10, r11, r12, r13, r14, r15, t0, t1, t2, t3, t4, t5, t6, t7, t8, t9, t10, t11, rs, n0, n1, n2, n3, n4, n5, n6, n7, pq, lf, s0, s1, s2, s3, s4, s5, p0, p1, p2, p3, p4, p5, o, rr, sr, rk, nm, wy, pr, fr] := by rw [had]; rfl
        have hpm : ([o, rr, sr, rk, n0, n1, n2, n3, n4, n5, n6, n7, nm, pr, wy, fr, pq, lf, t0, t1, t2, t3, t4, t5, t6, t7, t8, t9, t10, t11, rs, r0, r1, r2, r3, r4, r5, r6, r7, r8, r9, r10, r11, r12, r13, r14, r15, s0, p0, s1, p1, s2, p2, s3, p3, s4, p4, s5, p5] : List Nat).Perm (CL ad) := by rw [hcl]; exact gd_perm (l := [o, rr, sr, rk, n0, n1, n2, n3, n4, n5, n6, n7, nm, pr, wy, fr, pq, lf, t0, t1, t2, t3, t4, t5, t6, t7, t8, t9, t10, t11, rs, r0, r1, r2, r3, r4, r5, r6, r7, r8, r9, r10, r11, r12, r13, r14, r15, s0, p0, s1, p1, s2, p2, s3, p3, s4, p4, s5, p5]) (ps := [31, 32, 33, 34, 35, 36, 37, 38, 39, 40, 41, 42, 43, 44, 45, 46, 18, 19, 20, 21, 22, 23, 24, 25, 26, 27, 28, 29, 30, 4, 5, 6, 7, 8, 9, 10, 11, 16, 17, 47, 49, 51, 53, 55, 57, 48, 50, 52, 54, 56, 58, 0, 1, 2, 3, 12, 14, 13, 15]) (show List.Perm [31, 32, 33, 34, 35, 36, 37, 38, 39, 40, 41, 42, 43, 44, 45, 46, 18, 19, 20, 21, 22, 23, 24, 25, 26, 27, 28, 29, 30, 4, 5, 6, 7, 8, 9, 10, 11, 16, 17, 47, 49, 51, 53, 55, 57, 48, 50, 52, 54, 56, 58, 0, 1, 2, 3, 12, 14, 13, 15] (List.range 59) by decide)
        have hwc := wd_perm hw.1 hpm
        have hndc := wd_nd hwc
        have v_rk : F1 rk = .inr (2, [.ref n0, .ref n1, .ref n2, .ref n3, .ref n4, .ref n5, .ref n6, .ref n7]) := (hk rk d_rk.1 (pt_ap d_rk d_rr (fun h9 => absurd (show (2 : Nat) = 1163 from congrArg tg h9) (by decide))) (pt_ap d_rk d_sr (fun h9 => absurd (show (2 : Nat) = 1063 from congrArg tg h9) (by decide)))).trans d_rk.2
        have v_nm : F1 nm = .inr (0, [.ref pr]) := (hk nm d_nm.1 (pt_ap d_nm d_rr (fun h9 => absurd (show (0 : Nat) = 1163 from congrArg tg h9) (by decide))) (pt_ap d_nm d_sr (fun h9 => absurd (show (0 : Nat) = 1063 from congrArg tg h9) (by decide)))).trans d_nm.2
        have v_pr : F1 pr = eI G 801 pf := (hk pr d_pr.1 (pt_ap d_pr d_rr (fun h9 => absurd (show (9011 : Nat) = 1163 from congrArg tg h9) (by decide))) (pt_ap d_pr d_sr (fun h9 => absurd (show (9011 : Nat) = 1063 from congrArg tg h9) (by decide)))).trans d_pr.2
        have v_wy : F1 wy = .inr (4, [.ref fr, .ref pq, .ref lf, .int 0]) := (hk wy d_wy.1 (pt_ap d_wy d_rr (fun h9 => absurd (show (4 : Nat) = 1163 from congrArg tg h9) (by decide))) (pt_ap d_wy d_sr (fun h9 => absurd (show (4 : Nat) = 1063 from congrArg tg h9) (by decide)))).trans d_wy.2
        have v_fr : F1 fr = eRQ G 12 (fun k => [t0, t1, t2, t3, t4, t5, t6, t7, t8, t9, t10, t11][k]?) := (hk fr d_fr.1 (pt_ap d_fr d_rr (fun h9 => absurd (show (1123 : Nat) = 1163 from congrArg tg h9) (by decide))) (pt_ap d_fr d_sr (fun h9 => absurd (show (1123 : Nat) = 1063 from congrArg tg h9) (by decide)))).trans d_fr.2
        have v_pq : F1 pq = .inr (1, [.long 0, .long 0, .long 0, .long 0]) := (hk pq d_pq.1 (pt_ap d_pq d_rr (fun h9 => absurd (show (1 : Nat) = 1163 from congrArg tg h9) (by decide))) (pt_ap d_pq d_sr (fun h9 => absurd (show (1 : Nat) = 1063 from congrArg tg h9) (by decide)))).trans d_pq.2
        have v_lf : F1 lf = .inr (1, [.long 0, .long 0, .long 0, .long 0]) := (hk lf d_lf.1 (pt_ap d_lf d_rr (fun h9 => absurd (show (1 : Nat) = 1163 from congrArg tg h9) (by decide))) (pt_ap d_lf d_sr (fun h9 => absurd (show (1 : Nat) = 1063 from congrArg tg h9) (by decide)))).trans d_lf.2
        have v_rs : F1 rs = .inr (1, [.long 0, .long 0, .long 0, .long 0]) := (hk rs d_rs.1 (pt_ap d_rs d_rr (fun h9 => absurd (show (1 : Nat) = 1163 from congrArg tg h9) (by decide))) (pt_ap d_rs d_sr (fun h9 => absurd (show (1 : Nat) = 1063 from congrArg tg h9) (by decide)))).trans d_rs.2
        have v_o : F1 o = .inr (5, [.ref rr, .ref sr, .ref rk, .ref nm, .ref wy, .ref rs]) := (hk o d_o.1 (pt_ap d_o d_rr (fun h9 => absurd (show (5 : Nat) = 1163 from congrArg tg h9) (by decide))) (pt_ap d_o d_sr (fun h9 => absurd (show (5 : Nat) = 1063 from congrArg tg h9) (by decide)))).trans d_o.2
        have w_rkq : ∀ a, a ∈ [n0, n1, n2, n3, n4, n5, n6, n7] → F1 a = eq4 (0, 0, 0, 0) := fun a ha => (hk a (dl_rkq a ha).1 (pt_ap (dl_rkq a ha) d_rr (fun h9 => absurd (show (1 : Nat) = 1163 from congrArg tg h9) (by decide))) (pt_ap (dl_rkq a ha) d_sr (fun h9 => absurd (show (1 : Nat) = 1063 from congrArg tg h9) (by decide)))).trans (dl_rkq a ha).2
        have w_R12 : ∀ a, a ∈ [t0, t1, t2, t3, t4, t5, t6, t7, t8, t9, t10, t11] → F1 a = eq4 (0, 0, 0, 0) := fun a ha => (hk a (dl_R12 a ha).1 (pt_ap (dl_R12 a ha) d_rr (fun h9 => absurd (show (1 : Nat) = 1163 from congrArg tg h9) (by decide))) (pt_ap (dl_R12 a ha) d_sr (fun h9 => absurd (show (1 : Nat) = 1063 from congrArg tg h9) (by decide)))).trans (dl_R12 a ha).2
        have v_n0 := w_rkq n0 (by simp)
        have v_n1 := w_rkq n1 (by simp)
        have v_n2 := w_rkq n2 (by simp)
        have v_n3 := w_rkq n3 (by simp)
        have v_n4 := w_rkq n4 (by simp)
        have v_n5 := w_rkq n5 (by simp)
        have v_n6 := w_rkq n6 (by simp)
        have v_n7 := w_rkq n7 (by simp)
        have v_t0 := w_R12 t0 (by simp)
        have v_t1 := w_R12 t1 (by simp)
        have v_t2 := w_R12 t2 (by simp)
        have v_t3 := w_R12 t3 (by simp)
        have v_t4 := w_R12 t4 (by simp)
        have v_t5 := w_R12 t5 (by simp)
        have v_t6 := w_R12 t6 (by simp)
        have v_t7 := w_R12 t7 (by simp)
        have v_t8 := w_R12 t8 (by simp)
        have v_t9 := w_R12 t9 (by simp)
        have v_t10 := w_R12 t10 (by simp)
        have v_t11 := w_R12 t11 (by simp)
        have v_r0 := hR r0 (by simp)
        have v_r1 := hR r1 (by simp)
        have v_r2 := hR r2 (by simp)
        have v_r3 := hR r3 (by simp)
        have v_r4 := hR r4 (by simp)
        have v_r5 := hR r5 (by simp)
        have v_r6 := hR r6 (by simp)
        have v_r7 := hR r7 (by simp)
        have v_r8 := hR r8 (by simp)
        have v_r9 := hR r9 (by simp)
        have v_r10 := hR r10 (by simp)
        have v_r11 := hR r11 (by simp)
        have v_r12 := hR r12 (by simp)
        have v_r13 := hR r13 (by simp)
        have v_r14 := hR r14 (by simp)
        have v_r15 := hR r15 (by simp)
        obtain ⟨v_s0, v_p0⟩ := hX (s0, p0) (by simp)
        obtain ⟨v_s1, v_p1⟩ := hX (s1, p1) (by simp)
        obtain ⟨v_s2, v_p2⟩ := hX (s2, p2) (by simp)
        obtain ⟨v_s3, v_p3⟩ := hX (s3, p3) (by simp)
        obtain ⟨v_s4, v_p4⟩ := hX (s4, p4) (by simp)
        obtain ⟨v_s5, v_p5⟩ := hX (s5, p5) (by simp)
        have hwd := hwc
        have hwd := wd_re (a := rr) (e2 := eRQ G 16 (fun k => some (ad k))) hwd hrr (at_sameQ (n := 16) (fun k hk9 => by rcases (show k = 0 ∨ k = 1 ∨ k = 2 ∨ k = 3 ∨ k = 4 ∨ k = 5 ∨ k = 6 ∨ k = 7 ∨ k = 8 ∨ k = 9 ∨ k = 10 ∨ k = 11 ∨ k = 12 ∨ k = 13 ∨ k = 14 ∨ k = 15 by omega) with rfl | rfl | rfl | rfl | rfl | rfl | rfl | rfl | rfl | rfl | rfl | rfl | rfl | rfl | rfl | rfl <;> (rw [had]; rfl)))
        obtain ⟨K0, hK0⟩ : ∃ Fx : FM, Fx = va_up F1 rr (eRQ G 16 (fun k => some (ad k))) := ⟨_, rfl⟩
        rw [← hK0] at hwd
        have u0_r0 := (show K0 r0 = F1 r0 from by rw [hK0]; exact va_up_ne _ _ (ne_tg v_r0 hrr (show ¬ (1 : Nat) = 1163 by decide))).trans v_r0
        have u0_r1 := (show K0 r1 = F1 r1 from by rw [hK0]; exact va_up_ne _ _ (ne_tg v_r1 hrr (show ¬ (1 : Nat) = 1163 by decide))).trans v_r1
        have u0_r2 := (show K0 r2 = F1 r2 from by rw [hK0]; exact va_up_ne _ _ (ne_tg v_r2 hrr (show ¬ (1 : Nat) = 1163 by decide))).trans v_r2
        have u0_r3 := (show K0 r3 = F1 r3 from by rw [hK0]; exact va_up_ne _ _ (ne_tg v_r3 hrr (show ¬ (1 : Nat) = 1163 by decide))).trans v_r3
        have u0_r4 := (show K0 r4 = F1 r4 from by rw [hK0]; exact va_up_ne _ _ (ne_tg v_r4 hrr (show ¬ (1 : Nat) = 1163 by decide))).trans v_r4
        have u0_r5 := (show K0 r5 = F1 r5 from by rw [hK0]; exact va_up_ne _ _ (ne_tg v_r5 hrr (show ¬ (1 : Nat) = 1163 by decide))).trans v_r5
        have u0_r6 := (show K0 r6 = F1 r6 from by rw [hK0]; exact va_up_ne _ _ (ne_tg v_r6 hrr (show ¬ (1 : Nat) = 1163 by decide))).trans v_r6
        have u0_r7 := (show K0 r7 = F1 r7 from by rw [hK0]; exact va_up_ne _ _ (ne_tg v_r7 hrr (show ¬ (1 : Nat) = 1163 by decide))).trans v_r7
        have u0_r8 := (show K0 r8 = F1 r8 from by rw [hK0]; exact va_up_ne _ _ (ne_tg v_r8 hrr (show ¬ (1 : Nat) = 1163 by decide))).trans v_r8
        have u0_r9 := (show K0 r9 = F1 r9 from by rw [hK0]; exact va_up_ne _ _ (ne_tg v_r9 hrr (show ¬ (1 : Nat) = 1163 by decide))).trans v_r9
        have u0_r10 := (show K0 r10 = F1 r10 from by rw [hK0]; exact va_up_ne _ _ (ne_tg v_r10 hrr (show ¬ (1 : Nat) = 1163 by decide))).trans v_r10
        have u0_r11 := (show K0 r11 = F1 r11 from by rw [hK0]; exact va_up_ne _ _ (ne_tg v_r11 hrr (show ¬ (1 : Nat) = 1163 by decide))).trans v_r11
        have u0_r12 := (show K0 r12 = F1 r12 from by rw [hK0]; exact va_up_ne _ _ (ne_tg v_r12 hrr (show ¬ (1 : Nat) = 1163 by decide))).trans v_r12
        have u0_r13 := (show K0 r13 = F1 r13 from by rw [hK0]; exact va_up_ne _ _ (ne_tg v_r13 hrr (show ¬ (1 : Nat) = 1163 by decide))).trans v_r13
        have u0_r14 := (show K0 r14 = F1 r14 from by rw [hK0]; exact va_up_ne _ _ (ne_tg v_r14 hrr (show ¬ (1 : Nat) = 1163 by decide))).trans v_r14
        have u0_r15 := (show K0 r15 = F1 r15 from by rw [hK0]; exact va_up_ne _ _ (ne_tg v_r15 hrr (show ¬ (1 : Nat) = 1163 by decide))).trans v_r15
        have u0_t0 := (show K0 t0 = F1 t0 from by rw [hK0]; exact va_up_ne _ _ (ne_tg v_t0 hrr (show ¬ (1 : Nat) = 1163 by decide))).trans v_t0
        have u0_t1 := (show K0 t1 = F1 t1 from by rw [hK0]; exact va_up_ne _ _ (ne_tg v_t1 hrr (show ¬ (1 : Nat) = 1163 by decide))).trans v_t1
        have u0_t2 := (show K0 t2 = F1 t2 from by rw [hK0]; exact va_up_ne _ _ (ne_tg v_t2 hrr (show ¬ (1 : Nat) = 1163 by decide))).trans v_t2
        have u0_t3 := (show K0 t3 = F1 t3 from by rw [hK0]; exact va_up_ne _ _ (ne_tg v_t3 hrr (show ¬ (1 : Nat) = 1163 by decide))).trans v_t3
        have u0_t4 := (show K0 t4 = F1 t4 from by rw [hK0]; exact va_up_ne _ _ (ne_tg v_t4 hrr (show ¬ (1 : Nat) = 1163 by decide))).trans v_t4
        have u0_t5 := (show K0 t5 = F1 t5 from by rw [hK0]; exact va_up_ne _ _ (ne_tg v_t5 hrr (show ¬ (1 : Nat) = 1163 by decide))).trans v_t5
        have u0_t6 := (show K0 t6 = F1 t6 from by rw [hK0]; exact va_up_ne _ _ (ne_tg v_t6 hrr (show ¬ (1 : Nat) = 1163 by decide))).trans v_t6
        have u0_t7 := (show K0 t7 = F1 t7 from by rw [hK0]; exact va_up_ne _ _ (ne_tg v_t7 hrr (show ¬ (1 : Nat) = 1163 by decide))).trans v_t7
        have u0_t8 := (show K0 t8 = F1 t8 from by rw [hK0]; exact va_up_ne _ _ (ne_tg v_t8 hrr (show ¬ (1 : Nat) = 1163 by decide))).trans v_t8
        have u0_t9 := (show K0 t9 = F1 t9 from by rw [hK0]; exact va_up_ne _ _ (ne_tg v_t9 hrr (show ¬ (1 : Nat) = 1163 by decide))).trans v_t9
        have u0_t10 := (show K0 t10 = F1 t10 from by rw [hK0]; exact va_up_ne _ _ (ne_tg v_t10 hrr (show ¬ (1 : Nat) = 1163 by decide))).trans v_t10
        have u0_t11 := (show K0 t11 = F1 t11 from by rw [hK0]; exact va_up_ne _ _ (ne_tg v_t11 hrr (show ¬ (1 : Nat) = 1163 by decide))).trans v_t11
        have u0_rs := (show K0 rs = F1 rs from by rw [hK0]; exact va_up_ne _ _ (ne_tg v_rs hrr (show ¬ (1 : Nat) = 1163 by decide))).trans v_rs
        have u0_n0 := (show K0 n0 = F1 n0 from by rw [hK0]; exact va_up_ne _ _ (ne_tg v_n0 hrr (show ¬ (1 : Nat) = 1163 by decide))).trans v_n0
        have u0_n1 := (show K0 n1 = F1 n1 from by rw [hK0]; exact va_up_ne _ _ (ne_tg v_n1 hrr (show ¬ (1 : Nat) = 1163 by decide))).trans v_n1
        have u0_n2 := (show K0 n2 = F1 n2 from by rw [hK0]; exact va_up_ne _ _ (ne_tg v_n2 hrr (show ¬ (1 : Nat) = 1163 by decide))).trans v_n2
        have u0_n3 := (show K0 n3 = F1 n3 from by rw [hK0]; exact va_up_ne _ _ (ne_tg v_n3 hrr (show ¬ (1 : Nat) = 1163 by decide))).trans v_n3
        have u0_n4 := (show K0 n4 = F1 n4 from by rw [hK0]; exact va_up_ne _ _ (ne_tg v_n4 hrr (show ¬ (1 : Nat) = 1163 by decide))).trans v_n4
        have u0_n5 := (show K0 n5 = F1 n5 from by rw [hK0]; exact va_up_ne _ _ (ne_tg v_n5 hrr (show ¬ (1 : Nat) = 1163 by decide))).trans v_n5
        have u0_n6 := (show K0 n6 = F1 n6 from by rw [hK0]; exact va_up_ne _ _ (ne_tg v_n6 hrr (show ¬ (1 : Nat) = 1163 by decide))).trans v_n6
        have u0_n7 := (show K0 n7 = F1 n7 from by rw [hK0]; exact va_up_ne _ _ (ne_tg v_n7 hrr (show ¬ (1 : Nat) = 1163 by decide))).trans v_n7
        have u0_pq := (show K0 pq = F1 pq from by rw [hK0]; exact va_up_ne _ _ (ne_tg v_pq hrr (show ¬ (1 : Nat) = 1163 by decide))).trans v_pq
        have u0_lf := (show K0 lf = F1 lf from by rw [hK0]; exact va_up_ne _ _ (ne_tg v_lf hrr (show ¬ (1 : Nat) = 1163 by decide))).trans v_lf
        have u0_s0 := (show K0 s0 = F1 s0 from by rw [hK0]; exact va_up_ne _ _ (ne_tg v_s0 hrr (show ¬ (3 : Nat) = 1163 by decide))).trans v_s0
        have u0_s1 := (show K0 s1 = F1 s1 from by rw [hK0]; exact va_up_ne _ _ (ne_tg v_s1 hrr (show ¬ (3 : Nat) = 1163 by decide))).trans v_s1
        have u0_s2 := (show K0 s2 = F1 s2 from by rw [hK0]; exact va_up_ne _ _ (ne_tg v_s2 hrr (show ¬ (3 : Nat) = 1163 by decide))).trans v_s2
        have u0_s3 := (show K0 s3 = F1 s3 from by rw [hK0]; exact va_up_ne _ _ (ne_tg v_s3 hrr (show ¬ (3 : Nat) = 1163 by decide))).trans v_s3
        have u0_s4 := (show K0 s4 = F1 s4 from by rw [hK0]; exact va_up_ne _ _ (ne_tg v_s4 hrr (show ¬ (3 : Nat) = 1163 by decide))).trans v_s4
        have u0_s5 := (show K0 s5 = F1 s5 from by rw [hK0]; exact va_up_ne _ _ (ne_tg v_s5 hrr (show ¬ (3 : Nat) = 1163 by decide))).trans v_s5
        have u0_p0 := (show K0 p0 = F1 p0 from by rw [hK0]; exact va_up_ne _ _ (ne_tg v_p0 hrr (show ¬ (1162 : Nat) = 1163 by decide))).trans v_p0
        have u0_p1 := (show K0 p1 = F1 p1 from by rw [hK0]; exact va_up_ne _ _ (ne_tg v_p1 hrr (show ¬ (1162 : Nat) = 1163 by decide))).trans v_p1
        have u0_p2 := (show K0 p2 = F1 p2 from by rw [hK0]; exact va_up_ne _ _ (ne_tg v_p2 hrr (show ¬ (1162 : Nat) = 1163 by decide))).trans v_p2
        have u0_p3 := (show K0 p3 = F1 p3 from by rw [hK0]; exact va_up_ne _ _ (ne_tg v_p3 hrr (show ¬ (1162 : Nat) = 1163 by decide))).trans v_p3
        have u0_p4 := (show K0 p4 = F1 p4 from by rw [hK0]; exact va_up_ne _ _ (ne_tg v_p4 hrr (show ¬ (1162 : Nat) = 1163 by decide))).trans v_p4
        have u0_p5 := (show K0 p5 = F1 p5 from by rw [hK0]; exact va_up_ne _ _ (ne_tg v_p5 hrr (show ¬ (1162 : Nat) = 1163 by decide))).trans v_p5
        have u0_o := (show K0 o = F1 o from by rw [hK0]; exact va_up_ne _ _ (ne_tg v_o hrr (show ¬ (5 : Nat) = 1163 by decide))).trans v_o
        have u0_rr : K0 rr = eRQ G 16 (fun k => some (ad k)) := by rw [hK0]; exact va_up_self _ _ _
        have u0_sr := (show K0 sr = F1 sr from by rw [hK0]; exact va_up_ne _ _ (ne_tg hsr hrr (show ¬ (1063 : Nat) = 1163 by decide))).trans hsr
        have u0_rk := (show K0 rk = F1 rk from by rw [hK0]; exact va_up_ne _ _ (ne_tg v_rk hrr (show ¬ (2 : Nat) = 1163 by decide))).trans v_rk
        have u0_nm := (show K0 nm = F1 nm from by rw [hK0]; exact va_up_ne _ _ (ne_tg v_nm hrr (show ¬ (0 : Nat) = 1163 by decide))).trans v_nm
        have u0_wy := (show K0 wy = F1 wy from by rw [hK0]; exact va_up_ne _ _ (ne_tg v_wy hrr (show ¬ (4 : Nat) = 1163 by decide))).trans v_wy
        have u0_pr := (show K0 pr = F1 pr from by rw [hK0]; exact va_up_ne _ _ (ne_tg v_pr hrr (show ¬ (9011 : Nat) = 1163 by decide))).trans v_pr
        have u0_fr := (show K0 fr = F1 fr from by rw [hK0]; exact va_up_ne _ _ (ne_tg v_fr hrr (show ¬ (1123 : Nat) = 1163 by decide))).trans v_fr
        have hwd := wd_re (a := sr) (e2 := eRS G 6 (fun k => some (ad (39 + k)))) hwd u0_sr (at_sameS (n := 6) (fun k hk9 => by rcases (show k = 0 ∨ k = 1 ∨ k = 2 ∨ k = 3 ∨ k = 4 ∨ k = 5 by omega) with rfl | rfl | rfl | rfl | rfl | rfl <;> (rw [had]; rfl)))
        obtain ⟨K1, hK1⟩ : ∃ Fx : FM, Fx = va_up K0 sr (eRS G 6 (fun k => some (ad (39 + k)))) := ⟨_, rfl⟩
        rw [← hK1] at hwd
        have u1_r0 := (show K1 r0 = K0 r0 from by rw [hK1]; exact va_up_ne _ _ (ne_tg u0_r0 u0_sr (show ¬ (1 : Nat) = 1063 by decide))).trans u0_r0
        have u1_r1 := (show K1 r1 = K0 r1 from by rw [hK1]; exact va_up_ne _ _ (ne_tg u0_r1 u0_sr (show ¬ (1 : Nat) = 1063 by decide))).trans u0_r1
        have u1_r2 := (show K1 r2 = K0 r2 from by rw [hK1]; exact va_up_ne _ _ (ne_tg u0_r2 u0_sr (show ¬ (1 : Nat) = 1063 by decide))).trans u0_r2
        have u1_r3 := (show K1 r3 = K0 r3 from by rw [hK1]; exact va_up_ne _ _ (ne_tg u0_r3 u0_sr (show ¬ (1 : Nat) = 1063 by decide))).trans u0_r3
        have u1_r4 := (show K1 r4 = K0 r4 from by rw [hK1]; exact va_up_ne _ _ (ne_tg u0_r4 u0_sr (show ¬ (1 : Nat) = 1063 by decide))).trans u0_r4
        have u1_r5 := (show K1 r5 = K0 r5 from by rw [hK1]; exact va_up_ne _ _ (ne_tg u0_r5 u0_sr (show ¬ (1 : Nat) = 1063 by decide))).trans u0_r5
        have u1_r6 := (show K1 r6 = K0 r6 from by rw [hK1]; exact va_up_ne _ _ (ne_tg u0_r6 u0_sr (show ¬ (1 : Nat) = 1063 by decide))).trans u0_r6
        have u1_r7 := (show K1 r7 = K0 r7 from by rw [hK1]; exact va_up_ne _ _ (ne_tg u0_r7 u0_sr (show ¬ (1 : Nat) = 1063 by decide))).trans u0_r7
        have u1_r8 := (show K1 r8 = K0 r8 from by rw [hK1]; exact va_up_ne _ _ (ne_tg u0_r8 u0_sr (show ¬ (1 : Nat) = 1063 by decide))).trans u0_r8
        have u1_r9 := (show K1 r9 = K0 r9 from by rw [hK1]; exact va_up_ne _ _ (ne_tg u0_r9 u0_sr (show ¬ (1 : Nat) = 1063 by decide))).trans u0_r9
        have u1_r10 := (show K1 r10 = K0 r10 from by rw [hK1]; exact va_up_ne _ _ (ne_tg u0_r10 u0_sr (show ¬ (1 : Nat) = 1063 by decide))).trans u0_r10
        have u1_r11 := (show K1 r11 = K0 r11 from by rw [hK1]; exact va_up_ne _ _ (ne_tg u0_r11 u0_sr (show ¬ (1 : Nat) = 1063 by decide))).trans u0_r11
        have u1_r12 := (show K1 r12 = K0 r12 from by rw [hK1]; exact va_up_ne _ _ (ne_tg u0_r12 u0_sr (show ¬ (1 : Nat) = 1063 by decide))).trans u0_r12
        have u1_r13 := (show K1 r13 = K0 r13 from by rw [hK1]; exact va_up_ne _ _ (ne_tg u0_r13 u0_sr (show ¬ (1 : Nat) = 1063 by decide))).trans u0_r13
        have u1_r14 := (show K1 r14 = K0 r14 from by rw [hK1]; exact va_up_ne _ _ (ne_tg u0_r14 u0_sr (show ¬ (1 : Nat) = 1063 by decide))).trans u0_r14
        have u1_r15 := (show K1 r15 = K0 r15 from by rw [hK1]; exact va_up_ne _ _ (ne_tg u0_r15 u0_sr (show ¬ (1 : Nat) = 1063 by decide))).trans u0_r15
        have u1_t0 := (show K1 t0 = K0 t0 from by rw [hK1]; exact va_up_ne _ _ (ne_tg u0_t0 u0_sr (show ¬ (1 : Nat) = 1063 by decide))).trans u0_t0
        have u1_t1 := (show K1 t1 = K0 t1 from by rw [hK1]; exact va_up_ne _ _ (ne_tg u0_t1 u0_sr (show ¬ (1 : Nat) = 1063 by decide))).trans u0_t1
        have u1_t2 := (show K1 t2 = K0 t2 from by rw [hK1]; exact va_up_ne _ _ (ne_tg u0_t2 u0_sr (show ¬ (1 : Nat) = 1063 by decide))).trans u0_t2
        have u1_t3 := (show K1 t3 = K0 t3 from by rw [hK1]; exact va_up_ne _ _ (ne_tg u0_t3 u0_sr (show ¬ (1 : Nat) = 1063 by decide))).trans u0_t3
        have u1_t4 := (show K1 t4 = K0 t4 from by rw [hK1]; exact va_up_ne _ _ (ne_tg u0_t4 u0_sr (show ¬ (1 : Nat) = 1063 by decide))).trans u0_t4
        have u1_t5 := (show K1 t5 = K0 t5 from by rw [hK1]; exact va_up_ne _ _ (ne_tg u0_t5 u0_sr (show ¬ (1 : Nat) = 1063 by decide))).trans u0_t5
        have u1_t6 := (show K1 t6 = K0 t6 from by rw [hK1]; exact va_up_ne _ _ (ne_tg u0_t6 u0_sr (show ¬ (1 : Nat) = 1063 by decide))).trans u0_t6
        have u1_t7 := (show K1 t7 = K0 t7 from by rw [hK1]; exact va_up_ne _ _ (ne_tg u0_t7 u0_sr (show ¬ (1 : Nat) = 1063 by decide))).trans u0_t7
        have u1_t8 := (show K1 t8 = K0 t8 from by rw [hK1]; exact va_up_ne _ _ (ne_tg u0_t8 u0_sr (show ¬ (1 : Nat) = 1063 by decide))).trans u0_t8
        have u1_t9 := (show K1 t9 = K0 t9 from by rw [hK1]; exact va_up_ne _ _ (ne_tg u0_t9 u0_sr (show ¬ (1 : Nat) = 1063 by decide))).trans u0_t9
        have u1_t10 := (show K1 t10 = K0 t10 from by rw [hK1]; exact va_up_ne _ _ (ne_tg u0_t10 u0_sr (show ¬ (1 : Nat) = 1063 by decide))).trans u0_t10
        have u1_t11 := (show K1 t11 = K0 t11 from by rw [hK1]; exact va_up_ne _ _ (ne_tg u0_t11 u0_sr (show ¬ (1 : Nat) = 1063 by decide))).trans u0_t11
        have u1_rs := (show K1 rs = K0 rs from by rw [hK1]; exact va_up_ne _ _ (ne_tg u0_rs u0_sr (show ¬ (1 : Nat) = 1063 by decide))).trans u0_rs
        have u1_n0 := (show K1 n0 = K0 n0 from by rw [hK1]; exact va_up_ne _ _ (ne_tg u0_n0 u0_sr (show ¬ (1 : Nat) = 1063 by decide))).trans u0_n0
        have u1_n1 := (show K1 n1 = K0 n1 from by rw [hK1]; exact va_up_ne _ _ (ne_tg u0_n1 u0_sr (show ¬ (1 : Nat) = 1063 by decide))).trans u0_n1
        have u1_n2 := (show K1 n2 = K0 n2 from by rw [hK1]; exact va_up_ne _ _ (ne_tg u0_n2 u0_sr (show ¬ (1 : Nat) = 1063 by decide))).trans u0_n2
        have u1_n3 := (show K1 n3 = K0 n3 from by rw [hK1]; exact va_up_ne _ _ (ne_tg u0_n3 u0_sr (show ¬ (1 : Nat) = 1063 by decide))).trans u0_n3
        have u1_n4 := (show K1 n4 = K0 n4 from by rw [hK1]; exact va_up_ne _ _ (ne_tg u0_n4 u0_sr (show ¬ (1 : Nat) = 1063 by decide))).trans u0_n4
        have u1_n5 := (show K1 n5 = K0 n5 from by rw [hK1]; exact va_up_ne _ _ (ne_tg u0_n5 u0_sr (show ¬ (1 : Nat) = 1063 by decide))).trans u0_n5
        have u1_n6 := (show K1 n6 = K0 n6 from by rw [hK1]; exact va_up_ne _ _ (ne_tg u0_n6 u0_sr (show ¬ (1 : Nat) = 1063 by decide))).trans u0_n6
        have u1_n7 := (show K1 n7 = K0 n7 from by rw [hK1]; exact va_up_ne _ _ (ne_tg u0_n7 u0_sr (show ¬ (1 : Nat) = 1063 by decide))).trans u0_n7
        have u1_pq := (show K1 pq = K0 pq from by rw [hK1]; exact va_up_ne _ _ (ne_tg u0_pq u0_sr (show ¬ (1 : Nat) = 1063 by decide))).trans u0_pq
        have u1_lf := (show K1 lf = K0 lf from by rw [hK1]; exact va_up_ne _ _ (ne_tg u0_lf u0_sr (show ¬ (1 : Nat) = 1063 by decide))).trans u0_lf
        have u1_s0 := (show K1 s0 = K0 s0 from by rw [hK1]; exact va_up_ne _ _ (ne_tg u0_s0 u0_sr (show ¬ (3 : Nat) = 1063 by decide))).trans u0_s0
        have u1_s1 := (show K1 s1 = K0 s1 from by rw [hK1]; exact va_up_ne _ _ (ne_tg u0_s1 u0_sr (show ¬ (3 : Nat) = 1063 by decide))).trans u0_s1
        have u1_s2 := (show K1 s2 = K0 s2 from by rw [hK1]; exact va_up_ne _ _ (ne_tg u0_s2 u0_sr (show ¬ (3 : Nat) = 1063 by decide))).trans u0_s2
        have u1_s3 := (show K1 s3 = K0 s3 from by rw [hK1]; exact va_up_ne _ _ (ne_tg u0_s3 u0_sr (show ¬ (3 : Nat) = 1063 by decide))).trans u0_s3
        have u1_s4 := (show K1 s4 = K0 s4 from by rw [hK1]; exact va_up_ne _ _ (ne_tg u0_s4 u0_sr (show ¬ (3 : Nat) = 1063 by decide))).trans u0_s4
        have u1_s5 := (show K1 s5 = K0 s5 from by rw [hK1]; exact va_up_ne _ _ (ne_tg u0_s5 u0_sr (show ¬ (3 : Nat) = 1063 by decide))).trans u0_s5
        have u1_p0 := (show K1 p0 = K0 p0 from by rw [hK1]; exact va_up_ne _ _ (ne_tg u0_p0 u0_sr (show ¬ (1162 : Nat) = 1063 by decide))).trans u0_p0
        have u1_p1 := (show K1 p1 = K0 p1 from by rw [hK1]; exact va_up_ne _ _ (ne_tg u0_p1 u0_sr (show ¬ (1162 : Nat) = 1063 by decide))).trans u0_p1
        have u1_p2 := (show K1 p2 = K0 p2 from by rw [hK1]; exact va_up_ne _ _ (ne_tg u0_p2 u0_sr (show ¬ (1162 : Nat) = 1063 by decide))).trans u0_p2
        have u1_p3 := (show K1 p3 = K0 p3 from by rw [hK1]; exact va_up_ne _ _ (ne_tg u0_p3 u0_sr (show ¬ (1162 : Nat) = 1063 by decide))).trans u0_p3
        have u1_p4 := (show K1 p4 = K0 p4 from by rw [hK1]; exact va_up_ne _ _ (ne_tg u0_p4 u0_sr (show ¬ (1162 : Nat) = 1063 by decide))).trans u0_p4
        have u1_p5 := (show K1 p5 = K0 p5 from by rw [hK1]; exact va_up_ne _ _ (ne_tg u0_p5 u0_sr (show ¬ (1162 : Nat) = 1063 by decide))).trans u0_p5
        have u1_o := (show K1 o = K0 o from by rw [hK1]; exact va_up_ne _ _ (ne_tg u0_o u0_sr (show ¬ (5 : Nat) = 1063 by decide))).trans u0_o
        have u1_rr := (show K1 rr = K0 rr from by rw [hK1]; exact va_up_ne _ _ (ne_tg u0_rr u0_sr (show ¬ (1163 : Nat) = 1063 by decide))).trans u0_rr
        have u1_sr : K1 sr = eRS G 6 (fun k => some (ad (39 + k))) := by rw [hK1]; exact va_up_self _ _ _
        have u1_rk := (show K1 rk = K0 rk from by rw [hK1]; exact va_up_ne _ _ (ne_tg u0_rk u0_sr (show ¬ (2 : Nat) = 1063 by decide))).trans u0_rk
        have u1_nm := (show K1 nm = K0 nm from by rw [hK1]; exact va_up_ne _ _ (ne_tg u0_nm u0_sr (show ¬ (0 : Nat) = 1063 by decide))).trans u0_nm
        have u1_wy := (show K1 wy = K0 wy from by rw [hK1]; exact va_up_ne _ _ (ne_tg u0_wy u0_sr (show ¬ (4 : Nat) = 1063 by decide))).trans u0_wy
        have u1_pr := (show K1 pr = K0 pr from by rw [hK1]; exact va_up_ne _ _ (ne_tg u0_pr u0_sr (show ¬ (9011 : Nat) = 1063 by decide))).trans u0_pr
        have u1_fr := (show K1 fr = K0 fr from by rw [hK1]; exact va_up_ne _ _ (ne_tg u0_fr u0_sr (show ¬ (1123 : Nat) = 1063 by decide))).trans u0_fr
        have hwd := wd_re (a := fr) (e2 := eRQ G 12 (fun k => some (ad (16 + k)))) hwd u1_fr (at_sameQ (n := 12) (fun k hk9 => by rcases (show k = 0 ∨ k = 1 ∨ k = 2 ∨ k = 3 ∨ k = 4 ∨ k = 5 ∨ k = 6 ∨ k = 7 ∨ k = 8 ∨ k = 9 ∨ k = 10 ∨ k = 11 by omega) with rfl | rfl | rfl | rfl | rfl | rfl | rfl | rfl | rfl | rfl | rfl | rfl <;> (rw [had]; rfl)))
        obtain ⟨K2, hK2⟩ : ∃ Fx : FM, Fx = va_up K1 fr (eRQ G 12 (fun k => some (ad (16 + k)))) := ⟨_, rfl⟩
        rw [← hK2] at hwd
        have u2_r0 := (show K2 r0 = K1 r0 from by rw [hK2]; exact va_up_ne _ _ (ne_tg u1_r0 u1_fr (show ¬ (1 : Nat) = 1123 by decide))).trans u1_r0
        have u2_r1 := (show K2 r1 = K1 r1 from by rw [hK2]; exact va_up_ne _ _ (ne_tg u1_r1 u1_fr (show ¬ (1 : Nat) = 1123 by decide))).trans u1_r1
        have u2_r2 := (show K2 r2 = K1 r2 from by rw [hK2]; exact va_up_ne _ _ (ne_tg u1_r2 u1_fr (show ¬ (1 : Nat) = 1123 by decide))).trans u1_r2
        have u2_r3 := (show K2 r3 = K1 r3 from by rw [hK2]; exact va_up_ne _ _ (ne_tg u1_r3 u1_fr (show ¬ (1 : Nat) = 1123 by decide))).trans u1_r3
        have u2_r4 := (show K2 r4 = K1 r4 from by rw [hK2]; exact va_up_ne _ _ (ne_tg u1_r4 u1_fr (show ¬ (1 : Nat) = 1123 by decide))).trans u1_r4
        have u2_r5 := (show K2 r5 = K1 r5 from by rw [hK2]; exact va_up_ne _ _ (ne_tg u1_r5 u1_fr (show ¬ (1 : Nat) = 1123 by decide))).trans u1_r5
        have u2_r6 := (show K2 r6 = K1 r6 from by rw [hK2]; exact va_up_ne _ _ (ne_tg u1_r6 u1_fr (show ¬ (1 : Nat) = 1123 by decide))).trans u1_r6
        have u2_r7 := (show K2 r7 = K1 r7 from by rw [hK2]; exact va_up_ne _ _ (ne_tg u1_r7 u1_fr (show ¬ (1 : Nat) = 1123 by decide))).trans u1_r7
        have u2_r8 := (show K2 r8 = K1 r8 from by rw [hK2]; exact va_up_ne _ _ (ne_tg u1_r8 u1_fr (show ¬ (1 : Nat) = 1123 by decide))).trans u1_r8
        have u2_r9 := (show K2 r9 = K1 r9 from by rw [hK2]; exact va_up_ne _ _ (ne_tg u1_r9 u1_fr (show ¬ (1 : Nat) = 1123 by decide))).trans u1_r9
        have u2_r10 := (show K2 r10 = K1 r10 from by rw [hK2]; exact va_up_ne _ _ (ne_tg u1_r10 u1_fr (show ¬ (1 : Nat) = 1123 by decide))).trans u1_r10
        have u2_r11 := (show K2 r11 = K1 r11 from by rw [hK2]; exact va_up_ne _ _ (ne_tg u1_r11 u1_fr (show ¬ (1 : Nat) = 1123 by decide))).trans u1_r11
        have u2_r12 := (show K2 r12 = K1 r12 from by rw [hK2]; exact va_up_ne _ _ (ne_tg u1_r12 u1_fr (show ¬ (1 : Nat) = 1123 by decide))).trans u1_r12
        have u2_r13 := (show K2 r13 = K1 r13 from by rw [hK2]; exact va_up_ne _ _ (ne_tg u1_r13 u1_fr (show ¬ (1 : Nat) = 1123 by decide))).trans u1_r13
        have u2_r14 := (show K2 r14 = K1 r14 from by rw [hK2]; exact va_up_ne _ _ (ne_tg u1_r14 u1_fr (show ¬ (1 : Nat) = 1123 by decide))).trans u1_r14
        have u2_r15 := (show K2 r15 = K1 r15 from by rw [hK2]; exact va_up_ne _ _ (ne_tg u1_r15 u1_fr (show ¬ (1 : Nat) = 1123 by decide))).trans u1_r15
        have u2_t0 := (show K2 t0 = K1 t0 from by rw [hK2]; exact va_up_ne _ _ (ne_tg u1_t0 u1_fr (show ¬ (1 : Nat) = 1123 by decide))).trans u1_t0
        have u2_t1 := (show K2 t1 = K1 t1 from by rw [hK2]; exact va_up_ne _ _ (ne_tg u1_t1 u1_fr (show ¬ (1 : Nat) = 1123 by decide))).trans u1_t1
        have u2_t2 := (show K2 t2 = K1 t2 from by rw [hK2]; exact va_up_ne _ _ (ne_tg u1_t2 u1_fr (show ¬ (1 : Nat) = 1123 by decide))).trans u1_t2
        have u2_t3 := (show K2 t3 = K1 t3 from by rw [hK2]; exact va_up_ne _ _ (ne_tg u1_t3 u1_fr (show ¬ (1 : Nat) = 1123 by decide))).trans u1_t3
        have u2_t4 := (show K2 t4 = K1 t4 from by rw [hK2]; exact va_up_ne _ _ (ne_tg u1_t4 u1_fr (show ¬ (1 : Nat) = 1123 by decide))).trans u1_t4
        have u2_t5 := (show K2 t5 = K1 t5 from by rw [hK2]; exact va_up_ne _ _ (ne_tg u1_t5 u1_fr (show ¬ (1 : Nat) = 1123 by decide))).trans u1_t5
        have u2_t6 := (show K2 t6 = K1 t6 from by rw [hK2]; exact va_up_ne _ _ (ne_tg u1_t6 u1_fr (show ¬ (1 : Nat) = 1123 by decide))).trans u1_t6
        have u2_t7 := (show K2 t7 = K1 t7 from by rw [hK2]; exact va_up_ne _ _ (ne_tg u1_t7 u1_fr (show ¬ (1 : Nat) = 1123 by decide))).trans u1_t7
        have u2_t8 := (show K2 t8 = K1 t8 from by rw [hK2]; exact va_up_ne _ _ (ne_tg u1_t8 u1_fr (show ¬ (1 : Nat) = 1123 by decide))).trans u1_t8
        have u2_t9 := (show K2 t9 = K1 t9 from by rw [hK2]; exact va_up_ne _ _ (ne_tg u1_t9 u1_fr (show ¬ (1 : Nat) = 1123 by decide))).trans u1_t9
        have u2_t10 := (show K2 t10 = K1 t10 from by rw [hK2]; exact va_up_ne _ _ (ne_tg u1_t10 u1_fr (show ¬ (1 : Nat) = 1123 by decide))).trans u1_t10
        have u2_t11 := (show K2 t11 = K1 t11 from by rw [hK2]; exact va_up_ne _ _ (ne_tg u1_t11 u1_fr (show ¬ (1 : Nat) = 1123 by decide))).trans u1_t11
        have u2_rs := (show K2 rs = K1 rs from by rw [hK2]; exact va_up_ne _ _ (ne_tg u1_rs u1_fr (show ¬ (1 : Nat) = 1123 by decide))).trans u1_rs
        have u2_n0 := (show K2 n0 = K1 n0 from by rw [hK2]; exact va_up_ne _ _ (ne_tg u1_n0 u1_fr (show ¬ (1 : Nat) = 1123 by decide))).trans u1_n0
        have u2_n1 := (show K2 n1 = K1 n1 from by rw [hK2]; exact va_up_ne _ _ (ne_tg u1_n1 u1_fr (show ¬ (1 : Nat) = 1123 by decide))).trans u1_n1
        have u2_n2 := (show K2 n2 = K1 n2 from by rw [hK2]; exact va_up_ne _ _ (ne_tg u1_n2 u1_fr (show ¬ (1 : Nat) = 1123 by decide))).trans u1_n2
        have u2_n3 := (show K2 n3 = K1 n3 from by rw [hK2]; exact va_up_ne _ _ (ne_tg u1_n3 u1_fr (show ¬ (1 : Nat) = 1123 by decide))).trans u1_n3
        have u2_n4 := (show K2 n4 = K1 n4 from by rw [hK2]; exact va_up_ne _ _ (ne_tg u1_n4 u1_fr (show ¬ (1 : Nat) = 1123 by decide))).trans u1_n4
        have u2_n5 := (show K2 n5 = K1 n5 from by rw [hK2]; exact va_up_ne _ _ (ne_tg u1_n5 u1_fr (show ¬ (1 : Nat) = 1123 by decide))).trans u1_n5
        have u2_n6 := (show K2 n6 = K1 n6 from by rw [hK2]; exact va_up_ne _ _ (ne_tg u1_n6 u1_fr (show ¬ (1 : Nat) = 1123 by decide))).trans u1_n6
        have u2_n7 := (show K2 n7 = K1 n7 from by rw [hK2]; exact va_up_ne _ _ (ne_tg u1_n7 u1_fr (show ¬ (1 : Nat) = 1123 by decide))).trans u1_n7
        have u2_pq := (show K2 pq = K1 pq from by rw [hK2]; exact va_up_ne _ _ (ne_tg u1_pq u1_fr (show ¬ (1 : Nat) = 1123 by decide))).trans u1_pq
        have u2_lf := (show K2 lf = K1 lf from by rw [hK2]; exact va_up_ne _ _ (ne_tg u1_lf u1_fr (show ¬ (1 : Nat) = 1123 by decide))).trans u1_lf
        have u2_s0 := (show K2 s0 = K1 s0 from by rw [hK2]; exact va_up_ne _ _ (ne_tg u1_s0 u1_fr (show ¬ (3 : Nat) = 1123 by decide))).trans u1_s0
        have u2_s1 := (show K2 s1 = K1 s1 from by rw [hK2]; exact va_up_ne _ _ (ne_tg u1_s1 u1_fr (show ¬ (3 : Nat) = 1123 by decide))).trans u1_s1
        have u2_s2 := (show K2 s2 = K1 s2 from by rw [hK2]; exact va_up_ne _ _ (ne_tg u1_s2 u1_fr (show ¬ (3 : Nat) = 1123 by decide))).trans u1_s2
        have u2_s3 := (show K2 s3 = K1 s3 from by rw [hK2]; exact va_up_ne _ _ (ne_tg u1_s3 u1_fr (show ¬ (3 : Nat) = 1123 by decide))).trans u1_s3
        have u2_s4 := (show K2 s4 = K1 s4 from by rw [hK2]; exact va_up_ne _ _ (ne_tg u1_s4 u1_fr (show ¬ (3 : Nat) = 1123 by decide))).trans u1_s4
        have u2_s5 := (show K2 s5 = K1 s5 from by rw [hK2]; exact va_up_ne _ _ (ne_tg u1_s5 u1_fr (show ¬ (3 : Nat) = 1123 by decide))).trans u1_s5
        have u2_p0 := (show K2 p0 = K1 p0 from by rw [hK2]; exact va_up_ne _ _ (ne_tg u1_p0 u1_fr (show ¬ (1162 : Nat) = 1123 by decide))).trans u1_p0
        have u2_p1 := (show K2 p1 = K1 p1 from by rw [hK2]; exact va_up_ne _ _ (ne_tg u1_p1 u1_fr (show ¬ (1162 : Nat) = 1123 by decide))).trans u1_p1
        have u2_p2 := (show K2 p2 = K1 p2 from by rw [hK2]; exact va_up_ne _ _ (ne_tg u1_p2 u1_fr (show ¬ (1162 : Nat) = 1123 by decide))).trans u1_p2
        have u2_p3 := (show K2 p3 = K1 p3 from by rw [hK2]; exact va_up_ne _ _ (ne_tg u1_p3 u1_fr (show ¬ (1162 : Nat) = 1123 by decide))).trans u1_p3
        have u2_p4 := (show K2 p4 = K1 p4 from by rw [hK2]; exact va_up_ne _ _ (ne_tg u1_p4 u1_fr (show ¬ (1162 : Nat) = 1123 by decide))).trans u1_p4
        have u2_p5 := (show K2 p5 = K1 p5 from by rw [hK2]; exact va_up_ne _ _ (ne_tg u1_p5 u1_fr (show ¬ (1162 : Nat) = 1123 by decide))).trans u1_p5
        have u2_o := (show K2 o = K1 o from by rw [hK2]; exact va_up_ne _ _ (ne_tg u1_o u1_fr (show ¬ (5 : Nat) = 1123 by decide))).trans u1_o
        have u2_rr := (show K2 rr = K1 rr from by rw [hK2]; exact va_up_ne _ _ (ne_tg u1_rr u1_fr (show ¬ (1163 : Nat) = 1123 by decide))).trans u1_rr
        have u2_sr := (show K2 sr = K1 sr from by rw [hK2]; exact va_up_ne _ _ (ne_tg u1_sr u1_fr (show ¬ (1063 : Nat) = 1123 by decide))).trans u1_sr
        have u2_rk := (show K2 rk = K1 rk from by rw [hK2]; exact va_up_ne _ _ (ne_tg u1_rk u1_fr (show ¬ (2 : Nat) = 1123 by decide))).trans u1_rk
        have u2_nm := (show K2 nm = K1 nm from by rw [hK2]; exact va_up_ne _ _ (ne_tg u1_nm u1_fr (show ¬ (0 : Nat) = 1123 by decide))).trans u1_nm
        have u2_wy := (show K2 wy = K1 wy from by rw [hK2]; exact va_up_ne _ _ (ne_tg u1_wy u1_fr (show ¬ (4 : Nat) = 1123 by decide))).trans u1_wy
        have u2_pr := (show K2 pr = K1 pr from by rw [hK2]; exact va_up_ne _ _ (ne_tg u1_pr u1_fr (show ¬ (9011 : Nat) = 1123 by decide))).trans u1_pr
        have u2_fr : K2 fr = eRQ G 12 (fun k => some (ad (16 + k))) := by rw [hK2]; exact va_up_self _ _ _
        have hwd := wd_re (a := pr) (e2 := eI G 801 prs) hwd u2_pr (at_sameI (n := 801) (fun k hk9 => hpf k hk9))
        obtain ⟨K3, hK3⟩ : ∃ Fx : FM, Fx = va_up K2 pr (eI G 801 prs) := ⟨_, rfl⟩
        rw [← hK3] at hwd
        have u3_r0 := (show K3 r0 = K2 r0 from by rw [hK3]; exact va_up_ne _ _ (ne_tg u2_r0 u2_pr (show ¬ (1 : Nat) = 9011 by decide))).trans u2_r0
        have u3_r1 := (show K3 r1 = K2 r1 from by rw [hK3]; exact va_up_ne _ _ (ne_tg u2_r1 u2_pr (show ¬ (1 : Nat) = 9011 by decide))).trans u2_r1
        have u3_r2 := (show K3 r2 = K2 r2 from by rw [hK3]; exact va_up_ne _ _ (ne_tg u2_r2 u2_pr (show ¬ (1 : Nat) = 9011 by decide))).trans u2_r2
        have u3_r3 := (show K3 r3 = K2 r3 from by rw [hK3]; exact va_up_ne _ _ (ne_tg u2_r3 u2_pr (show ¬ (1 : Nat) = 9011 by decide))).trans u2_r3
        have u3_r4 := (show K3 r4 = K2 r4 from by rw [hK3]; exact va_up_ne _ _ (ne_tg u2_r4 u2_pr (show ¬ (1 : Nat) = 9011 by decide))).trans u2_r4
        have u3_r5 := (show K3 r5 = K2 r5 from by rw [hK3]; exact va_up_ne _ _ (ne_tg u2_r5 u2_pr (show ¬ (1 : Nat) = 9011 by decide))).trans u2_r5
        have u3_r6 := (show K3 r6 = K2 r6 from by rw [hK3]; exact va_up_ne _ _ (ne_tg u2_r6 u2_pr (show ¬ (1 : Nat) = 9011 by decide))).trans u2_r6
        have u3_r7 := (show K3 r7 = K2 r7 from by rw [hK3]; exact va_up_ne _ _ (ne_tg u2_r7 u2_pr (show ¬ (1 : Nat) = 9011 by decide))).trans u2_r7
        have u3_r8 := (show K3 r8 = K2 r8 from by rw [hK3]; exact va_up_ne _ _ (ne_tg u2_r8 u2_pr (show ¬ (1 : Nat) = 9011 by decide))).trans u2_r8
        have u3_r9 := (show K3 r9 = K2 r9 from by rw [hK3]; exact va_up_ne _ _ (ne_tg u2_r9 u2_pr (show ¬ (1 : Nat) = 9011 by decide))).trans u2_r9
        have u3_r10 := (show K3 r10 = K2 r10 from by rw [hK3]; exact va_up_ne _ _ (ne_tg u2_r10 u2_pr (show ¬ (1 : Nat) = 9011 by decide))).trans u2_r10
        have u3_r11 := (show K3 r11 = K2 r11 from by rw [hK3]; exact va_up_ne _ _ (ne_tg u2_r11 u2_pr (show ¬ (1 : Nat) = 9011 by decide))).trans u2_r11
        have u3_r12 := (show K3 r12 = K2 r12 from by rw [hK3]; exact va_up_ne _ _ (ne_tg u2_r12 u2_pr (show ¬ (1 : Nat) = 9011 by decide))).trans u2_r12
        have u3_r13 := (show K3 r13 = K2 r13 from by rw [hK3]; exact va_up_ne _ _ (ne_tg u2_r13 u2_pr (show ¬ (1 : Nat) = 9011 by decide))).trans u2_r13
        have u3_r14 := (show K3 r14 = K2 r14 from by rw [hK3]; exact va_up_ne _ _ (ne_tg u2_r14 u2_pr (show ¬ (1 : Nat) = 9011 by decide))).trans u2_r14
        have u3_r15 := (show K3 r15 = K2 r15 from by rw [hK3]; exact va_up_ne _ _ (ne_tg u2_r15 u2_pr (show ¬ (1 : Nat) = 9011 by decide))).trans u2_r15
        have u3_t0 := (show K3 t0 = K2 t0 from by rw [hK3]; exact va_up_ne _ _ (ne_tg u2_t0 u2_pr (show ¬ (1 : Nat) = 9011 by decide))).trans u2_t0
        have u3_t1 := (show K3 t1 = K2 t1 from by rw [hK3]; exact va_up_ne _ _ (ne_tg u2_t1 u2_pr (show ¬ (1 : Nat) = 9011 by decide))).trans u2_t1
        have u3_t2 := (show K3 t2 = K2 t2 from by rw [hK3]; exact va_up_ne _ _ (ne_tg u2_t2 u2_pr (show ¬ (1 : Nat) = 9011 by decide))).trans u2_t2
        have u3_t3 := (show K3 t3 = K2 t3 from by rw [hK3]; exact va_up_ne _ _ (ne_tg u2_t3 u2_pr (show ¬ (1 : Nat) = 9011 by decide))).trans u2_t3
        have u3_t4 := (show K3 t4 = K2 t4 from by rw [hK3]; exact va_up_ne _ _ (ne_tg u2_t4 u2_pr (show ¬ (1 : Nat) = 9011 by decide))).trans u2_t4
        have u3_t5 := (show K3 t5 = K2 t5 from by rw [hK3]; exact va_up_ne _ _ (ne_tg u2_t5 u2_pr (show ¬ (1 : Nat) = 9011 by decide))).trans u2_t5
        have u3_t6 := (show K3 t6 = K2 t6 from by rw [hK3]; exact va_up_ne _ _ (ne_tg u2_t6 u2_pr (show ¬ (1 : Nat) = 9011 by decide))).trans u2_t6
        have u3_t7 := (show K3 t7 = K2 t7 from by rw [hK3]; exact va_up_ne _ _ (ne_tg u2_t7 u2_pr (show ¬ (1 : Nat) = 9011 by decide))).trans u2_t7
        have u3_t8 := (show K3 t8 = K2 t8 from by rw [hK3]; exact va_up_ne _ _ (ne_tg u2_t8 u2_pr (show ¬ (1 : Nat) = 9011 by decide))).trans u2_t8
        have u3_t9 := (show K3 t9 = K2 t9 from by rw [hK3]; exact va_up_ne _ _ (ne_tg u2_t9 u2_pr (show ¬ (1 : Nat) = 9011 by decide))).trans u2_t9
        have u3_t10 := (show K3 t10 = K2 t10 from by rw [hK3]; exact va_up_ne _ _ (ne_tg u2_t10 u2_pr (show ¬ (1 : Nat) = 9011 by decide))).trans u2_t10
        have u3_t11 := (show K3 t11 = K2 t11 from by rw [hK3]; exact va_up_ne _ _ (ne_tg u2_t11 u2_pr (show ¬ (1 : Nat) = 9011 by decide))).trans u2_t11
        have u3_rs := (show K3 rs = K2 rs from by rw [hK3]; exact va_up_ne _ _ (ne_tg u2_rs u2_pr (show ¬ (1 : Nat) = 9011 by decide))).trans u2_rs
        have u3_n0 := (show K3 n0 = K2 n0 from by rw [hK3]; exact va_up_ne _ _ (ne_tg u2_n0 u2_pr (show ¬ (1 : Nat) = 9011 by decide))).trans u2_n0
        have u3_n1 := (show K3 n1 = K2 n1 from by rw [hK3]; exact va_up_ne _ _ (ne_tg u2_n1 u2_pr (show ¬ (1 : Nat) = 9011 by decide))).trans u2_n1
        have u3_n2 := (show K3 n2 = K2 n2 from by rw [hK3]; exact va_up_ne _ _ (ne_tg u2_n2 u2_pr (show ¬ (1 : Nat) = 9011 by decide))).trans u2_n2
        have u3_n3 := (show K3 n3 = K2 n3 from by rw [hK3]; exact va_up_ne _ _ (ne_tg u2_n3 u2_pr (show ¬ (1 : Nat) = 9011 by decide))).trans u2_n3
        have u3_n4 := (show K3 n4 = K2 n4 from by rw [hK3]; exact va_up_ne _ _ (ne_tg u2_n4 u2_pr (show ¬ (1 : Nat) = 9011 by decide))).trans u2_n4
        have u3_n5 := (show K3 n5 = K2 n5 from by rw [hK3]; exact va_up_ne _ _ (ne_tg u2_n5 u2_pr (show ¬ (1 : Nat) = 9011 by decide))).trans u2_n5
        have u3_n6 := (show K3 n6 = K2 n6 from by rw [hK3]; exact va_up_ne _ _ (ne_tg u2_n6 u2_pr (show ¬ (1 : Nat) = 9011 by decide))).trans u2_n6
        have u3_n7 := (show K3 n7 = K2 n7 from by rw [hK3]; exact va_up_ne _ _ (ne_tg u2_n7 u2_pr (show ¬ (1 : Nat) = 9011 by decide))).trans u2_n7
        have u3_pq := (show K3 pq = K2 pq from by rw [hK3]; exact va_up_ne _ _ (ne_tg u2_pq u2_pr (show ¬ (1 : Nat) = 9011 by decide))).trans u2_pq
        have u3_lf := (show K3 lf = K2 lf from by rw [hK3]; exact va_up_ne _ _ (ne_tg u2_lf u2_pr (show ¬ (1 : Nat) = 9011 by decide))).trans u2_lf
        have u3_s0 := (show K3 s0 = K2 s0 from by rw [hK3]; exact va_up_ne _ _ (ne_tg u2_s0 u2_pr (show ¬ (3 : Nat) = 9011 by decide))).trans u2_s0
        have u3_s1 := (show K3 s1 = K2 s1 from by rw [hK3]; exact va_up_ne _ _ (ne_tg u2_s1 u2_pr (show ¬ (3 : Nat) = 9011 by decide))).trans u2_s1
        have u3_s2 := (show K3 s2 = K2 s2 from by rw [hK3]; exact va_up_ne _ _ (ne_tg u2_s2 u2_pr (show ¬ (3 : Nat) = 9011 by decide))).trans u2_s2
        have u3_s3 := (show K3 s3 = K2 s3 from by rw [hK3]; exact va_up_ne _ _ (ne_tg u2_s3 u2_pr (show ¬ (3 : Nat) = 9011 by decide))).trans u2_s3
        have u3_s4 := (show K3 s4 = K2 s4 from by rw [hK3]; exact va_up_ne _ _ (ne_tg u2_s4 u2_pr (show ¬ (3 : Nat) = 9011 by decide))).trans u2_s4
        have u3_s5 := (show K3 s5 = K2 s5 from by rw [hK3]; exact va_up_ne _ _ (ne_tg u2_s5 u2_pr (show ¬ (3 : Nat) = 9011 by decide))).trans u2_s5
        have u3_p0 := (show K3 p0 = K2 p0 from by rw [hK3]; exact va_up_ne _ _ (ne_tg u2_p0 u2_pr (show ¬ (1162 : Nat) = 9011 by decide))).trans u2_p0
        have u3_p1 := (show K3 p1 = K2 p1 from by rw [hK3]; exact va_up_ne _ _ (ne_tg u2_p1 u2_pr (show ¬ (1162 : Nat) = 9011 by decide))).trans u2_p1
        have u3_p2 := (show K3 p2 = K2 p2 from by rw [hK3]; exact va_up_ne _ _ (ne_tg u2_p2 u2_pr (show ¬ (1162 : Nat) = 9011 by decide))).trans u2_p2
        have u3_p3 := (show K3 p3 = K2 p3 from by rw [hK3]; exact va_up_ne _ _ (ne_tg u2_p3 u2_pr (show ¬ (1162 : Nat) = 9011 by decide))).trans u2_p3
        have u3_p4 := (show K3 p4 = K2 p4 from by rw [hK3]; exact va_up_ne _ _ (ne_tg u2_p4 u2_pr (show ¬ (1162 : Nat) = 9011 by decide))).trans u2_p4
        have u3_p5 := (show K3 p5 = K2 p5 from by rw [hK3]; exact va_up_ne _ _ (ne_tg u2_p5 u2_pr (show ¬ (1162 : Nat) = 9011 by decide))).trans u2_p5
        have u3_o := (show K3 o = K2 o from by rw [hK3]; exact va_up_ne _ _ (ne_tg u2_o u2_pr (show ¬ (5 : Nat) = 9011 by decide))).trans u2_o
        have u3_rr := (show K3 rr = K2 rr from by rw [hK3]; exact va_up_ne _ _ (ne_tg u2_rr u2_pr (show ¬ (1163 : Nat) = 9011 by decide))).trans u2_rr
        have u3_sr := (show K3 sr = K2 sr from by rw [hK3]; exact va_up_ne _ _ (ne_tg u2_sr u2_pr (show ¬ (1063 : Nat) = 9011 by decide))).trans u2_sr
        have u3_rk := (show K3 rk = K2 rk from by rw [hK3]; exact va_up_ne _ _ (ne_tg u2_rk u2_pr (show ¬ (2 : Nat) = 9011 by decide))).trans u2_rk
        have u3_nm := (show K3 nm = K2 nm from by rw [hK3]; exact va_up_ne _ _ (ne_tg u2_nm u2_pr (show ¬ (0 : Nat) = 9011 by decide))).trans u2_nm
        have u3_wy := (show K3 wy = K2 wy from by rw [hK3]; exact va_up_ne _ _ (ne_tg u2_wy u2_pr (show ¬ (4 : Nat) = 9011 by decide))).trans u2_wy
        have u3_pr : K3 pr = eI G 801 prs := by rw [hK3]; exact va_up_self _ _ _
        have u3_fr := (show K3 fr = K2 fr from by rw [hK3]; exact va_up_ne _ _ (ne_tg u2_fr u2_pr (show ¬ (1123 : Nat) = 9011 by decide))).trans u2_fr
        have hCW : CW G ad S0 K3 := by
          refine ⟨fun i j hi hj hij => ?_, fun i hi => ?_⟩
          · have e1 : (CL ad)[i]? = some (ad i) := by simp [hi]
            have e2 : (CL ad)[j]? = some (ad j) := by simp [hj]
            have hlen : (CL ad).length = 59 := by simp
            have hpw := List.pairwise_iff_getElem.mp (List.nodup_iff_pairwise_ne.mp hndc)
            have g1 : (CL ad)[i]'(by rw [hlen]; exact hi) = ad i := (List.getElem?_eq_some_iff.mp e1).2
            have g2 : (CL ad)[j]'(by rw [hlen]; exact hj) = ad j := (List.getElem?_eq_some_iff.mp e2).2
            rcases Nat.lt_trichotomy i j with w | w | w
            · exact absurd (g1.trans (hij.trans g2.symm)) (hpw i j (by rw [hlen]; exact hi) (by rw [hlen]; exact hj) w)
            · exact w
            · exact absurd (g2.trans (hij.symm.trans g1.symm)) (hpw j i (by rw [hlen]; exact hj) (by rw [hlen]; exact hi) w)
          · subst had
            rcases (show i = 0 ∨ i = 1 ∨ i = 2 ∨ i = 3 ∨ i = 4 ∨ i = 5 ∨ i = 6 ∨ i = 7 ∨ i = 8 ∨ i = 9 ∨ i = 10 ∨ i = 11 ∨ i = 12 ∨ i = 13 ∨ i = 14 ∨ i = 15 ∨ i = 16 ∨ i = 17 ∨ i = 18 ∨ i = 19 ∨ i = 20 ∨ i = 21 ∨ i = 22 ∨ i = 23 ∨ i = 24 ∨ i = 25 ∨ i = 26 ∨ i = 27 ∨ i = 28 ∨ i = 29 ∨ i = 30 ∨ i = 31 ∨ i = 32 ∨ i = 33 ∨ i = 34 ∨ i = 35 ∨ i = 36 ∨ i = 37 ∨ i = 38 ∨ i = 39 ∨ i = 40 ∨ i = 41 ∨ i = 42 ∨ i = 43 ∨ i = 44 ∨ i = 45 ∨ i = 46 ∨ i = 47 ∨ i = 48 ∨ i = 49 ∨ i = 50 ∨ i = 51 ∨ i = 52 ∨ i = 53 ∨ i = 54 ∨ i = 55 ∨ i = 56 ∨ i = 57 ∨ i = 58 by omega) with rfl | rfl | rfl | rfl | rfl | rfl | rfl | rfl | rfl | rfl | rfl | rfl | rfl | rfl | rfl | rfl | rfl | rfl | rfl | rfl | rfl | rfl | rfl | rfl | rfl | rfl | rfl | rfl | rfl | rfl | rfl | rfl | rfl | rfl | rfl | rfl | rfl | rfl | rfl | rfl | rfl | rfl | rfl | rfl | rfl | rfl | rfl | rfl | rfl | rfl | rfl | rfl | rfl | rfl | rfl | rfl | rfl | rfl | rfl
            · exact u3_r0
            · exact u3_r1
            · exact u3_r2
            · exact u3_r3
            · exact u3_r4
            · exact u3_r5
            · exact u3_r6
            · exact u3_r7
            · exact u3_r8
            · exact u3_r9
            · exact u3_r10
            · exact u3_r11
            · exact u3_r12
            · exact u3_r13
            · exact u3_r14
            · exact u3_r15
            · exact u3_t0
            · exact u3_t1
            · exact u3_t2
            · exact u3_t3
            · exact u3_t4
            · exact u3_t5
            · exact u3_t6
            · exact u3_t7
            · exact u3_t8
            · exact u3_t9
            · exact u3_t10
            · exact u3_t11
            · exact u3_rs
            · exact u3_n0
            · exact u3_n1
            · exact u3_n2
            · exact u3_n3
            · exact u3_n4
            · exact u3_n5
            · exact u3_n6
            · exact u3_n7
            · exact u3_pq
            · exact u3_lf
            · exact u3_s0
            · exact u3_s1
            · exact u3_s2
            · exact u3_s3
            · exact u3_s4
            · exact u3_s5
            · exact u3_p0
            · exact u3_p1
            · exact u3_p2
            · exact u3_p3
            · exact u3_p4
            · exact u3_p5
            · exact u3_o
            · exact u3_rr
            · exact u3_sr
            · exact u3_rk
            · exact u3_nm
            · exact u3_wy
            · exact u3_pr
            · exact u3_fr
        exact h_vretN hx hb hlk hr (⟨hwd, hw.2⟩ : wo G A s.heap (CL ad) K3 H locs) dX5_init_126 ⟨ad, by rw [had]; rfl, rfl, hCW⟩ (by simp) (by simp)
      · skip
        exact absurd (nI_le (a := 6) (show 6 ≤ X.length by omega) (by omega)) c_104
    | succ d ih =>
      intro X F1 H locs ls hR16 hd hw hrr hR hsr hX hk hl
      have f_o : pt (((((((((([o] ++ [rr]) ++ [sr]) ++ [rk]) ++ [n0, n1, n2, n3, n4, n5, n6, n7]) ++ [nm]) ++ [pr]) ++ [wy]) ++ ([fr, pq, lf] ++ R12)) ++ [rs]) ++ R16 ++ zz X) F1 o (.inr (5, [.ref rr, .ref sr, .ref rk, .ref nm, .ref wy, .ref rs])) := ⟨List.mem_append_left _ (List.mem_append_left _ m_o), (hk o m_o n_orr n_osr).trans b_o⟩
      have f_sr : pt (((((((((([o] ++ [rr]) ++ [sr]) ++ [rk]) ++ [n0, n1, n2, n3, n4, n5, n6, n7]) ++ [nm]) ++ [pr]) ++ [wy]) ++ ([fr, pq, lf] ++ R12)) ++ [rs]) ++ R16 ++ zz X) F1 sr (eRS G 6 (fun k => (X.map Prod.fst)[k]?)) := ⟨List.mem_append_left _ (List.mem_append_left _ m_sr), hsr⟩
      refine lv_iload_n hx hb dX5_init_98 rfl (lv_at hl 1 rfl) ?_
      refine lv_aload_n hx hb dX5_init_99 rfl (lv_at hl 0 rfl) ?_
      refine h_get hx hb hE hw hts hinX5 hown (ci := 5) rfl 1 (by decide) lk_17 (fun _ h9 => h9) f_o rfl dX5_init_100 ?_
      refine h_ilen hx hb hE hw 3 rfl f_sr (v := 6) rfl dX5_init_103 ?_
      refine lv_icmp_ge (tgt := 126) hx hb dX5_init_104 (by decide) (fun c_104 => ?_) (fun c_104 => ?_)
      · skip
        exact absurd c_104 (nI_ge (a := X.length) (b := 6) (by omega) (by decide))
      · skip
        refine lv_aload_n hx hb dX5_init_107 rfl (lv_at hl 0 rfl) ?_
        refine h_get hx hb hE hw hts hinX5 hown (ci := 5) rfl 1 (by decide) lk_17 (fun _ h9 => h9) f_o rfl dX5_init_108 ?_
        refine lv_iload_n hx hb dX5_init_111 rfl (lv_at hl 1 rfl) ?_
        refine h_new hx hb hE.1 hw hA hts hinX3 tyX3 tyX3_ok hown (hts (.classLink RX5 15 RX3) (by decide +kernel)) (hts (.instantiable RX3 3) (by decide +kernel)) (hts (.initialized RX3) (by decide +kernel)) (ci := 3) rfl (fs := [.null, .int 0, .int 0]) (fun j hj => by rcases (show j = 0 ∨ j = 1 ∨ j = 2 by omega) with rfl | rfl | rfl <;> rfl) (by first | decide | (show _ ≤ 58; omega)) (by first | decide | (show _ ≤ 1118; omega)) dX5_init_112 (fun s9 H hs9 hw => ?_)
        obtain ⟨FF16, hFF16⟩ : ∃ Fx : FM, Fx = va_up F1 s9 (.inr (3, [.null, .int 0, .int 0])) := ⟨_, rfl⟩
        rw [← hFF16] at hw
        have f_o : pt ((((((((((([o] ++ [rr]) ++ [sr]) ++ [rk]) ++ [n0, n1, n2, n3, n4, n5, n6, n7]) ++ [nm]) ++ [pr]) ++ [wy]) ++ ([fr, pq, lf] ++ R12)) ++ [rs]) ++ R16 ++ zz X) ++ [s9]) FF16 o (.inr (5, [.ref rr, .ref sr, .ref rk, .ref nm, .ref wy, .ref rs])) := by rw [hFF16]; exact (pt_push f_o hs9)
        have f_sr : pt ((((((((((([o] ++ [rr]) ++ [sr]) ++ [rk]) ++ [n0, n1, n2, n3, n4, n5, n6, n7]) ++ [nm]) ++ [pr]) ++ [wy]) ++ ([fr, pq, lf] ++ R12)) ++ [rs]) ++ R16 ++ zz X) ++ [s9]) FF16 sr (eRS G 6 (fun k => (X.map Prod.fst)[k]?)) := by rw [hFF16]; exact (pt_push f_sr hs9)
        have f_s9 : pt ((((((((((([o] ++ [rr]) ++ [sr]) ++ [rk]) ++ [n0, n1, n2, n3, n4, n5, n6, n7]) ++ [nm]) ++ [pr]) ++ [wy]) ++ ([fr, pq, lf] ++ R12)) ++ [rs]) ++ R16 ++ zz X) ++ [s9]) FF16 s9 (.inr (3, [.null, .int 0, .int 0])) := by rw [hFF16]; exact pt_new
        refine lv_dup hx hb dX5_init_115 rfl ?_
        refine h_callNN [.ref s9, .int (nI X.length), .ref sr] ⟨hx, hb, hml, hown, hts⟩ hC hw (c_X3_init l G A ((((((((((([o] ++ [rr]) ++ [sr]) ++ [rk]) ++ [n0, n1, n2, n3, n4, n5, n6, n7]) ++ [nm]) ++ [pr]) ++ [wy]) ++ ([fr, pq, lf] ++ R12)) ++ [rs]) ++ R16 ++ zz X) ++ [s9]) FF16 s9 f_s9) ⟨va_cnB 0 hts gX5_init_X3_init_n47 rfl rfl rfl hC.2.1.2.2.2.2 (hts (.initialized RX3) (by decide +kernel)) (by decide +kernel) ⟨Nat.le_of_ble_eq_true rfl, Nat.le_of_ble_eq_true rfl⟩, rfl, (hts (.instanceMethod yX3_init) (by decide +kernel))⟩ hl.1 (Nat.le_of_ble_eq_true rfl) dX5_init_116 ⟨(by first | decide | (show _ ≤ 58; omega)), (by first | decide | (show _ ≤ 1118; omega))⟩ (fun L2 F2 H locs hP hw => ?_)
        obtain ⟨p9, rfl, hkp, ho2, hq2⟩ := hP
        obtain ⟨FF17, hFF17⟩ : ∃ Fx : FM, Fx = F2 := ⟨_, rfl⟩
        rw [← hFF17] at hw
        have f_o : pt (((((((((((([o] ++ [rr]) ++ [sr]) ++ [rk]) ++ [n0, n1, n2, n3, n4, n5, n6, n7]) ++ [nm]) ++ [pr]) ++ [wy]) ++ ([fr, pq, lf] ++ R12)) ++ [rs]) ++ R16 ++ zz X) ++ [s9]) ++ [p9]) FF17 o (.inr (5, [.ref rr, .ref sr, .ref rk, .ref nm, .ref wy, .ref rs])) := by rw [hFF17]; exact ⟨List.mem_append_left _ f_o.1, (hkp o f_o.1 (pt_ap f_o f_s9 (fun h9 => absurd (show (5 : Nat) = 3 from congrArg tg h9) (by decide)))).trans f_o.2⟩
        have f_sr : pt (((((((((((([o] ++ [rr]) ++ [sr]) ++ [rk]) ++ [n0, n1, n2, n3, n4, n5, n6, n7]) ++ [nm]) ++ [pr]) ++ [wy]) ++ ([fr, pq, lf] ++ R12)) ++ [rs]) ++ R16 ++ zz X) ++ [s9]) ++ [p9]) FF17 sr (eRS G 6 (fun k => (X.map Prod.fst)[k]?)) := by rw [hFF17]; exact ⟨List.mem_append_left _ f_sr.1, (hkp sr f_sr.1 (pt_ap f_sr f_s9 (fun h9 => absurd (show (1063 : Nat) = 3 from congrArg tg h9) (by decide)))).trans f_sr.2⟩
        have f_s9 : pt (((((((((((([o] ++ [rr]) ++ [sr]) ++ [rk]) ++ [n0, n1, n2, n3, n4, n5, n6, n7]) ++ [nm]) ++ [pr]) ++ [wy]) ++ ([fr, pq, lf] ++ R12)) ++ [rs]) ++ R16 ++ zz X) ++ [s9]) ++ [p9]) FF17 s9 (.inr (3, [.ref p9, .int 0, .int (-1)])) := by rw [hFF17]; exact ⟨List.mem_append_left _ f_s9.1, ho2⟩
        have f_p9 : pt (((((((((((([o] ++ [rr]) ++ [sr]) ++ [rk]) ++ [n0, n1, n2, n3, n4, n5, n6, n7]) ++ [nm]) ++ [pr]) ++ [wy]) ++ ([fr, pq, lf] ++ R12)) ++ [rs]) ++ R16 ++ zz X) ++ [s9]) ++ [p9]) FF17 p9 (eJ G 16 (fun _ => 0)) := by rw [hFF17]; exact ⟨List.mem_append_right _ (by simp), hq2⟩
        refine h_sast hx hb hE.1 hw f_sr f_s9 (by have h7 := in_R (R := X.map Prod.fst) (N := 6) (by rw [List.length_map]; omega) (by decide); rw [List.length_map] at h7; exact h7) (g := (fun k => ((X.map Prod.fst) ++ [s9])[k]?)) (by have h7 := up_R (X.map Prod.fst) s9; rw [List.length_map] at h7; rw [nI_clamp (by omega)]; exact h7) dX5_init_119 (fun H locs hw => ?_)
        obtain ⟨FF18, hFF18⟩ : ∃ Fx : FM, Fx = va_up FF17 sr (eRS G 6 (fun k => ((X.map Prod.fst) ++ [s9])[k]?)) := ⟨_, rfl⟩
        rw [← hFF18] at hw
        have f_o : pt (((((((((((([o] ++ [rr]) ++ [sr]) ++ [rk]) ++ [n0, n1, n2, n3, n4, n5, n6, n7]) ++ [nm]) ++ [pr]) ++ [wy]) ++ ([fr, pq, lf] ++ R12)) ++ [rs]) ++ R16 ++ zz X) ++ [s9]) ++ [p9]) FF18 o (.inr (5, [.ref rr, .ref sr, .ref rk, .ref nm, .ref wy, .ref rs])) := by rw [hFF18]; exact (pt_ne f_o (pt_ap f_o f_sr (fun h9 => absurd (show (5 : Nat) = 1063 from congrArg tg h9) (by decide))))
        have f_s9 : pt (((((((((((([o] ++ [rr]) ++ [sr]) ++ [rk]) ++ [n0, n1, n2, n3, n4, n5, n6, n7]) ++ [nm]) ++ [pr]) ++ [wy]) ++ ([fr, pq, lf] ++ R12)) ++ [rs]) ++ R16 ++ zz X) ++ [s9]) ++ [p9]) FF18 s9 (.inr (3, [.ref p9, .int 0, .int (-1)])) := by rw [hFF18]; exact (pt_ne f_s9 (pt_ap f_s9 f_sr (fun h9 => absurd (show (3 : Nat) = 1063 from congrArg tg h9) (by decide))))
        have f_p9 : pt (((((((((((([o] ++ [rr]) ++ [sr]) ++ [rk]) ++ [n0, n1, n2, n3, n4, n5, n6, n7]) ++ [nm]) ++ [pr]) ++ [wy]) ++ ([fr, pq, lf] ++ R12)) ++ [rs]) ++ R16 ++ zz X) ++ [s9]) ++ [p9]) FF18 p9 (eJ G 16 (fun _ => 0)) := by rw [hFF18]; exact (pt_ne f_p9 (pt_ap f_p9 f_sr (fun h9 => absurd (show (1162 : Nat) = 1063 from congrArg tg h9) (by decide))))
        have f_sr : pt (((((((((((([o] ++ [rr]) ++ [sr]) ++ [rk]) ++ [n0, n1, n2, n3, n4, n5, n6, n7]) ++ [nm]) ++ [pr]) ++ [wy]) ++ ([fr, pq, lf] ++ R12)) ++ [rs]) ++ R16 ++ zz X) ++ [s9]) ++ [p9]) FF18 sr (eRS G 6 (fun k => ((X.map Prod.fst) ++ [s9])[k]?)) := by rw [hFF18]; exact (pt_up f_sr)
        obtain ⟨i9, ei9⟩ : ∃ y : Int32, y = (nI X.length) + 1 := ⟨_, rfl⟩
        refine lv_iinc (v := i9) (lv' := [(1, .int i9), (0, .ref o)]) hx hb dX5_init_120 hl (k := 1) rfl (by rw [ei9, show Int32.ofInt (1) = 1 from by decide]) (by decide) rfl (fun ls hl => ?_)
        refine lv_goto (tgt := 98) hx hb dX5_init_123 (by decide) ?_
        have hXl : (X ++ [(s9, p9)]).length = X.length + 1 := by simp
        have hne1 : ∀ a, a ∈ (((((((((([o] ++ [rr]) ++ [sr]) ++ [rk]) ++ [n0, n1, n2, n3, n4, n5, n6, n7]) ++ [nm]) ++ [pr]) ++ [wy]) ++ ([fr, pq, lf] ++ R12)) ++ [rs]) ++ R16 ++ zz X) → a ≠ s9 := fun a ha => nem ha hs9
        have hnd9 := wd_nd hw.1
        have hp9n : p9 ∉ ((((((((((([o] ++ [rr]) ++ [sr]) ++ [rk]) ++ [n0, n1, n2, n3, n4, n5, n6, n7]) ++ [nm]) ++ [pr]) ++ [wy]) ++ ([fr, pq, lf] ++ R12)) ++ [rs]) ++ R16 ++ zz X) ++ [s9]) := nd_not hnd9 (by simp)
        have hold : ∀ a, a ∈ (((((((((([o] ++ [rr]) ++ [sr]) ++ [rk]) ++ [n0, n1, n2, n3, n4, n5, n6, n7]) ++ [nm]) ++ [pr]) ++ [wy]) ++ ([fr, pq, lf] ++ R12)) ++ [rs]) ++ R16 ++ zz X) → a ≠ sr → FF18 a = F1 a := fun a ha hne => by
          rw [hFF18, va_up_ne _ _ hne, hFF17, hkp a (List.mem_append_left _ ha) (hne1 a ha), hFF16, va_up_ne _ _ (hne1 a ha)]
        have hxne : ∀ a e9, F1 a = e9 → ¬ tg e9 = 1063 → a ≠ sr := fun a e9 h1 h2 => ne_tg h1 hsr h2
        refine W.widen (k := 30 + 16 + 2 * (X ++ [(s9, p9)]).length) (n := 940 + 64 + 19 * (X ++ [(s9, p9)]).length) (by rw [hXl]; omega) (by rw [hXl]; omega) ?_
        refine ih (X ++ [(s9, p9)]) _ _ _ ls hR16 (by rw [hXl]; omega) (by rw [zz_s, ← List.append_assoc, ← List.append_assoc]; exact hw) ((hold rr (List.mem_append_left _ (List.mem_append_left _ m_rr)) n_rrsr).trans hrr) (fun a ha => ?_) (by rw [f_sr.2]; simp) (fun x hx9 => ?_) (fun a ha h1 h2 => ?_) (lv_sub (l' := [(0, .ref o), (1, .int (nI (X ++ [(s9, p9)]).length))]) hl [1, 0] (by rw [show nI (X ++ [(s9, p9)]).length = i9 from by rw [ei9, hXl, nI_1]]; rfl))
        · exact (hold a (List.mem_append_left _ (List.mem_append_right _ ha)) (hxne a _ (hR a ha) (show ¬ (1 : Nat) = 1063 by decide))).trans (hR a ha)
        · rcases List.mem_append.mp hx9 with w | w
          · obtain ⟨h3, h4⟩ := hX x w
            obtain ⟨z1, z2⟩ := zz_m w
            exact ⟨(hold x.1 (List.mem_append_right _ z1) (hxne x.1 _ h3 (show ¬ (3 : Nat) = 1063 by decide))).trans h3, (hold x.2 (List.mem_append_right _ z2) (hxne x.2 _ h4 (show ¬ (1162 : Nat) = 1063 by decide))).trans h4⟩
          · rw [List.mem_singleton.mp w]; exact ⟨f_s9.2, f_p9.2⟩
        · exact (hold a (List.mem_append_left _ (List.mem_append_left _ ha)) h2).trans (hk a ha h1 h2)
  have lpR : ∀ (d : Nat) (R : List Nat) (F1 : FM) (H : Heap) (locs : List Loc) (ls : Array Slot), d + R.length = 16 → wo G A s.heap (((((((((([o] ++ [rr]) ++ [sr]) ++ [rk]) ++ [n0, n1, n2, n3, n4, n5, n6, n7]) ++ [nm]) ++ [pr]) ++ [wy]) ++ ([fr, pq, lf] ++ R12)) ++ [rs]) ++ R) F1 H locs → F1 rr = eRQ G 16 (fun k => R[k]?) → (∀ a, a ∈ R → F1 a = eq4 (0, 0, 0, 0)) → (∀ a, a ∈ ((((((((([o] ++ [rr]) ++ [sr]) ++ [rk]) ++ [n0, n1, n2, n3, n4, n5, n6, n7]) ++ [nm]) ++ [pr]) ++ [wy]) ++ ([fr, pq, lf] ++ R12)) ++ [rs]) → a ≠ rr → F1 a = FF15 a) → lv_has ls 2 [(0, .ref o), (1, .int (nI R.length))] → W p l e { frames := 3, cells := 58, slots := 1118, locals := 53 } s m ([Value.ref o].toArray) below meth c H locs (30 + R.length) (940 + 4 * R.length) (MQ below (QN G A (fun L2 F2 => ∃ ad : Nat → Nat, ad 51 = o ∧ L2 = CL ad ∧ CW G ad S0 F2)) ([Value.ref o].toArray) s 58 1118 A) (F0 m 68 ls []) := by
    intro d
    induction d with
    | zero =>
      intro R F1 H locs ls hd hw hrr hR hk hl
      have f_o : pt (((((((((([o] ++ [rr]) ++ [sr]) ++ [rk]) ++ [n0, n1, n2, n3, n4, n5, n6, n7]) ++ [nm]) ++ [pr]) ++ [wy]) ++ ([fr, pq, lf] ++ R12)) ++ [rs]) ++ R) F1 o (.inr (5, [.ref rr, .ref sr, .ref rk, .ref nm, .ref wy, .ref rs])) := ⟨List.mem_append_left _ m_o, (hk o m_o n_orr).trans b_o⟩
      have f_rr : pt (((((((((([o] ++ [rr]) ++ [sr]) ++ [rk]) ++ [n0, n1, n2, n3, n4, n5, n6, n7]) ++ [nm]) ++ [pr]) ++ [wy]) ++ ([fr, pq, lf] ++ R12)) ++ [rs]) ++ R) F1 rr (eRQ G 16 (fun k => R[k]?)) := ⟨List.mem_append_left _ m_rr, hrr⟩
      refine lv_iload_n hx hb dX5_init_68 rfl (lv_at hl 1 rfl) ?_
      refine lv_aload_n hx hb dX5_init_69 rfl (lv_at hl 0 rfl) ?_
      refine h_get hx hb hE hw hts hinX5 hown (ci := 5) rfl 0 (by decide) lk_11 (fun _ h9 => h9) f_o rfl dX5_init_70 ?_
      refine h_ilen hx hb hE hw 2 rfl f_rr (v := 16) rfl dX5_init_73 ?_
      refine lv_icmp_ge (tgt := 96) hx hb dX5_init_74 (by decide) (fun c_74 => ?_) (fun c_74 => ?_)
      · skip
        refine lv_iconst (v := 0) hx hb dX5_init_96 (by decide) ?_
        refine lv_istore_n (lv' := [(1, .int 0), (0, .ref o)]) hx hb dX5_init_97 rfl hl (by decide) rfl (fun ls hl => ?_)
        refine W.widen (k := 30 + 16 + 2 * ([] : List (Nat × Nat)).length) (n := 940 + 64 + 19 * ([] : List (Nat × Nat)).length) (by simp; omega) (by simp; omega) ?_
        exact lpS R 6 [] _ _ _ ls (by omega) rfl (by show wo G A s.heap ((((((((((([o] ++ [rr]) ++ [sr]) ++ [rk]) ++ [n0, n1, n2, n3, n4, n5, n6, n7]) ++ [nm]) ++ [pr]) ++ [wy]) ++ ([fr, pq, lf] ++ R12)) ++ [rs]) ++ R) ++ []) F1 _ _; rw [List.append_nil]; exact hw) hrr hR ((hk sr m_sr (Ne.symm n_rrsr)).trans b_sr) (fun x hx9 => absurd hx9 List.not_mem_nil) (fun a ha h1 _ => hk a ha h1) (lv_sub (l' := [(0, .ref o), (1, .int (nI ([] : List (Nat × Nat)).length))]) hl [1, 0] rfl)
      · skip
        exact absurd (nI_le (a := 16) (show 16 ≤ R.length by omega) (by omega)) c_74
    | succ d ih =>
      intro R F1 H locs ls hd hw hrr hR hk hl
      have f_o : pt (((((((((([o] ++ [rr]) ++ [sr]) ++ [rk]) ++ [n0, n1, n2, n3, n4, n5, n6, n7]) ++ [nm]) ++ [pr]) ++ [wy]) ++ ([fr, pq, lf] ++ R12)) ++ [rs]) ++ R) F1 o (.inr (5, [.ref rr, .ref sr, .ref rk, .ref nm, .ref wy, .ref rs])) := ⟨List.mem_append_left _ m_o, (hk o m_o n_orr).trans b_o⟩
      have f_rr : pt (((((((((([o] ++ [rr]) ++ [sr]) ++ [rk]) ++ [n0, n1, n2, n3, n4, n5, n6, n7]) ++ [nm]) ++ [pr]) ++ [wy]) ++ ([fr, pq, lf] ++ R12)) ++ [rs]) ++ R) F1 rr (eRQ G 16 (fun k => R[k]?)) := ⟨List.mem_append_left _ m_rr, hrr⟩
      refine lv_iload_n hx hb dX5_init_68 rfl (lv_at hl 1 rfl) ?_
      refine lv_aload_n hx hb dX5_init_69 rfl (lv_at hl 0 rfl) ?_
      refine h_get hx hb hE hw hts hinX5 hown (ci := 5) rfl 0 (by decide) lk_11 (fun _ h9 => h9) f_o rfl dX5_init_70 ?_
      refine h_ilen hx hb hE hw 2 rfl f_rr (v := 16) rfl dX5_init_73 ?_
      refine lv_icmp_ge (tgt := 96) hx hb dX5_init_74 (by decide) (fun c_74 => ?_) (fun c_74 => ?_)
      · skip
        exact absurd c_74 (nI_ge (a := R.length) (b := 16) (by omega) (by decide))
      · skip
        refine lv_aload_n hx hb dX5_init_77 rfl (lv_at hl 0 rfl) ?_
        refine h_get hx hb hE hw hts hinX5 hown (ci := 5) rfl 0 (by decide) lk_11 (fun _ h9 => h9) f_o rfl dX5_init_78 ?_
        refine lv_iload_n hx hb dX5_init_81 rfl (lv_at hl 1 rfl) ?_
        refine h_new hx hb hE.1 hw hA hts hinX1 tyX1 tyX1_ok hown (hts (.classLink RX5 9 RX1) (by decide +kernel)) (hts (.instantiable RX1 4) (by decide +kernel)) (hts (.initialized RX1) (by decide +kernel)) (ci := 1) rfl (fs := [.long 0, .long 0, .long 0, .long 0]) (fun j hj => by rcases (show j = 0 ∨ j = 1 ∨ j = 2 ∨ j = 3 by omega) with rfl | rfl | rfl | rfl <;> rfl) (by first | decide | (show _ ≤ 58; omega)) (by first | decide | (show _ ≤ 1118; omega)) dX5_init_82 (fun q9 H hq9 hw => ?_)
        obtain ⟨FF19, hFF19⟩ : ∃ Fx : FM, Fx = va_up F1 q9 (.inr (1, [.long 0, .long 0, .long 0, .long 0])) := ⟨_, rfl⟩
        rw [← hFF19] at hw
        have f_o : pt ((((((((((([o] ++ [rr]) ++ [sr]) ++ [rk]) ++ [n0, n1, n2, n3, n4, n5, n6, n7]) ++ [nm]) ++ [pr]) ++ [wy]) ++ ([fr, pq, lf] ++ R12)) ++ [rs]) ++ R) ++ [q9]) FF19 o (.inr (5, [.ref rr, .ref sr, .ref rk, .ref nm, .ref wy, .ref rs])) := by rw [hFF19]; exact (pt_push f_o hq9)
        have f_rr : pt ((((((((((([o] ++ [rr]) ++ [sr]) ++ [rk]) ++ [n0, n1, n2, n3, n4, n5, n6, n7]) ++ [nm]) ++ [pr]) ++ [wy]) ++ ([fr, pq, lf] ++ R12)) ++ [rs]) ++ R) ++ [q9]) FF19 rr (eRQ G 16 (fun k => R[k]?)) := by rw [hFF19]; exact (pt_push f_rr hq9)
        have f_q9 : pt ((((((((((([o] ++ [rr]) ++ [sr]) ++ [rk]) ++ [n0, n1, n2, n3, n4, n5, n6, n7]) ++ [nm]) ++ [pr]) ++ [wy]) ++ ([fr, pq, lf] ++ R12)) ++ [rs]) ++ R) ++ [q9]) FF19 q9 (.inr (1, [.long 0, .long 0, .long 0, .long 0])) := by rw [hFF19]; exact pt_new
        refine lv_dup hx hb dX5_init_85 rfl ?_
        refine h_callHN [.ref q9, .int (nI R.length), .ref rr] ⟨hx, hb, hml, hown, hts⟩ hE hw (c_X1_init l G A ((((((((((([o] ++ [rr]) ++ [sr]) ++ [rk]) ++ [n0, n1, n2, n3, n4, n5, n6, n7]) ++ [nm]) ++ [pr]) ++ [wy]) ++ ([fr, pq, lf] ++ R12)) ++ [rs]) ++ R) ++ [q9]) FF19 q9) ⟨va_cnB 0 hts gX5_init_X1_init_n42 rfl rfl rfl hC.2.1.2.2.2.1 (hts (.initialized RX1) (by decide +kernel)) (by decide +kernel) ⟨Nat.le_of_ble_eq_true rfl, Nat.le_of_ble_eq_true rfl⟩, rfl, (hts (.instanceMethod yX1_init) (by decide +kernel))⟩ hl.1 (Nat.le_of_ble_eq_true rfl) dX5_init_86 ⟨(by first | decide | (show _ ≤ 58; omega)), (by first | decide | (show _ ≤ 1118; omega))⟩ (fun H locs hw => ?_)
        refine h_qast hx hb hE.1 hw f_rr f_q9 (in_R (by omega) (by decide)) (g := (fun k => (R ++ [q9])[k]?)) (by rw [nI_clamp (by omega)]; exact up_R R q9) dX5_init_89 (fun H locs hw => ?_)
        obtain ⟨FF20, hFF20⟩ : ∃ Fx : FM, Fx = va_up FF19 rr (eRQ G 16 (fun k => (R ++ [q9])[k]?)) := ⟨_, rfl⟩
        rw [← hFF20] at hw
        have f_o : pt ((((((((((([o] ++ [rr]) ++ [sr]) ++ [rk]) ++ [n0, n1, n2, n3, n4, n5, n6, n7]) ++ [nm]) ++ [pr]) ++ [wy]) ++ ([fr, pq, lf] ++ R12)) ++ [rs]) ++ R) ++ [q9]) FF20 o (.inr (5, [.ref rr, .ref sr, .ref rk, .ref nm, .ref wy, .ref rs])) := by rw [hFF20]; exact (pt_ne f_o (pt_ap f_o f_rr (fun h9 => absurd (show (5 : Nat) = 1163 from congrArg tg h9) (by decide))))
        have f_q9 : pt ((((((((((([o] ++ [rr]) ++ [sr]) ++ [rk]) ++ [n0, n1, n2, n3, n4, n5, n6, n7]) ++ [nm]) ++ [pr]) ++ [wy]) ++ ([fr, pq, lf] ++ R12)) ++ [rs]) ++ R) ++ [q9]) FF20 q9 (.inr (1, [.long 0, .long 0, .long 0, .long 0])) := by rw [hFF20]; exact (pt_ne f_q9 (pt_ap f_q9 f_rr (fun h9 => absurd (show (1 : Nat) = 1163 from congrArg tg h9) (by decide))))
        have f_rr : pt ((((((((((([o] ++ [rr]) ++ [sr]) ++ [rk]) ++ [n0, n1, n2, n3, n4, n5, n6, n7]) ++ [nm]) ++ [pr]) ++ [wy]) ++ ([fr, pq, lf] ++ R12)) ++ [rs]) ++ R) ++ [q9]) FF20 rr (eRQ G 16 (fun k => (R ++ [q9])[k]?)) := by rw [hFF20]; exact (pt_up f_rr)
        obtain ⟨i9, ei9⟩ : ∃ y : Int32, y = (nI R.length) + 1 := ⟨_, rfl⟩
        refine lv_iinc (v := i9) (lv' := [(1, .int i9), (0, .ref o)]) hx hb dX5_init_90 hl (k := 1) rfl (by rw [ei9, show Int32.ofInt (1) = 1 from by decide]) (by decide) rfl (fun ls hl => ?_)
        refine lv_goto (tgt := 68) hx hb dX5_init_93 (by decide) ?_
        have hRl : (R ++ [q9]).length = R.length + 1 := by simp
        refine W.widen (k := 30 + (R ++ [q9]).length) (n := 940 + 4 * (R ++ [q9]).length) (by rw [hRl]; omega) (by rw [hRl]; omega) ?_
        refine ih (R ++ [q9]) _ _ _ ls (by rw [hRl]; omega) (by rw [← List.append_assoc]; exact hw) f_rr.2 (fun a ha => ?_) (fun a ha hne => ?_) (lv_sub (l' := [(0, .ref o), (1, .int (nI (R ++ [q9]).length))]) hl [1, 0] (by rw [show nI (R ++ [q9]).length = i9 from by rw [ei9, hRl, nI_1]]; rfl))
        · rcases List.mem_append.mp ha with w | w
          · have ha1 := hR a w
            rw [hFF20, va_up_ne _ _ (ne_tg ha1 hrr (show ¬ (1 : Nat) = 1163 by decide)), hFF19, va_up_ne _ _ (nem (List.mem_append_right _ w) hq9)]; exact ha1
          · rw [List.mem_singleton.mp w]; exact f_q9.2
        · rw [hFF20, va_up_ne _ _ hne, hFF19, va_up_ne _ _ (nem (List.mem_append_left _ ha) hq9)]; exact hk a ha hne
  exact lpR 16 [] _ _ _ ls rfl (by rw [List.append_nil]; exact hw) b_rr (fun a ha => absurd ha List.not_mem_nil) (fun a _ _ => rfl) (lv_sub (l' := [(0, .ref o), (1, .int (nI ([] : List Nat).length))]) hl [1, 0] rfl)
